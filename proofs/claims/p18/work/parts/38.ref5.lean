/-! LAYER 2, the reference: houses, people, wants, rights, terms, the tape -/
theorem rowOk_updT {mU f : Nat → Int32} {i : Nat} {v : Int32} (hf : rowOk mU f) (hi : i ≠ 3) (hl : i < 185) (c0 : i = 0 → rg v 0 6) (c1 : i = 1 → rg v 0 8) (c2 : i = 2 → rg v 0 6) (c4 : i = 4 → -1 ≤ v.toInt ∧ v.toInt < (f 3).toInt) (c5 : i = 5 → rg v 0 999) (c6 : 154 ≤ i → i ≤ 161 → rg v (-1) 5) (c7 : 170 ≤ i → i % 2 = 0 → rg v 0 5) : rowOk (upd mU i v) (upd f i v) := by
  have hf' := hf
  unfold rowOk at hf ⊢
  obtain ⟨h0, h1, h2, h3, h4, h5, h6, h7, h8, h9⟩ := hf
  have at' : ∀ j, upd f i v j = if j = i then v else f j := fun j => rfl
  have e3 : upd f i v 3 = f 3 := upd_ne f v (fun e => hi e.symm)
  rw [e3]
  refine ⟨?_, ?_, ?_, h3, ?_, ?_, fun k hk => ?_, fun k hk => ?_, fun k hk => ?_, fun k hk => ?_⟩
  · rw [at']; split
    · exact c0 (by omega)
    · exact h0
  · rw [at']; split
    · exact c1 (by omega)
    · exact h1
  · rw [at']; split
    · exact c2 (by omega)
    · exact h2
  · rw [at']; split
    · exact c4 (by omega)
    · exact h4
  · rw [at']; split
    · exact c5 (by omega)
    · exact h5
  · rw [at']; split
    · exact c6 (by omega) (by omega)
    · exact h6 k hk
  · rw [at']; split
    · exact c7 (by omega) (by omega)
    · exact h7 k hk
  · have := h3.2
    exact lawOk_congr (by omega) (by omega) (fun j hj _ => upd_ne f v (by omega)) (h8 k hk)
  · rw [at', show upd mU i v k = if k = i then v else mU k from rfl]; split
    · rfl
    · exact h9 k hk
theorem rowOk_upd {mU f : Nat → Int32} {i : Nat} {v : Int32} (hf : rowOk mU f) (hi : i ≠ 3) (hl : i < 185) (c0 : i = 0 → rg v 0 6) (c1 : i = 1 → rg v 0 8) (c2 : i = 2 → rg v 0 6) (c4 : i = 4 → -1 ≤ v.toInt ∧ v.toInt < (f 3).toInt) (c5 : i = 5 → rg v 0 999) (c6 : 154 ≤ i → i ≤ 161 → rg v (-1) 5) (c7 : 170 ≤ i → i % 2 = 0 → rg v 0 5) (c9 : ¬ rTk i) : rowOk mU (upd f i v) :=
  rowOk_to (rowOk_updT hf hi hl c0 c1 c2 c4 c5 c6 c7) (fun k hk => by rw [upd_ne f v (by rintro rfl; exact c9 hk)]; exact hf.2.2.2.2.2.2.2.2.2 k hk)
theorem rg_lit {z : Int32} {a b : Int} (h1 : a ≤ z.toInt) (h2 : z.toInt ≤ b) : rg z a b := ⟨h1, h2⟩
theorem nI_inj {a b : Nat} (ha : a < 2 ^ 31) (hb : b < 2 ^ 31) (h : nI a = nI b) : a = b := (nI_eq ha hb).mp h
section REF7
variable {S : hS} {o : Nat} {ad : Nat → Nat} {M : mS} {mT : mS}
/-- of settled: all is well behind it -/
theorem g_settled (hd : mD o ad) (hM : mOk mT M) {q : Int32 → hS → Prop} {v : Int32} (hv : -6 ≤ v.toInt) (h : ∀ N, mOk mT N → q v (ov S o ad N)) : w_X12_settled q (ov S o ad M) o v := by
  refine f_settled hd hv (fun N hF h8 => h N ?_)
  refine mOk_und hF hM ?_ ?_ ?_ ?_ (by simp)
  · rcases h8 with e | e
    · rw [e]; exact ⟨by decide, by decide⟩
    · rw [e]; exact hM.2.2.2.2.2.2.1
  · rw [hF.2.2.1 6 (by simp)]; exact hM.2.2.1
  · rw [hF.2.2.1 7 (by simp)]; exact hM.2.2.2.2.1
  · rw [hF.2.2.1 3 (by simp)]; exact hM.1
theorem g_tell (hd : mD o ad) (hM : mOk mT M) {q : Int32 → hS → Prop} {v : Int32} (hv : -6 ≤ v.toInt) (h : ∀ N, mOk mT N → q v (ov S o ad N)) : w_X12_tell q (ov S o ad M) o v :=
  f_tell hd hv (fun N hF => h N (mOk_fx hF hM (by simp)))
theorem mOk_r {f : Nat → Int32} (hM : mOk mT M) (hf : rowOk (mT.2.2.1 3) f) : mOk mT (mA M 3 f) := mOk_row (Fx.a 3 f) hM hf (by simp)
theorem mOk_i {k : Nat} {x : Int32} (hM : mOk mT M) (hk : k ≠ 8 ∧ k ≠ 13 ∧ k ≠ 20 ∧ k ≠ 59 ∧ k ≠ 60 ∧ k ≠ 11) : mOk mT (mI M k x) := mOk_fx (Fx.i k x) hM (by simp; omega)
theorem mOk_rT {f u : Nat → Int32} (hM : mOk mT M) (hf : rowOk u f) : mOk (mA mT 3 u) (mA M 3 f) := by
  unfold mOk at *
  simp only [mA_1, mA_3, Nat.reduceEqDiff, if_true, if_false, reduceIte]
  exact ⟨hf, hM.2⟩
theorem s_inI {q : Int32 → hS → Prop} {T : hS} {x : Int32} {lo hi : Int64} (l u : Int) (hl : lo.toInt = l) (hu : hi.toInt = u) (h1 : l ≤ x.toInt → x.toInt ≤ u → q 1 T) (h0 : ¬ (l ≤ x.toInt ∧ x.toInt ≤ u) → q 0 T) : w_X12_in q T (Int32.toInt64 x) lo hi := by
  refine s_in (fun a b => h1 ?_ ?_) (fun a => h0 (fun b => a ?_))
  · rw [i64toInt, hl] at a; exact a
  · rw [i64toInt, hu] at b; exact b
  · rw [i64toInt, hl, hu]; exact b
theorem s_isPlaceI {q : Int32 → hS → Prop} {T : hS} {x : Int32} (h1 : 0 ≤ x.toInt → x.toInt ≤ 24 → q 1 T) (h0 : ¬ (0 ≤ x.toInt ∧ x.toInt ≤ 24) → q 0 T) : w_X12_isPlace q T x := by
  unfold w_X12_isPlace
  exact s_inI 0 24 (by decide) (by decide) (fun a b => ⟨Or.inr rfl, h1 a b⟩) (fun a => ⟨Or.inl rfl, h0 a⟩)
theorem p_house (hd : mD o ad) (hM : mOk M M) {q : Int32 → hS → Prop} {a b : Int32} (h1 : ¬ ((0 ≤ a.toInt ∧ a.toInt ≤ 24) ∧ 0 ≤ b.toInt ∧ b.toInt ≤ 99) → ∀ N, mOk M N → q (-1) (ov S o ad N)) (h5 : ((0 ≤ a.toInt ∧ a.toInt ≤ 24) ∧ 0 ≤ b.toInt ∧ b.toInt ≤ 99) → M.2.2.1 3 0 = 6 → ∀ N, mOk M N → q (-5) (ov S o ad N)) (h : ((0 ≤ a.toInt ∧ a.toInt ≤ 24) ∧ 0 ≤ b.toInt ∧ b.toInt ≤ 99) → ∀ n, n < 6 → M.2.2.1 3 0 = nI n → ∀ N, mOk (mA M 3 (upd (M.2.2.1 3) 0 (nI (n + 1)))) N → q (nI n) (ov S o ad N)) : w_X12_house q (ov S o ad M) o a b := by
  have hM0 : mOk M (mI M 0 0) := mOk_i hM (by omega)
  unfold w_X12_house
  simp (disch := decide) only [oi_gI, oi_gJ, oi_gP, oi_pI, oi_pZ, oi_pJ, oi_oK, oi_aI hd, oi_aZ hd, oi_aJ hd, oi_sI hd, oi_sZ hd, oi_sJ hd, mI_1, mI_2, mJ_1, mJ_2, mJ_3, mA_1, mA_2, mA_3, mA_4, mL_1, mL_2, mL_3, mL_4, mK, Nat.reduceEqDiff, if_true, if_false, ite_true, ite_false, true_and, Nat.reduceLT, reduceIte, reduceCtorEq, cl_0, cl_1, cl_2, cl_3, cl_4, cl_5, cl_6, cl_7, cl_8, cl_9, cl_10, cl_11, cl_12, cl_13, cl_14, cl_15, vl_0_5585, vl_1_5585, vl_2_5585, vl_3_5585, vl_4_5585, vl_5_5585, vl_6_5585, vl_0_7, vl_1_7, vl_2_7, vl_3_7, vl_4_7, vl_5_7, vl_6_7]
  refine s_isPlaceI (fun a1 a2 => ⟨fun z => absurd z (by decide), fun _ => s_inI 0 99 (by decide) (by decide) (fun b1 b2 => ⟨fun _ => ?_, fun z => absurd z (by decide)⟩) (fun nb => ⟨fun z => absurd rfl z, fun _ => ⟨ov_oK, g_tell hd hM0 (by decide) (h1 (fun z => nb z.2))⟩⟩)⟩) (fun na => ⟨fun _ => ⟨ov_oK, g_tell hd hM0 (by decide) (h1 (fun z => na z.1))⟩, fun z => absurd rfl z⟩)
  have hr := And.intro (And.intro a1 a2) (And.intro b1 b2)
  simp (disch := decide) only [oi_gI, oi_gJ, oi_gP, oi_pI, oi_pZ, oi_pJ, oi_oK, oi_aI hd, oi_aZ hd, oi_aJ hd, oi_sI hd, oi_sZ hd, oi_sJ hd, mI_1, mI_2, mJ_1, mJ_2, mJ_3, mA_1, mA_2, mA_3, mA_4, mL_1, mL_2, mL_3, mL_4, mK, Nat.reduceEqDiff, if_true, if_false, ite_true, ite_false, true_and, Nat.reduceLT, reduceIte, reduceCtorEq, cl_0, cl_1, cl_2, cl_3, cl_4, cl_5, cl_6, cl_7, cl_8, cl_9, cl_10, cl_11, cl_12, cl_13, cl_14, cl_15, vl_0_5585, vl_1_5585, vl_2_5585, vl_3_5585, vl_4_5585, vl_5_5585, vl_6_5585, vl_0_7, vl_1_7, vl_2_7, vl_3_7, vl_4_7, vl_5_7, vl_6_7]
  obtain ⟨n, hn, en, -⟩ := rg_nI (b := 6) hM.1.1 (by omega) (by omega)
  rw [en]
  refine ⟨fun c => ?_, fun c => g_tell hd hM0 (by decide) (h5 hr (en.trans c))⟩
  have hn6 : n < 6 := by
    have : n ≠ 6 := fun e => c (by rw [e]; rfl)
    omega
  simp (disch := decide) only [oi_gI, oi_gJ, oi_gP, oi_pI, oi_pZ, oi_pJ, oi_oK, oi_aI hd, oi_aZ hd, oi_aJ hd, oi_sI hd, oi_sZ hd, oi_sJ hd, mI_1, mI_2, mJ_1, mJ_2, mJ_3, mA_1, mA_2, mA_3, mA_4, mL_1, mL_2, mL_3, mL_4, mK, Nat.reduceEqDiff, if_true, if_false, ite_true, ite_false, true_and, Nat.reduceLT, reduceIte, reduceCtorEq, cl_0, cl_1, cl_2, cl_3, cl_4, cl_5, cl_6, cl_7, cl_8, cl_9, cl_10, cl_11, cl_12, cl_13, cl_14, cl_15, vl_0_5585, vl_1_5585, vl_2_5585, vl_3_5585, vl_4_5585, vl_5_5585, vl_6_5585, vl_0_7, vl_1_7, vl_2_7, vl_3_7, vl_4_7, vl_5_7, vl_6_7, mA_mA]
  rw [lit_nI 126, lit_nI 132, lit_nI 8, nIadd, nIadd, nIadd, nI_clamp (by omega), nI_clamp (by omega), nI_clamp (by omega)]
  refine ⟨vp_in_nI (by omega) (by omega), vp_in_nI (by omega) (by omega), vp_in_nI (by omega) (by omega), ?_⟩
  have hf : rowOk (M.2.2.1 3) (upd (upd (upd (M.2.2.1 3) (126 + n) a) (132 + n) b) (8 + n) 0) := rowOk_free (by unfold rCon; omega) (rowOk_free (by unfold rCon; omega) (rowOk_free (by unfold rCon; omega) hM.1))
  have h0 : (upd (upd (upd (M.2.2.1 3) (126 + n) a) (132 + n) b) (8 + n) 0) 0 = nI n := by
    rw [upd_ne _ _ (by omega), upd_ne _ _ (by omega), upd_ne _ _ (by omega)]; exact en
  generalize upd (upd (upd (M.2.2.1 3) (126 + n) a) (132 + n) b) (8 + n) 0 = f at hf h0
  refine loop_m (σ := (Nat → Int32) × Nat) (fun t s => w_X12_house_b84 q t (ov S o ad (mA (mI M 0 0) 3 s.1)) o (nI n) (nI s.2)) (fun s => s.2 ≤ 8 ∧ rowOk (M.2.2.1 3) s.1 ∧ s.1 0 = nI n) (fun s => 8 - s.2) ?_ (f, 0) ⟨Nat.zero_le _, hf, h0⟩
  rintro t ⟨f, i⟩ ⟨hi, hf, h0⟩ ih
  dsimp only at hi hf h0 ih ⊢
  rw [w_X12_house_b84]
  refine ⟨fun c => ?_, fun c => ?_⟩
  · simp (disch := decide) only [oi_gI, oi_gJ, oi_gP, oi_pI, oi_pZ, oi_pJ, oi_oK, oi_aI hd, oi_aZ hd, oi_aJ hd, oi_sI hd, oi_sZ hd, oi_sJ hd, mI_1, mI_2, mJ_1, mJ_2, mJ_3, mA_1, mA_2, mA_3, mA_4, mL_1, mL_2, mL_3, mL_4, mK, Nat.reduceEqDiff, if_true, if_false, ite_true, ite_false, true_and, Nat.reduceLT, reduceIte, reduceCtorEq, cl_0, cl_1, cl_2, cl_3, cl_4, cl_5, cl_6, cl_7, cl_8, cl_9, cl_10, cl_11, cl_12, cl_13, cl_14, cl_15, vl_0_5585, vl_1_5585, vl_2_5585, vl_3_5585, vl_4_5585, vl_5_5585, vl_6_5585, vl_0_7, vl_1_7, vl_2_7, vl_3_7, vl_4_7, vl_5_7, vl_6_7, mA_mA]
    rw [h0, nI_1]
    refine g_settled hd (mOk_rT hM0 (rowOk_updT hf (by omega) (by omega) (fun _ => ⟨?_, ?_⟩) (fun e => by omega) (fun e => by omega) (fun e => by omega) (fun e => by omega) (fun e => by omega) (fun e => by omega))) ?_ (h hr n hn6 en)
    · rw [nI_toInt (by omega)]; omega
    · rw [nI_toInt (by omega)]; omega
    · rw [nI_toInt (by omega)]; omega
  · have c : i < 8 := by
      rw [lit_nI 8, nI_not_le (by omega) (by omega)] at c
      exact c
    simp (disch := decide) only [oi_gI, oi_gJ, oi_gP, oi_pI, oi_pZ, oi_pJ, oi_oK, oi_aI hd, oi_aZ hd, oi_aJ hd, oi_sI hd, oi_sZ hd, oi_sJ hd, mI_1, mI_2, mJ_1, mJ_2, mJ_3, mA_1, mA_2, mA_3, mA_4, mL_1, mL_2, mL_3, mL_4, mK, Nat.reduceEqDiff, if_true, if_false, ite_true, ite_false, true_and, Nat.reduceLT, reduceIte, reduceCtorEq, cl_0, cl_1, cl_2, cl_3, cl_4, cl_5, cl_6, cl_7, cl_8, cl_9, cl_10, cl_11, cl_12, cl_13, cl_14, cl_15, vl_0_5585, vl_1_5585, vl_2_5585, vl_3_5585, vl_4_5585, vl_5_5585, vl_6_5585, vl_0_7, vl_1_7, vl_2_7, vl_3_7, vl_4_7, vl_5_7, vl_6_7, mA_mA]
    rw [lit_nI 30, lit_nI 78, lit_nI 6, nImul, nIadd, nIadd, nIadd, nIadd, nI_1, nI_clamp (by omega), nI_clamp (by omega)]
    refine ⟨vp_in_nI (by omega) (by omega), vp_in_nI (by omega) (by omega), eq_imp ?_⟩
    refine ih (upd (upd f (30 + 6 * i + n) 0) (78 + 6 * i + n) 0, i + 1) ⟨by show i + 1 ≤ 8; omega, ?_, ?_⟩ (by show 8 - (i + 1) < 8 - i; omega)
    · exact rowOk_free (by unfold rCon; omega) (rowOk_free (by unfold rCon; omega) hf)
    · show upd (upd f (30 + 6 * i + n) 0) (78 + 6 * i + n) 0 0 = nI n
      rw [upd_ne _ _ (by omega), upd_ne _ _ (by omega)]; exact h0
/-- come: somebody, or -1, -5; the row alone is changed -/
def cmIn (a b c : Int32) : Prop := (0 ≤ a.toInt ∧ a.toInt ≤ 24) ∧ (0 ≤ b.toInt ∧ b.toInt ≤ 99) ∧ 0 ≤ c.toInt ∧ c.toInt ≤ 999
theorem s_come (hd : mD o ad) {mU : Nat → Int32} (hr : rowOk mU (M.2.2.1 3)) {q : Int32 → hS → Prop} {a b c : Int32} (h1 : ¬ cmIn a b c → q (-1) (ov S o ad M)) (h5 : cmIn a b c → M.2.2.1 3 1 = 8 → q (-5) (ov S o ad M)) (h : cmIn a b c → ∀ n, n < 8 → M.2.2.1 3 1 = nI n → ∀ f, rowOk (upd (upd mU (162 + n) 0) 1 (nI (n + 1))) f → q (nI n) (ov S o ad (mA M 3 f))) : w_X12_come q (ov S o ad M) o a b c := by
  unfold w_X12_come
  refine s_isPlaceI (fun a1 a2 => ⟨fun z => absurd z (by decide), fun _ => s_inI 0 99 (by decide) (by decide) (fun b1 b2 => ⟨fun z => absurd z (by decide), fun _ => s_inI 0 999 (by decide) (by decide) (fun c1 c2 => ⟨fun _ => ?_, fun z => absurd z (by decide)⟩) (fun nc => ⟨fun z => absurd rfl z, fun _ => h1 (fun z => nc z.2.2)⟩)⟩) (fun nb => ⟨fun _ => h1 (fun z => nb z.2.1), fun z => absurd rfl z⟩)⟩) (fun na => ⟨fun _ => h1 (fun z => na z.1), fun z => absurd rfl z⟩)
  have hin : cmIn a b c := ⟨⟨a1, a2⟩, ⟨b1, b2⟩, c1, c2⟩
  simp (disch := decide) only [oi_gI, oi_gJ, oi_gP, oi_pI, oi_pZ, oi_pJ, oi_oK, oi_aI hd, oi_aZ hd, oi_aJ hd, oi_sI hd, oi_sZ hd, oi_sJ hd, mI_1, mI_2, mJ_1, mJ_2, mJ_3, mA_1, mA_2, mA_3, mA_4, mL_1, mL_2, mL_3, mL_4, mK, Nat.reduceEqDiff, if_true, if_false, ite_true, ite_false, true_and, Nat.reduceLT, reduceIte, reduceCtorEq, cl_0, cl_1, cl_2, cl_3, cl_4, cl_5, cl_6, cl_7, cl_8, cl_9, cl_10, cl_11, cl_12, cl_13, cl_14, cl_15, vl_0_5585, vl_1_5585, vl_2_5585, vl_3_5585, vl_4_5585, vl_5_5585, vl_6_5585, vl_0_7, vl_1_7, vl_2_7, vl_3_7, vl_4_7, vl_5_7, vl_6_7]
  obtain ⟨n, hn, en, -⟩ := rg_nI (b := 8) hr.2.1 (by omega) (by omega)
  rw [en]
  refine ⟨fun c8 => ?_, fun c8 => h5 hin (en.trans c8)⟩
  have hn8 : n < 8 := by
    have : n ≠ 8 := fun e => c8 (by rw [e]; rfl)
    omega
  simp (disch := decide) only [oi_gI, oi_gJ, oi_gP, oi_pI, oi_pZ, oi_pJ, oi_oK, oi_aI hd, oi_aZ hd, oi_aJ hd, oi_sI hd, oi_sZ hd, oi_sJ hd, mI_1, mI_2, mJ_1, mJ_2, mJ_3, mA_1, mA_2, mA_3, mA_4, mL_1, mL_2, mL_3, mL_4, mK, Nat.reduceEqDiff, if_true, if_false, ite_true, ite_false, true_and, Nat.reduceLT, reduceIte, reduceCtorEq, cl_0, cl_1, cl_2, cl_3, cl_4, cl_5, cl_6, cl_7, cl_8, cl_9, cl_10, cl_11, cl_12, cl_13, cl_14, cl_15, vl_0_5585, vl_1_5585, vl_2_5585, vl_3_5585, vl_4_5585, vl_5_5585, vl_6_5585, vl_0_7, vl_1_7, vl_2_7, vl_3_7, vl_4_7, vl_5_7, vl_6_7, mA_mA]
  rw [lit_nI 138, lit_nI 146, lit_nI 14, lit_nI 154, lit_nI 162, lit_nI 22, nIadd, nIadd, nIadd, nIadd, nIadd, nIadd, nI_clamp (by omega), nI_clamp (by omega), nI_clamp (by omega), nI_clamp (by omega), nI_clamp (by omega), nI_clamp (by omega)]
  refine ⟨vp_in_nI (by omega) (by omega), vp_in_nI (by omega) (by omega), vp_in_nI (by omega) (by omega), vp_in_nI (by omega) (by omega), vp_in_nI (by omega) (by omega), vp_in_nI (by omega) (by omega), ?_⟩
  have hf1 : rowOk mU (upd (upd (upd (M.2.2.1 3) (138 + n) a) (146 + n) b) (14 + n) c) := rowOk_free (by unfold rCon; omega) (rowOk_free (by unfold rCon; omega) (rowOk_free (by unfold rCon; omega) hr))
  have hf2 := rowOk_upd (i := 154 + n) (v := -1) hf1 (by omega) (by omega) (fun e => by omega) (fun e => by omega) (fun e => by omega) (fun e => by omega) (fun e => by omega) (fun _ _ => ⟨by decide, by decide⟩) (fun e => by omega) (by unfold rTk; omega)
  have hf : rowOk (upd mU (162 + n) 0) (upd (upd (upd (upd (upd (upd (M.2.2.1 3) (138 + n) a) (146 + n) b) (14 + n) c) (154 + n) (-1)) (162 + n) 0) (22 + n) 0) := rowOk_free (by unfold rCon; omega) (rowOk_updT hf2 (by omega) (by omega) (fun e => by omega) (fun e => by omega) (fun e => by omega) (fun e => by omega) (fun e => by omega) (fun e => by omega) (fun e => by omega))
  have h0 : (upd (upd (upd (upd (upd (upd (M.2.2.1 3) (138 + n) a) (146 + n) b) (14 + n) c) (154 + n) (-1)) (162 + n) 0) (22 + n) 0) 1 = nI n := by
    rw [upd_ne _ _ (by omega), upd_ne _ _ (by omega), upd_ne _ _ (by omega), upd_ne _ _ (by omega), upd_ne _ _ (by omega), upd_ne _ _ (by omega)]; exact en
  generalize upd (upd (upd (upd (upd (upd (M.2.2.1 3) (138 + n) a) (146 + n) b) (14 + n) c) (154 + n) (-1)) (162 + n) 0) (22 + n) 0 = f at hf h0
  refine loop_m (σ := (Nat → Int32) × Nat) (fun t s => w_X12_come_b124 q t (ov S o ad (mA M 3 s.1)) o (nI n) (nI s.2)) (fun s => s.2 ≤ 6 ∧ rowOk (upd mU (162 + n) 0) s.1 ∧ s.1 1 = nI n) (fun s => 6 - s.2) ?_ (f, 0) ⟨Nat.zero_le _, hf, h0⟩
  rintro t ⟨f, i⟩ ⟨hi, hf, h0⟩ ih
  dsimp only at hi hf h0 ih ⊢
  rw [w_X12_come_b124]
  refine ⟨fun c => ?_, fun c => ?_⟩
  · simp (disch := decide) only [oi_gI, oi_gJ, oi_gP, oi_pI, oi_pZ, oi_pJ, oi_oK, oi_aI hd, oi_aZ hd, oi_aJ hd, oi_sI hd, oi_sZ hd, oi_sJ hd, mI_1, mI_2, mJ_1, mJ_2, mJ_3, mA_1, mA_2, mA_3, mA_4, mL_1, mL_2, mL_3, mL_4, mK, Nat.reduceEqDiff, if_true, if_false, ite_true, ite_false, true_and, Nat.reduceLT, reduceIte, reduceCtorEq, cl_0, cl_1, cl_2, cl_3, cl_4, cl_5, cl_6, cl_7, cl_8, cl_9, cl_10, cl_11, cl_12, cl_13, cl_14, cl_15, vl_0_5585, vl_1_5585, vl_2_5585, vl_3_5585, vl_4_5585, vl_5_5585, vl_6_5585, vl_0_7, vl_1_7, vl_2_7, vl_3_7, vl_4_7, vl_5_7, vl_6_7, mA_mA]
    rw [h0, nI_1]
    refine h hin n hn8 en _ (rowOk_updT hf (by omega) (by omega) (fun e => by omega) (fun _ => ⟨?_, ?_⟩) (fun e => by omega) (fun e => by omega) (fun e => by omega) (fun e => by omega) (fun e => by omega))
    · rw [nI_toInt (by omega)]; omega
    · rw [nI_toInt (by omega)]; omega
  · have c : i < 6 := by
      rw [lit_nI 6, nI_not_le (by omega) (by omega)] at c
      exact c
    simp (disch := decide) only [oi_gI, oi_gJ, oi_gP, oi_pI, oi_pZ, oi_pJ, oi_oK, oi_aI hd, oi_aZ hd, oi_aJ hd, oi_sI hd, oi_sZ hd, oi_sJ hd, mI_1, mI_2, mJ_1, mJ_2, mJ_3, mA_1, mA_2, mA_3, mA_4, mL_1, mL_2, mL_3, mL_4, mK, Nat.reduceEqDiff, if_true, if_false, ite_true, ite_false, true_and, Nat.reduceLT, reduceIte, reduceCtorEq, cl_0, cl_1, cl_2, cl_3, cl_4, cl_5, cl_6, cl_7, cl_8, cl_9, cl_10, cl_11, cl_12, cl_13, cl_14, cl_15, vl_0_5585, vl_1_5585, vl_2_5585, vl_3_5585, vl_4_5585, vl_5_5585, vl_6_5585, vl_0_7, vl_1_7, vl_2_7, vl_3_7, vl_4_7, vl_5_7, vl_6_7, mA_mA]
    rw [lit_nI 30, lit_nI 78, lit_nI 6, nImul, nIadd, nIadd, nIadd, nIadd, nI_1, nI_clamp (by omega), nI_clamp (by omega)]
    refine ⟨vp_in_nI (by omega) (by omega), vp_in_nI (by omega) (by omega), eq_imp ?_⟩
    refine ih (upd (upd f (30 + 6 * n + i) 0) (78 + 6 * n + i) 0, i + 1) ⟨by show i + 1 ≤ 6; omega, ?_, ?_⟩ (by show 6 - (i + 1) < 6 - i; omega)
    · exact rowOk_free (by unfold rCon; omega) (rowOk_free (by unfold rCon; omega) hf)
    · show upd (upd f (30 + 6 * n + i) 0) (78 + 6 * n + i) 0 1 = nI n
      rw [upd_ne _ _ (by omega), upd_ne _ _ (by omega)]; exact h0
theorem p_person (hd : mD o ad) (hM : mOk M M) {q : Int32 → hS → Prop} {a b c : Int32} (h1 : ¬ cmIn a b c → ∀ N, mOk M N → q (-1) (ov S o ad N)) (h5 : cmIn a b c → M.2.2.1 3 1 = 8 → ∀ N, mOk M N → q (-5) (ov S o ad N)) (h : cmIn a b c → ∀ n, n < 8 → M.2.2.1 3 1 = nI n → ∀ N, mOk (mA M 3 (upd (upd (M.2.2.1 3) (162 + n) 0) 1 (nI (n + 1)))) N → q (nI n) (ov S o ad N)) : w_X12_person q (ov S o ad M) o a b c := by
  have hM0 : mOk M (mI M 0 0) := mOk_i hM (by omega)
  unfold w_X12_person
  simp (disch := decide) only [oi_gI, oi_gJ, oi_gP, oi_pI, oi_pZ, oi_pJ, oi_oK, oi_aI hd, oi_aZ hd, oi_aJ hd, oi_sI hd, oi_sZ hd, oi_sJ hd, mI_1, mI_2, mJ_1, mJ_2, mJ_3, mA_1, mA_2, mA_3, mA_4, mL_1, mL_2, mL_3, mL_4, mK, Nat.reduceEqDiff, if_true, if_false, ite_true, ite_false, true_and, Nat.reduceLT, reduceIte, reduceCtorEq, cl_0, cl_1, cl_2, cl_3, cl_4, cl_5, cl_6, cl_7, cl_8, cl_9, cl_10, cl_11, cl_12, cl_13, cl_14, cl_15, vl_0_5585, vl_1_5585, vl_2_5585, vl_3_5585, vl_4_5585, vl_5_5585, vl_6_5585, vl_0_7, vl_1_7, vl_2_7, vl_3_7, vl_4_7, vl_5_7, vl_6_7]
  exact s_come hd hM0.1 (fun hn => ⟨ov_oK, g_settled hd hM0 (by decide) (h1 hn)⟩) (fun hn e => ⟨ov_oK, g_settled hd hM0 (by decide) (h5 hn e)⟩) (fun hn n hn8 en f hf => ⟨ov_oK, g_settled hd (mOk_rT hM0 hf) (by rw [nI_toInt (by omega)]; omega) (h hn n hn8 en)⟩)
end REF7
