/-! LAYER 2, the reference: houses, people, wants, rights, terms, the tape -/
theorem rowOk_upd {f : Nat → Int32} {i : Nat} {v : Int32} (hf : rowOk f) (hi : i ≠ 3) (hl : i < 185) (c0 : i = 0 → rg v 0 6) (c1 : i = 1 → rg v 0 8) (c2 : i = 2 → rg v 0 6) (c4 : i = 4 → -1 ≤ v.toInt ∧ v.toInt < (f 3).toInt) (c5 : i = 5 → rg v 0 999) (c6 : 154 ≤ i → i ≤ 161 → rg v (-1) 5) (c7 : 170 ≤ i → i % 2 = 0 → rg v 0 5) : rowOk (upd f i v) := by
  have hf' := hf
  unfold rowOk at hf ⊢
  obtain ⟨h0, h1, h2, h3, h4, h5, h6, h7, h8⟩ := hf
  have at' : ∀ j, upd f i v j = if j = i then v else f j := fun j => rfl
  have e3 : upd f i v 3 = f 3 := upd_ne f v (fun e => hi e.symm)
  rw [e3]
  refine ⟨?_, ?_, ?_, h3, ?_, ?_, fun k hk => ?_, fun k hk => ?_, fun k hk => ?_⟩
  · rw [at']; split
    · exact c0 (by omega)
    · exact h0
  · rw [at']; split
    · exact c1 (by omega)
    · exact h1
  · rw [at']; split
    · exact c2 (by omega)
    · exact h2
  · rw [at']; split
    · exact c4 (by omega)
    · exact h4
  · rw [at']; split
    · exact c5 (by omega)
    · exact h5
  · rw [at']; split
    · exact c6 (by omega) (by omega)
    · exact h6 k hk
  · rw [at']; split
    · exact c7 (by omega) (by omega)
    · exact h7 k hk
  · have := h3.2
    exact lawOk_congr (by omega) (by omega) (fun j hj _ => upd_ne f v (by omega)) (h8 k hk)
theorem rg_lit {z : Int32} {a b : Int} (h1 : a ≤ z.toInt) (h2 : z.toInt ≤ b) : rg z a b := ⟨h1, h2⟩
theorem nI_inj {a b : Nat} (ha : a < 2 ^ 31) (hb : b < 2 ^ 31) (h : nI a = nI b) : a = b := (nI_eq ha hb).mp h
section REF7
variable {S : hS} {o : Nat} {ad : Nat → Nat} {M : mS}
/-- of settled: all is well behind it -/
theorem g_settled (hd : mD o ad) (hM : mOk M) {q : Int32 → hS → Prop} {v : Int32} (hv : -6 ≤ v.toInt) (h : ∀ N, mOk N → q v (ov S o ad N)) : w_X12_settled q (ov S o ad M) o v := by
  refine f_settled hd hv (fun N hF h8 => h N ?_)
  refine mOk_und hF hM ?_ ?_ ?_ ?_ (by simp)
  · rcases h8 with e | e
    · rw [e]; exact ⟨by decide, by decide⟩
    · rw [e]; exact hM.2.2.2.2.2.2.1
  · rw [hF.2.2.1 6 (by simp)]; exact hM.2.2.1
  · rw [hF.2.2.1 7 (by simp)]; exact hM.2.2.2.2.1
  · rw [hF.2.2.1 3 (by simp)]; exact hM.1
theorem g_tell (hd : mD o ad) (hM : mOk M) {q : Int32 → hS → Prop} {v : Int32} (hv : -6 ≤ v.toInt) (h : ∀ N, mOk N → q v (ov S o ad N)) : w_X12_tell q (ov S o ad M) o v :=
  f_tell hd hv (fun N hF => h N (mOk_fx hF hM (by simp)))
theorem mOk_r {f : Nat → Int32} (hM : mOk M) (hf : rowOk f) : mOk (mA M 3 f) := mOk_row (Fx.a 3 f) hM hf (by simp)
theorem mOk_i {k : Nat} {x : Int32} (hM : mOk M) (hk : k ≠ 8 ∧ k ≠ 13 ∧ k ≠ 20 ∧ k ≠ 59 ∧ k ≠ 60) : mOk (mI M k x) := mOk_fx (Fx.i k x) hM (by simp; omega)
theorem p_house (hd : mD o ad) (hM : mOk M) {q : Int32 → hS → Prop} {a b : Int32} (h : ∀ r N, mOk N → q r (ov S o ad N)) : w_X12_house q (ov S o ad M) o a b := by
  have hM0 : mOk (mI M 0 0) := mOk_i hM (by omega)
  unfold w_X12_house
  simp (disch := decide) only [oi_gI, oi_gJ, oi_gP, oi_pI, oi_pZ, oi_pJ, oi_oK, oi_aI hd, oi_aZ hd, oi_aJ hd, oi_sI hd, oi_sZ hd, oi_sJ hd, mI_1, mI_2, mJ_1, mJ_2, mJ_3, mA_1, mA_2, mA_3, mA_4, mL_1, mL_2, mL_3, mL_4, mK, Nat.reduceEqDiff, if_true, if_false, ite_true, ite_false, true_and, Nat.reduceLT, reduceIte, reduceCtorEq, cl_0, cl_1, cl_2, cl_3, cl_4, cl_5, cl_6, cl_7, cl_8, cl_9, cl_10, cl_11, cl_12, cl_13, cl_14, cl_15, vl_0_5585, vl_1_5585, vl_2_5585, vl_3_5585, vl_4_5585, vl_5_5585, vl_6_5585, vl_0_7, vl_1_7, vl_2_7, vl_3_7, vl_4_7, vl_5_7, vl_6_7]
  refine s_isPlace (fun _ _ => ⟨fun z => absurd z (by decide), fun _ => s_in (fun _ _ => ⟨fun _ => ?_, fun z => absurd z (by decide)⟩) (fun _ => ⟨fun z => absurd rfl z, fun _ => ⟨ov_oK, g_tell hd hM0 (by decide) (h _)⟩⟩)⟩) ⟨fun _ => ⟨ov_oK, g_tell hd hM0 (by decide) (h _)⟩, fun z => absurd rfl z⟩
  simp (disch := decide) only [oi_gI, oi_gJ, oi_gP, oi_pI, oi_pZ, oi_pJ, oi_oK, oi_aI hd, oi_aZ hd, oi_aJ hd, oi_sI hd, oi_sZ hd, oi_sJ hd, mI_1, mI_2, mJ_1, mJ_2, mJ_3, mA_1, mA_2, mA_3, mA_4, mL_1, mL_2, mL_3, mL_4, mK, Nat.reduceEqDiff, if_true, if_false, ite_true, ite_false, true_and, Nat.reduceLT, reduceIte, reduceCtorEq, cl_0, cl_1, cl_2, cl_3, cl_4, cl_5, cl_6, cl_7, cl_8, cl_9, cl_10, cl_11, cl_12, cl_13, cl_14, cl_15, vl_0_5585, vl_1_5585, vl_2_5585, vl_3_5585, vl_4_5585, vl_5_5585, vl_6_5585, vl_0_7, vl_1_7, vl_2_7, vl_3_7, vl_4_7, vl_5_7, vl_6_7]
  obtain ⟨n, hn, en, -⟩ := rg_nI (b := 6) hM.1.1 (by omega) (by omega)
  rw [en]
  refine ⟨fun c => ?_, fun _ => g_tell hd hM0 (by decide) (h _)⟩
  have hn6 : n < 6 := by
    have : n ≠ 6 := fun e => c (by rw [e]; rfl)
    omega
  simp (disch := decide) only [oi_gI, oi_gJ, oi_gP, oi_pI, oi_pZ, oi_pJ, oi_oK, oi_aI hd, oi_aZ hd, oi_aJ hd, oi_sI hd, oi_sZ hd, oi_sJ hd, mI_1, mI_2, mJ_1, mJ_2, mJ_3, mA_1, mA_2, mA_3, mA_4, mL_1, mL_2, mL_3, mL_4, mK, Nat.reduceEqDiff, if_true, if_false, ite_true, ite_false, true_and, Nat.reduceLT, reduceIte, reduceCtorEq, cl_0, cl_1, cl_2, cl_3, cl_4, cl_5, cl_6, cl_7, cl_8, cl_9, cl_10, cl_11, cl_12, cl_13, cl_14, cl_15, vl_0_5585, vl_1_5585, vl_2_5585, vl_3_5585, vl_4_5585, vl_5_5585, vl_6_5585, vl_0_7, vl_1_7, vl_2_7, vl_3_7, vl_4_7, vl_5_7, vl_6_7, mA_mA]
  rw [lit_nI 126, lit_nI 132, lit_nI 8, nIadd, nIadd, nIadd, nI_clamp (by omega), nI_clamp (by omega), nI_clamp (by omega)]
  refine ⟨vp_in_nI (by omega) (by omega), vp_in_nI (by omega) (by omega), vp_in_nI (by omega) (by omega), ?_⟩
  have hf : rowOk (upd (upd (upd (M.2.2.1 3) (126 + n) a) (132 + n) b) (8 + n) 0) := rowOk_free (by unfold rCon; omega) (rowOk_free (by unfold rCon; omega) (rowOk_free (by unfold rCon; omega) hM.1))
  have h0 : (upd (upd (upd (M.2.2.1 3) (126 + n) a) (132 + n) b) (8 + n) 0) 0 = nI n := by
    rw [upd_ne _ _ (by omega), upd_ne _ _ (by omega), upd_ne _ _ (by omega)]; exact en
  generalize upd (upd (upd (M.2.2.1 3) (126 + n) a) (132 + n) b) (8 + n) 0 = f at hf h0
  refine loop_m (σ := (Nat → Int32) × Nat) (fun t s => w_X12_house_b84 q t (ov S o ad (mA (mI M 0 0) 3 s.1)) o (nI n) (nI s.2)) (fun s => s.2 ≤ 8 ∧ rowOk s.1 ∧ s.1 0 = nI n) (fun s => 8 - s.2) ?_ (f, 0) ⟨Nat.zero_le _, hf, h0⟩
  rintro t ⟨f, i⟩ ⟨hi, hf, h0⟩ ih
  dsimp only at hi hf h0 ih ⊢
  rw [w_X12_house_b84]
  refine ⟨fun c => ?_, fun c => ?_⟩
  · simp (disch := decide) only [oi_gI, oi_gJ, oi_gP, oi_pI, oi_pZ, oi_pJ, oi_oK, oi_aI hd, oi_aZ hd, oi_aJ hd, oi_sI hd, oi_sZ hd, oi_sJ hd, mI_1, mI_2, mJ_1, mJ_2, mJ_3, mA_1, mA_2, mA_3, mA_4, mL_1, mL_2, mL_3, mL_4, mK, Nat.reduceEqDiff, if_true, if_false, ite_true, ite_false, true_and, Nat.reduceLT, reduceIte, reduceCtorEq, cl_0, cl_1, cl_2, cl_3, cl_4, cl_5, cl_6, cl_7, cl_8, cl_9, cl_10, cl_11, cl_12, cl_13, cl_14, cl_15, vl_0_5585, vl_1_5585, vl_2_5585, vl_3_5585, vl_4_5585, vl_5_5585, vl_6_5585, vl_0_7, vl_1_7, vl_2_7, vl_3_7, vl_4_7, vl_5_7, vl_6_7, mA_mA]
    rw [h0, nI_1]
    refine g_settled hd (mOk_r hM0 (rowOk_upd hf (by omega) (by omega) (fun _ => ⟨?_, ?_⟩) (fun e => by omega) (fun e => by omega) (fun e => by omega) (fun e => by omega) (fun e => by omega) (fun e => by omega))) ?_ (h _)
    · rw [nI_toInt (by omega)]; omega
    · rw [nI_toInt (by omega)]; omega
    · rw [nI_toInt (by omega)]; omega
  · have c : i < 8 := by
      rw [lit_nI 8, nI_not_le (by omega) (by omega)] at c
      exact c
    simp (disch := decide) only [oi_gI, oi_gJ, oi_gP, oi_pI, oi_pZ, oi_pJ, oi_oK, oi_aI hd, oi_aZ hd, oi_aJ hd, oi_sI hd, oi_sZ hd, oi_sJ hd, mI_1, mI_2, mJ_1, mJ_2, mJ_3, mA_1, mA_2, mA_3, mA_4, mL_1, mL_2, mL_3, mL_4, mK, Nat.reduceEqDiff, if_true, if_false, ite_true, ite_false, true_and, Nat.reduceLT, reduceIte, reduceCtorEq, cl_0, cl_1, cl_2, cl_3, cl_4, cl_5, cl_6, cl_7, cl_8, cl_9, cl_10, cl_11, cl_12, cl_13, cl_14, cl_15, vl_0_5585, vl_1_5585, vl_2_5585, vl_3_5585, vl_4_5585, vl_5_5585, vl_6_5585, vl_0_7, vl_1_7, vl_2_7, vl_3_7, vl_4_7, vl_5_7, vl_6_7, mA_mA]
    rw [lit_nI 30, lit_nI 78, lit_nI 6, nImul, nIadd, nIadd, nIadd, nIadd, nI_1, nI_clamp (by omega), nI_clamp (by omega)]
    refine ⟨vp_in_nI (by omega) (by omega), vp_in_nI (by omega) (by omega), eq_imp ?_⟩
    refine ih (upd (upd f (30 + 6 * i + n) 0) (78 + 6 * i + n) 0, i + 1) ⟨by show i + 1 ≤ 8; omega, ?_, ?_⟩ (by show 8 - (i + 1) < 8 - i; omega)
    · exact rowOk_free (by unfold rCon; omega) (rowOk_free (by unfold rCon; omega) hf)
    · show upd (upd f (30 + 6 * i + n) 0) (78 + 6 * i + n) 0 0 = nI n
      rw [upd_ne _ _ (by omega), upd_ne _ _ (by omega)]; exact h0
/-- come: somebody, or -1, -5; the row alone is changed -/
theorem s_come (hd : mD o ad) (hr : rowOk (M.2.2.1 3)) {q : Int32 → hS → Prop} {a b c : Int32} (h : ∀ r f, rowOk f → rg r (-5) 7 → q r (ov S o ad (mA M 3 f))) : w_X12_come q (ov S o ad M) o a b c := by
  have h1 : ∀ r, rg r (-5) 7 → q r (ov S o ad M) := fun r hr' => by have := h r (M.2.2.1 3) hr hr'; rwa [mA_self] at this
  have hm1 : q (-1) (ov S o ad M) := h1 _ ⟨by decide, by decide⟩
  unfold w_X12_come
  refine s_isPlace (fun _ _ => ⟨fun z => absurd z (by decide), fun _ => s_in (fun _ _ => ⟨fun z => absurd z (by decide), fun _ => s_in (fun _ _ => ⟨fun _ => ?_, fun z => absurd z (by decide)⟩) (fun _ => ⟨fun z => absurd rfl z, fun _ => hm1⟩)⟩) (fun _ => ⟨fun _ => hm1, fun z => absurd rfl z⟩)⟩) ⟨fun _ => hm1, fun z => absurd rfl z⟩
  simp (disch := decide) only [oi_gI, oi_gJ, oi_gP, oi_pI, oi_pZ, oi_pJ, oi_oK, oi_aI hd, oi_aZ hd, oi_aJ hd, oi_sI hd, oi_sZ hd, oi_sJ hd, mI_1, mI_2, mJ_1, mJ_2, mJ_3, mA_1, mA_2, mA_3, mA_4, mL_1, mL_2, mL_3, mL_4, mK, Nat.reduceEqDiff, if_true, if_false, ite_true, ite_false, true_and, Nat.reduceLT, reduceIte, reduceCtorEq, cl_0, cl_1, cl_2, cl_3, cl_4, cl_5, cl_6, cl_7, cl_8, cl_9, cl_10, cl_11, cl_12, cl_13, cl_14, cl_15, vl_0_5585, vl_1_5585, vl_2_5585, vl_3_5585, vl_4_5585, vl_5_5585, vl_6_5585, vl_0_7, vl_1_7, vl_2_7, vl_3_7, vl_4_7, vl_5_7, vl_6_7]
  obtain ⟨n, hn, en, -⟩ := rg_nI (b := 8) hr.2.1 (by omega) (by omega)
  rw [en]
  refine ⟨fun c8 => ?_, fun _ => h1 _ ⟨by decide, by decide⟩⟩
  have hn8 : n < 8 := by
    have : n ≠ 8 := fun e => c8 (by rw [e]; rfl)
    omega
  simp (disch := decide) only [oi_gI, oi_gJ, oi_gP, oi_pI, oi_pZ, oi_pJ, oi_oK, oi_aI hd, oi_aZ hd, oi_aJ hd, oi_sI hd, oi_sZ hd, oi_sJ hd, mI_1, mI_2, mJ_1, mJ_2, mJ_3, mA_1, mA_2, mA_3, mA_4, mL_1, mL_2, mL_3, mL_4, mK, Nat.reduceEqDiff, if_true, if_false, ite_true, ite_false, true_and, Nat.reduceLT, reduceIte, reduceCtorEq, cl_0, cl_1, cl_2, cl_3, cl_4, cl_5, cl_6, cl_7, cl_8, cl_9, cl_10, cl_11, cl_12, cl_13, cl_14, cl_15, vl_0_5585, vl_1_5585, vl_2_5585, vl_3_5585, vl_4_5585, vl_5_5585, vl_6_5585, vl_0_7, vl_1_7, vl_2_7, vl_3_7, vl_4_7, vl_5_7, vl_6_7, mA_mA]
  rw [lit_nI 138, lit_nI 146, lit_nI 14, lit_nI 154, lit_nI 162, lit_nI 22, nIadd, nIadd, nIadd, nIadd, nIadd, nIadd, nI_clamp (by omega), nI_clamp (by omega), nI_clamp (by omega), nI_clamp (by omega), nI_clamp (by omega), nI_clamp (by omega)]
  refine ⟨vp_in_nI (by omega) (by omega), vp_in_nI (by omega) (by omega), vp_in_nI (by omega) (by omega), vp_in_nI (by omega) (by omega), vp_in_nI (by omega) (by omega), vp_in_nI (by omega) (by omega), ?_⟩
  have hf1 : rowOk (upd (upd (upd (M.2.2.1 3) (138 + n) a) (146 + n) b) (14 + n) c) := rowOk_free (by unfold rCon; omega) (rowOk_free (by unfold rCon; omega) (rowOk_free (by unfold rCon; omega) hr))
  have hf2 := rowOk_upd (i := 154 + n) (v := -1) hf1 (by omega) (by omega) (fun e => by omega) (fun e => by omega) (fun e => by omega) (fun e => by omega) (fun e => by omega) (fun _ _ => ⟨by decide, by decide⟩) (fun e => by omega)
  have hf : rowOk (upd (upd (upd (upd (upd (upd (M.2.2.1 3) (138 + n) a) (146 + n) b) (14 + n) c) (154 + n) (-1)) (162 + n) 0) (22 + n) 0) := rowOk_free (by unfold rCon; omega) (rowOk_free (by unfold rCon; omega) hf2)
  have h0 : (upd (upd (upd (upd (upd (upd (M.2.2.1 3) (138 + n) a) (146 + n) b) (14 + n) c) (154 + n) (-1)) (162 + n) 0) (22 + n) 0) 1 = nI n := by
    rw [upd_ne _ _ (by omega), upd_ne _ _ (by omega), upd_ne _ _ (by omega), upd_ne _ _ (by omega), upd_ne _ _ (by omega), upd_ne _ _ (by omega)]; exact en
  generalize upd (upd (upd (upd (upd (upd (M.2.2.1 3) (138 + n) a) (146 + n) b) (14 + n) c) (154 + n) (-1)) (162 + n) 0) (22 + n) 0 = f at hf h0
  refine loop_m (σ := (Nat → Int32) × Nat) (fun t s => w_X12_come_b124 q t (ov S o ad (mA M 3 s.1)) o (nI n) (nI s.2)) (fun s => s.2 ≤ 6 ∧ rowOk s.1 ∧ s.1 1 = nI n) (fun s => 6 - s.2) ?_ (f, 0) ⟨Nat.zero_le _, hf, h0⟩
  rintro t ⟨f, i⟩ ⟨hi, hf, h0⟩ ih
  dsimp only at hi hf h0 ih ⊢
  rw [w_X12_come_b124]
  refine ⟨fun c => ?_, fun c => ?_⟩
  · simp (disch := decide) only [oi_gI, oi_gJ, oi_gP, oi_pI, oi_pZ, oi_pJ, oi_oK, oi_aI hd, oi_aZ hd, oi_aJ hd, oi_sI hd, oi_sZ hd, oi_sJ hd, mI_1, mI_2, mJ_1, mJ_2, mJ_3, mA_1, mA_2, mA_3, mA_4, mL_1, mL_2, mL_3, mL_4, mK, Nat.reduceEqDiff, if_true, if_false, ite_true, ite_false, true_and, Nat.reduceLT, reduceIte, reduceCtorEq, cl_0, cl_1, cl_2, cl_3, cl_4, cl_5, cl_6, cl_7, cl_8, cl_9, cl_10, cl_11, cl_12, cl_13, cl_14, cl_15, vl_0_5585, vl_1_5585, vl_2_5585, vl_3_5585, vl_4_5585, vl_5_5585, vl_6_5585, vl_0_7, vl_1_7, vl_2_7, vl_3_7, vl_4_7, vl_5_7, vl_6_7, mA_mA]
    rw [h0, nI_1]
    refine h _ _ (rowOk_upd hf (by omega) (by omega) (fun e => by omega) (fun _ => ⟨?_, ?_⟩) (fun e => by omega) (fun e => by omega) (fun e => by omega) (fun e => by omega) (fun e => by omega)) ⟨?_, ?_⟩
    · rw [nI_toInt (by omega)]; omega
    · rw [nI_toInt (by omega)]; omega
    · rw [nI_toInt (by omega)]; omega
    · rw [nI_toInt (by omega)]; omega
  · have c : i < 6 := by
      rw [lit_nI 6, nI_not_le (by omega) (by omega)] at c
      exact c
    simp (disch := decide) only [oi_gI, oi_gJ, oi_gP, oi_pI, oi_pZ, oi_pJ, oi_oK, oi_aI hd, oi_aZ hd, oi_aJ hd, oi_sI hd, oi_sZ hd, oi_sJ hd, mI_1, mI_2, mJ_1, mJ_2, mJ_3, mA_1, mA_2, mA_3, mA_4, mL_1, mL_2, mL_3, mL_4, mK, Nat.reduceEqDiff, if_true, if_false, ite_true, ite_false, true_and, Nat.reduceLT, reduceIte, reduceCtorEq, cl_0, cl_1, cl_2, cl_3, cl_4, cl_5, cl_6, cl_7, cl_8, cl_9, cl_10, cl_11, cl_12, cl_13, cl_14, cl_15, vl_0_5585, vl_1_5585, vl_2_5585, vl_3_5585, vl_4_5585, vl_5_5585, vl_6_5585, vl_0_7, vl_1_7, vl_2_7, vl_3_7, vl_4_7, vl_5_7, vl_6_7, mA_mA]
    rw [lit_nI 30, lit_nI 78, lit_nI 6, nImul, nIadd, nIadd, nIadd, nIadd, nI_1, nI_clamp (by omega), nI_clamp (by omega)]
    refine ⟨vp_in_nI (by omega) (by omega), vp_in_nI (by omega) (by omega), eq_imp ?_⟩
    refine ih (upd (upd f (30 + 6 * n + i) 0) (78 + 6 * n + i) 0, i + 1) ⟨by show i + 1 ≤ 6; omega, ?_, ?_⟩ (by show 6 - (i + 1) < 6 - i; omega)
    · exact rowOk_free (by unfold rCon; omega) (rowOk_free (by unfold rCon; omega) hf)
    · show upd (upd f (30 + 6 * n + i) 0) (78 + 6 * n + i) 0 1 = nI n
      rw [upd_ne _ _ (by omega), upd_ne _ _ (by omega)]; exact h0
theorem p_person (hd : mD o ad) (hM : mOk M) {q : Int32 → hS → Prop} {a b c : Int32} (h : ∀ r N, mOk N → q r (ov S o ad N)) : w_X12_person q (ov S o ad M) o a b c := by
  have hM0 : mOk (mI M 0 0) := mOk_i hM (by omega)
  unfold w_X12_person
  simp (disch := decide) only [oi_gI, oi_gJ, oi_gP, oi_pI, oi_pZ, oi_pJ, oi_oK, oi_aI hd, oi_aZ hd, oi_aJ hd, oi_sI hd, oi_sZ hd, oi_sJ hd, mI_1, mI_2, mJ_1, mJ_2, mJ_3, mA_1, mA_2, mA_3, mA_4, mL_1, mL_2, mL_3, mL_4, mK, Nat.reduceEqDiff, if_true, if_false, ite_true, ite_false, true_and, Nat.reduceLT, reduceIte, reduceCtorEq, cl_0, cl_1, cl_2, cl_3, cl_4, cl_5, cl_6, cl_7, cl_8, cl_9, cl_10, cl_11, cl_12, cl_13, cl_14, cl_15, vl_0_5585, vl_1_5585, vl_2_5585, vl_3_5585, vl_4_5585, vl_5_5585, vl_6_5585, vl_0_7, vl_1_7, vl_2_7, vl_3_7, vl_4_7, vl_5_7, vl_6_7]
  exact s_come hd hM0.1 (fun r f hf hr => ⟨ov_oK, g_settled hd (mOk_r hM0 hf) (by have := hr.1; omega) (h _)⟩)
end REF7
