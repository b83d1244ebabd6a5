/-! LAYER 2, the reference: settling the pile -/
def bnV (x : Int32) : Int32 := if x < 31 then (if x = 30 then 1 else if x = 29 then 2 else if x = 28 then 3 else if x < 25 then (if x < 22 then 5 else 6) else 4) else 0
/-- code, pile and leaves as they are counted -/
def wk (M : mS) (lo c p : Nat) : Prop := M.1 23 = nI c ∧ M.1 29 = nI p ∧ lo ≤ c ∧ (∀ i, i < p → rg (M.2.2.1 27 i) 20 32) ∧ pk (M.2.2.1 27) (M.2.2.1 28) lo c p
def sg (M : mS) (lo c p l e : Nat) : Prop := sgF (M.2.2.1 24) (M.2.2.1 25) (M.2.2.1 27) (M.2.2.1 28) lo c p l e
/-- the code below lo is as it was -/
def lowEq (lo : Nat) (M N : mS) : Prop := ∀ k, k < lo → N.2.2.1 24 k = M.2.2.1 24 k ∧ N.2.2.1 25 k = M.2.2.1 25 k
theorem lowEq.rf {lo : Nat} {M : mS} : lowEq lo M M := fun _ _ => ⟨rfl, rfl⟩
theorem lowEq.tr {lo : Nat} {M N P : mS} (h : lowEq lo M N) (h' : lowEq lo N P) : lowEq lo M P := fun k hk => ⟨(h' k hk).1.trans (h k hk).1, (h' k hk).2.trans (h k hk).2⟩
theorem lowEq.fx {lo : Nat} {a b c d : List Nat} {M N : mS} (h : Fx a b c d M N) (h24 : 24 ∉ c) (h25 : 25 ∉ c) : lowEq lo M N := fun k _ => ⟨by rw [h.2.2.1 24 h24], by rw [h.2.2.1 25 h25]⟩
theorem wk_fx {lo c p : Nat} {a b d e : List Nat} {M N : mS} (h : Fx a b d e M N) (hw : wk M lo c p) (ha : 23 ∉ a ∧ 29 ∉ a) (hd : 27 ∉ d ∧ 28 ∉ d) : wk N lo c p := by
  unfold wk at *
  rw [h.1 23 ha.1, h.1 29 ha.2, h.2.2.1 27 hd.1, h.2.2.1 28 hd.2]
  exact hw
theorem sg_fx {lo c p l x : Nat} {a b d e : List Nat} {M N : mS} (h : Fx a b d e M N) (hw : sg M lo c p l x) (hd : 24 ∉ d ∧ 25 ∉ d ∧ 27 ∉ d ∧ 28 ∉ d) : sg N lo c p l x := by
  unfold sg at *
  rw [h.2.2.1 24 hd.1, h.2.2.1 25 hd.2.1, h.2.2.1 27 hd.2.2.1, h.2.2.1 28 hd.2.2.2]
  exact hw
section REF22
variable {S : hS} {o : Nat} {ad : Nat → Nat} {M : mS}
theorem s_binds {q : Int32 → hS → Prop} {T : hS} {x : Int32} (h : q (bnV x) T) : w_X12_binds q T x := by
  unfold w_X12_binds
  unfold bnV at h
  refine ⟨fun c => ⟨fun c1 => ⟨fun c2 => ⟨fun c3 => ⟨fun c4 => ⟨fun c5 => ?_, fun c5 => ?_⟩, fun c4 => ?_⟩, fun c3 => ?_⟩, fun c2 => ?_⟩, fun c1 => ?_⟩, fun c => ?_⟩
  · rw [if_pos c, if_neg c1, if_neg c2, if_neg c3, if_pos c4, if_pos c5] at h; exact h
  · rw [if_pos c, if_neg c1, if_neg c2, if_neg c3, if_pos c4, if_neg c5] at h; exact h
  · rw [if_pos c, if_neg c1, if_neg c2, if_neg c3, if_neg c4] at h; exact h
  · rw [if_pos c, if_neg c1, if_neg c2, if_pos c3] at h; exact h
  · rw [if_pos c, if_neg c1, if_pos c2] at h; exact h
  · rw [if_pos c, if_pos c1] at h; exact h
  · rw [if_neg c] at h; exact h
theorem bnV_0 {x v : Int32} (hv : 1 ≤ v.toInt) (h : ¬ bnV x < v) : x.toInt < 31 := by
  have z : (0 : Int32).toInt = 0 := by decide
  by_cases c : x < 31
  · rw [i32lt, i32lit 31 (by omega)] at c; exact c
  · exfalso
    apply h
    unfold bnV
    rw [if_neg c, i32lt]
    omega
theorem f_settle (hd : mD o ad) {q : hS → Prop} {lo c p : Nat} {v : Int32} (hw : wk M lo c p) (hsz : c + pE (M.2.2.1 27) p ≤ 400) (hp : p ≤ 400) (hv : 1 ≤ v.toInt)
    (h : ∀ N c' p', Fx [23, 29] [] [24, 25] [] M N → wk N lo c' p' → p' ≤ p → c ≤ c' → c' + pE (M.2.2.1 27) p' ≤ c + pE (M.2.2.1 27) p → pB (M.2.2.1 27) p' = pB (M.2.2.1 27) p → (∀ j, p' = j + 1 → bnV (M.2.2.1 27 j) < v) → lowEq lo M N → (∀ l, sg M lo c p l 1 → sg N lo c' p' l 1) → q (ov S o ad N)) : w_X12_settle q (ov S o ad M) o v := by
  refine loop_m (σ := mS × Nat × Nat) (fun n s => w_X12_settle_b0 q n (ov S o ad s.1) o v) (fun s => Fx [23, 29] [] [24, 25] [] M s.1 ∧ wk s.1 lo s.2.1 s.2.2 ∧ s.2.2 ≤ p ∧ c ≤ s.2.1 ∧ s.2.1 + pE (M.2.2.1 27) s.2.2 ≤ c + pE (M.2.2.1 27) p ∧ pB (M.2.2.1 27) s.2.2 = pB (M.2.2.1 27) p ∧ lowEq lo M s.1 ∧ ∀ l, sg M lo c p l 1 → sg s.1 lo s.2.1 s.2.2 l 1) (fun s => s.2.2) ?_ (M, c, p) ⟨Fx.rf', hw, Nat.le_refl _, Nat.le_refl _, Nat.le_refl _, rfl, lowEq.rf, fun _ z => z⟩
  rintro n ⟨N, c', p'⟩ ⟨hF, hwk, h1, h2, h3, h4, h5, h6⟩ ih
  dsimp only at hF hwk h1 h2 h3 h4 h5 h6 ih ⊢
  have n27 : N.2.2.1 27 = M.2.2.1 27 := hF.2.2.1 27 (by simp)
  have n28 : N.2.2.1 28 = M.2.2.1 28 := hF.2.2.1 28 (by simp)
  obtain ⟨w1, w2, w3, w4, w5⟩ := hwk
  have hwk : wk N lo c' p' := ⟨w1, w2, w3, w4, w5⟩
  rw [w_X12_settle_b0]
  simp (disch := decide) only [oi_gI, oi_gJ, oi_gP, oi_pI, oi_pZ, oi_pJ, oi_oK, oi_aI hd, oi_aZ hd, oi_aJ hd, oi_sI hd, oi_sZ hd, oi_sJ hd, mI_1, mI_2, mJ_1, mJ_2, mJ_3, mA_1, mA_2, mA_3, mA_4, mL_1, mL_2, mL_3, mL_4, mK, Nat.reduceEqDiff, if_true, if_false, ite_true, ite_false, true_and, Nat.reduceLT, reduceIte, reduceCtorEq, cl_0, cl_1, cl_2, cl_3, cl_4, cl_5, cl_6, cl_7, cl_8, cl_9, cl_10, cl_11, cl_12, cl_13, cl_14, cl_15, vl_0_5585, vl_1_5585, vl_2_5585, vl_3_5585, vl_4_5585, vl_5_5585, vl_6_5585, vl_0_7, vl_1_7, vl_2_7, vl_3_7, vl_4_7, vl_5_7, vl_6_7]
  rw [w2, show (0 : Int32) = nI 0 from rfl, nI_leI (by omega) (by omega)]
  refine ⟨fun z => h N c' p' hF hwk h1 h2 h3 h4 (fun j hj => by omega) h5 h6, fun z => ?_⟩
  obtain ⟨j, rfl⟩ : ∃ j, p' = j + 1 := ⟨p' - 1, by omega⟩
  have ej : nI (j + 1) - 1 = nI j := by rw [nI_s1 (by omega)]; rfl
  rw [ej, nI_clamp (by omega), n27]
  refine ⟨vp_in_nI (by omega) (by omega), s_binds ⟨fun z1 => h N c' (j + 1) hF hwk h1 h2 h3 h4 (fun i hi => by rw [show i = j from by omega]; exact z1) h5 h6, fun z1 => ?_⟩⟩
  have hx := bnV_0 hv z1
  have hr := w4 j (by omega)
  rw [n27] at hr w4 w5
  rw [n28] at w5
  have hE : pE (M.2.2.1 27) (j + 1) = pE (M.2.2.1 27) j + if 20 ≤ (M.2.2.1 27 j).toInt ∧ (M.2.2.1 27 j).toInt ≤ 28 then 1 else 0 := rfl
  have hB : pB (M.2.2.1 27) (j + 1) = pB (M.2.2.1 27) j := by rw [pB, if_neg (by omega)]
  simp (disch := decide) only [oi_gI, oi_gJ, oi_gP, oi_pI, oi_pZ, oi_pJ, oi_oK, oi_aI hd, oi_aZ hd, oi_aJ hd, oi_sI hd, oi_sZ hd, oi_sJ hd, mI_1, mI_2, mJ_1, mJ_2, mJ_3, mA_1, mA_2, mA_3, mA_4, mL_1, mL_2, mL_3, mL_4, mK, Nat.reduceEqDiff, if_true, if_false, ite_true, ite_false, true_and, Nat.reduceLT, reduceIte, reduceCtorEq, cl_0, cl_1, cl_2, cl_3, cl_4, cl_5, cl_6, cl_7, cl_8, cl_9, cl_10, cl_11, cl_12, cl_13, cl_14, cl_15, vl_0_5585, vl_1_5585, vl_2_5585, vl_3_5585, vl_4_5585, vl_5_5585, vl_6_5585, vl_0_7, vl_1_7, vl_2_7, vl_3_7, vl_4_7, vl_5_7, vl_6_7]
  rw [w2, ej, nI_clamp (by omega), n27]
  -- and, or
  have hA : ao (M.2.2.1 27 j) → w_X12_settle_b63 q (fun S v0 v1 => w_X12_settle_b0 q n S v0 v1) (ov S o ad (mI N 29 (nI j))) o v := by
    intro hao
    obtain ⟨k, k1, k2, k3⟩ := w5 j (by omega) hao
    have hi := ao_i hao
    rw [if_neg (by omega)] at hE
    unfold w_X12_settle_b63
    simp (disch := decide) only [oi_gI, oi_gJ, oi_gP, oi_pI, oi_pZ, oi_pJ, oi_oK, oi_aI hd, oi_aZ hd, oi_aJ hd, oi_sI hd, oi_sZ hd, oi_sJ hd, mI_1, mI_2, mJ_1, mJ_2, mJ_3, mA_1, mA_2, mA_3, mA_4, mL_1, mL_2, mL_3, mL_4, mK, Nat.reduceEqDiff, if_true, if_false, ite_true, ite_false, true_and, Nat.reduceLT, reduceIte, reduceCtorEq, cl_0, cl_1, cl_2, cl_3, cl_4, cl_5, cl_6, cl_7, cl_8, cl_9, cl_10, cl_11, cl_12, cl_13, cl_14, cl_15, vl_0_5585, vl_1_5585, vl_2_5585, vl_3_5585, vl_4_5585, vl_5_5585, vl_6_5585, vl_0_7, vl_1_7, vl_2_7, vl_3_7, vl_4_7, vl_5_7, vl_6_7]
    rw [nI_clamp (by omega), n28, k1, w1, nI_clamp (by omega)]
    refine ⟨vp_in_nI (by omega) (by omega), vp_in_nI (by omega) (by omega), ih (_, c', j) ⟨((hF.tr (Fx.i 29 _)).tr (Fx.a 25 _)).le (by simp) (by simp) (by simp) (by simp), ⟨?_, ?_, w3, ?_, ?_⟩, by dsimp only; omega, h2, by dsimp only; omega, by dsimp only; omega, fun i hi => ?_, fun l hs => ?_⟩ (by dsimp only; omega)⟩
    · simp [mA_1, mI_1, w1]
    · simp [mA_1, mI_1]
    · simp only [mA_3, mI_2, Nat.reduceEqDiff, if_false, reduceIte]
      rw [n27]; exact fun i hi => w4 i (by omega)
    · simp only [mA_3, mI_2, Nat.reduceEqDiff, if_false, reduceIte]
      rw [n27, n28]; exact pk_mono w5 (Nat.le_refl _) (by omega)
    · simp only [mA_3, mI_2, Nat.reduceEqDiff, if_false, reduceIte]
      rw [upd_ne _ _ (by omega)]; exact h5 i hi
    · have := h6 l hs
      unfold sg at *
      simp only [mA_3, mI_2, Nat.reduceEqDiff, if_false, reduceIte]
      rw [n27, n28] at this ⊢
      exact sg_pop this hao k1 k2 k3 (by omega)
  refine ⟨vp_in_nI (by omega) (by omega), fun z2 => hA (Or.inl z2), fun z2 => ⟨vp_in_nI (by omega) (by omega), fun z3 => ⟨vp_in_nI (by omega) (by omega), ?_⟩, fun z3 => hA (Or.inr z3)⟩⟩
  have hnao : ¬ ao (M.2.2.1 27 j) := fun z => by rcases z with z | z; exact z2 z; exact z3 z
  have h28 : (M.2.2.1 27 j).toInt ≤ 28 := by
    refine Classical.byContradiction (fun z => ao_n hnao (by omega) (by omega))
  rw [if_pos ⟨hr.1, h28⟩] at hE
  refine s_emit hd (c := c') (by simp [mI_1, w1]) (by omega) ?_
  refine ih (_, c' + 1, j) ⟨((((hF.tr (Fx.i 29 _)).tr (Fx.a 24 _)).tr (Fx.a 25 _)).tr (Fx.i 23 _)).le (by simp) (by simp) (by simp) (by simp), ⟨?_, ?_, by dsimp only; omega, ?_, ?_⟩, by dsimp only; omega, by dsimp only; omega, by dsimp only; omega, by dsimp only; omega, fun i hi => ?_, fun l hs => ?_⟩ (by dsimp only; omega)
  · simp [mI_1]
  · simp [mA_1, mI_1]
  · simp only [mA_3, mI_2, Nat.reduceEqDiff, if_false, reduceIte]
    rw [n27]; exact fun i hi => w4 i (by omega)
  · simp only [mA_3, mI_2, Nat.reduceEqDiff, if_false, reduceIte]
    rw [n27, n28]; exact pk_mono w5 (by omega) (by omega)
  · simp only [mA_3, mI_2, Nat.reduceEqDiff, if_false, if_true, reduceIte]
    rw [upd_ne _ _ (by omega), upd_ne _ _ (by omega)]; exact h5 i hi
  · have := h6 l hs
    unfold sg at *
    simp only [mA_3, mI_2, Nat.reduceEqDiff, if_false, if_true, reduceIte]
    rw [n27, n28] at this ⊢
    have hH : pH (M.2.2.1 27) (j + 1) = pH (M.2.2.1 27) j + if 20 ≤ (M.2.2.1 27 j).toInt ∧ (M.2.2.1 27 j).toInt ≤ 27 then 1 else 0 := rfl
    have hb : pH (M.2.2.1 27) j + 1 ≤ l := by
      obtain ⟨d, -, d2, d3, -⟩ := this
      have := d2 c'
      omega
    refine sg_emit this w5 w3 (by omega) (by omega) (fun i i1 i2 => by rw [show i = j from by omega]; exact hnao) (Nat.le_refl _) hb rfl (fun d e1 e2 => ?_)
    by_cases b7 : (M.2.2.1 27 j).toInt ≤ 27
    · rw [if_pos ⟨hr.1, b7⟩] at hH
      exact Or.inr (Or.inl ⟨⟨hr.1, b7⟩, by omega, by omega⟩)
    · rw [if_neg (fun z => b7 z.2)] at hH
      exact Or.inr (Or.inr (Or.inl ⟨Int32.toInt_inj.mp (by rw [show (28 : Int32).toInt = 28 by decide]; omega), by omega, by omega⟩))
theorem s_inner (hd : mD o ad) {q : Int32 → hS → Prop} {p : Nat} (e29 : M.1 29 = nI p) (hp : p ≤ 400) (h : ∀ r : Int32, r.toInt = pB (M.2.2.1 27) p → q r (ov S o ad M)) : w_X12_inner q (ov S o ad M) o := by
  refine loop_m (σ := Int32 × Nat) (fun n s => w_X12_inner_b4 q n (ov S o ad M) o s.1 (nI s.2)) (fun s => s.2 ≤ p ∧ s.1.toInt = pB (M.2.2.1 27) s.2) (fun s => p - s.2) ?_ (-1, 0) ⟨Nat.zero_le _, by show (-1 : Int32).toInt = -1; decide⟩
  rintro n ⟨x, i⟩ ⟨h1, h2⟩ ih
  dsimp only at h1 h2 ih ⊢
  rw [w_X12_inner_b4]
  unfold w_X12_inner_b33
  simp (disch := decide) only [oi_gI, oi_gJ, oi_gP, oi_pI, oi_pZ, oi_pJ, oi_oK, oi_aI hd, oi_aZ hd, oi_aJ hd, oi_sI hd, oi_sZ hd, oi_sJ hd, mI_1, mI_2, mJ_1, mJ_2, mJ_3, mA_1, mA_2, mA_3, mA_4, mL_1, mL_2, mL_3, mL_4, mK, Nat.reduceEqDiff, if_true, if_false, ite_true, ite_false, true_and, Nat.reduceLT, reduceIte, reduceCtorEq, cl_0, cl_1, cl_2, cl_3, cl_4, cl_5, cl_6, cl_7, cl_8, cl_9, cl_10, cl_11, cl_12, cl_13, cl_14, cl_15, vl_0_5585, vl_1_5585, vl_2_5585, vl_3_5585, vl_4_5585, vl_5_5585, vl_6_5585, vl_0_7, vl_1_7, vl_2_7, vl_3_7, vl_4_7, vl_5_7, vl_6_7]
  rw [e29, nI_leI (by omega) (by omega), nI_clamp (by omega)]
  refine ⟨fun c => ?_, fun c => ⟨vp_in_nI (by omega) (by omega), fun c2 y ey => ?_, fun c2 => ⟨vp_in_nI (by omega) (by omega), fun y ey => ?_⟩⟩⟩
  · obtain rfl : i = p := by omega
    exact h _ h2
  · rw [ey, nI_1]
    rw [i32lt, i32lit 31 (by omega)] at c2
    exact ih (x, i + 1) ⟨by dsimp only; omega, by dsimp only; rw [pB, if_neg (by omega)]; exact h2⟩ (by dsimp only; omega)
  · rw [ey, nI_1]
    rw [i32lt, i32lit 31 (by omega)] at c2
    exact ih (M.2.2.1 27 i, i + 1) ⟨by dsimp only; omega, by dsimp only; rw [pB, if_pos (by omega)]⟩ (by dsimp only; omega)
theorem s_isCompared (hd : mD o ad) {q : Int32 → hS → Prop} {p : Nat} (e29 : M.1 29 = nI p) (hp : p ≤ 400) (h : ∀ r, q r (ov S o ad M)) : w_X12_isCompared q (ov S o ad M) o := by
  have z0 : (0 : Int32).toInt = 0 := by decide
  unfold w_X12_isCompared
  simp (disch := decide) only [oi_gI, oi_gJ, oi_gP, oi_pI, oi_pZ, oi_pJ, oi_oK, oi_aI hd, oi_aZ hd, oi_aJ hd, oi_sI hd, oi_sZ hd, oi_sJ hd, mI_1, mI_2, mJ_1, mJ_2, mJ_3, mA_1, mA_2, mA_3, mA_4, mL_1, mL_2, mL_3, mL_4, mK, Nat.reduceEqDiff, if_true, if_false, ite_true, ite_false, true_and, Nat.reduceLT, reduceIte, reduceCtorEq, cl_0, cl_1, cl_2, cl_3, cl_4, cl_5, cl_6, cl_7, cl_8, cl_9, cl_10, cl_11, cl_12, cl_13, cl_14, cl_15, vl_0_5585, vl_1_5585, vl_2_5585, vl_3_5585, vl_4_5585, vl_5_5585, vl_6_5585, vl_0_7, vl_1_7, vl_2_7, vl_3_7, vl_4_7, vl_5_7, vl_6_7]
  rw [e29]
  intro y ey
  have hy : y.toInt = (p : Int) - 1 := by
    rw [ey, fb_subI] <;> rw [nI_toInt (by omega), show (1 : Int32).toInt = 1 by decide] <;> omega
  refine loop_m (σ := Int32) (fun n s => w_X12_isCompared_b7 q n (ov S o ad M) o s) (fun s => -1 ≤ s.toInt ∧ s.toInt < 400) (fun s => (s.toInt + 1).toNat) ?_ y (by omega)
  rintro n x hx ih
  have k36 : w_X12_isCompared_b36 q (ov S o ad M) o x := by
    unfold w_X12_isCompared_b36
    simp (disch := decide) only [oi_gI, oi_gJ, oi_gP, oi_pI, oi_pZ, oi_pJ, oi_oK, oi_aI hd, oi_aZ hd, oi_aJ hd, oi_sI hd, oi_sZ hd, oi_sJ hd, mI_1, mI_2, mJ_1, mJ_2, mJ_3, mA_1, mA_2, mA_3, mA_4, mL_1, mL_2, mL_3, mL_4, mK, Nat.reduceEqDiff, if_true, if_false, ite_true, ite_false, true_and, Nat.reduceLT, reduceIte, reduceCtorEq, cl_0, cl_1, cl_2, cl_3, cl_4, cl_5, cl_6, cl_7, cl_8, cl_9, cl_10, cl_11, cl_12, cl_13, cl_14, cl_15, vl_0_5585, vl_1_5585, vl_2_5585, vl_3_5585, vl_4_5585, vl_5_5585, vl_6_5585, vl_0_7, vl_1_7, vl_2_7, vl_3_7, vl_4_7, vl_5_7, vl_6_7]
    refine ⟨fun _ => h _, fun c => ⟨vp_in_iff.mpr ?_, s_in (fun _ _ => ⟨fun _ => h _, fun _ => h _⟩) (fun _ => ⟨fun _ => h _, fun _ => h _⟩)⟩⟩
    rw [i32lt, z0] at c
    omega
  rw [w_X12_isCompared_b7]
  simp (disch := decide) only [oi_gI, oi_gJ, oi_gP, oi_pI, oi_pZ, oi_pJ, oi_oK, oi_aI hd, oi_aZ hd, oi_aJ hd, oi_sI hd, oi_sZ hd, oi_sJ hd, mI_1, mI_2, mJ_1, mJ_2, mJ_3, mA_1, mA_2, mA_3, mA_4, mL_1, mL_2, mL_3, mL_4, mK, Nat.reduceEqDiff, if_true, if_false, ite_true, ite_false, true_and, Nat.reduceLT, reduceIte, reduceCtorEq, cl_0, cl_1, cl_2, cl_3, cl_4, cl_5, cl_6, cl_7, cl_8, cl_9, cl_10, cl_11, cl_12, cl_13, cl_14, cl_15, vl_0_5585, vl_1_5585, vl_2_5585, vl_3_5585, vl_4_5585, vl_5_5585, vl_6_5585, vl_0_7, vl_1_7, vl_2_7, vl_3_7, vl_4_7, vl_5_7, vl_6_7]
  refine ⟨fun _ => k36, fun c => ?_⟩
  rw [i32lt, z0] at c
  refine ⟨vp_in_iff.mpr (by omega), s_in (fun _ _ => ⟨fun z => absurd z (by decide), fun _ y ey => ih y ?_ ?_⟩) (fun _ => ⟨fun _ => k36, fun z => absurd rfl z⟩)⟩
  · rw [ey, fb_addI] <;> rw [show (-1 : Int32).toInt = -1 by decide] <;> omega
  · rw [ey, fb_addI] <;> rw [show (-1 : Int32).toInt = -1 by decide] <;> omega
theorem s_partAt (hd : mD o ad) {q : Int32 → hS → Prop} (h : ∀ r : Int32, (r = -1 ∨ (¬ M.1 16 = 0 ∧ rg r 1 9)) → q r (ov S o ad M)) : w_X12_partAt q (ov S o ad M) o := by
  refine loop_m (σ := Int32 × Nat) (fun n s => w_X12_partAt_b4 q n (ov S o ad M) o s.1 (nI s.2)) (fun s => s.2 ≤ 9 ∧ (s.1 = -1 ∨ (¬ M.1 16 = 0 ∧ rg s.1 1 9))) (fun s => 9 - s.2) ?_ (-1, 0) ⟨by omega, Or.inl rfl⟩
  rintro n ⟨x, i⟩ ⟨h1, h2⟩ ih
  dsimp only at h1 h2 ih ⊢
  rw [w_X12_partAt_b4]
  unfold w_X12_partAt_b30
  simp (disch := decide) only [oi_gI, oi_gJ, oi_gP, oi_pI, oi_pZ, oi_pJ, oi_oK, oi_aI hd, oi_aZ hd, oi_aJ hd, oi_sI hd, oi_sZ hd, oi_sJ hd, mI_1, mI_2, mJ_1, mJ_2, mJ_3, mA_1, mA_2, mA_3, mA_4, mL_1, mL_2, mL_3, mL_4, mK, Nat.reduceEqDiff, if_true, if_false, ite_true, ite_false, true_and, Nat.reduceLT, reduceIte, reduceCtorEq, cl_0, cl_1, cl_2, cl_3, cl_4, cl_5, cl_6, cl_7, cl_8, cl_9, cl_10, cl_11, cl_12, cl_13, cl_14, cl_15, vl_0_5585, vl_1_5585, vl_2_5585, vl_3_5585, vl_4_5585, vl_5_5585, vl_6_5585, vl_0_7, vl_1_7, vl_2_7, vl_3_7, vl_4_7, vl_5_7, vl_6_7]
  rw [lit_nI 9, nI_leI (by omega) (by omega)]
  refine ⟨fun _ => h _ h2, fun c => ⟨vp_in_nI (by omega) (by omega), s_isWord hd (fun hs => ⟨fun z => absurd z (by decide), fun _ y ey => ?_⟩) ⟨fun _ y ey => ?_, fun z => absurd rfl z⟩⟩⟩
  · rw [ey, nI_1]
    refine ih (nI (i + 1), i + 1) ⟨by dsimp only; omega, Or.inr ⟨hs, ?_⟩⟩ (by dsimp only; omega)
    show rg (nI (i + 1)) 1 9
    unfold rg
    rw [nI_toInt (by omega)]
    omega
  · rw [ey, nI_1]
    exact ih (x, i + 1) ⟨by dsimp only; omega, h2⟩ (by dsimp only; omega)
theorem s_orderPartAt (hd : mD o ad) {q : Int32 → hS → Prop} (h : ∀ r : Int32, (r = -1 ∨ (¬ M.1 16 = 0 ∧ rg r 1 9)) → q r (ov S o ad M)) : w_X12_orderPartAt q (ov S o ad M) o := by
  refine loop_m (σ := Int32 × Nat) (fun n s => w_X12_orderPartAt_b4 q n (ov S o ad M) o s.1 (nI s.2)) (fun s => s.2 ≤ 7 ∧ (s.1 = -1 ∨ (¬ M.1 16 = 0 ∧ rg s.1 1 9))) (fun s => 7 - s.2) ?_ (-1, 0) ⟨by omega, Or.inl rfl⟩
  rintro n ⟨x, i⟩ ⟨h1, h2⟩ ih
  dsimp only at h1 h2 ih ⊢
  rw [w_X12_orderPartAt_b4]
  unfold w_X12_orderPartAt_b30
  simp (disch := decide) only [oi_gI, oi_gJ, oi_gP, oi_pI, oi_pZ, oi_pJ, oi_oK, oi_aI hd, oi_aZ hd, oi_aJ hd, oi_sI hd, oi_sZ hd, oi_sJ hd, mI_1, mI_2, mJ_1, mJ_2, mJ_3, mA_1, mA_2, mA_3, mA_4, mL_1, mL_2, mL_3, mL_4, mK, Nat.reduceEqDiff, if_true, if_false, ite_true, ite_false, true_and, Nat.reduceLT, reduceIte, reduceCtorEq, cl_0, cl_1, cl_2, cl_3, cl_4, cl_5, cl_6, cl_7, cl_8, cl_9, cl_10, cl_11, cl_12, cl_13, cl_14, cl_15, vl_0_5585, vl_1_5585, vl_2_5585, vl_3_5585, vl_4_5585, vl_5_5585, vl_6_5585, vl_0_7, vl_1_7, vl_2_7, vl_3_7, vl_4_7, vl_5_7, vl_6_7]
  rw [lit_nI 7, nI_leI (by omega) (by omega)]
  refine ⟨fun _ => h _ h2, fun c => ⟨vp_in_nI (by omega) (by omega), s_isWord hd (fun hs => ⟨fun z => absurd z (by decide), fun _ y ey => ?_⟩) ⟨fun _ y ey => ?_, fun z => absurd rfl z⟩⟩⟩
  · rw [ey, nI_1]
    refine ih (nI (i + 1), i + 1) ⟨by dsimp only; omega, Or.inr ⟨hs, ?_⟩⟩ (by dsimp only; omega)
    show rg (nI (i + 1)) 1 9
    unfold rg
    rw [nI_toInt (by omega)]
    omega
  · rw [ey, nI_1]
    exact ih (x, i + 1) ⟨by dsimp only; omega, h2⟩ (by dsimp only; omega)
end REF22
