/-! LAYER 2, the reference: readOrder() -/
theorem odP_9 {M N : mS} {n c j0 : Nat} {v : Int32} (h : odP M n c) (hv : rg v 0 20) (h52 : N.2.2.1 52 = upd (M.2.2.1 52) (10 * j0 + 9) v) (hlow : lowEq c M N) : odP N n c := fun j hj => by
  rw [h52]
  refine ⟨fun s hs => ?_, ?_⟩
  · have : s ≤ 7 := by unfold odS at hs; omega
    rw [upd_ne _ _ (by omega), upd_ne _ _ (by omega)]
    exact sgt_mono ((h j hj).1 s hs) hlow (Nat.le_refl _)
  · by_cases e : j = j0
    · subst e; rw [upd_self]; exact hv
    · rw [upd_ne _ _ (by omega)]; exact (h j hj).2
section REF31
variable {S : hS} {o : Nat} {ad : Nat → Nat} {M : mS}
theorem f_numberR (hd : mD o ad) {q : Int32 → hS → Prop} {T f t : Nat} {a b : Int64} (hab : 0 ≤ a.toInt ∧ b.toInt ≤ 1000) (hb : M.1 19 = 0) (ht : tk M T f t) (k0 : ∀ r N, Fx [18, 19] [] [] [] M N → ¬ N.1 19 = 0 → q r (ov S o ad N)) (k1 : ∀ r N f' t', rg r a.toInt b.toInt → Fx [14, 15, 16] [17] [] [] M N → tk N T f' t' → f + 1 ≤ f' → q r (ov S o ad N)) : w_X12_number q (ov S o ad M) o a b := by
  have no : ∀ y, w_X12_number_b33 q (ov S o ad M) y 0 o := fun y => ⟨ov_oK, f_must hd hb ht (fun z => absurd rfl z) (fun N hF hn => k0 _ N hF hn) (fun z => absurd rfl z)⟩
  unfold w_X12_number w_X12_number_b32
  simp (disch := decide) only [oi_gI, oi_gJ, oi_gP, oi_pI, oi_pZ, oi_pJ, oi_oK, oi_aI hd, oi_aZ hd, oi_aJ hd, oi_sI hd, oi_sZ hd, oi_sJ hd, mI_1, mI_2, mJ_1, mJ_2, mJ_3, mA_1, mA_2, mA_3, mA_4, mL_1, mL_2, mL_3, mL_4, mK, Nat.reduceEqDiff, if_true, if_false, ite_true, ite_false, true_and, Nat.reduceLT, reduceIte, reduceCtorEq, cl_0, cl_1, cl_2, cl_3, cl_4, cl_5, cl_6, cl_7, cl_8, cl_9, cl_10, cl_11, cl_12, cl_13, cl_14, cl_15, vl_0_5585, vl_1_5585, vl_2_5585, vl_3_5585, vl_4_5585, vl_5_5585, vl_6_5585, vl_0_7, vl_1_7, vl_2_7, vl_3_7, vl_4_7, vl_5_7, vl_6_7]
  intro y ey
  refine ⟨fun _ => no y, fun c => s_in (fun h1 h2 => ⟨fun z => absurd z (by decide), fun _ => ⟨ov_oK, f_must hd hb ht (fun _ => by rw [c]; decide) (fun N hF hn => k0 _ N hF hn) (fun _ N f' t' hF hk hl => k1 _ N f' t' ?_ hF hk hl)⟩⟩) (fun _ => ⟨fun _ => no y, fun z => absurd rfl z⟩)⟩
  unfold rg
  have : y.toInt = (M.2.1 17).toInt := by
    rw [ey, Int64.toInt_toInt32]
    exact fb_bmod (by omega) (by omega)
  rw [this]
  exact ⟨h1, h2⟩
theorem f_ro164 (hd : mD o ad) {q : hS → Prop} {T f t c l n j : Nat} (hs : orS M T f t c l n) (hj : j < n) (h : ∀ N f' t' c' l', OF M N → orS N T f' t' c' l' n → f ≤ f' → q (ov S o ad N)) : w_X12_readOrder_b164 q (ov S o ad M) o (nI (10 * j)) := by
  have hn := hs.2.2.1
  unfold w_X12_readOrder_b164
  simp (disch := decide) only [oi_gI, oi_gJ, oi_gP, oi_pI, oi_pZ, oi_pJ, oi_oK, oi_aI hd, oi_aZ hd, oi_aJ hd, oi_sI hd, oi_sZ hd, oi_sJ hd, mI_1, mI_2, mJ_1, mJ_2, mJ_3, mA_1, mA_2, mA_3, mA_4, mL_1, mL_2, mL_3, mL_4, mK, Nat.reduceEqDiff, if_true, if_false, ite_true, ite_false, true_and, Nat.reduceLT, reduceIte, reduceCtorEq, cl_0, cl_1, cl_2, cl_3, cl_4, cl_5, cl_6, cl_7, cl_8, cl_9, cl_10, cl_11, cl_12, cl_13, cl_14, cl_15, vl_0_5585, vl_1_5585, vl_2_5585, vl_3_5585, vl_4_5585, vl_5_5585, vl_6_5585, vl_0_7, vl_1_7, vl_2_7, vl_3_7, vl_4_7, vl_5_7, vl_6_7]
  rw [show nI (10 * j) + 9 = nI (10 * j + 9) from nIadd _ _, nI_clamp (by omega)]
  refine ⟨vp_in_nI (by omega) (by omega), ?_⟩
  have hF0 : Fx [] [] [52] [] M (mA M 52 (upd (M.2.2.1 52) (10 * j + 9) 1)) := Fx.a 52 _
  have e52 : (mA M 52 (upd (M.2.2.1 52) (10 * j + 9) 1)).2.2.1 52 = upd (M.2.2.1 52) (10 * j + 9) 1 := by simp [mA_3]
  have eM19 : M.1 19 = (mA M 52 (upd (M.2.2.1 52) (10 * j + 9) 1)).1 19 := rfl
  rw [eM19]
  generalize mA M 52 (upd (M.2.2.1 52) (10 * j + 9) 1) = N0 at hF0 e52 ⊢
  have n19 : N0.1 19 = M.1 19 := hF0.1 19 (by simp)
  have hs0 : orS N0 T f t c l n := ⟨rdS_fx hF0 hs.1 (by simp), (hF0.1 21 (by simp)).trans hs.2.1, hn, fun z => odP_9 (hs.2.2.2 (n19.symm.trans z)) ⟨by decide, by decide⟩ e52 (lowEq.fx hF0 (by simp) (by simp))⟩
  have o0 : OF M N0 := hF0.le (by simp) (by simp) (by simp) (by simp)
  have hend : w_X12_readOrder_b212 q (ov S o ad N0) o (nI (10 * j)) := f_ro212 hd hs0 hj (fun N f' t' c' l' hF hsN hf => h N f' t' c' l' (OF.tr o0 hF) hsN hf)
  refine ⟨fun _ => hend, fun z => s_isWord hd (fun h16 => ⟨fun z => absurd z (by decide), fun _ => ⟨ov_oK, r_next hd hs0.1 h16 (fun N1 f1 t1 hF1 hr1 hf1 => ?_)⟩⟩) ⟨fun _ => hend, fun z => absurd rfl z⟩⟩
  have z1 : N1.1 19 = 0 := (hF1.1 19 (by simp)).trans z
  have hs1 : orS N1 T f1 t1 c l n := ⟨hr1, (hF1.1 21 (by simp)).trans hs0.2.1, hn, fun _ => odP_low (hs0.2.2.2 z) (hF1.2.2.1 52 (by simp)) (lowEq.fx hF1 (by simp) (by simp)) (Nat.le_refl _)⟩
  have o1 : OF M N1 := OF.tr o0 (hF1.le (by simp) (by simp) (by simp) (by simp))
  simp (disch := decide) only [oi_gI, oi_gJ, oi_gP, oi_pI, oi_pZ, oi_pJ, oi_oK, oi_aI hd, oi_aZ hd, oi_aJ hd, oi_sI hd, oi_sZ hd, oi_sJ hd, mI_1, mI_2, mJ_1, mJ_2, mJ_3, mA_1, mA_2, mA_3, mA_4, mL_1, mL_2, mL_3, mL_4, mK, Nat.reduceEqDiff, if_true, if_false, ite_true, ite_false, true_and, Nat.reduceLT, reduceIte, reduceCtorEq, cl_0, cl_1, cl_2, cl_3, cl_4, cl_5, cl_6, cl_7, cl_8, cl_9, cl_10, cl_11, cl_12, cl_13, cl_14, cl_15, vl_0_5585, vl_1_5585, vl_2_5585, vl_3_5585, vl_4_5585, vl_5_5585, vl_6_5585, vl_0_7, vl_1_7, vl_2_7, vl_3_7, vl_4_7, vl_5_7, vl_6_7]
  have kw : ∀ (N2 : mS) (r : Int32) (f2 t2 : Nat), OF N1 N2 → f1 ≤ f2 → rdS N2 T f2 t2 c l → N2.1 21 = N1.1 21 → N2.2.2.1 52 = N1.2.2.1 52 → lowEq c N1 N2 → (N2.1 19 = 0 → rg r 0 20) → w_X12_readOrder_b212 q (ov S o ad (mA N2 52 (upd (N2.2.2.1 52) (10 * j + 9) r))) o (nI (10 * j)) := by
    intro N2 r f2 t2 hF2 hle hr2 h212 h522 hlow2 hrg
    have hF3 : Fx [] [] [52] [] N2 (mA N2 52 (upd (N2.2.2.1 52) (10 * j + 9) r)) := Fx.a 52 _
    refine f_ro212 hd (T := T) (f := f2) (t := t2) (c := c) (l := l) (n := n) ⟨rdS_fx hF3 hr2 (by simp), ((hF3.1 21 (by simp)).trans h212).trans hs1.2.1, hn, fun z => ?_⟩ hj (fun N f' t' c' l' hF hsN hf => h N f' t' c' l' (OF.tr (OF.tr (OF.tr o1 hF2) (hF3.le (by simp) (by simp) (by simp) (by simp))) hF) hsN (by omega))
    exact odP_9 (j0 := j) (hs1.2.2.2 z1) (hrg z) (by rw [← h522]; simp [mA_3]) (hlow2.tr (lowEq.fx hF3 (by simp) (by simp)))
  refine f_numberR hd (by decide) z1 hr1.1 (fun r N2 hF2 hz => ?_) (fun r N2 f2 t2 hr hF2 ht2 hf2 => ?_)
  · simp (disch := decide) only [oi_gI, oi_gJ, oi_gP, oi_pI, oi_pZ, oi_pJ, oi_oK, oi_aI hd, oi_aZ hd, oi_aJ hd, oi_sI hd, oi_sZ hd, oi_sJ hd, mI_1, mI_2, mJ_1, mJ_2, mJ_3, mA_1, mA_2, mA_3, mA_4, mL_1, mL_2, mL_3, mL_4, mK, Nat.reduceEqDiff, if_true, if_false, ite_true, ite_false, true_and, Nat.reduceLT, reduceIte, reduceCtorEq, cl_0, cl_1, cl_2, cl_3, cl_4, cl_5, cl_6, cl_7, cl_8, cl_9, cl_10, cl_11, cl_12, cl_13, cl_14, cl_15, vl_0_5585, vl_1_5585, vl_2_5585, vl_3_5585, vl_4_5585, vl_5_5585, vl_6_5585, vl_0_7, vl_1_7, vl_2_7, vl_3_7, vl_4_7, vl_5_7, vl_6_7]
    rw [nI_clamp (by omega)]
    exact ⟨vp_in_nI (by omega) (by omega), kw N2 r f1 t1 (hF2.le (by simp) (by simp) (by simp) (by simp)) (Nat.le_refl _) (rdS_fx hF2 hr1 (by simp)) (hF2.1 21 (by simp)) (hF2.2.2.1 52 (by simp)) (lowEq.fx hF2 (by simp) (by simp)) (fun z => absurd z hz)⟩
  · simp (disch := decide) only [oi_gI, oi_gJ, oi_gP, oi_pI, oi_pZ, oi_pJ, oi_oK, oi_aI hd, oi_aZ hd, oi_aJ hd, oi_sI hd, oi_sZ hd, oi_sJ hd, mI_1, mI_2, mJ_1, mJ_2, mJ_3, mA_1, mA_2, mA_3, mA_4, mL_1, mL_2, mL_3, mL_4, mK, Nat.reduceEqDiff, if_true, if_false, ite_true, ite_false, true_and, Nat.reduceLT, reduceIte, reduceCtorEq, cl_0, cl_1, cl_2, cl_3, cl_4, cl_5, cl_6, cl_7, cl_8, cl_9, cl_10, cl_11, cl_12, cl_13, cl_14, cl_15, vl_0_5585, vl_1_5585, vl_2_5585, vl_3_5585, vl_4_5585, vl_5_5585, vl_6_5585, vl_0_7, vl_1_7, vl_2_7, vl_3_7, vl_4_7, vl_5_7, vl_6_7]
    rw [nI_clamp (by omega)]
    have hr' : rg r 1 20 := hr
    exact ⟨vp_in_nI (by omega) (by omega), kw N2 r f2 t2 (hF2.le (by simp) (by simp) (by simp) (by simp)) (by omega) ⟨ht2, (hF2.1 23 (by simp)).trans hr1.2.1, by have := hr1.2.2.1; omega, (hF2.1 26 (by simp)).trans hr1.2.2.2.1, hr1.2.2.2.2⟩ (hF2.1 21 (by simp)) (hF2.2.2.1 52 (by simp)) (lowEq.fx hF2 (by simp) (by simp)) (fun _ => ⟨by have := hr'.1; omega, hr'.2⟩)⟩
theorem f_ro125 (hd : mD o ad) {q : hS → Prop} {T f t c l n j : Nat} {a : Int32} (hs : orS M T f t c l n) (hj : j < n) (h : ∀ N f' t' c' l', OF M N → orS N T f' t' c' l' n → f ≤ f' → q (ov S o ad N)) : w_X12_readOrder_b125 q (ov S o ad M) o a (nI (10 * j)) := by
  have o3 : odS 3 := by unfold odS; omega
  have o5 : odS 5 := by unfold odS; omega
  have e3 : nI (10 * j) + 3 = nI (10 * j + 3) := nIadd _ _
  have e5 : nI (10 * j) + 5 = nI (10 * j + 5) := nIadd _ _
  have k139 : ∀ N f' t' c' l', OF M N → orS N T f' t' c' l' n → f ≤ f' → w_X12_readOrder_b139 q (ov S o ad N) o a (nI (10 * j)) := by
    intro N f1 t1 c1 l1 hF hs1 hf1
    unfold w_X12_readOrder_b139
    rw [e3, e5]
    refine ⟨fun _ => f_ro164 hd hs1 hj (fun P f2 t2 c2 l2 hP hsP hf2 => h P f2 t2 c2 l2 (OF.tr hF hP) hsP (by omega)), fun _ => ⟨ov_oK, f_behind hd hs1 hj o3 (fun P f2 t2 c2 l2 hP hsP hf2 => ⟨ov_oK, f_behind hd hsP hj o5 (fun Q f3 t3 c3 l3 hQ hsQ hf3 => f_ro164 hd hsQ hj (fun R f4 t4 c4 l4 hR hsR hf4 => h R f4 t4 c4 l4 (OF.tr (OF.tr (OF.tr hF hP) hQ) hR) hsR (by omega)))⟩)⟩⟩
  unfold w_X12_readOrder_b125
  rw [e3]
  exact ⟨fun _ => k139 M f t c l OF.rf hs (Nat.le_refl _), fun _ => ⟨ov_oK, f_behind hd hs hj o3 (fun P f2 t2 c2 l2 hP hsP hf2 => k139 P f2 t2 c2 l2 hP hsP hf2)⟩⟩
theorem f_readOrder (hd : mD o ad) {q : hS → Prop} {T f t c l n : Nat} (hb : M.1 19 = 0) (hs : orS M T f t c l n) (h : ∀ N f' t' c' l' n', OF M N → orS N T f' t' c' l' n' → f ≤ f' → q (ov S o ad N)) : w_X12_readOrder q (ov S o ad M) o := by
  obtain ⟨hr, h21, hn, hp⟩ := id hs
  have o1 : odS 1 := by unfold odS; omega
  have k54 : ∀ a g : Int32, (¬ g = 0 → ¬ M.1 16 = 0 ∧ n < 12) → w_X12_readOrder_b54 q (ov S o ad M) o a g o := by
    intro a g hg
    refine ⟨ov_oK, f_must hd hb hr.1 (fun z => (hg z).1) (fun N hF hz => ?_) (fun z N f1 t1 hF ht hf => ?_)⟩
    · simp (disch := decide) only [oi_gI, oi_gJ, oi_gP, oi_pI, oi_pZ, oi_pJ, oi_oK, oi_aI hd, oi_aZ hd, oi_aJ hd, oi_sI hd, oi_sZ hd, oi_sJ hd, mI_1, mI_2, mJ_1, mJ_2, mJ_3, mA_1, mA_2, mA_3, mA_4, mL_1, mL_2, mL_3, mL_4, mK, Nat.reduceEqDiff, if_true, if_false, ite_true, ite_false, true_and, Nat.reduceLT, reduceIte, reduceCtorEq, cl_0, cl_1, cl_2, cl_3, cl_4, cl_5, cl_6, cl_7, cl_8, cl_9, cl_10, cl_11, cl_12, cl_13, cl_14, cl_15, vl_0_5585, vl_1_5585, vl_2_5585, vl_3_5585, vl_4_5585, vl_5_5585, vl_6_5585, vl_0_7, vl_1_7, vl_2_7, vl_3_7, vl_4_7, vl_5_7, vl_6_7]
      exact ⟨fun z => absurd z hz, fun _ => h N f t c l n (hF.le (by simp) (by simp) (by simp) (by simp)) (orS_fx hF hs (fun z => absurd z hz) (by simp) (by simp) (by simp)) (Nat.le_refl _)⟩
    · have hn12 := (hg z).2
      have n19 : N.1 19 = 0 := (hF.1 19 (by simp)).trans hb
      simp (disch := decide) only [oi_gI, oi_gJ, oi_gP, oi_pI, oi_pZ, oi_pJ, oi_oK, oi_aI hd, oi_aZ hd, oi_aJ hd, oi_sI hd, oi_sZ hd, oi_sJ hd, mI_1, mI_2, mJ_1, mJ_2, mJ_3, mA_1, mA_2, mA_3, mA_4, mL_1, mL_2, mL_3, mL_4, mK, Nat.reduceEqDiff, if_true, if_false, ite_true, ite_false, true_and, Nat.reduceLT, reduceIte, reduceCtorEq, cl_0, cl_1, cl_2, cl_3, cl_4, cl_5, cl_6, cl_7, cl_8, cl_9, cl_10, cl_11, cl_12, cl_13, cl_14, cl_15, vl_0_5585, vl_1_5585, vl_2_5585, vl_3_5585, vl_4_5585, vl_5_5585, vl_6_5585, vl_0_7, vl_1_7, vl_2_7, vl_3_7, vl_4_7, vl_5_7, vl_6_7]
      rw [n19, (hF.1 21 (by simp)).trans h21, nI_1]
      refine ⟨fun _ y ey => ?_, fun z => absurd rfl z⟩
      rw [ey, lit_nI 10, nImul]
      refine loop_m (σ := mS × Nat) (fun m s => w_X12_readOrder_b85 q m (ov S o ad s.1) o a (nI (10 * n)) (nI s.2)) (fun s => Fx [21] [] [52] [] N s.1 ∧ s.1.1 21 = nI (n + 1) ∧ (∀ i, i < 10 * n → s.1.2.2.1 52 i = N.2.2.1 52 i) ∧ (∀ i, i < s.2 → s.1.2.2.1 52 (10 * n + i) = 0) ∧ s.2 ≤ 10) (fun s => 10 - s.2) ?_ (mI N 21 (nI (n + 1)), 0) ⟨(Fx.i 21 _).le (by simp) (by simp) (by simp) (by simp), by simp [mI_1], fun _ _ => rfl, fun i hi => by omega, by omega⟩
      rintro m ⟨P, k⟩ ⟨hP, p21, p1, p2, p3⟩ ih
      dsimp only at hP p21 p1 p2 p3 ih ⊢
      rw [w_X12_readOrder_b85]
      rw [lit_nI 10, nI_leI (by omega) (by omega)]
      refine ⟨fun c1 => ?_, fun c1 => ?_⟩
      · simp (disch := decide) only [oi_gI, oi_gJ, oi_gP, oi_pI, oi_pZ, oi_pJ, oi_oK, oi_aI hd, oi_aZ hd, oi_aJ hd, oi_sI hd, oi_sZ hd, oi_sJ hd, mI_1, mI_2, mJ_1, mJ_2, mJ_3, mA_1, mA_2, mA_3, mA_4, mL_1, mL_2, mL_3, mL_4, mK, Nat.reduceEqDiff, if_true, if_false, ite_true, ite_false, true_and, Nat.reduceLT, reduceIte, reduceCtorEq, cl_0, cl_1, cl_2, cl_3, cl_4, cl_5, cl_6, cl_7, cl_8, cl_9, cl_10, cl_11, cl_12, cl_13, cl_14, cl_15, vl_0_5585, vl_1_5585, vl_2_5585, vl_3_5585, vl_4_5585, vl_5_5585, vl_6_5585, vl_0_7, vl_1_7, vl_2_7, vl_3_7, vl_4_7, vl_5_7, vl_6_7]
        rw [show nI (10 * n) + 1 = nI (10 * n + 1) from nIadd _ _, nI_clamp (by omega)]
        refine ⟨vp_in_nI (by omega) (by omega), ?_⟩
        have hF2 : Fx [] [] [52] [] P (mA P 52 (upd (P.2.2.1 52) (10 * n) a)) := Fx.a 52 _
        have e52 : ∀ i, (mA P 52 (upd (P.2.2.1 52) (10 * n) a)).2.2.1 52 i = upd (P.2.2.1 52) (10 * n) a i := fun i => by simp [mA_3]
        generalize mA P 52 (upd (P.2.2.1 52) (10 * n) a) = Q at hF2 e52 ⊢
        have hFQ := (hF.tr hP).tr hF2
        have oQ : OF M Q := hFQ.le (by simp) (by simp) (by simp) (by simp)
        have hFN := hP.tr hF2
        have hsQ : orS Q T f1 t1 c l (n + 1) := by
          refine ⟨⟨tk_fx hFN ht (by simp), (hFQ.1 23 (by simp)).trans hr.2.1, by have := hr.2.2.1; omega, (hFQ.1 26 (by simp)).trans hr.2.2.2.1, hr.2.2.2.2⟩, (hF2.1 21 (by simp)).trans p21, by omega, fun _ j hj => ?_⟩
          by_cases e : j = n
          · subst e
            have z0 : ∀ i, 0 < i → i < 10 → Q.2.2.1 52 (10 * j + i) = 0 := fun i i0 i1 => by
              rw [e52, upd_ne _ _ (by omega)]; exact p2 i (by omega)
            refine ⟨fun s hs => ?_, ?_⟩
            · have : 0 < s ∧ s + 1 < 10 := by unfold odS at hs; omega
              rw [z0 s this.1 (by omega), show 10 * j + s + 1 = 10 * j + (s + 1) by omega, z0 (s + 1) (by omega) this.2]
              exact ⟨0, 0, rfl, rfl, Nat.le_refl _, Nat.zero_le _, code_nil⟩
            · rw [z0 9 (by omega) (by omega)]; exact ⟨by decide, by decide⟩
          · have z1 : ∀ i, i < 10 * n → Q.2.2.1 52 i = M.2.2.1 52 i := fun i hi => by
              rw [e52, upd_ne _ _ (by omega), p1 i hi, hF.2.2.1 52 (by simp)]
            have ho := hp hb j (by omega)
            refine ⟨fun s hs => ?_, ?_⟩
            · have : s ≤ 7 := by unfold odS at hs; omega
              rw [z1 _ (by omega), z1 _ (by omega)]
              exact sgt_mono (ho.1 s hs) (lowEq.fx (lo := c) hFQ (by simp) (by simp)) (Nat.le_refl _)
            · rw [z1 _ (by omega)]; exact ho.2
        refine ⟨fun _ => f_ro125 hd hsQ (by omega) (fun R f2 t2 c2 l2 hR hsR hf2 => h R f2 t2 c2 l2 (n + 1) (OF.tr oQ hR) hsR (by omega)), fun _ => f_readSum hd hsQ (by omega) o1 (fun R f2 t2 c2 l2 hR hsR hf2 => f_ro125 hd hsR (by omega) (fun U f3 t3 c3 l3 hU hsU hf3 => h U f3 t3 c3 l3 (n + 1) (OF.tr (OF.tr oQ hR) hU) hsU (by omega)))⟩
      · simp (disch := decide) only [oi_gI, oi_gJ, oi_gP, oi_pI, oi_pZ, oi_pJ, oi_oK, oi_aI hd, oi_aZ hd, oi_aJ hd, oi_sI hd, oi_sZ hd, oi_sJ hd, mI_1, mI_2, mJ_1, mJ_2, mJ_3, mA_1, mA_2, mA_3, mA_4, mL_1, mL_2, mL_3, mL_4, mK, Nat.reduceEqDiff, if_true, if_false, ite_true, ite_false, true_and, Nat.reduceLT, reduceIte, reduceCtorEq, cl_0, cl_1, cl_2, cl_3, cl_4, cl_5, cl_6, cl_7, cl_8, cl_9, cl_10, cl_11, cl_12, cl_13, cl_14, cl_15, vl_0_5585, vl_1_5585, vl_2_5585, vl_3_5585, vl_4_5585, vl_5_5585, vl_6_5585, vl_0_7, vl_1_7, vl_2_7, vl_3_7, vl_4_7, vl_5_7, vl_6_7]
        rw [nIadd, nI_clamp (by omega)]
        refine ⟨vp_in_nI (by omega) (by omega), fun y ey => ?_⟩
        rw [ey, nI_1]
        have hF2 : Fx [] [] [52] [] P (mA P 52 (upd (P.2.2.1 52) (10 * n + k) 0)) := Fx.a 52 _
        have e52 : ∀ i, (mA P 52 (upd (P.2.2.1 52) (10 * n + k) 0)).2.2.1 52 i = upd (P.2.2.1 52) (10 * n + k) 0 i := fun i => by simp [mA_3]
        refine ih (mA P 52 (upd (P.2.2.1 52) (10 * n + k) 0), k + 1) ⟨(hP.tr hF2).le (by simp) (by simp) (by simp) (by simp), (hF2.1 21 (by simp)).trans p21, fun i hi => ?_, fun i hi => ?_, by dsimp only; omega⟩ (by dsimp only; omega)
        · rw [e52, upd_ne _ _ (by omega)]; exact p1 i hi
        · rw [e52]
          dsimp only at hi
          by_cases e : i = k
          · subst e; rw [upd_self]
          · rw [upd_ne _ _ (by omega)]; exact p2 i (by omega)
  refine loop_m (σ := Int32 × Nat) (fun m s => w_X12_readOrder_b4 q m (ov S o ad M) o s.1 (nI s.2)) (fun s => s.2 ≤ 4 ∧ (s.1 = -1 ∨ ¬ M.1 16 = 0)) (fun s => 4 - s.2) ?_ (-1, 0) ⟨by omega, Or.inl rfl⟩
  rintro m ⟨x, i⟩ ⟨h1, h2⟩ ih
  dsimp only at h1 h2 ih ⊢
  rw [w_X12_readOrder_b4]
  unfold w_X12_readOrder_b53 w_X12_readOrder_b27
  simp (disch := decide) only [oi_gI, oi_gJ, oi_gP, oi_pI, oi_pZ, oi_pJ, oi_oK, oi_aI hd, oi_aZ hd, oi_aJ hd, oi_sI hd, oi_sZ hd, oi_sJ hd, mI_1, mI_2, mJ_1, mJ_2, mJ_3, mA_1, mA_2, mA_3, mA_4, mL_1, mL_2, mL_3, mL_4, mK, Nat.reduceEqDiff, if_true, if_false, ite_true, ite_false, true_and, Nat.reduceLT, reduceIte, reduceCtorEq, cl_0, cl_1, cl_2, cl_3, cl_4, cl_5, cl_6, cl_7, cl_8, cl_9, cl_10, cl_11, cl_12, cl_13, cl_14, cl_15, vl_0_5585, vl_1_5585, vl_2_5585, vl_3_5585, vl_4_5585, vl_5_5585, vl_6_5585, vl_0_7, vl_1_7, vl_2_7, vl_3_7, vl_4_7, vl_5_7, vl_6_7]
  rw [h21, lit_nI 12, nI_leI (by omega) (by omega), lit_nI 4, nI_leI (by omega) (by omega)]
  refine ⟨fun _ => ⟨fun _ => k54 _ _ (fun z => absurd rfl z), fun c1 => ⟨fun _ => k54 _ _ (fun z => absurd rfl z), fun c2 => k54 _ _ (fun _ => ⟨?_, by omega⟩)⟩⟩, fun c1 => ⟨vp_in_nI (by omega) (by omega), s_isWord hd (fun h16 => ⟨fun z => absurd z (by decide), fun _ y ey => ?_⟩) ⟨fun _ y ey => ?_, fun z => absurd rfl z⟩⟩⟩
  · rcases h2 with e | e
    · exact absurd e c1
    · exact e
  · rw [ey, nI_1]
    exact ih (_, i + 1) ⟨by dsimp only; omega, Or.inr h16⟩ (by dsimp only; omega)
  · rw [ey, nI_1]
    exact ih (x, i + 1) ⟨by dsimp only; omega, h2⟩ (by dsimp only; omega)
end REF31
