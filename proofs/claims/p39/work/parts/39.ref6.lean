/-! LAYER 2, the reference: more calls -/
section REF8
variable {S : hS} {o : Nat} {ad : Nat → Nat} {M : mS}
theorem s_in01 {q : Int32 → hS → Prop} {T : hS} {a lo hi : Int64} (h1 : q 1 T) (h0 : q 0 T) : w_X12_in q T a lo hi := s_in (fun _ _ => h1) (fun _ => h0)
theorem rg_in {z : Int32} (m : Nat) (hm : m < 2 ^ 31) (h1 : 0 ≤ z.toInt) (h2 : z.toInt < m) : ∃ n : Nat, n < m ∧ z = nI n := by
  obtain ⟨n, h3, h4, -⟩ := rg_nI (z := z) (a := 0) (b := m - 1) ⟨h1, by omega⟩ (by omega) (by omega)
  exact ⟨n, by omega, h4⟩
theorem p_rust (hM : mOk M) {q : Int32 → hS → Prop} (h : ∀ r N, mOk N → q r (ov S o ad N)) : w_X12_rust q (ov S o ad M) o := by
  unfold w_X12_rust
  simp (disch := decide) only [oi_pI, oi_gI]
  exact h _ _ (mOk_i hM (by omega))
theorem p_fault (hM : mOk M) {q : Int32 → hS → Prop} (h : ∀ r N, mOk N → q r (ov S o ad N)) : w_X12_fault q (ov S o ad M) o := by
  unfold w_X12_fault
  simp (disch := decide) only [oi_pI, oi_gI]
  exact h _ _ (mOk_i hM (by omega))
theorem p_status (hM : mOk M) {q : Int32 → hS → Prop} (h : ∀ r N, mOk N → q r (ov S o ad N)) : w_X12_status q (ov S o ad M) o := by
  unfold w_X12_status
  simp (disch := decide) only [oi_pI, oi_gI]
  exact h _ _ (mOk_i hM (by omega))
theorem p_stopped (hM : mOk M) {q : Int32 → hS → Prop} (h : ∀ r N, mOk N → q r (ov S o ad N)) : w_X12_stopped q (ov S o ad M) o := by
  unfold w_X12_stopped
  simp (disch := decide) only [oi_pI, oi_gI]
  exact h _ _ (mOk_i hM (by omega))
theorem p_of (hd : mD o ad) (hM : mOk M) {q : Int32 → hS → Prop} {a b : Int32} (h : ∀ r N, mOk N → q r (ov S o ad N)) : w_X12_of q (ov S o ad M) o a b := by
  have hM0 : mOk (mI M 0 0) := mOk_i hM (by omega)
  unfold w_X12_of
  simp (disch := decide) only [oi_gI, oi_gJ, oi_gP, oi_pI, oi_pZ, oi_pJ, oi_oK, oi_aI hd, oi_aZ hd, oi_aJ hd, oi_sI hd, oi_sZ hd, oi_sJ hd, mI_1, mI_2, mJ_1, mJ_2, mJ_3, mA_1, mA_2, mA_3, mA_4, mL_1, mL_2, mL_3, mL_4, mK, Nat.reduceEqDiff, if_true, if_false, ite_true, ite_false, true_and, Nat.reduceLT, reduceIte, reduceCtorEq, cl_0, cl_1, cl_2, cl_3, cl_4, cl_5, cl_6, cl_7, cl_8, cl_9, cl_10, cl_11, cl_12, cl_13, cl_14, cl_15, vl_0_5585, vl_1_5585, vl_2_5585, vl_3_5585, vl_4_5585, vl_5_5585, vl_6_5585, vl_0_7, vl_1_7, vl_2_7, vl_3_7, vl_4_7, vl_5_7, vl_6_7]
  refine s_isPerson hd (fun h1 h2 => ⟨fun _ => ?_, fun z => absurd z (by decide)⟩) (fun _ => ⟨fun z => absurd rfl z, fun _ => h _ _ hM0⟩)
  have := hM0.1.2.1.2
  obtain ⟨p, hp, rfl⟩ := rg_in 8 (by omega) h1 (by omega)
  intro y _
  simp (disch := decide) only [oi_gI, oi_gJ, oi_gP, oi_pI, oi_pZ, oi_pJ, oi_oK, oi_aI hd, oi_aZ hd, oi_aJ hd, oi_sI hd, oi_sZ hd, oi_sJ hd, mI_1, mI_2, mJ_1, mJ_2, mJ_3, mA_1, mA_2, mA_3, mA_4, mL_1, mL_2, mL_3, mL_4, mK, Nat.reduceEqDiff, if_true, if_false, ite_true, ite_false, true_and, Nat.reduceLT, reduceIte, reduceCtorEq, cl_0, cl_1, cl_2, cl_3, cl_4, cl_5, cl_6, cl_7, cl_8, cl_9, cl_10, cl_11, cl_12, cl_13, cl_14, cl_15, vl_0_5585, vl_1_5585, vl_2_5585, vl_3_5585, vl_4_5585, vl_5_5585, vl_6_5585, vl_0_7, vl_1_7, vl_2_7, vl_3_7, vl_4_7, vl_5_7, vl_6_7]
  rw [lit_nI 138, lit_nI 146, lit_nI 14, lit_nI 154, lit_nI 162, nIadd, nIadd, nIadd, nIadd, nIadd]
  exact ⟨fun _ => ⟨vp_in_nI (by omega) (by omega), h _ _ hM0⟩, fun _ => ⟨vp_in_nI (by omega) (by omega), h _ _ hM0⟩, fun _ => ⟨vp_in_nI (by omega) (by omega), h _ _ hM0⟩, fun _ => ⟨vp_in_nI (by omega) (by omega), h _ _ hM0⟩, fun _ => ⟨vp_in_nI (by omega) (by omega), h _ _ hM0⟩, fun _ => s_lives hd hp (fun _ => ⟨fun _ => h _ _ hM0, fun _ => h _ _ hM0⟩) (fun _ => ⟨fun _ => h _ _ hM0, fun _ => h _ _ hM0⟩), fun _ => h _ _ hM0⟩
theorem p_want24 (hd : mD o ad) (hM : mOk M) {q : Int32 → hS → Prop} {a b : Int32} (hb : rg b (-1) 5) (h : ∀ r N, mOk N → q r (ov S o ad N)) : w_X12_want_b24 q (ov S o ad M) o a b := by
  unfold w_X12_want_b24
  refine ⟨ov_oK, s_isPerson hd (fun h1 h2 => ⟨fun _ => ?_, fun z => absurd z (by decide)⟩) (fun _ => ⟨fun z => absurd rfl z, fun _ => ⟨ov_oK, g_tell hd hM (by decide) (h _)⟩⟩)⟩
  have := hM.1.2.1.2
  obtain ⟨p, hp, rfl⟩ := rg_in 8 (by omega) h1 (by omega)
  simp (disch := decide) only [oi_gI, oi_gJ, oi_gP, oi_pI, oi_pZ, oi_pJ, oi_oK, oi_aI hd, oi_aZ hd, oi_aJ hd, oi_sI hd, oi_sZ hd, oi_sJ hd, mI_1, mI_2, mJ_1, mJ_2, mJ_3, mA_1, mA_2, mA_3, mA_4, mL_1, mL_2, mL_3, mL_4, mK, Nat.reduceEqDiff, if_true, if_false, ite_true, ite_false, true_and, Nat.reduceLT, reduceIte, reduceCtorEq, cl_0, cl_1, cl_2, cl_3, cl_4, cl_5, cl_6, cl_7, cl_8, cl_9, cl_10, cl_11, cl_12, cl_13, cl_14, cl_15, vl_0_5585, vl_1_5585, vl_2_5585, vl_3_5585, vl_4_5585, vl_5_5585, vl_6_5585, vl_0_7, vl_1_7, vl_2_7, vl_3_7, vl_4_7, vl_5_7, vl_6_7]
  rw [lit_nI 154, nIadd, nI_clamp (by omega)]
  exact ⟨vp_in_nI (by omega) (by omega), g_tell hd (mOk_r hM (rowOk_upd hM.1 (by omega) (by omega) (fun e => by omega) (fun e => by omega) (fun e => by omega) (fun e => by omega) (fun e => by omega) (fun _ _ => hb) (fun e => by omega))) (by decide) (h _)⟩
theorem p_want (hd : mD o ad) (hM : mOk M) {q : Int32 → hS → Prop} {a b : Int32} (h : ∀ r N, mOk N → q r (ov S o ad N)) : w_X12_want q (ov S o ad M) o a b := by
  have hM0 : mOk (mI M 0 0) := mOk_i hM (by omega)
  unfold w_X12_want
  simp (disch := decide) only [oi_gI, oi_gJ, oi_gP, oi_pI, oi_pZ, oi_pJ, oi_oK, oi_aI hd, oi_aZ hd, oi_aJ hd, oi_sI hd, oi_sZ hd, oi_sJ hd, mI_1, mI_2, mJ_1, mJ_2, mJ_3, mA_1, mA_2, mA_3, mA_4, mL_1, mL_2, mL_3, mL_4, mK, Nat.reduceEqDiff, if_true, if_false, ite_true, ite_false, true_and, Nat.reduceLT, reduceIte, reduceCtorEq, cl_0, cl_1, cl_2, cl_3, cl_4, cl_5, cl_6, cl_7, cl_8, cl_9, cl_10, cl_11, cl_12, cl_13, cl_14, cl_15, vl_0_5585, vl_1_5585, vl_2_5585, vl_3_5585, vl_4_5585, vl_5_5585, vl_6_5585, vl_0_7, vl_1_7, vl_2_7, vl_3_7, vl_4_7, vl_5_7, vl_6_7]
  refine ⟨fun e => p_want24 hd hM0 (by rw [e]; exact ⟨by decide, by decide⟩) h, fun _ => s_isHouse hd (fun h1 h2 => ⟨fun _ => p_want24 hd hM0 ⟨by omega, ?_⟩ h, fun z => absurd z (by decide)⟩) (fun _ => ⟨fun z => absurd rfl z, fun _ => ⟨ov_oK, g_tell hd hM0 (by decide) (h _)⟩⟩)⟩
  have := hM0.1.1.2
  omega
theorem p_will (hd : mD o ad) (hM : mOk M) {q : Int32 → hS → Prop} {a b : Int32} (h : ∀ r N, mOk N → q r (ov S o ad N)) : w_X12_will q (ov S o ad M) o a b := by
  have hM0 : mOk (mI M 0 0) := mOk_i hM (by omega)
  have k44 : w_X12_will_b44 q (ov S o ad (mI M 0 0)) o := ⟨ov_oK, g_tell hd hM0 (by decide) (h _)⟩
  have k50 : w_X12_will_b50 q (ov S o ad (mI M 0 0)) o a b := by
    refine ⟨ov_oK, s_isPerson hd (fun h1 h2 => ⟨fun z => absurd z (by decide), fun _ => ⟨ov_oK, ?_⟩⟩) (fun _ => ⟨fun _ => ⟨ov_oK, g_tell hd hM0 (by decide) (h _)⟩, fun z => absurd rfl z⟩)⟩
    have := hM0.1.2.1.2
    obtain ⟨p, hp, rfl⟩ := rg_in 8 (by omega) h1 (by omega)
    rw [lit_nI 162, nIadd]
    exact f_change hd (by omega) (fun N hF e => h _ N (mOk_row hF hM0 (by rw [e]; exact rowOk_free (by unfold rCon; omega) hM0.1) (by simp)))
  unfold w_X12_will
  simp (disch := decide) only [oi_gI, oi_gJ, oi_gP, oi_pI, oi_pZ, oi_pJ, oi_oK, oi_aI hd, oi_aZ hd, oi_aJ hd, oi_sI hd, oi_sZ hd, oi_sJ hd, mI_1, mI_2, mJ_1, mJ_2, mJ_3, mA_1, mA_2, mA_3, mA_4, mL_1, mL_2, mL_3, mL_4, mK, Nat.reduceEqDiff, if_true, if_false, ite_true, ite_false, true_and, Nat.reduceLT, reduceIte, reduceCtorEq, cl_0, cl_1, cl_2, cl_3, cl_4, cl_5, cl_6, cl_7, cl_8, cl_9, cl_10, cl_11, cl_12, cl_13, cl_14, cl_15, vl_0_5585, vl_1_5585, vl_2_5585, vl_3_5585, vl_4_5585, vl_5_5585, vl_6_5585, vl_0_7, vl_1_7, vl_2_7, vl_3_7, vl_4_7, vl_5_7, vl_6_7]
  exact s_in01 ⟨fun z => absurd z (by decide), fun _ => s_in01 ⟨fun z => absurd z (by decide), fun _ => s_is ⟨fun z => absurd z (by decide), fun _ => k44⟩ ⟨fun _ => k50, fun z => absurd rfl z⟩⟩ ⟨fun _ => k50, fun z => absurd rfl z⟩⟩ ⟨fun _ => k44, fun z => absurd rfl z⟩
theorem mOk_u0 (hM : mOk M) : mOk (mI M 8 0) := by
  refine mOk_und (Fx.i 8 0) hM ?_ hM.2.2.1 hM.2.2.2.2.1 hM.1 (by simp)
  show rg 0 0 16
  exact ⟨by decide, by decide⟩
theorem p_right (hd : mD o ad) (hM : mOk M) {q : Int32 → hS → Prop} {a b c : Int32} (h : ∀ r N, mOk N → q r (ov S o ad N)) : w_X12_right q (ov S o ad M) o a b c := by
  have hM0 : mOk (mI M 0 0) := mOk_i hM (by omega)
  have hM8 := mOk_u0 hM0
  have k39 : w_X12_right_b39 q (ov S o ad (mI M 0 0)) o := ⟨ov_oK, g_tell hd hM0 (by decide) (h _)⟩
  have k72 : w_X12_right_b72 q (ov S o ad (mI M 0 0)) o := ⟨ov_oK, g_tell hd hM0 (by decide) (h _)⟩
  unfold w_X12_right
  simp (disch := decide) only [oi_gI, oi_gJ, oi_gP, oi_pI, oi_pZ, oi_pJ, oi_oK, oi_aI hd, oi_aZ hd, oi_aJ hd, oi_sI hd, oi_sZ hd, oi_sJ hd, mI_1, mI_2, mJ_1, mJ_2, mJ_3, mA_1, mA_2, mA_3, mA_4, mL_1, mL_2, mL_3, mL_4, mK, Nat.reduceEqDiff, if_true, if_false, ite_true, ite_false, true_and, Nat.reduceLT, reduceIte, reduceCtorEq, cl_0, cl_1, cl_2, cl_3, cl_4, cl_5, cl_6, cl_7, cl_8, cl_9, cl_10, cl_11, cl_12, cl_13, cl_14, cl_15, vl_0_5585, vl_1_5585, vl_2_5585, vl_3_5585, vl_4_5585, vl_5_5585, vl_6_5585, vl_0_7, vl_1_7, vl_2_7, vl_3_7, vl_4_7, vl_5_7, vl_6_7]
  refine s_in01 ⟨fun _ => ⟨ov_oK, s_isPerson hd (fun h1 h2 => ⟨fun z => absurd z (by decide), fun _ => ⟨ov_oK, s_isHouse hd (fun h3 h4 => ⟨fun _ => ⟨ov_oK, ?_⟩, fun z => absurd z (by decide)⟩) (fun _ => ⟨fun z => absurd rfl z, fun _ => k39⟩)⟩⟩) (fun _ => ⟨fun _ => k39, fun z => absurd rfl z⟩)⟩, fun z => absurd z (by decide)⟩ ⟨fun z => absurd rfl z, fun _ => ⟨ov_oK, g_tell hd hM0 (by decide) (h _)⟩⟩
  have b1 := hM0.1.2.1.2
  have b2 := hM0.1.1.2
  obtain ⟨p, hp, rfl⟩ := rg_in 8 (by omega) h1 (by omega)
  obtain ⟨e, he, rfl⟩ := rg_in 6 (by omega) h3 (by omega)
  refine s_lives hd hp (fun _ => ⟨fun z => absurd z (by decide), fun _ => ?_⟩) (fun _ => ⟨fun _ => k72, fun z => absurd rfl z⟩)
  simp (disch := decide) only [oi_gI, oi_gJ, oi_gP, oi_pI, oi_pZ, oi_pJ, oi_oK, oi_aI hd, oi_aZ hd, oi_aJ hd, oi_sI hd, oi_sZ hd, oi_sJ hd, mI_1, mI_2, mJ_1, mJ_2, mJ_3, mA_1, mA_2, mA_3, mA_4, mL_1, mL_2, mL_3, mL_4, mK, Nat.reduceEqDiff, if_true, if_false, ite_true, ite_false, true_and, Nat.reduceLT, reduceIte, reduceCtorEq, cl_0, cl_1, cl_2, cl_3, cl_4, cl_5, cl_6, cl_7, cl_8, cl_9, cl_10, cl_11, cl_12, cl_13, cl_14, cl_15, vl_0_5585, vl_1_5585, vl_2_5585, vl_3_5585, vl_4_5585, vl_5_5585, vl_6_5585, vl_0_7, vl_1_7, vl_2_7, vl_3_7, vl_4_7, vl_5_7, vl_6_7]
  rw [lit_nI 78, lit_nI 30, lit_nI 6, nImul, nIadd, nIadd, nIadd, nIadd]
  refine ⟨vp_in_nI (by omega) (by omega), fun _ => f_change hd (by omega) (fun N hF e => h _ N (mOk_row hF hM8 (by rw [e]; exact rowOk_free (by unfold rCon; omega) hM8.1) (by simp))), fun _ => k72⟩
theorem p_terms60 (hd : mD o ad) (hM : mOk M) {q : Int32 → hS → Prop} {a : Nat} {b t : Int32} (ha : a < 3) (ht : ¬ t = 0 → a = 0 → rg b 0 999) (h : ∀ r N, mOk N → q r (ov S o ad N)) : w_X12_terms_b60 q (ov S o ad M) o (nI a) b t := by
  have hM8 := mOk_u0 hM
  unfold w_X12_terms_b60
  simp (disch := decide) only [oi_gI, oi_gJ, oi_gP, oi_pI, oi_pZ, oi_pJ, oi_oK, oi_aI hd, oi_aZ hd, oi_aJ hd, oi_sI hd, oi_sZ hd, oi_sJ hd, mI_1, mI_2, mJ_1, mJ_2, mJ_3, mA_1, mA_2, mA_3, mA_4, mL_1, mL_2, mL_3, mL_4, mK, Nat.reduceEqDiff, if_true, if_false, ite_true, ite_false, true_and, Nat.reduceLT, reduceIte, reduceCtorEq, cl_0, cl_1, cl_2, cl_3, cl_4, cl_5, cl_6, cl_7, cl_8, cl_9, cl_10, cl_11, cl_12, cl_13, cl_14, cl_15, vl_0_5585, vl_1_5585, vl_2_5585, vl_3_5585, vl_4_5585, vl_5_5585, vl_6_5585, vl_0_7, vl_1_7, vl_2_7, vl_3_7, vl_4_7, vl_5_7, vl_6_7]
  rw [lit_nI 5, nIadd]
  refine ⟨fun c => f_change hd (by omega) (fun N hF e => h _ N (mOk_row hF hM8 ?_ (by simp))), fun _ => g_tell hd hM (by decide) (h _)⟩
  rw [e]
  exact rowOk_upd hM8.1 (by omega) (by omega) (fun e => by omega) (fun e => by omega) (fun e => by omega) (fun e => by omega) (fun e => ht c (by omega)) (fun e => by omega) (fun e => by omega)
theorem p_terms (hd : mD o ad) (hM : mOk M) {q : Int32 → hS → Prop} {a b : Int32} (h : ∀ r N, mOk N → q r (ov S o ad N)) : w_X12_terms q (ov S o ad M) o a b := by
  have hM0 : mOk (mI M 0 0) := mOk_i hM (by omega)
  have k59 : w_X12_terms_b59 q (ov S o ad (mI M 0 0)) o a b := by
    unfold w_X12_terms_b59 w_X12_terms_b60
    exact ⟨fun z => absurd rfl z, fun _ => ⟨ov_oK, g_tell hd hM0 (by decide) (h _)⟩⟩
  unfold w_X12_terms
  simp (disch := decide) only [oi_gI, oi_gJ, oi_gP, oi_pI, oi_pZ, oi_pJ, oi_oK, oi_aI hd, oi_aZ hd, oi_aJ hd, oi_sI hd, oi_sZ hd, oi_sJ hd, mI_1, mI_2, mJ_1, mJ_2, mJ_3, mA_1, mA_2, mA_3, mA_4, mL_1, mL_2, mL_3, mL_4, mK, Nat.reduceEqDiff, if_true, if_false, ite_true, ite_false, true_and, Nat.reduceLT, reduceIte, reduceCtorEq, cl_0, cl_1, cl_2, cl_3, cl_4, cl_5, cl_6, cl_7, cl_8, cl_9, cl_10, cl_11, cl_12, cl_13, cl_14, cl_15, vl_0_5585, vl_1_5585, vl_2_5585, vl_3_5585, vl_4_5585, vl_5_5585, vl_6_5585, vl_0_7, vl_1_7, vl_2_7, vl_3_7, vl_4_7, vl_5_7, vl_6_7]
  refine ⟨fun _ => ⟨fun _ => ⟨fun _ => k59, fun e => ?_⟩, fun e => ?_⟩, fun e => ?_⟩
  · subst e
    exact s_in01 ⟨fun z => absurd z (by decide), fun _ => p_terms60 hd hM0 (a := 2) (by omega) (fun _ z => by omega) h⟩ ⟨fun _ => k59, fun z => absurd rfl z⟩
  · subst e
    exact s_in01 (p_terms60 hd hM0 (a := 1) (by omega) (fun _ z => by omega) h) (p_terms60 hd hM0 (a := 1) (by omega) (fun _ z => by omega) h)
  · subst e
    refine s_in (fun x y => p_terms60 hd hM0 (a := 0) (by omega) (fun _ _ => ?_) h) (fun _ => p_terms60 hd hM0 (a := 0) (by omega) (fun z => absurd rfl z) h)
    rw [i64toInt] at x y
    exact ⟨by simpa using x, by simpa using y⟩
theorem p_forget (hd : mD o ad) (hM : mOk M) {q : Int32 → hS → Prop} (h : ∀ r N, mOk N → q r (ov S o ad N)) : w_X12_forget q (ov S o ad M) o := by
  have hM0 : mOk (mI M 0 0) := mOk_i hM (by omega)
  unfold w_X12_forget
  simp (disch := decide) only [oi_gI, oi_gJ, oi_gP, oi_pI, oi_pZ, oi_pJ, oi_oK, oi_aI hd, oi_aZ hd, oi_aJ hd, oi_sI hd, oi_sZ hd, oi_sJ hd, mI_1, mI_2, mJ_1, mJ_2, mJ_3, mA_1, mA_2, mA_3, mA_4, mL_1, mL_2, mL_3, mL_4, mK, Nat.reduceEqDiff, if_true, if_false, ite_true, ite_false, true_and, Nat.reduceLT, reduceIte, reduceCtorEq, cl_0, cl_1, cl_2, cl_3, cl_4, cl_5, cl_6, cl_7, cl_8, cl_9, cl_10, cl_11, cl_12, cl_13, cl_14, cl_15, vl_0_5585, vl_1_5585, vl_2_5585, vl_3_5585, vl_4_5585, vl_5_5585, vl_6_5585, vl_0_7, vl_1_7, vl_2_7, vl_3_7, vl_4_7, vl_5_7, vl_6_7]
  exact h _ _ (mOk_r hM0 (rowOk_upd hM0.1 (by omega) (by omega) (fun e => by omega) (fun e => by omega) (fun _ => ⟨by decide, by decide⟩) (fun e => by omega) (fun e => by omega) (fun e => by omega) (fun e => by omega)))
theorem p_clue (hd : mD o ad) (hM : mOk M) {q : Int32 → hS → Prop} {a b : Int32} (h : ∀ r N, mOk N → q r (ov S o ad N)) : w_X12_clue q (ov S o ad M) o a b := by
  have hM0 : mOk (mI M 0 0) := mOk_i hM (by omega)
  unfold w_X12_clue
  simp (disch := decide) only [oi_gI, oi_gJ, oi_gP, oi_pI, oi_pZ, oi_pJ, oi_oK, oi_aI hd, oi_aZ hd, oi_aJ hd, oi_sI hd, oi_sZ hd, oi_sJ hd, mI_1, mI_2, mJ_1, mJ_2, mJ_3, mA_1, mA_2, mA_3, mA_4, mL_1, mL_2, mL_3, mL_4, mK, Nat.reduceEqDiff, if_true, if_false, ite_true, ite_false, true_and, Nat.reduceLT, reduceIte, reduceCtorEq, cl_0, cl_1, cl_2, cl_3, cl_4, cl_5, cl_6, cl_7, cl_8, cl_9, cl_10, cl_11, cl_12, cl_13, cl_14, cl_15, vl_0_5585, vl_1_5585, vl_2_5585, vl_3_5585, vl_4_5585, vl_5_5585, vl_6_5585, vl_0_7, vl_1_7, vl_2_7, vl_3_7, vl_4_7, vl_5_7, vl_6_7]
  refine s_in01 ⟨fun _ => ⟨ov_oK, s_isHouse hd (fun h1 h2 => ⟨fun _ => ?_, fun z => absurd z (by decide)⟩) (fun _ => ⟨fun z => absurd rfl z, fun _ => ⟨ov_oK, g_tell hd hM0 (by decide) (h _)⟩⟩)⟩, fun z => absurd z (by decide)⟩ ⟨fun z => absurd rfl z, fun _ => ⟨ov_oK, g_tell hd hM0 (by decide) (h _)⟩⟩
  have b2 := hM0.1.1.2
  simp (disch := decide) only [oi_gI, oi_gJ, oi_gP, oi_pI, oi_pZ, oi_pJ, oi_oK, oi_aI hd, oi_aZ hd, oi_aJ hd, oi_sI hd, oi_sZ hd, oi_sJ hd, mI_1, mI_2, mJ_1, mJ_2, mJ_3, mA_1, mA_2, mA_3, mA_4, mL_1, mL_2, mL_3, mL_4, mK, Nat.reduceEqDiff, if_true, if_false, ite_true, ite_false, true_and, Nat.reduceLT, reduceIte, reduceCtorEq, cl_0, cl_1, cl_2, cl_3, cl_4, cl_5, cl_6, cl_7, cl_8, cl_9, cl_10, cl_11, cl_12, cl_13, cl_14, cl_15, vl_0_5585, vl_1_5585, vl_2_5585, vl_3_5585, vl_4_5585, vl_5_5585, vl_6_5585, vl_0_7, vl_1_7, vl_2_7, vl_3_7, vl_4_7, vl_5_7, vl_6_7]
  obtain ⟨n, hn, en, -⟩ := rg_nI (b := 6) hM.1.2.2.1 (by omega) (by omega)
  rw [en]
  refine ⟨fun c => ?_, fun _ => g_tell hd hM0 (by decide) (h _)⟩
  have hn6 : n < 6 := by
    have : n ≠ 6 := fun e => c (by rw [e]; rfl)
    omega
  simp (disch := decide) only [oi_gI, oi_gJ, oi_gP, oi_pI, oi_pZ, oi_pJ, oi_oK, oi_aI hd, oi_aZ hd, oi_aJ hd, oi_sI hd, oi_sZ hd, oi_sJ hd, mI_1, mI_2, mJ_1, mJ_2, mJ_3, mA_1, mA_2, mA_3, mA_4, mL_1, mL_2, mL_3, mL_4, mK, Nat.reduceEqDiff, if_true, if_false, ite_true, ite_false, true_and, Nat.reduceLT, reduceIte, reduceCtorEq, cl_0, cl_1, cl_2, cl_3, cl_4, cl_5, cl_6, cl_7, cl_8, cl_9, cl_10, cl_11, cl_12, cl_13, cl_14, cl_15, vl_0_5585, vl_1_5585, vl_2_5585, vl_3_5585, vl_4_5585, vl_5_5585, vl_6_5585, vl_0_7, vl_1_7, vl_2_7, vl_3_7, vl_4_7, vl_5_7, vl_6_7, mA_mA]
  rw [lit_nI 170, lit_nI 2, nImul, nIadd, nI_1, nI_1, nI_clamp (by omega), nI_clamp (by omega)]
  have hf := rowOk_free (i := 170 + 2 * n + 1) (v := b) (by unfold rCon; omega) (rowOk_upd (i := 170 + 2 * n) (v := a) hM0.1 (by omega) (by omega) (fun e => by omega) (fun e => by omega) (fun e => by omega) (fun e => by omega) (fun e => by omega) (fun e => by omega) (fun _ _ => ⟨h1, by omega⟩))
  have e2 : upd (upd ((mI M 0 0).2.2.1 3) (170 + 2 * n) a) (170 + 2 * n + 1) b 2 = nI n := by
    rw [upd_ne _ _ (by omega), upd_ne _ _ (by omega)]; exact en
  have c2 : (nI 2).toNatClampNeg = 2 := nI_clamp (by omega)
  simp only [mI_2] at hf e2
  try rw [c2]
  rw [e2, nI_1]
  refine ⟨vp_in_nI (by omega) (by omega), vp_in_nI (by omega) (by omega), g_tell hd (mOk_r hM0 (rowOk_upd hf (by omega) (by omega) (fun e => by omega) (fun e => by omega) (fun _ => ⟨?_, ?_⟩) (fun e => by omega) (fun e => by omega) (fun e => by omega) (fun e => by omega))) ?_ (h _)⟩
  · rw [nI_toInt (by omega)]; omega
  · rw [nI_toInt (by omega)]; omega
  · rw [nI_toInt (by omega)]; omega
end REF8
