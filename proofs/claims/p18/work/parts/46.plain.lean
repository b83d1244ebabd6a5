/-! LAYER 2, the reference: who, look, amend, given, likely -/
theorem sh1 : ∀ P, P < 9 → (1 : Int32) <<< (nI P &&& 31) = nI (2 ^ P) := by decide +kernel
theorem nI_pm1 (j : Nat) : nI (j + 1) - 1 = nI j := nI_pred j
theorem nI_am1 (j : Nat) : nI j + (-1) = nI j - 1 := (Int32.sub_eq_add_neg _ _).symm
section REF15
variable {S : hS} {o : Nat} {ad : Nat → Nat} {M : mS} {mT : mS}
theorem s_timesTold (hd : mD o ad) (hr : rg (M.2.2.1 3 2) 0 6) {q : Int32 → hS → Prop} {x : Int32} (h : ∀ r, q r (ov S o ad M)) : w_X12_timesTold q (ov S o ad M) o x := by
  obtain ⟨m, hm, em⟩ := rg_inR (b := 6) hr (by omega) (by omega)
  refine loop_m (σ := Int32 × Nat) (fun n s => w_X12_timesTold_b4 q n (ov S o ad M) o x s.1 (nI s.2)) (fun s => s.2 ≤ m) (fun s => m - s.2) ?_ (0, 0) (Nat.zero_le _)
  rintro n ⟨v, i⟩ hi ih
  dsimp only at hi ih ⊢
  rw [w_X12_timesTold_b4]
  simp (disch := decide) only [oi_gI, oi_gJ, oi_gP, oi_pI, oi_pZ, oi_pJ, oi_oK, oi_aI hd, oi_aZ hd, oi_aJ hd, oi_sI hd, oi_sZ hd, oi_sJ hd, mI_1, mI_2, mJ_1, mJ_2, mJ_3, mA_1, mA_2, mA_3, mA_4, mL_1, mL_2, mL_3, mL_4, mK, Nat.reduceEqDiff, if_true, if_false, ite_true, ite_false, true_and, Nat.reduceLT, reduceIte, reduceCtorEq, cl_0, cl_1, cl_2, cl_3, cl_4, cl_5, cl_6, cl_7, cl_8, cl_9, cl_10, cl_11, cl_12, cl_13, cl_14, cl_15, vl_0_5585, vl_1_5585, vl_2_5585, vl_3_5585, vl_4_5585, vl_5_5585, vl_6_5585, vl_0_7, vl_1_7, vl_2_7, vl_3_7, vl_4_7, vl_5_7, vl_6_7]
  rw [em, nI_leI (by omega) (by omega), lit_nI 170, lit_nI 2, nImul, nIadd]
  refine ⟨fun _ => h _, fun c => ⟨vp_in_nI (by omega) (by omega), fun _ y _ z ez => ?_, fun _ y _ z ez => ?_⟩⟩
  all_goals
    rw [ez, nI_1]
    exact ih (y, i + 1) (by dsimp only; omega) (by dsimp only; omega)
theorem s_canHaveRung (hd : mD o ad) (hM : mOk mT M) {q : Int32 → hS → Prop} {p : Nat} (hp : p < 8) (h : ∀ r, q r (ov S o ad M)) : w_X12_canHaveRung q (ov S o ad M) o (nI p) := by
  obtain ⟨m, hm, em⟩ := rg_inR (b := 6) hM.1.2.2.1 (by omega) (by omega)
  have key : ∀ x0 a0 : Int32, (x0 = 0 ∨ x0 = 1) → ∃ n, w_X12_canHaveRung_b20 q n (ov S o ad M) o (nI p) x0 a0 0 := by
    intro x0 a0 hx0
    refine loop_m (σ := Int32 × Int32 × Nat) (fun n s => w_X12_canHaveRung_b20 q n (ov S o ad M) o (nI p) s.1 s.2.1 (nI s.2.2)) (fun s => (s.1 = 0 ∨ s.1 = 1) ∧ s.2.2 ≤ m) (fun s => m - s.2.2) ?_ (x0, a0, 0) ⟨hx0, Nat.zero_le _⟩
    rintro n ⟨x, a, i⟩ ⟨hx, hi⟩ ih
    dsimp only at hx hi ih ⊢
    rw [w_X12_canHaveRung_b20]
    simp (disch := decide) only [oi_gI, oi_gJ, oi_gP, oi_pI, oi_pZ, oi_pJ, oi_oK, oi_aI hd, oi_aZ hd, oi_aJ hd, oi_sI hd, oi_sZ hd, oi_sJ hd, mI_1, mI_2, mJ_1, mJ_2, mJ_3, mA_1, mA_2, mA_3, mA_4, mL_1, mL_2, mL_3, mL_4, mK, Nat.reduceEqDiff, if_true, if_false, ite_true, ite_false, true_and, Nat.reduceLT, reduceIte, reduceCtorEq, cl_0, cl_1, cl_2, cl_3, cl_4, cl_5, cl_6, cl_7, cl_8, cl_9, cl_10, cl_11, cl_12, cl_13, cl_14, cl_15, vl_0_5585, vl_1_5585, vl_2_5585, vl_3_5585, vl_4_5585, vl_5_5585, vl_6_5585, vl_0_7, vl_1_7, vl_2_7, vl_3_7, vl_4_7, vl_5_7, vl_6_7]
    rw [em, nI_leI (by omega) (by omega), lit_nI 170, lit_nI 2, lit_nI 126, nImul, nIadd, nI_clamp (by omega)]
    refine ⟨fun _ => ⟨hx, h _⟩, fun c => ?_⟩
    obtain ⟨e, he, ee⟩ := rg_inR (b := 5) (hM.1.2.2.2.2.2.2.2.1 i (by omega)) (by omega) (by omega)
    rw [ee, nIadd]
    have k103 : ∀ y : Int32, (y = 0 ∨ y = 1) → w_X12_canHaveRung_b103 q (fun S v0 v1 v2 v3 v4 => w_X12_canHaveRung_b20 q n S v0 v1 v2 v3 v4) (ov S o ad M) o (nI p) (nI i) (nI e) y := by
      intro y hy
      unfold w_X12_canHaveRung_b103
      simp (disch := decide) only [oi_gI, oi_gJ, oi_gP, oi_pI, oi_pZ, oi_pJ, oi_oK, oi_aI hd, oi_aZ hd, oi_aJ hd, oi_sI hd, oi_sZ hd, oi_sJ hd, mI_1, mI_2, mJ_1, mJ_2, mJ_3, mA_1, mA_2, mA_3, mA_4, mL_1, mL_2, mL_3, mL_4, mK, Nat.reduceEqDiff, if_true, if_false, ite_true, ite_false, true_and, Nat.reduceLT, reduceIte, reduceCtorEq, cl_0, cl_1, cl_2, cl_3, cl_4, cl_5, cl_6, cl_7, cl_8, cl_9, cl_10, cl_11, cl_12, cl_13, cl_14, cl_15, vl_0_5585, vl_1_5585, vl_2_5585, vl_3_5585, vl_4_5585, vl_5_5585, vl_6_5585, vl_0_7, vl_1_7, vl_2_7, vl_3_7, vl_4_7, vl_5_7, vl_6_7]
      rw [lit_nI 126, nIadd]
      refine ⟨vp_in_nI (by omega) (by omega), fun z ez => ?_⟩
      rw [ez, nI_1]
      exact ih (y, _, i + 1) ⟨hy, by dsimp only; omega⟩ (by dsimp only; omega)
    refine ⟨vp_in_nI (by omega) (by omega), fun _ => k103 0 (by simp), fun _ => ⟨vp_in_nI (by omega) (by omega), s_stepsOf (fun r => ?_)⟩⟩
    simp (disch := decide) only [oi_gI, oi_gJ, oi_gP, oi_pI, oi_pZ, oi_pJ, oi_oK, oi_aI hd, oi_aZ hd, oi_aJ hd, oi_sI hd, oi_sZ hd, oi_sJ hd, mI_1, mI_2, mJ_1, mJ_2, mJ_3, mA_1, mA_2, mA_3, mA_4, mL_1, mL_2, mL_3, mL_4, mK, Nat.reduceEqDiff, if_true, if_false, ite_true, ite_false, true_and, Nat.reduceLT, reduceIte, reduceCtorEq, cl_0, cl_1, cl_2, cl_3, cl_4, cl_5, cl_6, cl_7, cl_8, cl_9, cl_10, cl_11, cl_12, cl_13, cl_14, cl_15, vl_0_5585, vl_1_5585, vl_2_5585, vl_3_5585, vl_4_5585, vl_5_5585, vl_6_5585, vl_0_7, vl_1_7, vl_2_7, vl_3_7, vl_4_7, vl_5_7, vl_6_7]
    rw [nI_1]
    exact ⟨vp_in_nI (by omega) (by omega), fun _ => k103 0 (by simp), fun _ => s_leftOf hd hp (by omega) ⟨ov_oK, s_timesTold hd hM.1.2.2.1 (fun r => ⟨fun _ => k103 0 (by simp), fun _ => k103 1 (by simp)⟩)⟩⟩
  unfold w_X12_canHaveRung
  refine ⟨ov_oK, s_lives hd hp (fun _ => ?_) (fun _ => ?_)⟩
  all_goals
    simp (disch := decide) only [oi_gI, oi_gJ, oi_gP, oi_pI, oi_pZ, oi_pJ, oi_oK, oi_aI hd, oi_aZ hd, oi_aJ hd, oi_sI hd, oi_sZ hd, oi_sJ hd, mI_1, mI_2, mJ_1, mJ_2, mJ_3, mA_1, mA_2, mA_3, mA_4, mL_1, mL_2, mL_3, mL_4, mK, Nat.reduceEqDiff, if_true, if_false, ite_true, ite_false, true_and, Nat.reduceLT, reduceIte, reduceCtorEq, cl_0, cl_1, cl_2, cl_3, cl_4, cl_5, cl_6, cl_7, cl_8, cl_9, cl_10, cl_11, cl_12, cl_13, cl_14, cl_15, vl_0_5585, vl_1_5585, vl_2_5585, vl_3_5585, vl_4_5585, vl_5_5585, vl_6_5585, vl_0_7, vl_1_7, vl_2_7, vl_3_7, vl_4_7, vl_5_7, vl_6_7]
    rw [lit_nI 138, nIadd]
    exact ⟨vp_in_nI (by omega) (by omega), key _ _ (by simp)⟩
theorem s_whoCan (hd : mD o ad) (hM : mOk mT M) {q : Int32 → hS → Prop} (h : ∀ r, q r (ov S o ad M)) : w_X12_whoCan q (ov S o ad M) o := by
  obtain ⟨m, hm, em⟩ := rg_inR (b := 8) hM.1.2.1 (by omega) (by omega)
  refine loop_m (σ := Int32 × Nat) (fun n s => w_X12_whoCan_b4 q n (ov S o ad M) o s.1 (nI s.2)) (fun s => s.2 ≤ m) (fun s => m - s.2) ?_ (0, 0) (Nat.zero_le _)
  rintro n ⟨v, i⟩ hi ih
  dsimp only at hi ih ⊢
  rw [w_X12_whoCan_b4]
  simp (disch := decide) only [oi_gI, oi_gJ, oi_gP, oi_pI, oi_pZ, oi_pJ, oi_oK, oi_aI hd, oi_aZ hd, oi_aJ hd, oi_sI hd, oi_sZ hd, oi_sJ hd, mI_1, mI_2, mJ_1, mJ_2, mJ_3, mA_1, mA_2, mA_3, mA_4, mL_1, mL_2, mL_3, mL_4, mK, Nat.reduceEqDiff, if_true, if_false, ite_true, ite_false, true_and, Nat.reduceLT, reduceIte, reduceCtorEq, cl_0, cl_1, cl_2, cl_3, cl_4, cl_5, cl_6, cl_7, cl_8, cl_9, cl_10, cl_11, cl_12, cl_13, cl_14, cl_15, vl_0_5585, vl_1_5585, vl_2_5585, vl_3_5585, vl_4_5585, vl_5_5585, vl_6_5585, vl_0_7, vl_1_7, vl_2_7, vl_3_7, vl_4_7, vl_5_7, vl_6_7]
  rw [em, nI_leI (by omega) (by omega)]
  refine ⟨fun _ => h _, fun c => s_canHaveRung hd hM (by omega) (fun r => ⟨fun _ y _ z ez => ?_, fun _ y _ z ez => ?_⟩)⟩
  all_goals
    rw [ez, nI_1]
    exact ih (y, i + 1) (by dsimp only; omega) (by dsimp only; omega)
theorem p_who (hd : mD o ad) (hM : mOk mT M) {q : Int32 → hS → Prop} (h : ∀ r N, mOk mT N → q r (ov S o ad N)) : w_X12_who q (ov S o ad M) o := by
  unfold w_X12_who
  simp (disch := decide) only [oi_gI, oi_gJ, oi_gP, oi_pI, oi_pZ, oi_pJ, oi_oK, oi_aI hd, oi_aZ hd, oi_aJ hd, oi_sI hd, oi_sZ hd, oi_sJ hd, mI_1, mI_2, mJ_1, mJ_2, mJ_3, mA_1, mA_2, mA_3, mA_4, mL_1, mL_2, mL_3, mL_4, mK, Nat.reduceEqDiff, if_true, if_false, ite_true, ite_false, true_and, Nat.reduceLT, reduceIte, reduceCtorEq, cl_0, cl_1, cl_2, cl_3, cl_4, cl_5, cl_6, cl_7, cl_8, cl_9, cl_10, cl_11, cl_12, cl_13, cl_14, cl_15, vl_0_5585, vl_1_5585, vl_2_5585, vl_3_5585, vl_4_5585, vl_5_5585, vl_6_5585, vl_0_7, vl_1_7, vl_2_7, vl_3_7, vl_4_7, vl_5_7, vl_6_7]
  exact s_whoCan hd (mOk_i hM (by omega)) (fun r => h _ _ (mOk_i hM (by omega)))
theorem p_look36 (hd : mD o ad) (hM : mOk mT M) {q : Int32 → hS → Prop} {a w l0 i0 : Int32} (h : ∀ r, q r (ov S o ad M)) : ∃ n, w_X12_look_b36 q n (ov S o ad M) o a w l0 i0 0 := by
  obtain ⟨H, hH, eH⟩ := rg_inR (b := 6) hM.1.1 (by omega) (by omega)
  obtain ⟨P, hP, eP⟩ := rg_inR (b := 8) hM.1.2.1 (by omega) (by omega)
  refine loop_m (σ := Int32 × Int32 × Nat) (fun n s => w_X12_look_b36 q n (ov S o ad M) o a w s.1 s.2.1 (nI s.2.2)) (fun s => s.2.2 ≤ H) (fun s => H - s.2.2) ?_ (l0, i0, 0) (Nat.zero_le _)
  rintro n ⟨l, its, i⟩ hi ih
  dsimp only at hi ih ⊢
  rw [w_X12_look_b36]
  simp (disch := decide) only [oi_gI, oi_gJ, oi_gP, oi_pI, oi_pZ, oi_pJ, oi_oK, oi_aI hd, oi_aZ hd, oi_aJ hd, oi_sI hd, oi_sZ hd, oi_sJ hd, mI_1, mI_2, mJ_1, mJ_2, mJ_3, mA_1, mA_2, mA_3, mA_4, mL_1, mL_2, mL_3, mL_4, mK, Nat.reduceEqDiff, if_true, if_false, ite_true, ite_false, true_and, Nat.reduceLT, reduceIte, reduceCtorEq, cl_0, cl_1, cl_2, cl_3, cl_4, cl_5, cl_6, cl_7, cl_8, cl_9, cl_10, cl_11, cl_12, cl_13, cl_14, cl_15, vl_0_5585, vl_1_5585, vl_2_5585, vl_3_5585, vl_4_5585, vl_5_5585, vl_6_5585, vl_0_7, vl_1_7, vl_2_7, vl_3_7, vl_4_7, vl_5_7, vl_6_7]
  rw [eH, nI_leI (by omega) (by omega)]
  refine ⟨fun _ => ⟨fun _ => h _, fun _ => ⟨fun _ => h _, fun _ => h _⟩⟩, fun c => ?_⟩
  have k124 : ∀ t, w_X12_look_b124 q (fun S v0 v1 v2 v3 v4 v5 => w_X12_look_b36 q n S v0 v1 v2 v3 v4 v5) (ov S o ad M) o a w l its (nI i) t := by
    intro t
    have k153 : ∀ x y, w_X12_look_b153 q (fun S v0 v1 v2 v3 v4 v5 => w_X12_look_b36 q n S v0 v1 v2 v3 v4 v5) (ov S o ad M) o a w x (nI i) y := by
      intro x y z ez
      rw [ez, nI_1]
      exact ih (y, x, i + 1) (by dsimp only; omega) (by dsimp only; omega)
    exact ⟨fun _ => ⟨fun _ => k153 _ _, fun _ => k153 _ _⟩, fun _ => ⟨fun _ => k153 _ _, fun _ => k153 _ _⟩⟩
  refine loop_m (σ := Int32 × Nat) (fun n' s => w_X12_look_b53 q (fun S v0 v1 v2 v3 v4 v5 => w_X12_look_b36 q n S v0 v1 v2 v3 v4 v5) n' (ov S o ad M) o a w l its (nI i) s.1 (nI s.2)) (fun s => s.2 ≤ P) (fun s => P - s.2) ?_ (0, 0) (Nat.zero_le _)
  rintro n' ⟨v, j⟩ hj ih'
  dsimp only at hj ih' ⊢
  rw [w_X12_look_b53]
  simp (disch := decide) only [oi_gI, oi_gJ, oi_gP, oi_pI, oi_pZ, oi_pJ, oi_oK, oi_aI hd, oi_aZ hd, oi_aJ hd, oi_sI hd, oi_sZ hd, oi_sJ hd, mI_1, mI_2, mJ_1, mJ_2, mJ_3, mA_1, mA_2, mA_3, mA_4, mL_1, mL_2, mL_3, mL_4, mK, Nat.reduceEqDiff, if_true, if_false, ite_true, ite_false, true_and, Nat.reduceLT, reduceIte, reduceCtorEq, cl_0, cl_1, cl_2, cl_3, cl_4, cl_5, cl_6, cl_7, cl_8, cl_9, cl_10, cl_11, cl_12, cl_13, cl_14, cl_15, vl_0_5585, vl_1_5585, vl_2_5585, vl_3_5585, vl_4_5585, vl_5_5585, vl_6_5585, vl_0_7, vl_1_7, vl_2_7, vl_3_7, vl_4_7, vl_5_7, vl_6_7]
  rw [eP, nI_leI (by omega) (by omega)]
  have k91 : ∀ x y, j < P → w_X12_look_b91 q (fun S v0 v1 v2 v3 v4 v5 => w_X12_look_b36 q n S v0 v1 v2 v3 v4 v5) (fun S v0 v1 v2 v3 v4 v5 v6 v7 => w_X12_look_b53 q (fun S v0 v1 v2 v3 v4 v5 => w_X12_look_b36 q n S v0 v1 v2 v3 v4 v5) n' S v0 v1 v2 v3 v4 v5 v6 v7) (ov S o ad M) o a w l its (nI i) (nI j) x y := by
    intro x y hj2 z _ z2 ez
    rw [ez, nI_1]
    exact ih' (z, j + 1) (by dsimp only; omega) (by dsimp only; omega)
  exact ⟨fun _ => s_ones (fun r => ⟨fun _ => s_ones (fun r => k124 _), fun _ => k124 _⟩), fun c2 => s_is ⟨fun _ => k91 _ _ (by omega), fun _ => ⟨ov_oK, s_leftOf hd (by omega) (by omega) ⟨fun _ => k91 _ _ (by omega), fun _ => k91 _ _ (by omega)⟩⟩⟩ ⟨fun _ => k91 _ _ (by omega), fun _ => ⟨ov_oK, s_leftOf hd (by omega) (by omega) ⟨fun _ => k91 _ _ (by omega), fun _ => k91 _ _ (by omega)⟩⟩⟩⟩
theorem p_look (hd : mD o ad) (hM : mOk mT M) {q : Int32 → hS → Prop} {a : Int32} (h : ∀ r N, mOk mT N → q r (ov S o ad N)) : w_X12_look q (ov S o ad M) o a := by
  have hM0 : mOk mT (mI M 0 0) := mOk_i hM (by omega)
  unfold w_X12_look
  simp (disch := decide) only [oi_gI, oi_gJ, oi_gP, oi_pI, oi_pZ, oi_pJ, oi_oK, oi_aI hd, oi_aZ hd, oi_aJ hd, oi_sI hd, oi_sZ hd, oi_sJ hd, mI_1, mI_2, mJ_1, mJ_2, mJ_3, mA_1, mA_2, mA_3, mA_4, mL_1, mL_2, mL_3, mL_4, mK, Nat.reduceEqDiff, if_true, if_false, ite_true, ite_false, true_and, Nat.reduceLT, reduceIte, reduceCtorEq, cl_0, cl_1, cl_2, cl_3, cl_4, cl_5, cl_6, cl_7, cl_8, cl_9, cl_10, cl_11, cl_12, cl_13, cl_14, cl_15, vl_0_5585, vl_1_5585, vl_2_5585, vl_3_5585, vl_4_5585, vl_5_5585, vl_6_5585, vl_0_7, vl_1_7, vl_2_7, vl_3_7, vl_4_7, vl_5_7, vl_6_7]
  exact s_whoCan hd hM0 (fun r => s_in01 ⟨fun _ => h _ _ hM0, fun _ => ⟨fun _ => p_look36 hd hM0 (fun r => h _ _ hM0), fun _ => h _ _ hM0⟩⟩ ⟨fun _ => h _ _ hM0, fun _ => ⟨fun _ => p_look36 hd hM0 (fun r => h _ _ hM0), fun _ => h _ _ hM0⟩⟩)
theorem p_amend (hd : mD o ad) (hM : mOk mT M) {q : Int32 → hS → Prop} {a b : Int32} (h : ∀ r N, mOk mT N → q r (ov S o ad N)) : w_X12_amend q (ov S o ad M) o a b := by
  have hM0 : mOk mT (mI M 0 0) := mOk_i hM (by omega)
  have h := fun r => h r _ hM0
  unfold w_X12_amend
  simp (disch := decide) only [oi_gI, oi_gJ, oi_gP, oi_pI, oi_pZ, oi_pJ, oi_oK, oi_aI hd, oi_aZ hd, oi_aJ hd, oi_sI hd, oi_sZ hd, oi_sJ hd, mI_1, mI_2, mJ_1, mJ_2, mJ_3, mA_1, mA_2, mA_3, mA_4, mL_1, mL_2, mL_3, mL_4, mK, Nat.reduceEqDiff, if_true, if_false, ite_true, ite_false, true_and, Nat.reduceLT, reduceIte, reduceCtorEq, cl_0, cl_1, cl_2, cl_3, cl_4, cl_5, cl_6, cl_7, cl_8, cl_9, cl_10, cl_11, cl_12, cl_13, cl_14, cl_15, vl_0_5585, vl_1_5585, vl_2_5585, vl_3_5585, vl_4_5585, vl_5_5585, vl_6_5585, vl_0_7, vl_1_7, vl_2_7, vl_3_7, vl_4_7, vl_5_7, vl_6_7]
  refine s_isHouse hd (fun h1 h2 => ⟨fun z => absurd z (by decide), fun _ => s_in01 ⟨fun _ => ?_, fun _ => h _⟩ ⟨fun z => absurd rfl z, fun _ => h _⟩⟩) (fun _ => ⟨fun _ => h _, fun z => absurd rfl z⟩)
  have b1 := hM0.1.1.2
  obtain ⟨e, he, rfl⟩ := rg_in 6 (by omega) h1 (by omega)
  obtain ⟨P, hP, eP⟩ := rg_inR (b := 8) hM0.1.2.1 (by omega) (by omega)
  generalize mI M 0 0 = N at *
  have hp2 : 2 ^ P ≤ 256 := by
    have := Nat.pow_le_pow_right (show 0 < 2 by omega) hP
    simpa using this
  refine loop_m (σ := Int32 × Int32 × Nat) (fun n s => w_X12_amend_b35 q n (ov S o ad N) o (nI e) b s.1 s.2.1 (nI s.2.2)) (fun s => s.2.2 ≤ 2 ^ P) (fun s => 2 ^ P - s.2.2) ?_ (100000000, 0, 0) (Nat.zero_le _)
  rintro n ⟨l, its, i⟩ hi ih
  dsimp only at hi ih ⊢
  rw [w_X12_amend_b35]
  simp (disch := decide) only [oi_gI, oi_gJ, oi_gP, oi_pI, oi_pZ, oi_pJ, oi_oK, oi_aI hd, oi_aZ hd, oi_aJ hd, oi_sI hd, oi_sZ hd, oi_sJ hd, mI_1, mI_2, mJ_1, mJ_2, mJ_3, mA_1, mA_2, mA_3, mA_4, mL_1, mL_2, mL_3, mL_4, mK, Nat.reduceEqDiff, if_true, if_false, ite_true, ite_false, true_and, Nat.reduceLT, reduceIte, reduceCtorEq, cl_0, cl_1, cl_2, cl_3, cl_4, cl_5, cl_6, cl_7, cl_8, cl_9, cl_10, cl_11, cl_12, cl_13, cl_14, cl_15, vl_0_5585, vl_1_5585, vl_2_5585, vl_3_5585, vl_4_5585, vl_5_5585, vl_6_5585, vl_0_7, vl_1_7, vl_2_7, vl_3_7, vl_4_7, vl_5_7, vl_6_7]
  rw [eP, sh1 P (by omega), nI_leI (by omega) (by omega)]
  refine ⟨fun _ => ⟨fun _ => h _, fun _ => h _⟩, fun c => ?_⟩
  have k156 : ∀ x y, w_X12_amend_b156 q (fun S v0 v1 v2 v3 v4 v5 => w_X12_amend_b35 q n S v0 v1 v2 v3 v4 v5) (ov S o ad N) o (nI e) b x (nI i) y := by
    intro x y z ez
    rw [ez, nI_1]
    exact ih (y, x, i + 1) (by dsimp only; omega) (by dsimp only; omega)
  have k126 : ∀ t, w_X12_amend_b126 q (fun S v0 v1 v2 v3 v4 v5 => w_X12_amend_b35 q n S v0 v1 v2 v3 v4 v5) (ov S o ad N) o (nI e) b l its (nI i) t := fun t =>
    ⟨fun _ => ⟨fun _ => k156 _ _, fun _ => s_ones (fun r => k156 _ _)⟩, fun _ => ⟨fun _ => k156 _ _, fun _ => s_ones (fun r => k156 _ _)⟩⟩
  refine loop_m (σ := Int32 × Nat) (fun n' s => w_X12_amend_b54 q (fun S v0 v1 v2 v3 v4 v5 => w_X12_amend_b35 q n S v0 v1 v2 v3 v4 v5) n' (ov S o ad N) o (nI e) b l its (nI i) s.1 (nI s.2)) (fun s => s.2 ≤ P) (fun s => P - s.2) ?_ (0, 0) (Nat.zero_le _)
  rintro n' ⟨v, j⟩ hj ih'
  dsimp only at hj ih' ⊢
  rw [w_X12_amend_b54]
  simp (disch := decide) only [oi_gI, oi_gJ, oi_gP, oi_pI, oi_pZ, oi_pJ, oi_oK, oi_aI hd, oi_aZ hd, oi_aJ hd, oi_sI hd, oi_sZ hd, oi_sJ hd, mI_1, mI_2, mJ_1, mJ_2, mJ_3, mA_1, mA_2, mA_3, mA_4, mL_1, mL_2, mL_3, mL_4, mK, Nat.reduceEqDiff, if_true, if_false, ite_true, ite_false, true_and, Nat.reduceLT, reduceIte, reduceCtorEq, cl_0, cl_1, cl_2, cl_3, cl_4, cl_5, cl_6, cl_7, cl_8, cl_9, cl_10, cl_11, cl_12, cl_13, cl_14, cl_15, vl_0_5585, vl_1_5585, vl_2_5585, vl_3_5585, vl_4_5585, vl_5_5585, vl_6_5585, vl_0_7, vl_1_7, vl_2_7, vl_3_7, vl_4_7, vl_5_7, vl_6_7]
  rw [eP, nI_leI (by omega) (by omega), lit_nI 132, nIadd]
  have k88 : ∀ x y, j < P → w_X12_amend_b88 q (fun S v0 v1 v2 v3 v4 v5 => w_X12_amend_b35 q n S v0 v1 v2 v3 v4 v5) (fun S v0 v1 v2 v3 v4 v5 v6 v7 => w_X12_amend_b54 q (fun S v0 v1 v2 v3 v4 v5 => w_X12_amend_b35 q n S v0 v1 v2 v3 v4 v5) n' S v0 v1 v2 v3 v4 v5 v6 v7) (ov S o ad N) o (nI e) b l its (nI i) (nI j) x y := by
    intro x y hj2 z _ z2 ez
    rw [ez, nI_1]
    exact ih' (z, j + 1) (by dsimp only; omega) (by dsimp only; omega)
  exact ⟨fun _ => ⟨vp_in_nI (by omega) (by omega), fun _ => k126 0, fun _ => s_ones (fun r => ⟨fun _ => k126 0, fun _ => k126 1⟩)⟩, fun c2 => s_is ⟨fun z => absurd z (by decide), fun _ => k88 _ _ (by omega)⟩ ⟨fun _ => ⟨ov_oK, s_rights hd (by omega) he (k88 _ _ (by omega))⟩, fun z => absurd rfl z⟩⟩
theorem p_given (hd : mD o ad) (hM : mOk mT M) {q : Int32 → hS → Prop} {a b c : Int32} (h : ∀ r N, mOk mT N → q r (ov S o ad N)) : w_X12_given q (ov S o ad M) o a b c := by
  have hM0 : mOk mT (mI M 0 0) := mOk_i hM (by omega)
  unfold w_X12_given
  simp (disch := decide) only [oi_gI, oi_gJ, oi_gP, oi_pI, oi_pZ, oi_pJ, oi_oK, oi_aI hd, oi_aZ hd, oi_aJ hd, oi_sI hd, oi_sZ hd, oi_sJ hd, mI_1, mI_2, mJ_1, mJ_2, mJ_3, mA_1, mA_2, mA_3, mA_4, mL_1, mL_2, mL_3, mL_4, mK, Nat.reduceEqDiff, if_true, if_false, ite_true, ite_false, true_and, Nat.reduceLT, reduceIte, reduceCtorEq, cl_0, cl_1, cl_2, cl_3, cl_4, cl_5, cl_6, cl_7, cl_8, cl_9, cl_10, cl_11, cl_12, cl_13, cl_14, cl_15, vl_0_5585, vl_1_5585, vl_2_5585, vl_3_5585, vl_4_5585, vl_5_5585, vl_6_5585, vl_0_7, vl_1_7, vl_2_7, vl_3_7, vl_4_7, vl_5_7, vl_6_7]
  refine s_isHouse hd (fun h1 h2 => ⟨fun z => absurd z (by decide), fun _ => s_in (fun x1 x2 => ⟨fun z => absurd z (by decide), fun _ => ⟨ov_oK, s_isPerson hd (fun h3 h4 => ⟨fun _ => ?_, fun z => absurd z (by decide)⟩) (fun _ => ⟨fun z => absurd rfl z, fun _ => h _ _ hM0⟩)⟩⟩) (fun _ => ⟨fun _ => h _ _ hM0, fun z => absurd rfl z⟩)⟩) (fun _ => ⟨fun _ => h _ _ hM0, fun z => absurd rfl z⟩)
  have b1 := hM0.1.1.2
  have b2 := hM0.1.2.1.2
  obtain ⟨e, he, rfl⟩ := rg_in 6 (by omega) h1 (by omega)
  obtain ⟨p, hp, rfl⟩ := rg_in 8 (by omega) h3 (by omega)
  rw [i64toInt] at x1 x2
  have e99 : (99 : Int64).toInt = 99 := by decide
  have e0 : (0 : Int64).toInt = 0 := by decide
  obtain ⟨k, hk, rfl⟩ := rg_in (z := b) 100 (by omega) (by omega) (by omega)
  obtain ⟨P, hP, eP⟩ := rg_inR (b := 8) hM0.1.2.1 (by omega) (by omega)
  generalize mI M 0 0 = N at *
  have k62 : ∀ f0, ∃ n, w_X12_given_b62 q n (ov S o ad (mA N 47 f0)) o (nI e) (nI k) (nI p) 0 := by
    intro f0
    refine loop_m (σ := (Nat → Int32) × Nat) (fun n s => w_X12_given_b62 q n (ov S o ad (mA N 47 s.1)) o (nI e) (nI k) (nI p) (nI s.2)) (fun s => s.2 ≤ k) (fun s => k - s.2) ?_ (f0, 0) (Nat.zero_le _)
    rintro n ⟨f, i⟩ hi ih
    dsimp only at hi ih ⊢
    rw [w_X12_given_b62]
    simp (disch := decide) only [oi_gI, oi_gJ, oi_gP, oi_pI, oi_pZ, oi_pJ, oi_oK, oi_aI hd, oi_aZ hd, oi_aJ hd, oi_sI hd, oi_sZ hd, oi_sJ hd, mI_1, mI_2, mJ_1, mJ_2, mJ_3, mA_1, mA_2, mA_3, mA_4, mL_1, mL_2, mL_3, mL_4, mK, Nat.reduceEqDiff, if_true, if_false, ite_true, ite_false, true_and, Nat.reduceLT, reduceIte, reduceCtorEq, cl_0, cl_1, cl_2, cl_3, cl_4, cl_5, cl_6, cl_7, cl_8, cl_9, cl_10, cl_11, cl_12, cl_13, cl_14, cl_15, vl_0_5585, vl_1_5585, vl_2_5585, vl_3_5585, vl_4_5585, vl_5_5585, vl_6_5585, vl_0_7, vl_1_7, vl_2_7, vl_3_7, vl_4_7, vl_5_7, vl_6_7]
    rw [nI_leI (by omega) (by omega)]
    refine ⟨fun _ => ⟨vp_in_nI (by omega) (by omega), h _ _ (mOk_a hM0 (by omega))⟩, fun c1 => ?_⟩
    refine loop_m (σ := Int32 × Nat) (fun n' s => w_X12_given_b74 q (fun S v0 v1 v2 v3 v4 => w_X12_given_b62 q n S v0 v1 v2 v3 v4) n' (ov S o ad (mA N 47 f)) o (nI e) (nI k) (nI p) (nI i) s.1 (nI s.2)) (fun s => s.2 ≤ P ∧ (s.1 = -1 ∨ ∃ j : Nat, j < 8 ∧ s.1 = nI j)) (fun s => P - s.2) ?_ (-1, 0) ⟨Nat.zero_le _, Or.inl rfl⟩
    rintro n' ⟨v, j⟩ ⟨hj, hv⟩ ih'
    dsimp only at hj hv ih' ⊢
    rw [w_X12_given_b74]
    simp (disch := decide) only [oi_gI, oi_gJ, oi_gP, oi_pI, oi_pZ, oi_pJ, oi_oK, oi_aI hd, oi_aZ hd, oi_aJ hd, oi_sI hd, oi_sZ hd, oi_sJ hd, mI_1, mI_2, mJ_1, mJ_2, mJ_3, mA_1, mA_2, mA_3, mA_4, mL_1, mL_2, mL_3, mL_4, mK, Nat.reduceEqDiff, if_true, if_false, ite_true, ite_false, true_and, Nat.reduceLT, reduceIte, reduceCtorEq, cl_0, cl_1, cl_2, cl_3, cl_4, cl_5, cl_6, cl_7, cl_8, cl_9, cl_10, cl_11, cl_12, cl_13, cl_14, cl_15, vl_0_5585, vl_1_5585, vl_2_5585, vl_3_5585, vl_4_5585, vl_5_5585, vl_6_5585, vl_0_7, vl_1_7, vl_2_7, vl_3_7, vl_4_7, vl_5_7, vl_6_7, mA_mA]
    rw [eP, nI_leI (by omega) (by omega)]
    have k165 : ∀ g, w_X12_given_b165 q (fun S v0 v1 v2 v3 v4 => w_X12_given_b62 q n S v0 v1 v2 v3 v4) (ov S o ad (mA N 47 g)) o (nI e) (nI k) (nI p) (nI i) := by
      intro g z ez
      rw [ez, nI_1]
      exact ih (g, i + 1) (by dsimp only; omega) (by dsimp only; omega)
    have k142 : ∀ y : Int32, (y = -1 ∨ ∃ j : Nat, j < 8 ∧ y = nI j) → j < P → w_X12_given_b142 q (fun S v0 v1 v2 v3 v4 => w_X12_given_b62 q n S v0 v1 v2 v3 v4) (fun S v0 v1 v2 v3 v4 v5 v6 => w_X12_given_b74 q (fun S v0 v1 v2 v3 v4 => w_X12_given_b62 q n S v0 v1 v2 v3 v4) n' S v0 v1 v2 v3 v4 v5 v6) (ov S o ad (mA N 47 f)) o (nI e) (nI k) (nI p) (nI i) y (nI j) := by
      intro y hy hj2 z ez
      rw [ez, nI_1]
      exact ih' (y, j + 1) ⟨by dsimp only; omega, hy⟩ (by dsimp only; omega)
    refine ⟨fun _ => ⟨fun _ => k165 _, fun cv => ?_⟩, fun c2 => s_rights hd (p := j) (by omega) he ⟨fun _ => k142 _ hv (by omega), fun _ => ⟨fun _ => k142 _ (Or.inr ⟨j, by omega, rfl⟩) (by omega), fun cv => ?_⟩⟩⟩
    · rcases hv with rfl | ⟨g, hg, rfl⟩
      · exact absurd rfl cv
      · exact ⟨vp_in_nI (by omega) (by omega), vp_in_nI (by omega) (by omega), k165 _⟩
    · rcases hv with rfl | ⟨g, hg, rfl⟩
      · exact absurd rfl cv
      · refine ⟨ov_oK, s_rights hd (p := j) (by omega) he ?_⟩
        simp (disch := decide) only [oi_gI, oi_gJ, oi_gP, oi_pI, oi_pZ, oi_pJ, oi_oK, oi_aI hd, oi_aZ hd, oi_aJ hd, oi_sI hd, oi_sZ hd, oi_sJ hd, mI_1, mI_2, mJ_1, mJ_2, mJ_3, mA_1, mA_2, mA_3, mA_4, mL_1, mL_2, mL_3, mL_4, mK, Nat.reduceEqDiff, if_true, if_false, ite_true, ite_false, true_and, Nat.reduceLT, reduceIte, reduceCtorEq, cl_0, cl_1, cl_2, cl_3, cl_4, cl_5, cl_6, cl_7, cl_8, cl_9, cl_10, cl_11, cl_12, cl_13, cl_14, cl_15, vl_0_5585, vl_1_5585, vl_2_5585, vl_3_5585, vl_4_5585, vl_5_5585, vl_6_5585, vl_0_7, vl_1_7, vl_2_7, vl_3_7, vl_4_7, vl_5_7, vl_6_7, mA_mA]
        refine ⟨vp_in_nI (by omega) (by omega), s_rights hd (p := g) (by omega) he ?_⟩
        simp (disch := decide) only [oi_gI, oi_gJ, oi_gP, oi_pI, oi_pZ, oi_pJ, oi_oK, oi_aI hd, oi_aZ hd, oi_aJ hd, oi_sI hd, oi_sZ hd, oi_sJ hd, mI_1, mI_2, mJ_1, mJ_2, mJ_3, mA_1, mA_2, mA_3, mA_4, mL_1, mL_2, mL_3, mL_4, mK, Nat.reduceEqDiff, if_true, if_false, ite_true, ite_false, true_and, Nat.reduceLT, reduceIte, reduceCtorEq, cl_0, cl_1, cl_2, cl_3, cl_4, cl_5, cl_6, cl_7, cl_8, cl_9, cl_10, cl_11, cl_12, cl_13, cl_14, cl_15, vl_0_5585, vl_1_5585, vl_2_5585, vl_3_5585, vl_4_5585, vl_5_5585, vl_6_5585, vl_0_7, vl_1_7, vl_2_7, vl_3_7, vl_4_7, vl_5_7, vl_6_7, mA_mA]
        exact ⟨vp_in_nI (by omega) (by omega), fun _ => k142 _ (Or.inr ⟨g, hg, rfl⟩) (by omega), fun _ => k142 _ (Or.inr ⟨j, by omega, rfl⟩) (by omega)⟩
  have hs := mA_self (M := N) 47
  have : ∃ n, w_X12_given_b38 q n (ov S o ad (mA N 47 (N.2.2.1 47))) o (nI e) (nI k) (nI p) (nI 0) := by
    refine loop_m (σ := (Nat → Int32) × Nat) (fun n s => w_X12_given_b38 q n (ov S o ad (mA N 47 s.1)) o (nI e) (nI k) (nI p) (nI s.2)) (fun s => s.2 ≤ 8) (fun s => 8 - s.2) ?_ (N.2.2.1 47, 0) (Nat.zero_le _)
    rintro n ⟨f, i⟩ hi ih
    dsimp only at hi ih ⊢
    rw [w_X12_given_b38]
    simp (disch := decide) only [oi_gI, oi_gJ, oi_gP, oi_pI, oi_pZ, oi_pJ, oi_oK, oi_aI hd, oi_aZ hd, oi_aJ hd, oi_sI hd, oi_sZ hd, oi_sJ hd, mI_1, mI_2, mJ_1, mJ_2, mJ_3, mA_1, mA_2, mA_3, mA_4, mL_1, mL_2, mL_3, mL_4, mK, Nat.reduceEqDiff, if_true, if_false, ite_true, ite_false, true_and, Nat.reduceLT, reduceIte, reduceCtorEq, cl_0, cl_1, cl_2, cl_3, cl_4, cl_5, cl_6, cl_7, cl_8, cl_9, cl_10, cl_11, cl_12, cl_13, cl_14, cl_15, vl_0_5585, vl_1_5585, vl_2_5585, vl_3_5585, vl_4_5585, vl_5_5585, vl_6_5585, vl_0_7, vl_1_7, vl_2_7, vl_3_7, vl_4_7, vl_5_7, vl_6_7, mA_mA]
    rw [lit_nI 8, nI_leI (by omega) (by omega), nI_clamp (by omega)]
    refine ⟨fun _ => k62 f, fun c => ⟨vp_in_nI (by omega) (by omega), fun y ey => ?_⟩⟩
    rw [ey, nI_1]
    exact ih (_, i + 1) (by dsimp only; omega) (by dsimp only; omega)
  rw [hs] at this
  exact this
theorem p_likely (hd : mD o ad) (hM : mOk mT M) {q : Int64 → hS → Prop} {a b : Int32} (h : ∀ r N, mOk mT N → q r (ov S o ad N)) : w_X12_likely q (ov S o ad M) o a b := by
  have hM0 : mOk mT (mI M 0 0) := mOk_i hM (by omega)
  unfold w_X12_likely
  simp (disch := decide) only [oi_gI, oi_gJ, oi_gP, oi_pI, oi_pZ, oi_pJ, oi_oK, oi_aI hd, oi_aZ hd, oi_aJ hd, oi_sI hd, oi_sZ hd, oi_sJ hd, mI_1, mI_2, mJ_1, mJ_2, mJ_3, mA_1, mA_2, mA_3, mA_4, mL_1, mL_2, mL_3, mL_4, mK, Nat.reduceEqDiff, if_true, if_false, ite_true, ite_false, true_and, Nat.reduceLT, reduceIte, reduceCtorEq, cl_0, cl_1, cl_2, cl_3, cl_4, cl_5, cl_6, cl_7, cl_8, cl_9, cl_10, cl_11, cl_12, cl_13, cl_14, cl_15, vl_0_5585, vl_1_5585, vl_2_5585, vl_3_5585, vl_4_5585, vl_5_5585, vl_6_5585, vl_0_7, vl_1_7, vl_2_7, vl_3_7, vl_4_7, vl_5_7, vl_6_7]
  refine s_in (fun x1 x2 => ⟨fun z => absurd z (by decide), fun _ => s_in (fun y1 y2 => ⟨fun _ => ?_, fun z => absurd z (by decide)⟩) (fun _ => ⟨fun z => absurd rfl z, fun _ => h _ _ hM0⟩)⟩) (fun _ => ⟨fun _ => h _ _ hM0, fun z => absurd rfl z⟩)
  rw [i64toInt] at x1 x2 y1 y2
  have e20 : (20 : Int64).toInt = 20 := by decide
  have e60 : (60 : Int64).toInt = 60 := by decide
  have e0 : (0 : Int64).toInt = 0 := by decide
  obtain ⟨k, hk, rfl⟩ := rg_in (z := a) 21 (by omega) (by omega) (by omega)
  obtain ⟨m, hm, rfl⟩ := rg_in (z := b) 61 (by omega) (by omega) (by omega)
  generalize mI M 0 0 = N at *
  have k74 : ∀ f0 x, ∃ n, w_X12_likely_b74 q n (ov S o ad (mL N 50 f0)) o (nI k) (nI m) x 0 := by
    intro f0 x
    refine loop_m (σ := (Nat → Int64) × Nat) (fun n s => w_X12_likely_b74 q n (ov S o ad (mL N 50 s.1)) o (nI k) (nI m) x (nI s.2)) (fun s => s.2 ≤ m) (fun s => m - s.2) ?_ (f0, 0) (Nat.zero_le _)
    rintro n ⟨f, i⟩ hi ih
    dsimp only at hi ih ⊢
    rw [w_X12_likely_b74]
    simp (disch := decide) only [oi_gI, oi_gJ, oi_gP, oi_pI, oi_pZ, oi_pJ, oi_oK, oi_aI hd, oi_aZ hd, oi_aJ hd, oi_sI hd, oi_sZ hd, oi_sJ hd, mI_1, mI_2, mJ_1, mJ_2, mJ_3, mA_1, mA_2, mA_3, mA_4, mL_1, mL_2, mL_3, mL_4, mK, Nat.reduceEqDiff, if_true, if_false, ite_true, ite_false, true_and, Nat.reduceLT, reduceIte, reduceCtorEq, cl_0, cl_1, cl_2, cl_3, cl_4, cl_5, cl_6, cl_7, cl_8, cl_9, cl_10, cl_11, cl_12, cl_13, cl_14, cl_15, vl_0_5585, vl_1_5585, vl_2_5585, vl_3_5585, vl_4_5585, vl_5_5585, vl_6_5585, vl_0_7, vl_1_7, vl_2_7, vl_3_7, vl_4_7, vl_5_7, vl_6_7, mL_mL]
    rw [nI_leI (by omega) (by omega)]
    refine ⟨fun _ => ⟨vp_in_nI (by omega) (by omega), h _ _ (mOk_l hM0)⟩, fun c1 y ey => ?_⟩
    rw [ey]
    refine loop_m (σ := (Nat → Int64) × Nat) (fun n' s => w_X12_likely_b85 q (fun S v0 v1 v2 v3 v4 => w_X12_likely_b74 q n S v0 v1 v2 v3 v4) n' (ov S o ad (mL N 50 s.1)) o (nI k) (nI m) x (nI i) (nI s.2 - 1)) (fun s => s.2 ≤ k) (fun s => s.2) ?_ (f, k) (Nat.le_refl _)
    rintro n' ⟨g, j⟩ hj ih'
    dsimp only at hj ih' ⊢
    rw [w_X12_likely_b85]
    cases j with
    | zero =>
      refine ⟨fun _ y ey => ?_, fun c => absurd (by decide) c⟩
      rw [ey, nI_1]
      exact ih (g, i + 1) (by dsimp only; omega) (by dsimp only; omega)
    | succ j =>
      rw [nI_pm1]
      simp (disch := decide) only [oi_gI, oi_gJ, oi_gP, oi_pI, oi_pZ, oi_pJ, oi_oK, oi_aI hd, oi_aZ hd, oi_aJ hd, oi_sI hd, oi_sZ hd, oi_sJ hd, mI_1, mI_2, mJ_1, mJ_2, mJ_3, mA_1, mA_2, mA_3, mA_4, mL_1, mL_2, mL_3, mL_4, mK, Nat.reduceEqDiff, if_true, if_false, ite_true, ite_false, true_and, Nat.reduceLT, reduceIte, reduceCtorEq, cl_0, cl_1, cl_2, cl_3, cl_4, cl_5, cl_6, cl_7, cl_8, cl_9, cl_10, cl_11, cl_12, cl_13, cl_14, cl_15, vl_0_5585, vl_1_5585, vl_2_5585, vl_3_5585, vl_4_5585, vl_5_5585, vl_6_5585, vl_0_7, vl_1_7, vl_2_7, vl_3_7, vl_4_7, vl_5_7, vl_6_7, mL_mL]
      rw [nI_1 j, nI_clamp (by omega), nI_clamp (by omega), nI_am1]
      refine ⟨fun z => absurd z (nI_ltz (by omega)), fun _ => ⟨vp_in_nI (by omega) (by omega), vp_in_nI (by omega) (by omega), vp_in_nI (by omega) (by omega), vp_in_nI (by omega) (by omega), fun y ey => ?_⟩⟩
      rw [ey]
      exact ih' (_, j) (by dsimp only; omega) (by dsimp only; omega)
  have hs := mL_self (M := N) 50
  have : ∃ n, w_X12_likely_b35 q n (ov S o ad (mL N 50 (N.2.2.2 50))) o (nI k) (nI m) (nI 0) := by
    refine loop_m (σ := (Nat → Int64) × Nat) (fun n s => w_X12_likely_b35 q n (ov S o ad (mL N 50 s.1)) o (nI k) (nI m) (nI s.2)) (fun s => s.2 ≤ 22) (fun s => 22 - s.2) ?_ (N.2.2.2 50, 0) (Nat.zero_le _)
    rintro n ⟨f, i⟩ hi ih
    dsimp only at hi ih ⊢
    rw [w_X12_likely_b35]
    simp (disch := decide) only [oi_gI, oi_gJ, oi_gP, oi_pI, oi_pZ, oi_pJ, oi_oK, oi_aI hd, oi_aZ hd, oi_aJ hd, oi_sI hd, oi_sZ hd, oi_sJ hd, mI_1, mI_2, mJ_1, mJ_2, mJ_3, mA_1, mA_2, mA_3, mA_4, mL_1, mL_2, mL_3, mL_4, mK, Nat.reduceEqDiff, if_true, if_false, ite_true, ite_false, true_and, Nat.reduceLT, reduceIte, reduceCtorEq, cl_0, cl_1, cl_2, cl_3, cl_4, cl_5, cl_6, cl_7, cl_8, cl_9, cl_10, cl_11, cl_12, cl_13, cl_14, cl_15, vl_0_5585, vl_1_5585, vl_2_5585, vl_3_5585, vl_4_5585, vl_5_5585, vl_6_5585, vl_0_7, vl_1_7, vl_2_7, vl_3_7, vl_4_7, vl_5_7, vl_6_7, mL_mL]
    rw [lit_nI 22, nI_leI (by omega) (by omega), nI_clamp (by omega)]
    refine ⟨fun _ => ⟨vp_in_iff.mpr (by decide), k74 _ _⟩, fun c => ⟨vp_in_nI (by omega) (by omega), fun y ey => ?_⟩⟩
    rw [ey, nI_1]
    exact ih (_, i + 1) (by dsimp only; omega) (by dsimp only; omega)
  rw [hs] at this
  exact this
end REF15
