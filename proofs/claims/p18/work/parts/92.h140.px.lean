/-! THE REFERENCE'S LONG QUESTIONS KEEP ITS STATE -/
def mX (mT : mS) (rr : Nat) (Tt : aS) (M : mS) : Prop := mOk mT M ∧ RR M rr Tt
section PX
variable {S : hS} {o : Nat} {ad : Nat → Nat} {M : mS} {mT : mS} {rr : Nat} {Tt : aS}
theorem mX_0 (h : mX mT rr Tt M) : mX mT rr Tt (mI M 0 0) := ⟨mOk_i h.1 (by omega), h.2.z⟩
theorem px_who (hd : mD o ad) (hX : mX mT rr Tt M) {q : Int32 → hS → Prop} (h : ∀ r N, mX mT rr Tt N → q r (ov S o ad N)) : w_X12_who q (ov S o ad M) o := by
  have hM := hX.1
  unfold w_X12_who
  simp (disch := decide) only [oi_gI, oi_gJ, oi_gP, oi_pI, oi_pZ, oi_pJ, oi_oK, oi_aI hd, oi_aZ hd, oi_aJ hd, oi_sI hd, oi_sZ hd, oi_sJ hd, mI_1, mI_2, mJ_1, mJ_2, mJ_3, mA_1, mA_2, mA_3, mA_4, mL_1, mL_2, mL_3, mL_4, mK, Nat.reduceEqDiff, if_true, if_false, ite_true, ite_false, true_and, Nat.reduceLT, reduceIte, reduceCtorEq, cl_0, cl_1, cl_2, cl_3, cl_4, cl_5, cl_6, cl_7, cl_8, cl_9, cl_10, cl_11, cl_12, cl_13, cl_14, cl_15, vl_0_5585, vl_1_5585, vl_2_5585, vl_3_5585, vl_4_5585, vl_5_5585, vl_6_5585, vl_0_7, vl_1_7, vl_2_7, vl_3_7, vl_4_7, vl_5_7, vl_6_7]
  exact s_whoCan hd (mOk_i hM (by omega)) (fun r => h _ _ (mX_0 hX))
theorem px_look (hd : mD o ad) (hX : mX mT rr Tt M) {q : Int32 → hS → Prop} {a : Int32} (h : ∀ r N, mX mT rr Tt N → q r (ov S o ad N)) : w_X12_look q (ov S o ad M) o a := by
  have hM := hX.1
  have hM0 : mOk mT (mI M 0 0) := mOk_i hM (by omega)
  have hX0 := mX_0 hX
  unfold w_X12_look
  simp (disch := decide) only [oi_gI, oi_gJ, oi_gP, oi_pI, oi_pZ, oi_pJ, oi_oK, oi_aI hd, oi_aZ hd, oi_aJ hd, oi_sI hd, oi_sZ hd, oi_sJ hd, mI_1, mI_2, mJ_1, mJ_2, mJ_3, mA_1, mA_2, mA_3, mA_4, mL_1, mL_2, mL_3, mL_4, mK, Nat.reduceEqDiff, if_true, if_false, ite_true, ite_false, true_and, Nat.reduceLT, reduceIte, reduceCtorEq, cl_0, cl_1, cl_2, cl_3, cl_4, cl_5, cl_6, cl_7, cl_8, cl_9, cl_10, cl_11, cl_12, cl_13, cl_14, cl_15, vl_0_5585, vl_1_5585, vl_2_5585, vl_3_5585, vl_4_5585, vl_5_5585, vl_6_5585, vl_0_7, vl_1_7, vl_2_7, vl_3_7, vl_4_7, vl_5_7, vl_6_7]
  exact s_whoCan hd hM0 (fun r => s_in01 ⟨fun _ => h _ _ hX0, fun _ => ⟨fun _ => p_look36 hd hM0 (fun r => h _ _ hX0), fun _ => h _ _ hX0⟩⟩ ⟨fun _ => h _ _ hX0, fun _ => ⟨fun _ => p_look36 hd hM0 (fun r => h _ _ hX0), fun _ => h _ _ hX0⟩⟩)
theorem px_amend (hd : mD o ad) (hX : mX mT rr Tt M) {q : Int32 → hS → Prop} {a b : Int32} (h : ∀ r N, mX mT rr Tt N → q r (ov S o ad N)) : w_X12_amend q (ov S o ad M) o a b := by
  have hM := hX.1
  have hM0 : mOk mT (mI M 0 0) := mOk_i hM (by omega)
  have hX0 := mX_0 hX
  have h := fun r => h r _ hX0
  unfold w_X12_amend
  simp (disch := decide) only [oi_gI, oi_gJ, oi_gP, oi_pI, oi_pZ, oi_pJ, oi_oK, oi_aI hd, oi_aZ hd, oi_aJ hd, oi_sI hd, oi_sZ hd, oi_sJ hd, mI_1, mI_2, mJ_1, mJ_2, mJ_3, mA_1, mA_2, mA_3, mA_4, mL_1, mL_2, mL_3, mL_4, mK, Nat.reduceEqDiff, if_true, if_false, ite_true, ite_false, true_and, Nat.reduceLT, reduceIte, reduceCtorEq, cl_0, cl_1, cl_2, cl_3, cl_4, cl_5, cl_6, cl_7, cl_8, cl_9, cl_10, cl_11, cl_12, cl_13, cl_14, cl_15, vl_0_5585, vl_1_5585, vl_2_5585, vl_3_5585, vl_4_5585, vl_5_5585, vl_6_5585, vl_0_7, vl_1_7, vl_2_7, vl_3_7, vl_4_7, vl_5_7, vl_6_7]
  refine s_isHouse hd (fun h1 h2 => ⟨fun z => absurd z (by decide), fun _ => s_in01 ⟨fun _ => ?_, fun _ => h _⟩ ⟨fun z => absurd rfl z, fun _ => h _⟩⟩) (fun _ => ⟨fun _ => h _, fun z => absurd rfl z⟩)
  have b1 := hM0.1.1.2
  obtain ⟨e, he, rfl⟩ := rg_in 6 (by omega) h1 (by omega)
  obtain ⟨P, hP, eP⟩ := rg_inR (b := 8) hM0.1.2.1 (by omega) (by omega)
  generalize mI M 0 0 = N at *
  have hp2 : 2 ^ P ≤ 256 := by
    have := Nat.pow_le_pow_right (show 0 < 2 by omega) hP
    simpa using this
  refine loop_m (σ := Int32 × Int32 × Nat) (fun n s => w_X12_amend_b35 q n (ov S o ad N) o (nI e) b s.1 s.2.1 (nI s.2.2)) (fun s => s.2.2 ≤ 2 ^ P) (fun s => 2 ^ P - s.2.2) ?_ (100000000, 0, 0) (Nat.zero_le _)
  rintro n ⟨l, its, i⟩ hi ih
  dsimp only at hi ih ⊢
  rw [w_X12_amend_b35]
  simp (disch := decide) only [oi_gI, oi_gJ, oi_gP, oi_pI, oi_pZ, oi_pJ, oi_oK, oi_aI hd, oi_aZ hd, oi_aJ hd, oi_sI hd, oi_sZ hd, oi_sJ hd, mI_1, mI_2, mJ_1, mJ_2, mJ_3, mA_1, mA_2, mA_3, mA_4, mL_1, mL_2, mL_3, mL_4, mK, Nat.reduceEqDiff, if_true, if_false, ite_true, ite_false, true_and, Nat.reduceLT, reduceIte, reduceCtorEq, cl_0, cl_1, cl_2, cl_3, cl_4, cl_5, cl_6, cl_7, cl_8, cl_9, cl_10, cl_11, cl_12, cl_13, cl_14, cl_15, vl_0_5585, vl_1_5585, vl_2_5585, vl_3_5585, vl_4_5585, vl_5_5585, vl_6_5585, vl_0_7, vl_1_7, vl_2_7, vl_3_7, vl_4_7, vl_5_7, vl_6_7]
  rw [eP, sh1 P (by omega), nI_leI (by omega) (by omega)]
  refine ⟨fun _ => ⟨fun _ => h _, fun _ => h _⟩, fun c => ?_⟩
  have k156 : ∀ x y, w_X12_amend_b156 q (fun S v0 v1 v2 v3 v4 v5 => w_X12_amend_b35 q n S v0 v1 v2 v3 v4 v5) (ov S o ad N) o (nI e) b x (nI i) y := by
    intro x y z ez
    rw [ez, nI_1]
    exact ih (y, x, i + 1) (by dsimp only; omega) (by dsimp only; omega)
  have k126 : ∀ t, w_X12_amend_b126 q (fun S v0 v1 v2 v3 v4 v5 => w_X12_amend_b35 q n S v0 v1 v2 v3 v4 v5) (ov S o ad N) o (nI e) b l its (nI i) t := fun t =>
    ⟨fun _ => ⟨fun _ => k156 _ _, fun _ => s_ones (fun r => k156 _ _)⟩, fun _ => ⟨fun _ => k156 _ _, fun _ => s_ones (fun r => k156 _ _)⟩⟩
  refine loop_m (σ := Int32 × Nat) (fun n' s => w_X12_amend_b54 q (fun S v0 v1 v2 v3 v4 v5 => w_X12_amend_b35 q n S v0 v1 v2 v3 v4 v5) n' (ov S o ad N) o (nI e) b l its (nI i) s.1 (nI s.2)) (fun s => s.2 ≤ P) (fun s => P - s.2) ?_ (0, 0) (Nat.zero_le _)
  rintro n' ⟨v, j⟩ hj ih'
  dsimp only at hj ih' ⊢
  rw [w_X12_amend_b54]
  simp (disch := decide) only [oi_gI, oi_gJ, oi_gP, oi_pI, oi_pZ, oi_pJ, oi_oK, oi_aI hd, oi_aZ hd, oi_aJ hd, oi_sI hd, oi_sZ hd, oi_sJ hd, mI_1, mI_2, mJ_1, mJ_2, mJ_3, mA_1, mA_2, mA_3, mA_4, mL_1, mL_2, mL_3, mL_4, mK, Nat.reduceEqDiff, if_true, if_false, ite_true, ite_false, true_and, Nat.reduceLT, reduceIte, reduceCtorEq, cl_0, cl_1, cl_2, cl_3, cl_4, cl_5, cl_6, cl_7, cl_8, cl_9, cl_10, cl_11, cl_12, cl_13, cl_14, cl_15, vl_0_5585, vl_1_5585, vl_2_5585, vl_3_5585, vl_4_5585, vl_5_5585, vl_6_5585, vl_0_7, vl_1_7, vl_2_7, vl_3_7, vl_4_7, vl_5_7, vl_6_7]
  rw [eP, nI_leI (by omega) (by omega), lit_nI 132, nIadd]
  have k88 : ∀ x y, j < P → w_X12_amend_b88 q (fun S v0 v1 v2 v3 v4 v5 => w_X12_amend_b35 q n S v0 v1 v2 v3 v4 v5) (fun S v0 v1 v2 v3 v4 v5 v6 v7 => w_X12_amend_b54 q (fun S v0 v1 v2 v3 v4 v5 => w_X12_amend_b35 q n S v0 v1 v2 v3 v4 v5) n' S v0 v1 v2 v3 v4 v5 v6 v7) (ov S o ad N) o (nI e) b l its (nI i) (nI j) x y := by
    intro x y hj2 z _ z2 ez
    rw [ez, nI_1]
    exact ih' (z, j + 1) (by dsimp only; omega) (by dsimp only; omega)
  exact ⟨fun _ => ⟨vp_in_nI (by omega) (by omega), fun _ => k126 0, fun _ => s_ones (fun r => ⟨fun _ => k126 0, fun _ => k126 1⟩)⟩, fun c2 => s_is ⟨fun z => absurd z (by decide), fun _ => k88 _ _ (by omega)⟩ ⟨fun _ => ⟨ov_oK, s_rights hd (by omega) he (k88 _ _ (by omega))⟩, fun z => absurd rfl z⟩⟩
theorem px_given (hd : mD o ad) (hX : mX mT rr Tt M) {q : Int32 → hS → Prop} {a b c : Int32} (h : ∀ r N, mX mT rr Tt N → q r (ov S o ad N)) : w_X12_given q (ov S o ad M) o a b c := by
  have hM := hX.1
  have hM0 : mOk mT (mI M 0 0) := mOk_i hM (by omega)
  have hX0 := mX_0 hX
  unfold w_X12_given
  simp (disch := decide) only [oi_gI, oi_gJ, oi_gP, oi_pI, oi_pZ, oi_pJ, oi_oK, oi_aI hd, oi_aZ hd, oi_aJ hd, oi_sI hd, oi_sZ hd, oi_sJ hd, mI_1, mI_2, mJ_1, mJ_2, mJ_3, mA_1, mA_2, mA_3, mA_4, mL_1, mL_2, mL_3, mL_4, mK, Nat.reduceEqDiff, if_true, if_false, ite_true, ite_false, true_and, Nat.reduceLT, reduceIte, reduceCtorEq, cl_0, cl_1, cl_2, cl_3, cl_4, cl_5, cl_6, cl_7, cl_8, cl_9, cl_10, cl_11, cl_12, cl_13, cl_14, cl_15, vl_0_5585, vl_1_5585, vl_2_5585, vl_3_5585, vl_4_5585, vl_5_5585, vl_6_5585, vl_0_7, vl_1_7, vl_2_7, vl_3_7, vl_4_7, vl_5_7, vl_6_7]
  refine s_isHouse hd (fun h1 h2 => ⟨fun z => absurd z (by decide), fun _ => s_in (fun x1 x2 => ⟨fun z => absurd z (by decide), fun _ => ⟨ov_oK, s_isPerson hd (fun h3 h4 => ⟨fun _ => ?_, fun z => absurd z (by decide)⟩) (fun _ => ⟨fun z => absurd rfl z, fun _ => h _ _ hX0⟩)⟩⟩) (fun _ => ⟨fun _ => h _ _ hX0, fun z => absurd rfl z⟩)⟩) (fun _ => ⟨fun _ => h _ _ hX0, fun z => absurd rfl z⟩)
  have b1 := hM0.1.1.2
  have b2 := hM0.1.2.1.2
  obtain ⟨e, he, rfl⟩ := rg_in 6 (by omega) h1 (by omega)
  obtain ⟨p, hp, rfl⟩ := rg_in 8 (by omega) h3 (by omega)
  rw [i64toInt] at x1 x2
  have e99 : (99 : Int64).toInt = 99 := by decide
  have e0 : (0 : Int64).toInt = 0 := by decide
  obtain ⟨k, hk, rfl⟩ := rg_in (z := b) 100 (by omega) (by omega) (by omega)
  obtain ⟨P, hP, eP⟩ := rg_inR (b := 8) hM0.1.2.1 (by omega) (by omega)
  generalize mI M 0 0 = N at *
  have k62 : ∀ f0, ∃ n, w_X12_given_b62 q n (ov S o ad (mA N 47 f0)) o (nI e) (nI k) (nI p) 0 := by
    intro f0
    refine loop_m (σ := (Nat → Int32) × Nat) (fun n s => w_X12_given_b62 q n (ov S o ad (mA N 47 s.1)) o (nI e) (nI k) (nI p) (nI s.2)) (fun s => s.2 ≤ k) (fun s => k - s.2) ?_ (f0, 0) (Nat.zero_le _)
    rintro n ⟨f, i⟩ hi ih
    dsimp only at hi ih ⊢
    rw [w_X12_given_b62]
    simp (disch := decide) only [oi_gI, oi_gJ, oi_gP, oi_pI, oi_pZ, oi_pJ, oi_oK, oi_aI hd, oi_aZ hd, oi_aJ hd, oi_sI hd, oi_sZ hd, oi_sJ hd, mI_1, mI_2, mJ_1, mJ_2, mJ_3, mA_1, mA_2, mA_3, mA_4, mL_1, mL_2, mL_3, mL_4, mK, Nat.reduceEqDiff, if_true, if_false, ite_true, ite_false, true_and, Nat.reduceLT, reduceIte, reduceCtorEq, cl_0, cl_1, cl_2, cl_3, cl_4, cl_5, cl_6, cl_7, cl_8, cl_9, cl_10, cl_11, cl_12, cl_13, cl_14, cl_15, vl_0_5585, vl_1_5585, vl_2_5585, vl_3_5585, vl_4_5585, vl_5_5585, vl_6_5585, vl_0_7, vl_1_7, vl_2_7, vl_3_7, vl_4_7, vl_5_7, vl_6_7]
    rw [nI_leI (by omega) (by omega)]
    refine ⟨fun _ => ⟨vp_in_nI (by omega) (by omega), h _ _ ⟨mOk_a hM0 (by omega), hX0.2.fx (Fx.a 47 _) (by simp) (by simp) (by simp)⟩⟩, fun c1 => ?_⟩
    refine loop_m (σ := Int32 × Nat) (fun n' s => w_X12_given_b74 q (fun S v0 v1 v2 v3 v4 => w_X12_given_b62 q n S v0 v1 v2 v3 v4) n' (ov S o ad (mA N 47 f)) o (nI e) (nI k) (nI p) (nI i) s.1 (nI s.2)) (fun s => s.2 ≤ P ∧ (s.1 = -1 ∨ ∃ j : Nat, j < 8 ∧ s.1 = nI j)) (fun s => P - s.2) ?_ (-1, 0) ⟨Nat.zero_le _, Or.inl rfl⟩
    rintro n' ⟨v, j⟩ ⟨hj, hv⟩ ih'
    dsimp only at hj hv ih' ⊢
    rw [w_X12_given_b74]
    simp (disch := decide) only [oi_gI, oi_gJ, oi_gP, oi_pI, oi_pZ, oi_pJ, oi_oK, oi_aI hd, oi_aZ hd, oi_aJ hd, oi_sI hd, oi_sZ hd, oi_sJ hd, mI_1, mI_2, mJ_1, mJ_2, mJ_3, mA_1, mA_2, mA_3, mA_4, mL_1, mL_2, mL_3, mL_4, mK, Nat.reduceEqDiff, if_true, if_false, ite_true, ite_false, true_and, Nat.reduceLT, reduceIte, reduceCtorEq, cl_0, cl_1, cl_2, cl_3, cl_4, cl_5, cl_6, cl_7, cl_8, cl_9, cl_10, cl_11, cl_12, cl_13, cl_14, cl_15, vl_0_5585, vl_1_5585, vl_2_5585, vl_3_5585, vl_4_5585, vl_5_5585, vl_6_5585, vl_0_7, vl_1_7, vl_2_7, vl_3_7, vl_4_7, vl_5_7, vl_6_7, mA_mA]
    rw [eP, nI_leI (by omega) (by omega)]
    have k165 : ∀ g, w_X12_given_b165 q (fun S v0 v1 v2 v3 v4 => w_X12_given_b62 q n S v0 v1 v2 v3 v4) (ov S o ad (mA N 47 g)) o (nI e) (nI k) (nI p) (nI i) := by
      intro g z ez
      rw [ez, nI_1]
      exact ih (g, i + 1) (by dsimp only; omega) (by dsimp only; omega)
    have k142 : ∀ y : Int32, (y = -1 ∨ ∃ j : Nat, j < 8 ∧ y = nI j) → j < P → w_X12_given_b142 q (fun S v0 v1 v2 v3 v4 => w_X12_given_b62 q n S v0 v1 v2 v3 v4) (fun S v0 v1 v2 v3 v4 v5 v6 => w_X12_given_b74 q (fun S v0 v1 v2 v3 v4 => w_X12_given_b62 q n S v0 v1 v2 v3 v4) n' S v0 v1 v2 v3 v4 v5 v6) (ov S o ad (mA N 47 f)) o (nI e) (nI k) (nI p) (nI i) y (nI j) := by
      intro y hy hj2 z ez
      rw [ez, nI_1]
      exact ih' (y, j + 1) ⟨by dsimp only; omega, hy⟩ (by dsimp only; omega)
    refine ⟨fun _ => ⟨fun _ => k165 _, fun cv => ?_⟩, fun c2 => s_rights hd (p := j) (by omega) he ⟨fun _ => k142 _ hv (by omega), fun _ => ⟨fun _ => k142 _ (Or.inr ⟨j, by omega, rfl⟩) (by omega), fun cv => ?_⟩⟩⟩
    · rcases hv with rfl | ⟨g, hg, rfl⟩
      · exact absurd rfl cv
      · exact ⟨vp_in_nI (by omega) (by omega), vp_in_nI (by omega) (by omega), k165 _⟩
    · rcases hv with rfl | ⟨g, hg, rfl⟩
      · exact absurd rfl cv
      · refine ⟨ov_oK, s_rights hd (p := j) (by omega) he ?_⟩
        simp (disch := decide) only [oi_gI, oi_gJ, oi_gP, oi_pI, oi_pZ, oi_pJ, oi_oK, oi_aI hd, oi_aZ hd, oi_aJ hd, oi_sI hd, oi_sZ hd, oi_sJ hd, mI_1, mI_2, mJ_1, mJ_2, mJ_3, mA_1, mA_2, mA_3, mA_4, mL_1, mL_2, mL_3, mL_4, mK, Nat.reduceEqDiff, if_true, if_false, ite_true, ite_false, true_and, Nat.reduceLT, reduceIte, reduceCtorEq, cl_0, cl_1, cl_2, cl_3, cl_4, cl_5, cl_6, cl_7, cl_8, cl_9, cl_10, cl_11, cl_12, cl_13, cl_14, cl_15, vl_0_5585, vl_1_5585, vl_2_5585, vl_3_5585, vl_4_5585, vl_5_5585, vl_6_5585, vl_0_7, vl_1_7, vl_2_7, vl_3_7, vl_4_7, vl_5_7, vl_6_7, mA_mA]
        refine ⟨vp_in_nI (by omega) (by omega), s_rights hd (p := g) (by omega) he ?_⟩
        simp (disch := decide) only [oi_gI, oi_gJ, oi_gP, oi_pI, oi_pZ, oi_pJ, oi_oK, oi_aI hd, oi_aZ hd, oi_aJ hd, oi_sI hd, oi_sZ hd, oi_sJ hd, mI_1, mI_2, mJ_1, mJ_2, mJ_3, mA_1, mA_2, mA_3, mA_4, mL_1, mL_2, mL_3, mL_4, mK, Nat.reduceEqDiff, if_true, if_false, ite_true, ite_false, true_and, Nat.reduceLT, reduceIte, reduceCtorEq, cl_0, cl_1, cl_2, cl_3, cl_4, cl_5, cl_6, cl_7, cl_8, cl_9, cl_10, cl_11, cl_12, cl_13, cl_14, cl_15, vl_0_5585, vl_1_5585, vl_2_5585, vl_3_5585, vl_4_5585, vl_5_5585, vl_6_5585, vl_0_7, vl_1_7, vl_2_7, vl_3_7, vl_4_7, vl_5_7, vl_6_7, mA_mA]
        exact ⟨vp_in_nI (by omega) (by omega), fun _ => k142 _ (Or.inr ⟨g, hg, rfl⟩) (by omega), fun _ => k142 _ (Or.inr ⟨j, by omega, rfl⟩) (by omega)⟩
  have hs := mA_self (M := N) 47
  have : ∃ n, w_X12_given_b38 q n (ov S o ad (mA N 47 (N.2.2.1 47))) o (nI e) (nI k) (nI p) (nI 0) := by
    refine loop_m (σ := (Nat → Int32) × Nat) (fun n s => w_X12_given_b38 q n (ov S o ad (mA N 47 s.1)) o (nI e) (nI k) (nI p) (nI s.2)) (fun s => s.2 ≤ 8) (fun s => 8 - s.2) ?_ (N.2.2.1 47, 0) (Nat.zero_le _)
    rintro n ⟨f, i⟩ hi ih
    dsimp only at hi ih ⊢
    rw [w_X12_given_b38]
    simp (disch := decide) only [oi_gI, oi_gJ, oi_gP, oi_pI, oi_pZ, oi_pJ, oi_oK, oi_aI hd, oi_aZ hd, oi_aJ hd, oi_sI hd, oi_sZ hd, oi_sJ hd, mI_1, mI_2, mJ_1, mJ_2, mJ_3, mA_1, mA_2, mA_3, mA_4, mL_1, mL_2, mL_3, mL_4, mK, Nat.reduceEqDiff, if_true, if_false, ite_true, ite_false, true_and, Nat.reduceLT, reduceIte, reduceCtorEq, cl_0, cl_1, cl_2, cl_3, cl_4, cl_5, cl_6, cl_7, cl_8, cl_9, cl_10, cl_11, cl_12, cl_13, cl_14, cl_15, vl_0_5585, vl_1_5585, vl_2_5585, vl_3_5585, vl_4_5585, vl_5_5585, vl_6_5585, vl_0_7, vl_1_7, vl_2_7, vl_3_7, vl_4_7, vl_5_7, vl_6_7, mA_mA]
    rw [lit_nI 8, nI_leI (by omega) (by omega), nI_clamp (by omega)]
    refine ⟨fun _ => k62 f, fun c => ⟨vp_in_nI (by omega) (by omega), fun y ey => ?_⟩⟩
    rw [ey, nI_1]
    exact ih (_, i + 1) (by dsimp only; omega) (by dsimp only; omega)
  rw [hs] at this
  exact this
theorem px_likely (hd : mD o ad) (hX : mX mT rr Tt M) {q : Int64 → hS → Prop} {a b : Int32} (h : ∀ r N, mX mT rr Tt N → q r (ov S o ad N)) : w_X12_likely q (ov S o ad M) o a b := by
  have hM := hX.1
  have hM0 : mOk mT (mI M 0 0) := mOk_i hM (by omega)
  have hX0 := mX_0 hX
  unfold w_X12_likely
  simp (disch := decide) only [oi_gI, oi_gJ, oi_gP, oi_pI, oi_pZ, oi_pJ, oi_oK, oi_aI hd, oi_aZ hd, oi_aJ hd, oi_sI hd, oi_sZ hd, oi_sJ hd, mI_1, mI_2, mJ_1, mJ_2, mJ_3, mA_1, mA_2, mA_3, mA_4, mL_1, mL_2, mL_3, mL_4, mK, Nat.reduceEqDiff, if_true, if_false, ite_true, ite_false, true_and, Nat.reduceLT, reduceIte, reduceCtorEq, cl_0, cl_1, cl_2, cl_3, cl_4, cl_5, cl_6, cl_7, cl_8, cl_9, cl_10, cl_11, cl_12, cl_13, cl_14, cl_15, vl_0_5585, vl_1_5585, vl_2_5585, vl_3_5585, vl_4_5585, vl_5_5585, vl_6_5585, vl_0_7, vl_1_7, vl_2_7, vl_3_7, vl_4_7, vl_5_7, vl_6_7]
  refine s_in (fun x1 x2 => ⟨fun z => absurd z (by decide), fun _ => s_in (fun y1 y2 => ⟨fun _ => ?_, fun z => absurd z (by decide)⟩) (fun _ => ⟨fun z => absurd rfl z, fun _ => h _ _ hX0⟩)⟩) (fun _ => ⟨fun _ => h _ _ hX0, fun z => absurd rfl z⟩)
  rw [i64toInt] at x1 x2 y1 y2
  have e20 : (20 : Int64).toInt = 20 := by decide
  have e60 : (60 : Int64).toInt = 60 := by decide
  have e0 : (0 : Int64).toInt = 0 := by decide
  obtain ⟨k, hk, rfl⟩ := rg_in (z := a) 21 (by omega) (by omega) (by omega)
  obtain ⟨m, hm, rfl⟩ := rg_in (z := b) 61 (by omega) (by omega) (by omega)
  generalize mI M 0 0 = N at *
  have k74 : ∀ f0 x, ∃ n, w_X12_likely_b74 q n (ov S o ad (mL N 50 f0)) o (nI k) (nI m) x 0 := by
    intro f0 x
    refine loop_m (σ := (Nat → Int64) × Nat) (fun n s => w_X12_likely_b74 q n (ov S o ad (mL N 50 s.1)) o (nI k) (nI m) x (nI s.2)) (fun s => s.2 ≤ m) (fun s => m - s.2) ?_ (f0, 0) (Nat.zero_le _)
    rintro n ⟨f, i⟩ hi ih
    dsimp only at hi ih ⊢
    rw [w_X12_likely_b74]
    simp (disch := decide) only [oi_gI, oi_gJ, oi_gP, oi_pI, oi_pZ, oi_pJ, oi_oK, oi_aI hd, oi_aZ hd, oi_aJ hd, oi_sI hd, oi_sZ hd, oi_sJ hd, mI_1, mI_2, mJ_1, mJ_2, mJ_3, mA_1, mA_2, mA_3, mA_4, mL_1, mL_2, mL_3, mL_4, mK, Nat.reduceEqDiff, if_true, if_false, ite_true, ite_false, true_and, Nat.reduceLT, reduceIte, reduceCtorEq, cl_0, cl_1, cl_2, cl_3, cl_4, cl_5, cl_6, cl_7, cl_8, cl_9, cl_10, cl_11, cl_12, cl_13, cl_14, cl_15, vl_0_5585, vl_1_5585, vl_2_5585, vl_3_5585, vl_4_5585, vl_5_5585, vl_6_5585, vl_0_7, vl_1_7, vl_2_7, vl_3_7, vl_4_7, vl_5_7, vl_6_7, mL_mL]
    rw [nI_leI (by omega) (by omega)]
    refine ⟨fun _ => ⟨vp_in_nI (by omega) (by omega), h _ _ ⟨mOk_l hM0, hX0.2.fx (Fx.l 50 _) (by simp) (by simp) (by simp)⟩⟩, fun c1 y ey => ?_⟩
    rw [ey]
    refine loop_m (σ := (Nat → Int64) × Nat) (fun n' s => w_X12_likely_b85 q (fun S v0 v1 v2 v3 v4 => w_X12_likely_b74 q n S v0 v1 v2 v3 v4) n' (ov S o ad (mL N 50 s.1)) o (nI k) (nI m) x (nI i) (nI s.2 - 1)) (fun s => s.2 ≤ k) (fun s => s.2) ?_ (f, k) (Nat.le_refl _)
    rintro n' ⟨g, j⟩ hj ih'
    dsimp only at hj ih' ⊢
    rw [w_X12_likely_b85]
    cases j with
    | zero =>
      refine ⟨fun _ y ey => ?_, fun c => absurd (by decide) c⟩
      rw [ey, nI_1]
      exact ih (g, i + 1) (by dsimp only; omega) (by dsimp only; omega)
    | succ j =>
      rw [nI_pm1]
      simp (disch := decide) only [oi_gI, oi_gJ, oi_gP, oi_pI, oi_pZ, oi_pJ, oi_oK, oi_aI hd, oi_aZ hd, oi_aJ hd, oi_sI hd, oi_sZ hd, oi_sJ hd, mI_1, mI_2, mJ_1, mJ_2, mJ_3, mA_1, mA_2, mA_3, mA_4, mL_1, mL_2, mL_3, mL_4, mK, Nat.reduceEqDiff, if_true, if_false, ite_true, ite_false, true_and, Nat.reduceLT, reduceIte, reduceCtorEq, cl_0, cl_1, cl_2, cl_3, cl_4, cl_5, cl_6, cl_7, cl_8, cl_9, cl_10, cl_11, cl_12, cl_13, cl_14, cl_15, vl_0_5585, vl_1_5585, vl_2_5585, vl_3_5585, vl_4_5585, vl_5_5585, vl_6_5585, vl_0_7, vl_1_7, vl_2_7, vl_3_7, vl_4_7, vl_5_7, vl_6_7, mL_mL]
      rw [nI_1 j, nI_clamp (by omega), nI_clamp (by omega), nI_am1]
      refine ⟨fun z => absurd z (nI_ltz (by omega)), fun _ => ⟨vp_in_nI (by omega) (by omega), vp_in_nI (by omega) (by omega), vp_in_nI (by omega) (by omega), vp_in_nI (by omega) (by omega), fun y ey => ?_⟩⟩
      rw [ey]
      exact ih' (_, j) (by dsimp only; omega) (by dsimp only; omega)
  have hs := mL_self (M := N) 50
  have : ∃ n, w_X12_likely_b35 q n (ov S o ad (mL N 50 (N.2.2.2 50))) o (nI k) (nI m) (nI 0) := by
    refine loop_m (σ := (Nat → Int64) × Nat) (fun n s => w_X12_likely_b35 q n (ov S o ad (mL N 50 s.1)) o (nI k) (nI m) (nI s.2)) (fun s => s.2 ≤ 22) (fun s => 22 - s.2) ?_ (N.2.2.2 50, 0) (Nat.zero_le _)
    rintro n ⟨f, i⟩ hi ih
    dsimp only at hi ih ⊢
    rw [w_X12_likely_b35]
    simp (disch := decide) only [oi_gI, oi_gJ, oi_gP, oi_pI, oi_pZ, oi_pJ, oi_oK, oi_aI hd, oi_aZ hd, oi_aJ hd, oi_sI hd, oi_sZ hd, oi_sJ hd, mI_1, mI_2, mJ_1, mJ_2, mJ_3, mA_1, mA_2, mA_3, mA_4, mL_1, mL_2, mL_3, mL_4, mK, Nat.reduceEqDiff, if_true, if_false, ite_true, ite_false, true_and, Nat.reduceLT, reduceIte, reduceCtorEq, cl_0, cl_1, cl_2, cl_3, cl_4, cl_5, cl_6, cl_7, cl_8, cl_9, cl_10, cl_11, cl_12, cl_13, cl_14, cl_15, vl_0_5585, vl_1_5585, vl_2_5585, vl_3_5585, vl_4_5585, vl_5_5585, vl_6_5585, vl_0_7, vl_1_7, vl_2_7, vl_3_7, vl_4_7, vl_5_7, vl_6_7, mL_mL]
    rw [lit_nI 22, nI_leI (by omega) (by omega), nI_clamp (by omega)]
    refine ⟨fun _ => ⟨vp_in_iff.mpr (by decide), k74 _ _⟩, fun c => ⟨vp_in_nI (by omega) (by omega), fun y ey => ?_⟩⟩
    rw [ey, nI_1]
    exact ih (_, i + 1) (by dsimp only; omega) (by dsimp only; omega)
  rw [hs] at this
  exact this
theorem px_visits (hd : mD o ad) (hX : mX mT rr Tt M) {q : Int32 → hS → Prop} {a b c : Int32} (h : ∀ r N, mX mT rr Tt N → q r (ov S o ad N)) : w_X12_visits q (ov S o ad M) o a b c := by
  have hM := hX.1
  have hM0 : mOk mT (mI M 0 0) := mOk_i hM (by omega)
  have hX0 := mX_0 hX
  unfold w_X12_visits
  simp (disch := decide) only [oi_gI, oi_gJ, oi_gP, oi_pI, oi_pZ, oi_pJ, oi_oK, oi_aI hd, oi_aZ hd, oi_aJ hd, oi_sI hd, oi_sZ hd, oi_sJ hd, mI_1, mI_2, mJ_1, mJ_2, mJ_3, mA_1, mA_2, mA_3, mA_4, mL_1, mL_2, mL_3, mL_4, mK, Nat.reduceEqDiff, if_true, if_false, ite_true, ite_false, true_and, Nat.reduceLT, reduceIte, reduceCtorEq, cl_0, cl_1, cl_2, cl_3, cl_4, cl_5, cl_6, cl_7, cl_8, cl_9, cl_10, cl_11, cl_12, cl_13, cl_14, cl_15, vl_0_5585, vl_1_5585, vl_2_5585, vl_3_5585, vl_4_5585, vl_5_5585, vl_6_5585, vl_0_7, vl_1_7, vl_2_7, vl_3_7, vl_4_7, vl_5_7, vl_6_7]
  refine s_isPerson hd (fun h1 h2 => ⟨fun z => absurd z (by decide), fun _ => ⟨ov_oK, ?_⟩⟩) (fun _ => ⟨fun _ => h _ _ hX0, fun z => absurd rfl z⟩)
  have b2 := hM0.1.2.1.2
  obtain ⟨p, hp, rfl⟩ := rg_in 8 (by omega) h1 (by omega)
  have key : w_X12_findVisits (fun S => (¬ c = (-1) → gI S o 12 44 (fun x60 => (x60 ≤ c → q (-1) S) ∧ (¬ x60 ≤ c → gP S o 12 43 (fun x67 => aI S x67 c (fun x71 => q x71 S))))) ∧ (c = (-1) → gI S o 12 44 (fun x52 => q x52 S))) (ov S o ad (mI M 0 0)) o (nI p) b ∨ ¬ (-1) ≤ c := by
    by_cases hc : (-1) ≤ c
    · left
      refine s_findVisits hd hM0 hp (fun N hF h44 => ?_)
      have hN : mOk mT N := mOk_fx hF hM0 (by simp)
      simp (disch := decide) only [oi_gI, oi_gJ, oi_gP, oi_pI, oi_pZ, oi_pJ, oi_oK, oi_aI hd, oi_aZ hd, oi_aJ hd, oi_sI hd, oi_sZ hd, oi_sJ hd, mI_1, mI_2, mJ_1, mJ_2, mJ_3, mA_1, mA_2, mA_3, mA_4, mL_1, mL_2, mL_3, mL_4, mK, Nat.reduceEqDiff, if_true, if_false, ite_true, ite_false, true_and, Nat.reduceLT, reduceIte, reduceCtorEq, cl_0, cl_1, cl_2, cl_3, cl_4, cl_5, cl_6, cl_7, cl_8, cl_9, cl_10, cl_11, cl_12, cl_13, cl_14, cl_15, vl_0_5585, vl_1_5585, vl_2_5585, vl_3_5585, vl_4_5585, vl_5_5585, vl_6_5585, vl_0_7, vl_1_7, vl_2_7, vl_3_7, vl_4_7, vl_5_7, vl_6_7]
      refine ⟨fun cn => ⟨fun _ => h _ _ ⟨hN, hX0.2.fx hF (by simp) (by simp) (by simp)⟩, fun cl => ⟨?_, h _ _ ⟨hN, hX0.2.fx hF (by simp) (by simp) (by simp)⟩⟩⟩, fun _ => h _ _ ⟨hN, hX0.2.fx hF (by simp) (by simp) (by simp)⟩⟩
      have : (-1 : Int32).toInt = -1 := by decide
      rw [i32ge] at hc cl
      have cn' : c.toInt ≠ -1 := fun z => cn (Int32.toInt_inj.mp z)
      have := h44.2
      obtain ⟨j, hj, rfl⟩ := rg_in (z := c) 6 (by omega) (by omega) (by omega)
      exact vp_in_nI hj (by omega)
    · exact Or.inr hc
  have fin : ((-1) ≤ c → oK (ov S o ad (mI M 0 0)) o 12 ∧ w_X12_findVisits (fun S => (¬ c = (-1) → gI S o 12 44 (fun x60 => (x60 ≤ c → q (-1) S) ∧ (¬ x60 ≤ c → gP S o 12 43 (fun x67 => aI S x67 c (fun x71 => q x71 S))))) ∧ (c = (-1) → gI S o 12 44 (fun x52 => q x52 S))) (ov S o ad (mI M 0 0)) o (nI p) b) ∧ (¬ (-1) ≤ c → q (-1) (ov S o ad (mI M 0 0))) :=
    ⟨fun z => ⟨ov_oK, key.resolve_right (fun y => y z)⟩, fun _ => h _ _ hX0⟩
  exact s_lives hd hp (fun _ => ⟨fun _ => h _ _ hX0, fun _ => s_in01 ⟨fun _ => h _ _ hX0, fun _ => fin⟩ ⟨fun _ => h _ _ hX0, fun _ => fin⟩⟩) (fun _ => ⟨fun _ => h _ _ hX0, fun _ => s_in01 ⟨fun _ => h _ _ hX0, fun _ => fin⟩ ⟨fun _ => h _ _ hX0, fun _ => fin⟩⟩)
theorem px_exchange (hd : mD o ad) (hX : mX mT rr Tt M) {q : Int32 → hS → Prop} {a : Int32} (h : ∀ r N, mX mT rr Tt N → q r (ov S o ad N)) : w_X12_exchange q (ov S o ad M) o a := by
  have hM := hX.1
  have hM0 : mOk mT (mI M 0 0) := mOk_i hM (by omega)
  have hX0 := mX_0 hX
  have b2 := hM.1.2.1.2
  unfold w_X12_exchange
  simp (disch := decide) only [oi_gI, oi_gJ, oi_gP, oi_pI, oi_pZ, oi_pJ, oi_oK, oi_aI hd, oi_aZ hd, oi_aJ hd, oi_sI hd, oi_sZ hd, oi_sJ hd, mI_1, mI_2, mJ_1, mJ_2, mJ_3, mA_1, mA_2, mA_3, mA_4, mL_1, mL_2, mL_3, mL_4, mK, Nat.reduceEqDiff, if_true, if_false, ite_true, ite_false, true_and, Nat.reduceLT, reduceIte, reduceCtorEq, cl_0, cl_1, cl_2, cl_3, cl_4, cl_5, cl_6, cl_7, cl_8, cl_9, cl_10, cl_11, cl_12, cl_13, cl_14, cl_15, vl_0_5585, vl_1_5585, vl_2_5585, vl_3_5585, vl_4_5585, vl_5_5585, vl_6_5585, vl_0_7, vl_1_7, vl_2_7, vl_3_7, vl_4_7, vl_5_7, vl_6_7]
  refine s_in (fun x1 x2 => ⟨fun _ => ⟨ov_oK, f_findExchange hd hM0 (fun r N hN hF => ⟨fun c => ?_, fun _ => h _ _ ⟨hN, hX0.2.fx hF (by simp) (by simp) (by simp)⟩⟩)⟩, fun z => absurd z (by decide)⟩) (fun _ => ⟨fun z => absurd rfl z, fun _ => h _ _ hX0⟩)
  rw [i64toInt] at x1 x2
  rw [i64toInt] at x2
  have x1 : 0 ≤ a.toInt := by simpa using x1
  have c' : a.toInt ≠ 0 := fun z => c (Int32.toInt_inj.mp (by rw [z]; decide))
  obtain ⟨w, hw, rfl⟩ := rg_in (z := a) 9 (by omega) x1 (by omega)
  rw [nI_toInt (by omega)] at c'
  simp (disch := decide) only [oi_gI, oi_gJ, oi_gP, oi_pI, oi_pZ, oi_pJ, oi_oK, oi_aI hd, oi_aZ hd, oi_aJ hd, oi_sI hd, oi_sZ hd, oi_sJ hd, mI_1, mI_2, mJ_1, mJ_2, mJ_3, mA_1, mA_2, mA_3, mA_4, mL_1, mL_2, mL_3, mL_4, mK, Nat.reduceEqDiff, if_true, if_false, ite_true, ite_false, true_and, Nat.reduceLT, reduceIte, reduceCtorEq, cl_0, cl_1, cl_2, cl_3, cl_4, cl_5, cl_6, cl_7, cl_8, cl_9, cl_10, cl_11, cl_12, cl_13, cl_14, cl_15, vl_0_5585, vl_1_5585, vl_2_5585, vl_3_5585, vl_4_5585, vl_5_5585, vl_6_5585, vl_0_7, vl_1_7, vl_2_7, vl_3_7, vl_4_7, vl_5_7, vl_6_7]
  rw [nI_s1 (by omega)]
  exact ⟨vp_in_nI (by omega) (by omega), h _ _ ⟨hN, hX0.2.fx hF (by simp) (by simp) (by simp)⟩⟩
theorem fx_kp187 (hd : mD o ad) {M0 : mS} (hX : mX mT rr Tt M0) {q : Int32 → hS → Prop} {e k n : Nat} {v4 : Int32} (he : e < 6) (hk : k ≤ 20) (hn : n ≤ 8) (hv : -1 ≤ v4.toInt ∧ v4.toInt < n) (hF0 : KF M0 M) (hKP : ∀ y, y < n → ∀ l, l ≤ k → KP (Wy M0 e) (M.2.2.1 48) y l) (h : ∀ r N, mX mT rr Tt N → q r (ov S o ad N)) : ∃ t, w_X12_keep_b187 q t (ov S o ad M) o (nI e) (nI k) v4 (nI k) 0 0 := by
  have hM := hX.1
  refine loop_m (σ := mS × Nat × Int32 × Nat) (fun t s => w_X12_keep_b187 q t (ov S o ad s.1) o (nI e) (nI k) v4 (nI s.2.1) s.2.2.1 (nI s.2.2.2)) (fun s => Fz M s.1 ∧ s.2.1 ≤ k ∧ s.2.2.2 ≤ n) (fun s => n - s.2.2.2) ?_ (M, k, 0, 0) ⟨Fz.rf, Nat.le_refl _, Nat.zero_le _⟩
  rintro t ⟨N, L, mm, y⟩ ⟨hF, hL, hy⟩ ih
  dsimp only at hF hL hy ih ⊢
  have hN : mOk mT N := mOk_z hF (hF0.ok hM)
  rw [w_X12_keep_b187]
  simp (disch := decide) only [oi_gI, oi_gJ, oi_gP, oi_pI, oi_pZ, oi_pJ, oi_oK, oi_aI hd, oi_aZ hd, oi_aJ hd, oi_sI hd, oi_sZ hd, oi_sJ hd, mI_1, mI_2, mJ_1, mJ_2, mJ_3, mA_1, mA_2, mA_3, mA_4, mL_1, mL_2, mL_3, mL_4, mK, Nat.reduceEqDiff, if_true, if_false, ite_true, ite_false, true_and, Nat.reduceLT, reduceIte, reduceCtorEq, cl_0, cl_1, cl_2, cl_3, cl_4, cl_5, cl_6, cl_7, cl_8, cl_9, cl_10, cl_11, cl_12, cl_13, cl_14, cl_15, vl_0_5585, vl_1_5585, vl_2_5585, vl_3_5585, vl_4_5585, vl_5_5585, vl_6_5585, vl_0_7, vl_1_7, vl_2_7, vl_3_7, vl_4_7, vl_5_7, vl_6_7]
  rw [i32lt, nI_toInt (by omega)]
  refine ⟨fun c => ⟨fun _ => h _ _ ⟨hN, (hX.2.fx hF0.1 (by simp) (by simp) (by simp)).fz hF⟩, fun _ => ⟨vp_in_nI (by omega) (by omega), h _ _ ⟨hN, (hX.2.fx hF0.1 (by simp) (by simp) (by simp)).fz hF⟩⟩⟩, fun c => ?_⟩
  obtain ⟨mw, hmw, hkv⟩ := hKP y (by omega) L hL
  refine loop_m (σ := mS × Nat) (fun t' s => w_X12_keep_b197 q (fun S v0 v1 v2 v4 v5 v6 v7 => w_X12_keep_b187 q t S v0 v1 v2 v4 v5 v6 v7) t' (ov S o ad s.1) o (nI e) (nI k) v4 (nI L) (nI s.2) (nI y)) (fun s => Fz M s.1 ∧ s.2 ≤ mw) (fun s => mw - s.2) ?_ (N, 0) ⟨hF, Nat.zero_le _⟩
  rintro t' ⟨P, m⟩ ⟨hP, hm⟩ ih'
  dsimp only at hP hm ih' ⊢
  have hPok : mOk mT P := mOk_z hP (hF0.ok hM)
  rw [w_X12_keep_b197]
  refine ⟨ov_oK, f_keptBy hd hPok he (by omega) (by omega) (by omega) (fun Q hQ => ?_)⟩
  have hMQ := hP.tr hQ
  have eW : Wy P e y = Wy M0 e y := (hF0.z hP).W e y
  simp (disch := decide) only [oi_gI, oi_gJ, oi_gP, oi_pI, oi_pZ, oi_pJ, oi_oK, oi_aI hd, oi_aZ hd, oi_aJ hd, oi_sI hd, oi_sZ hd, oi_sJ hd, mI_1, mI_2, mJ_1, mJ_2, mJ_3, mA_1, mA_2, mA_3, mA_4, mL_1, mL_2, mL_3, mL_4, mK, Nat.reduceEqDiff, if_true, if_false, ite_true, ite_false, true_and, Nat.reduceLT, reduceIte, reduceCtorEq, cl_0, cl_1, cl_2, cl_3, cl_4, cl_5, cl_6, cl_7, cl_8, cl_9, cl_10, cl_11, cl_12, cl_13, cl_14, cl_15, vl_0_5585, vl_1_5585, vl_2_5585, vl_3_5585, vl_4_5585, vl_5_5585, vl_6_5585, vl_0_7, vl_1_7, vl_2_7, vl_3_7, vl_4_7, vl_5_7, vl_6_7]
  rw [lit_nI 21, nImul, nIadd, nI_clamp (by omega), hMQ.r, hP.r, eW]
  refine ⟨vp_in_nI (by omega) (by omega), fun c2 y1 e1 y2 e2 => ?_, fun c2 y1 e1 => ?_⟩
  · rw [e1, e2, nIsub (by omega), nI_1]
    exact ih (Q, L - m, nI m, y + 1) ⟨hMQ, by dsimp only; omega, by dsimp only; omega⟩ (by dsimp only; omega)
  · rw [e1, nI_1]
    have hne : m ≠ mw := fun z => c2 (by rw [hkv, z])
    exact ih' (Q, m + 1) ⟨hMQ, by dsimp only; omega⟩ (by dsimp only; omega)
theorem fx_kp89 (hd : mD o ad) {M0 : mS} (hX : mX mT rr Tt M0) {q : Int32 → hS → Prop} {e k n : Nat} {v4 : Int32} (he : e < 6) (hk : k ≤ 20) (hn : n ≤ 8) (hn1 : 1 ≤ n) (hv : -1 ≤ v4.toInt ∧ v4.toInt < n) (hF0 : KF M0 M) (hR : KR (Wy M0 e) (M.2.2.1 48) k n n) (h : ∀ r N, mX mT rr Tt N → q r (ov S o ad N)) : ∃ t, w_X12_keep_b89 q t (ov S o ad M) o (nI e) (nI k) v4 (nI n - 1) := by
  have hM := hX.1
  have z0 : (0 : Int32).toInt = 0 := by decide
  refine loop_m (σ := mS × Nat) (fun t s => w_X12_keep_b89 q t (ov S o ad s.1) o (nI e) (nI k) v4 (nI s.2 - 1)) (fun s => KF M0 s.1 ∧ KR (Wy M0 e) (s.1.2.2.1 48) k n s.2 ∧ s.2 ≤ n) (fun s => s.2) ?_ (M, n) ⟨hF0, hR, Nat.le_refl _⟩
  rintro t ⟨N, y⟩ ⟨hF, hKR, hy⟩ ih
  dsimp only at hF hKR hy ih ⊢
  rw [w_X12_keep_b89]
  have hlt : nI y - 1 < 0 ↔ y = 0 := by
    rw [i32lt, fb_subI (by rw [nI_toInt (by omega), show (1 : Int32).toInt = 1 by decide]; omega) (by rw [nI_toInt (by omega), show (1 : Int32).toInt = 1 by decide]; omega), nI_toInt (by omega), z0, show (1 : Int32).toInt = 1 by decide]
    omega
  rw [hlt]
  refine ⟨fun c => ?_, fun c => ?_⟩
  · subst c
    exact fx_kp187 hd hX he hk hn hv hF (fun y hy l hl => hKR.1 y (Nat.zero_le _) hy l hl) h
  obtain ⟨y, rfl⟩ : ∃ y', y = y' + 1 := ⟨y - 1, by omega⟩
  rw [nI_s1 (by omega), show y + 1 - 1 = y from rfl]
  -- the row y
  refine loop_m (σ := mS × Nat) (fun t' s => w_X12_keep_b97 q (fun S v0 v1 v2 v4 v5 => w_X12_keep_b89 q t S v0 v1 v2 v4 v5) t' (ov S o ad s.1) o (nI e) (nI k) v4 (nI y) (nI s.2)) (fun s => KF M0 s.1 ∧ KR (Wy M0 e) (s.1.2.2.1 48) k n (y + 1) ∧ s.2 ≤ k + 1 ∧ ∀ l, l < s.2 → KP (Wy M0 e) (s.1.2.2.1 48) y l ∧ rg (s.1.2.2.1 48 (21 * y + l)) 0 (1980 * (8 - y))) (fun s => k + 1 - s.2) ?_ (N, 0) ⟨hF, hKR, Nat.zero_le _, fun l hl => absurd hl (by simp)⟩
  rintro t' ⟨P, l⟩ ⟨hP, hKP, hl, hdone⟩ ih'
  dsimp only at hP hKP hl hdone ih' ⊢
  rw [w_X12_keep_b97]
  have hlt2 : nI k < nI l ↔ k < l := by rw [i32lt, nI_toInt (by omega), nI_toInt (by omega)]; omega
  rw [hlt2]
  refine ⟨fun c2 y1 e1 => ?_, fun c2 => ?_⟩
  · rw [e1, ← Int32.sub_eq_add_neg]
    refine ih (P, y) ⟨hP, ⟨fun y' a1 a2 l' a3 => ?_, fun y' a1 a2 l' a3 => ?_⟩, by dsimp only; omega⟩ (by dsimp only; omega)
    · by_cases ey : y' = y
      · subst ey; exact (hdone l' (by omega)).1
      · exact hKP.1 y' (by dsimp only at a1; omega) a2 l' a3
    · by_cases ey : y' = y
      · subst ey; exact (hdone l' (by omega)).2
      · exact hKP.2 y' (by dsimp only at a1; omega) a2 l' a3
  · have hB : 1980 * (8 - (y + 1)) ≤ 100000 := by omega
    refine f_kp109 hd (hP.ok hM) he (by omega) hk (by omega) hB (fun j hj => ?_) (fun Q x hQ hx hm => ?_)
    · have := hKP.2 (y + 1) (Nat.le_refl _) (by omega) j (by omega)
      rw [show 21 * (y + 1) + j = 21 * y + 21 + j by omega] at this
      exact ⟨this.1, by have := this.2; omega⟩
    · rw [hP.W] at hm
      have e48 : ∀ i, (mA Q 48 (upd (P.2.2.1 48) (21 * y + l) x)).2.2.1 48 i = upd (P.2.2.1 48) (21 * y + l) x i := fun i => by simp [mA_3]
      have kc : ∀ y' l' m', y ≤ y' → l' ≤ k → kv (Wy M0 e y') ((mA Q 48 (upd (P.2.2.1 48) (21 * y + l) x)).2.2.1 48) y' l' m' = kv (Wy M0 e y') (P.2.2.1 48) y' l' m' := fun y' l' m' a1 a2 => kv_congr (by rw [e48, upd_ne _ _ (by omega)])
      have rx : rg x 0 (1980 * (8 - y)) := ⟨hx.1, by have := hx.2; omega⟩
      refine ih' (mA Q 48 (upd (P.2.2.1 48) (21 * y + l) x), l + 1) ⟨(hP.z hQ).g, ⟨fun y' a1 a2 l' a3 => ?_, fun y' a1 a2 l' a3 => ?_⟩, by dsimp only; omega, fun l' hl' => ?_⟩ (by dsimp only; omega)
      · obtain ⟨m, m1, m2⟩ := hKP.1 y' a1 a2 l' a3
        refine ⟨m, m1, ?_⟩
        dsimp only
        rw [kc y' l' m (by omega) a3, e48, upd_ne _ _ (by omega)]
        exact m2
      · dsimp only
        rw [e48, upd_ne _ _ (by omega)]; exact hKP.2 y' a1 a2 l' a3
      · dsimp only at hl'
        by_cases el : l' = l
        · subst el
          obtain ⟨m, m1, m2⟩ := hm
          refine ⟨⟨m, m1, ?_⟩, ?_⟩
          · dsimp only
            rw [kc y l' m (Nat.le_refl _) (by omega), e48, upd_self]; exact m2
          · dsimp only
            rw [e48, upd_self]; exact rx
        · obtain ⟨⟨m, m1, m2⟩, d2⟩ := hdone l' (by omega)
          refine ⟨⟨m, m1, ?_⟩, ?_⟩
          · dsimp only
            rw [kc y l' m (Nat.le_refl _) (by omega), e48, upd_ne _ _ (by omega)]; exact m2
          · dsimp only
            rw [e48, upd_ne _ _ (by omega)]; exact d2
theorem px_keep (hd : mD o ad) (hX : mX mT rr Tt M) {q : Int32 → hS → Prop} {a b c d : Int32} (h : ∀ r N, mX mT rr Tt N → q r (ov S o ad N)) : w_X12_keep q (ov S o ad M) o a b c d := by
  have hM := hX.1
  have hM0 : mOk mT (mI M 0 0) := mOk_i hM (by omega)
  have hX0 := mX_0 hX
  have b1 := hM0.1.1.2
  unfold w_X12_keep
  simp (disch := decide) only [oi_gI, oi_gJ, oi_gP, oi_pI, oi_pZ, oi_pJ, oi_oK, oi_aI hd, oi_aZ hd, oi_aJ hd, oi_sI hd, oi_sZ hd, oi_sJ hd, mI_1, mI_2, mJ_1, mJ_2, mJ_3, mA_1, mA_2, mA_3, mA_4, mL_1, mL_2, mL_3, mL_4, mK, Nat.reduceEqDiff, if_true, if_false, ite_true, ite_false, true_and, Nat.reduceLT, reduceIte, reduceCtorEq, cl_0, cl_1, cl_2, cl_3, cl_4, cl_5, cl_6, cl_7, cl_8, cl_9, cl_10, cl_11, cl_12, cl_13, cl_14, cl_15, vl_0_5585, vl_1_5585, vl_2_5585, vl_3_5585, vl_4_5585, vl_5_5585, vl_6_5585, vl_0_7, vl_1_7, vl_2_7, vl_3_7, vl_4_7, vl_5_7, vl_6_7]
  refine s_isHouse hd (fun h1 h2 => ⟨fun z => absurd z (by decide), fun _ => s_in (fun x1 x2 => ⟨fun z => absurd z (by decide), fun _ => s_in (fun y1 y2 => ⟨fun z => absurd z (by decide), fun _ => s_in (fun w1 w2 => ⟨fun _ => ?_, fun z => absurd z (by decide)⟩) (fun _ => ⟨fun z => absurd rfl z, fun _ => h _ _ hX0⟩)⟩) (fun _ => ⟨fun _ => h _ _ hX0, fun z => absurd rfl z⟩)⟩) (fun _ => ⟨fun _ => h _ _ hX0, fun z => absurd rfl z⟩)⟩) (fun _ => ⟨fun _ => h _ _ hX0, fun z => absurd rfl z⟩)
  obtain ⟨e, he, rfl⟩ := rg_in 6 (by omega) h1 (by omega)
  rw [i64toInt] at x1 x2 y1 y2 w1
  have t0 : (0 : Int64).toInt = 0 := by decide
  have t20 : (20 : Int64).toInt = 20 := by decide
  have t1 : (1 : Int64).toInt = 1 := by decide
  have t8 : (8 : Int64).toInt = 8 := by decide
  have tm : (-1 : Int64).toInt = -1 := by decide
  have w2 := i64s1 _ _ w2
  obtain ⟨k, hk, rfl⟩ := rg_in (z := b) 21 (by omega) (by omega) (by omega)
  obtain ⟨n, hn, rfl⟩ := rg_in (z := c) 9 (by omega) (by omega) (by omega)
  rw [nI_toInt (by omega)] at y1 w2
  have key := loop_m (σ := (Nat → Int32) × Nat) (fun m s => w_X12_keep_b58 q m (ov S o ad (mA (mI M 0 0) 48 s.1)) o (nI e) (nI k) (nI n) d (nI s.2)) (fun s => s.2 ≤ 21 ∧ ∀ j, j < s.2 → s.1 (21 * n + j) = 0) (fun s => 21 - s.2) ?_ ((mI M 0 0).2.2.1 48, 0) ⟨by omega, fun j hj => absurd hj (by simp)⟩
  · rw [mA_self] at key
    exact key
  rintro m ⟨g, i⟩ ⟨hi, hg⟩ ih
  dsimp only at hi hg ih ⊢
  rw [w_X12_keep_b58, lit_nI 21, nI_leI (by omega) (by omega)]
  refine ⟨fun c1 y ey => ?_, fun c1 => ?_⟩
  · rw [ey]
    refine fx_kp89 hd hX0 he (by omega) (by omega) (by omega) ⟨by omega, by omega⟩ (KF.rf.g) ⟨fun y' a1 a2 => by omega, fun y' a1 a2 l hl => ?_⟩ h
    obtain rfl : y' = n := by omega
    have e48 : (mA (mI M 0 0) 48 g).2.2.1 48 (21 * y' + l) = 0 := by
      rw [mA_3, if_pos rfl]
      exact hg l (by omega)
    rw [e48]
    exact ⟨by decide, by rw [show (0 : Int32).toInt = 0 by decide]; omega⟩
  · simp (disch := decide) only [oi_gI, oi_gJ, oi_gP, oi_pI, oi_pZ, oi_pJ, oi_oK, oi_aI hd, oi_aZ hd, oi_aJ hd, oi_sI hd, oi_sZ hd, oi_sJ hd, mI_1, mI_2, mJ_1, mJ_2, mJ_3, mA_1, mA_2, mA_3, mA_4, mL_1, mL_2, mL_3, mL_4, mK, Nat.reduceEqDiff, if_true, if_false, ite_true, ite_false, true_and, Nat.reduceLT, reduceIte, reduceCtorEq, cl_0, cl_1, cl_2, cl_3, cl_4, cl_5, cl_6, cl_7, cl_8, cl_9, cl_10, cl_11, cl_12, cl_13, cl_14, cl_15, vl_0_5585, vl_1_5585, vl_2_5585, vl_3_5585, vl_4_5585, vl_5_5585, vl_6_5585, vl_0_7, vl_1_7, vl_2_7, vl_3_7, vl_4_7, vl_5_7, vl_6_7, mA_mA]
    rw [nImul, nIadd, nI_clamp (by omega)]
    refine ⟨vp_in_nI (by omega) (by omega), fun y ey => ?_⟩
    rw [ey, nI_1]
    refine ih (upd g (21 * n + i) 0, i + 1) ⟨by dsimp only; omega, fun j hj => ?_⟩ (by dsimp only; omega)
    dsimp only at hj ⊢
    by_cases ej : j = i
    · subst ej; rw [upd_self]
    · rw [upd_ne _ _ (by omega)]; exact hg j (by omega)
theorem fx_ch241 (hd : mD o ad) {M0 : mS} (hX : mX mT rr Tt M0) (hC : CF M0 M) {q : Int32 → hS → Prop} {n to a e : Nat} {i : Int32} (hn : n ≤ 8) (hto : to < n) (ha : a < n) (he : e < 6) (hD : ∀ p, p < n → M.2.2.1 49 p = nI (dk n to (bq (M0.2.2.1 3) (M0.2.2.2 35) e) (cq (M0.2.2.1 3) (M0.2.2.2 35) e) n p)) (hfar : dk n to (bq (M0.2.2.1 3) (M0.2.2.2 35) e) (cq (M0.2.2.1 3) (M0.2.2.2 35) e) n a < 100000000) (h : ∀ r N, mX mT rr Tt N → q r (ov S o ad N)) : ∃ m, w_X12_chain_b241 q m (ov S o ad M) o (nI to) (nI e) i (nI a) 0 := by
  have hM0 := hX.1
  generalize hdd : dk n to (bq (M0.2.2.1 3) (M0.2.2.2 35) e) (cq (M0.2.2.1 3) (M0.2.2.2 35) e) n = d at hD hfar
  have dF : ∀ p, d p ≤ 100000000 := fun p => by rw [← hdd]; exact dk_F n p
  refine loop_m (σ := mS × Nat × Int32) (fun m s => w_X12_chain_b241 q m (ov S o ad s.1) o (nI to) (nI e) i (nI s.2.1) s.2.2) (fun s => Fz M s.1 ∧ s.2.1 < n ∧ d s.2.1 < 100000000) (fun s => d s.2.1) ?_ (M, a, 0) ⟨Fz.rf, ha, hfar⟩
  rintro m ⟨N, x, k⟩ ⟨hF, hx, hdx⟩ ih
  dsimp only at hF hx hdx ih ⊢
  rw [w_X12_chain_b241]
  have hN : mOk mT N := mOk_z hF (hC.ok hM0)
  rw [nI_eq (by omega) (by omega)]
  refine ⟨fun _ => h _ _ ⟨hN, (hX.2.fx hC.1 (by simp) (by simp) (by simp)).fz hF⟩, fun _ => ⟨fun c => ?_, fun _ => h _ _ ⟨hN, (hX.2.fx hC.1 (by simp) (by simp) (by simp)).fz hF⟩⟩⟩
  -- one by whom it is so cheap
  obtain ⟨w, hw, hwl⟩ := dk_has (n := n) (to := to) (b := bq (M0.2.2.1 3) (M0.2.2.2 35) e) (wt := cq (M0.2.2.1 3) (M0.2.2.2 35) e) n x c (by rw [hdd]; exact hdx)
  rw [hdd] at hwl
  have hst := dk_st (n := n) (to := to) (b := bq (M0.2.2.1 3) (M0.2.2.2 35) e) (wt := cq (M0.2.2.1 3) (M0.2.2.2 35) e) cq_1 hx hw c
  rw [hdd] at hst
  have hraw : rwv (bq (M0.2.2.1 3) (M0.2.2.2 35) e) (cq (M0.2.2.1 3) (M0.2.2.2 35) e) d x w = d x := by
    have hb : bfc (bq (M0.2.2.1 3) (M0.2.2.2 35) e) (cq (M0.2.2.1 3) (M0.2.2.2 35) e) d x w = d x := by omega
    unfold bfc at hb
    unfold rwv
    by_cases cc : d w = 100000000 ∨ bq (M0.2.2.1 3) (M0.2.2.2 35) e x w = false
    · rw [if_pos cc] at hb; omega
    · rw [if_neg cc] at hb ⊢; omega
  refine loop_m (σ := mS × Nat) (fun m' s => w_X12_chain_b259 q (fun S v0 v2 v3 v4 v6 v7 => w_X12_chain_b241 q m S v0 v2 v3 v4 v6 v7) m' (ov S o ad s.1) o (nI to) (nI e) i (nI x) k (nI s.2)) (fun s => Fz M s.1 ∧ s.2 ≤ w) (fun s => w - s.2) ?_ (N, 0) ⟨hF, Nat.zero_le _⟩
  rintro m' ⟨P, j⟩ ⟨hP, hj⟩ ih'
  dsimp only at hP hj ih' ⊢
  rw [w_X12_chain_b259]
  refine ⟨ov_oK, f_chainBy hd hM0 (hC.z hP) (D := d) (by omega) (by omega) he (by rw [hP.r]; exact hD j (by omega)) (dF j) (fun Q hQ => ?_)⟩
  have hMQ := hP.tr hQ
  simp (disch := decide) only [oi_gI, oi_gJ, oi_gP, oi_pI, oi_pZ, oi_pJ, oi_oK, oi_aI hd, oi_aZ hd, oi_aJ hd, oi_sI hd, oi_sZ hd, oi_sJ hd, mI_1, mI_2, mJ_1, mJ_2, mJ_3, mA_1, mA_2, mA_3, mA_4, mL_1, mL_2, mL_3, mL_4, mK, Nat.reduceEqDiff, if_true, if_false, ite_true, ite_false, true_and, Nat.reduceLT, reduceIte, reduceCtorEq, cl_0, cl_1, cl_2, cl_3, cl_4, cl_5, cl_6, cl_7, cl_8, cl_9, cl_10, cl_11, cl_12, cl_13, cl_14, cl_15, vl_0_5585, vl_1_5585, vl_2_5585, vl_3_5585, vl_4_5585, vl_5_5585, vl_6_5585, vl_0_7, vl_1_7, vl_2_7, vl_3_7, vl_4_7, vl_5_7, vl_6_7]
  have hrl : rwv (bq (M0.2.2.1 3) (M0.2.2.2 35) e) (cq (M0.2.2.1 3) (M0.2.2.2 35) e) d x j < 2 ^ 31 := by
    have := dF j
    have := (cq_c (f := M0.2.2.1 3) (z := M0.2.2.2 35) (e := e) (p := x) (t := j)).1
    unfold rwv
    split <;> omega
  rw [nI_clamp (by omega), hMQ.r, hD x hx, nI_eq hrl (by omega)]
  refine ⟨vp_in_nI (by omega) (by omega), fun ce y ey => ?_, fun ce y ey => ?_⟩
  · have hc1 := cq_1 (f := M0.2.2.1 3) (z := M0.2.2.2 35) (e := e) x j
    have hlt : d j < d x ∧ d j < 100000000 := by
      unfold rwv at ce
      by_cases cc : d j = 100000000 ∨ bq (M0.2.2.1 3) (M0.2.2.2 35) e x j = false
      · rw [if_pos cc] at ce; omega
      · rw [if_neg cc] at ce; omega
    exact ih (Q, j, y) ⟨hMQ, by dsimp only; omega, hlt.2⟩ hlt.1
  · rw [ey, nI_1]
    have hne : j ≠ w := fun z => ce (by rw [z]; exact hraw)
    exact ih' (Q, j + 1) ⟨hMQ, by dsimp only; omega⟩ (by dsimp only; omega)
theorem px_chain (hd : mD o ad) (hX : mX mT rr Tt M) {q : Int32 → hS → Prop} {a b c i : Int32} (h : ∀ r N, mX mT rr Tt N → q r (ov S o ad N)) : w_X12_chain q (ov S o ad M) o a b c i := by
  have hM := hX.1
  have hM0 : mOk mT (mI M 0 0) := mOk_i hM (by omega)
  have hX0 := mX_0 hX
  have b1 := hM0.1.1.2
  have b2 := hM0.1.2.1.2
  obtain ⟨n, hn, en⟩ := rg_inR (b := 8) hM.1.2.1 (by omega) (by omega)
  have en0 : (mI M 0 0).2.2.1 3 1 = nI n := en
  rw [en0, nI_toInt (by omega)] at b2
  have h20 : ∀ x : Int32, x.toInt < ((mI M 0 0).2.2.1 3 1).toInt → x.toInt < n := fun x hx => by rw [en0, nI_toInt (by omega)] at hx; exact hx
  unfold w_X12_chain
  simp (disch := decide) only [oi_gI, oi_gJ, oi_gP, oi_pI, oi_pZ, oi_pJ, oi_oK, oi_aI hd, oi_aZ hd, oi_aJ hd, oi_sI hd, oi_sZ hd, oi_sJ hd, mI_1, mI_2, mJ_1, mJ_2, mJ_3, mA_1, mA_2, mA_3, mA_4, mL_1, mL_2, mL_3, mL_4, mK, Nat.reduceEqDiff, if_true, if_false, ite_true, ite_false, true_and, Nat.reduceLT, reduceIte, reduceCtorEq, cl_0, cl_1, cl_2, cl_3, cl_4, cl_5, cl_6, cl_7, cl_8, cl_9, cl_10, cl_11, cl_12, cl_13, cl_14, cl_15, vl_0_5585, vl_1_5585, vl_2_5585, vl_3_5585, vl_4_5585, vl_5_5585, vl_6_5585, vl_0_7, vl_1_7, vl_2_7, vl_3_7, vl_4_7, vl_5_7, vl_6_7]
  refine ⟨fun _ => h _ _ hX0, fun cab => s_isPerson hd (fun h1 h2 => ⟨fun z => absurd z (by decide), fun _ => ⟨ov_oK, s_isPerson hd (fun h3 h4 => ⟨fun z => absurd z (by decide), fun _ => ⟨ov_oK, s_isHouse hd (fun h5 h6 => ⟨fun z => absurd z (by decide), fun _ => ⟨fun _ => h _ _ hX0, fun _ => ⟨ov_oK, ?_⟩⟩⟩) (fun _ => ⟨fun _ => h _ _ hX0, fun z => absurd rfl z⟩)⟩⟩) (fun _ => ⟨fun _ => h _ _ hX0, fun z => absurd rfl z⟩)⟩⟩) (fun _ => ⟨fun _ => h _ _ hX0, fun z => absurd rfl z⟩)⟩
  obtain ⟨fr, hfr, rfl⟩ := rg_in n (by omega) h1 (h20 _ h2)
  obtain ⟨to, hto, rfl⟩ := rg_in n (by omega) h3 (h20 _ h4)
  obtain ⟨e, he, rfl⟩ := rg_in 6 (by omega) h5 (by omega)
  refine s_leftOf hd (by omega) he ⟨fun _ => ?_, fun _ => h _ _ hX0⟩
  simp (disch := decide) only [oi_gI, oi_gJ, oi_gP, oi_pI, oi_pZ, oi_pJ, oi_oK, oi_aI hd, oi_aZ hd, oi_aJ hd, oi_sI hd, oi_sZ hd, oi_sJ hd, mI_1, mI_2, mJ_1, mJ_2, mJ_3, mA_1, mA_2, mA_3, mA_4, mL_1, mL_2, mL_3, mL_4, mK, Nat.reduceEqDiff, if_true, if_false, ite_true, ite_false, true_and, Nat.reduceLT, reduceIte, reduceCtorEq, cl_0, cl_1, cl_2, cl_3, cl_4, cl_5, cl_6, cl_7, cl_8, cl_9, cl_10, cl_11, cl_12, cl_13, cl_14, cl_15, vl_0_5585, vl_1_5585, vl_2_5585, vl_3_5585, vl_4_5585, vl_5_5585, vl_6_5585, vl_0_7, vl_1_7, vl_2_7, vl_3_7, vl_4_7, vl_5_7, vl_6_7]
  rw [en]
  generalize hM0e : mI M 0 0 = M0 at hM0 hX0 en0 ⊢
  clear h20 b1 h2 h4
  generalize hbb : bq (M0.2.2.1 3) (M0.2.2.2 35) e = bb
  generalize hww : cq (M0.2.2.1 3) (M0.2.2.2 35) e = ww
  have hw1 : ∀ p t, 1 ≤ ww p t := by rw [← hww]; exact cq_1
  -- behind the last round
  have kend : ∀ N D, CF M0 N → cR (N.2.2.1 49) D (dk n to bb ww n) (dk n to bb ww n) n → gP (ov S o ad N) o 12 49 (fun x192 => aI (ov S o ad N) x192 (nI fr) (fun x196 => (x196 = 100000000 → w_X12_chain_b209 q (ov S o ad N) o (nI fr)) ∧ (¬ x196 = 100000000 → (¬ i = (-1) → (∃ n241 : Nat, w_X12_chain_b241 q n241 (ov S o ad N) o (nI to) (nI e) i (nI fr) 0)) ∧ (i = (-1) → w_X12_chain_b209 q (ov S o ad N) o (nI fr))))) := by
    intro N D hN hR
    have hNok := hN.ok hM0
    have k209 : w_X12_chain_b209 q (ov S o ad N) o (nI fr) := by
      unfold w_X12_chain_b209
      simp (disch := decide) only [oi_gI, oi_gJ, oi_gP, oi_pI, oi_pZ, oi_pJ, oi_oK, oi_aI hd, oi_aZ hd, oi_aJ hd, oi_sI hd, oi_sZ hd, oi_sJ hd, mI_1, mI_2, mJ_1, mJ_2, mJ_3, mA_1, mA_2, mA_3, mA_4, mL_1, mL_2, mL_3, mL_4, mK, Nat.reduceEqDiff, if_true, if_false, ite_true, ite_false, true_and, Nat.reduceLT, reduceIte, reduceCtorEq, cl_0, cl_1, cl_2, cl_3, cl_4, cl_5, cl_6, cl_7, cl_8, cl_9, cl_10, cl_11, cl_12, cl_13, cl_14, cl_15, vl_0_5585, vl_1_5585, vl_2_5585, vl_3_5585, vl_4_5585, vl_5_5585, vl_6_5585, vl_0_7, vl_1_7, vl_2_7, vl_3_7, vl_4_7, vl_5_7, vl_6_7]
      exact ⟨vp_in_nI (by omega) (by omega), fun _ => ⟨vp_in_nI (by omega) (by omega), h _ _ ⟨hNok, hX0.2.fx hN.1 (by simp) (by simp) (by simp)⟩⟩, fun _ => h _ _ ⟨hNok, hX0.2.fx hN.1 (by simp) (by simp) (by simp)⟩⟩
    have hDd : ∀ p, p < n → N.2.2.1 49 p = nI (dk n to bb ww n p) := fun p hp => by
      obtain ⟨r1, r2, r3, r4⟩ := hR p hp
      rw [r1, show D p = dk n to bb ww n p by omega]
    have hF := dk_F (n := n) (to := to) (b := bb) (wt := ww) n fr
    simp (disch := decide) only [oi_gI, oi_gJ, oi_gP, oi_pI, oi_pZ, oi_pJ, oi_oK, oi_aI hd, oi_aZ hd, oi_aJ hd, oi_sI hd, oi_sZ hd, oi_sJ hd, mI_1, mI_2, mJ_1, mJ_2, mJ_3, mA_1, mA_2, mA_3, mA_4, mL_1, mL_2, mL_3, mL_4, mK, Nat.reduceEqDiff, if_true, if_false, ite_true, ite_false, true_and, Nat.reduceLT, reduceIte, reduceCtorEq, cl_0, cl_1, cl_2, cl_3, cl_4, cl_5, cl_6, cl_7, cl_8, cl_9, cl_10, cl_11, cl_12, cl_13, cl_14, cl_15, vl_0_5585, vl_1_5585, vl_2_5585, vl_3_5585, vl_4_5585, vl_5_5585, vl_6_5585, vl_0_7, vl_1_7, vl_2_7, vl_3_7, vl_4_7, vl_5_7, vl_6_7]
    rw [nI_clamp (by omega), hDd fr hfr, lit_nI 100000000, nI_eq (by omega) (by omega)]
    refine ⟨vp_in_nI (by omega) (by omega), fun _ => k209, fun cf => ⟨fun _ => ?_, fun _ => k209⟩⟩
    exact fx_ch241 hd hX0 hN hn hto hfr he (by rw [hbb, hww]; exact hDd) (by rw [hbb, hww]; omega) h
  -- a round
  have k98 : ∀ N D, CF M0 N → cR (N.2.2.1 49) D (dk n to bb ww n) (dk n to bb ww 0) n → ∃ m, w_X12_chain_b98 q m (ov S o ad N) o (nI fr) (nI to) (nI e) i (nI n) 0 := by
    intro N0 D0 hN0 hR0
    refine loop_m (σ := mS × (Nat → Nat) × Nat) (fun m s => w_X12_chain_b98 q m (ov S o ad s.1) o (nI fr) (nI to) (nI e) i (nI n) (nI s.2.2)) (fun s => CF M0 s.1 ∧ cR (s.1.2.2.1 49) s.2.1 (dk n to bb ww n) (dk n to bb ww s.2.2) n ∧ s.2.2 ≤ n) (fun s => n - s.2.2) ?_ (N0, D0, 0) ⟨hN0, hR0, Nat.zero_le _⟩
    rintro m ⟨N, D, r⟩ ⟨hN, hR, hr⟩ ih
    dsimp only at hN hR hr ih ⊢
    rw [w_X12_chain_b98, nI_leI (by omega) (by omega)]
    refine ⟨fun cr => ?_, fun cr => ?_⟩
    · obtain rfl : r = n := by omega
      exact kend N D hN hR
    refine loop_m (σ := mS × (Nat → Nat) × Nat) (fun m' s => w_X12_chain_b108 q (fun S v0 v1 v2 v3 v4 v5 v6 => w_X12_chain_b98 q m S v0 v1 v2 v3 v4 v5 v6) m' (ov S o ad s.1) o (nI fr) (nI to) (nI e) i (nI n) (nI r) (nI s.2.2)) (fun s => CF M0 s.1 ∧ cR (s.1.2.2.1 49) s.2.1 (dk n to bb ww n) (dk n to bb ww r) n ∧ (∀ p', p' < s.2.2 → s.2.1 p' ≤ dk n to bb ww (r + 1) p') ∧ s.2.2 ≤ n) (fun s => n - s.2.2) ?_ (N, D, 0) ⟨hN, hR, fun p' hp' => absurd hp' (by simp), Nat.zero_le _⟩
    rintro m' ⟨P, E, p⟩ ⟨hP, hE, hl, hp⟩ ih'
    dsimp only at hP hE hl hp ih' ⊢
    rw [w_X12_chain_b108, nI_leI (by omega) (by omega)]
    refine ⟨fun cp y ey => ?_, fun cp => f_ch118 hd hM0 hbb.symm hww.symm hn hto (by omega) he hP hE hl (fun Q E' hQ hE' hl' => ih' (Q, E', p + 1) ⟨hQ, hE', hl', by dsimp only; omega⟩ (by dsimp only; omega))⟩
    rw [ey, nI_1]
    refine ih (P, E, r + 1) ⟨hP, fun p' hp' => ?_, by dsimp only; omega⟩ (by dsimp only; omega)
    obtain ⟨r1, r2, r3, r4⟩ := hE p' hp'
    exact ⟨r1, r2, r3, hl p' (by omega)⟩
  -- the start
  have key := loop_m (σ := (Nat → Int32) × Nat) (fun m s => w_X12_chain_b62 q m (ov S o ad (mA M0 49 s.1)) o (nI fr) (nI to) (nI e) i (nI n) (nI s.2)) (fun s => s.2 ≤ n ∧ ∀ p, p < s.2 → s.1 p = nI (dk n to bb ww 0 p)) (fun s => n - s.2) ?_ (M0.2.2.1 49, 0) ⟨Nat.zero_le _, fun p hp => absurd hp (by simp)⟩
  · rw [mA_self] at key
    exact key
  rintro m ⟨g, j⟩ ⟨hj, hg⟩ ih
  dsimp only at hj hg ih ⊢
  have k88 : ∀ x : Nat, j < n → x = dk n to bb ww 0 j → w_X12_chain_b88 q (fun S v0 v1 v2 v3 v4 v5 v6 => w_X12_chain_b62 q m S v0 v1 v2 v3 v4 v5 v6) (ov S o ad (mA M0 49 g)) o (nI fr) (nI to) (nI e) i (nI n) (nI j) (nI x) (nI j) (ad 49) := by
    intro x hjn hx
    unfold w_X12_chain_b88
    simp (disch := decide) only [oi_gI, oi_gJ, oi_gP, oi_pI, oi_pZ, oi_pJ, oi_oK, oi_aI hd, oi_aZ hd, oi_aJ hd, oi_sI hd, oi_sZ hd, oi_sJ hd, mI_1, mI_2, mJ_1, mJ_2, mJ_3, mA_1, mA_2, mA_3, mA_4, mL_1, mL_2, mL_3, mL_4, mK, Nat.reduceEqDiff, if_true, if_false, ite_true, ite_false, true_and, Nat.reduceLT, reduceIte, reduceCtorEq, cl_0, cl_1, cl_2, cl_3, cl_4, cl_5, cl_6, cl_7, cl_8, cl_9, cl_10, cl_11, cl_12, cl_13, cl_14, cl_15, vl_0_5585, vl_1_5585, vl_2_5585, vl_3_5585, vl_4_5585, vl_5_5585, vl_6_5585, vl_0_7, vl_1_7, vl_2_7, vl_3_7, vl_4_7, vl_5_7, vl_6_7, mA_mA]
    rw [nI_clamp (by omega)]
    refine ⟨vp_in_nI (by omega) (by omega), fun y ey => ?_⟩
    rw [ey, nI_1]
    refine ih (upd g j (nI x), j + 1) ⟨by dsimp only; omega, fun p hp => ?_⟩ (by dsimp only; omega)
    dsimp only at hp ⊢
    by_cases cp : p = j
    · subst cp; rw [upd_self, hx]
    · rw [upd_ne _ _ cp]; exact hg p (by omega)
  rw [w_X12_chain_b62, nI_leI (by omega) (by omega)]
  refine ⟨fun cj => k98 _ (dk n to bb ww 0) CF.rf.g (fun p hp => ?_), fun cj => ?_⟩
  · have e49 : (mA M0 49 g).2.2.1 49 p = g p := by rw [mA_3, if_pos rfl]
    have hle := dk_le (n := n) (to := to) (b := bb) (wt := ww) (i := 0) (p := p) n
    rw [Nat.zero_add] at hle
    exact ⟨by rw [e49]; exact hg p (by omega), dk_F 0 p, hle, Nat.le_refl _⟩
  · simp (disch := decide) only [oi_gI, oi_gJ, oi_gP, oi_pI, oi_pZ, oi_pJ, oi_oK, oi_aI hd, oi_aZ hd, oi_aJ hd, oi_sI hd, oi_sZ hd, oi_sJ hd, mI_1, mI_2, mJ_1, mJ_2, mJ_3, mA_1, mA_2, mA_3, mA_4, mL_1, mL_2, mL_3, mL_4, mK, Nat.reduceEqDiff, if_true, if_false, ite_true, ite_false, true_and, Nat.reduceLT, reduceIte, reduceCtorEq, cl_0, cl_1, cl_2, cl_3, cl_4, cl_5, cl_6, cl_7, cl_8, cl_9, cl_10, cl_11, cl_12, cl_13, cl_14, cl_15, vl_0_5585, vl_1_5585, vl_2_5585, vl_3_5585, vl_4_5585, vl_5_5585, vl_6_5585, vl_0_7, vl_1_7, vl_2_7, vl_3_7, vl_4_7, vl_5_7, vl_6_7]
    rw [nI_eq (by omega) (by omega)]
    exact ⟨fun ct => k88 100000000 (by omega) (by rw [dk, if_neg ct]), fun ct => k88 0 (by omega) (by rw [dk, if_pos ct])⟩
end PX
