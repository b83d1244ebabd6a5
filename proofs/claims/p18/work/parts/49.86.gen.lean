/-! LAYER 2, the reference: generations() -/
theorem rem64 {a b : Int64} (ha : 0 ≤ a.toInt) (hb : 0 < b.toInt) : (a - a / b * b).toInt = a.toInt % b.toInt := by
  have r1 := fb_rngL a
  have r2 := fb_rngL b
  have h1 : 0 ≤ a.toInt / b.toInt := Int.ediv_nonneg ha (by omega)
  have h2 : a.toInt / b.toInt ≤ a.toInt := Int.ediv_le_self _ ha
  have e1 : (a / b).toInt = a.toInt / b.toInt := by
    rw [Int64.toInt_div, Int.tdiv_eq_ediv_of_nonneg ha]
    exact fb_bmodL (by omega) (by omega)
  have h3 := Int.mul_ediv_add_emod a.toInt b.toInt
  have h4 := Int.emod_nonneg a.toInt (show b.toInt ≠ 0 by omega)
  have h5 : 0 ≤ a.toInt / b.toInt * b.toInt := Int.mul_nonneg h1 (by omega)
  have h6 : b.toInt * (a.toInt / b.toInt) = a.toInt / b.toInt * b.toInt := Int.mul_comm _ _
  have e2 : (a / b * b).toInt = a.toInt / b.toInt * b.toInt := by
    rw [fb_mulL (by rw [e1]; omega) (by rw [e1]; omega), e1]
  rw [fb_subL (by rw [e2]; omega) (by rw [e2]; omega), e2]
  omega
section REF36
variable {S : hS} {o : Nat} {ad : Nat → Nat} {M : mS} {mT : mS}
def dwOk (x : Int64) : Prop := 0 ≤ x.toInt ∧ x.toInt ≤ 1000003
theorem s_draw (hd : mD o ad) {q : Int32 → hS → Prop} {v : Nat} (hv : 1 ≤ v ∧ v ≤ 8) (hs : dwOk (M.2.1 57)) (h : ∀ r x, dwOk x → r < v → q (nI r) (ov S o ad (mJ M 57 x))) : w_X12_draw q (ov S o ad M) o (nI v) := by
  unfold w_X12_draw
  simp (disch := decide) only [oi_gI, oi_gJ, oi_gP, oi_pI, oi_pZ, oi_pJ, oi_oK, oi_aI hd, oi_aZ hd, oi_aJ hd, oi_sI hd, oi_sZ hd, oi_sJ hd, mI_1, mI_2, mJ_1, mJ_2, mJ_3, mA_1, mA_2, mA_3, mA_4, mL_1, mL_2, mL_3, mL_4, mK, Nat.reduceEqDiff, if_true, if_false, ite_true, ite_false, true_and, Nat.reduceLT, reduceIte, reduceCtorEq, cl_0, cl_1, cl_2, cl_3, cl_4, cl_5, cl_6, cl_7, cl_8, cl_9, cl_10, cl_11, cl_12, cl_13, cl_14, cl_15, vl_0_5585, vl_1_5585, vl_2_5585, vl_3_5585, vl_4_5585, vl_5_5585, vl_6_5585, vl_0_7, vl_1_7, vl_2_7, vl_3_7, vl_4_7, vl_5_7, vl_6_7]
  generalize M.2.1 57 = x at hs ⊢
  have t1 : (1103 : Int64).toInt = 1103 := by decide
  have t2 : (12345 : Int64).toInt = 12345 := by decide
  have t3 : (1000003 : Int64).toInt = 1000003 := by decide
  obtain ⟨h1, h2⟩ := hs
  have e1 : (x * 1103).toInt = x.toInt * 1103 := by rw [fb_mulL (by rw [t1]; omega) (by rw [t1]; omega), t1]
  have e2 : (x * 1103 + 12345).toInt = x.toInt * 1103 + 12345 := by rw [fb_addL (by rw [e1, t2]; omega) (by rw [e1, t2]; omega), e1, t2]
  have e3 := rem64 (a := x * 1103 + 12345) (b := 1000003) (by rw [e2]; omega) (by rw [t3]; omega)
  have hy : dwOk (x * 1103 + 12345 - (x * 1103 + 12345) / 1000003 * 1000003) := by
    unfold dwOk
    rw [e3, t3]
    omega
  generalize x * 1103 + 12345 - (x * 1103 + 12345) / 1000003 * 1000003 = y at hy ⊢
  have tv : (Int32.toInt64 (nI v)).toInt = v := by rw [i64toInt, nI_toInt (by omega)]
  have e4 := rem64 (a := y) (b := Int32.toInt64 (nI v)) hy.1 (by rw [tv]; omega)
  rw [tv] at e4
  refine ⟨fun z => ?_, ?_⟩
  · have := congrArg Int64.toInt z
    rw [tv, show (0 : Int64).toInt = 0 by decide] at this
    omega
  · have b1 := Int.emod_nonneg y.toInt (show (v : Int) ≠ 0 by omega)
    have b2 := Int.emod_lt_of_pos y.toInt (show (0 : Int) < v by omega)
    have e5 : (Int64.toInt32 (y - y / Int32.toInt64 (nI v) * Int32.toInt64 (nI v))).toInt = y.toInt % v := by
      rw [Int64.toInt_toInt32, e4]
      exact fb_bmod (by omega) (by omega)
    obtain ⟨r, hr, er⟩ := rg_in (z := Int64.toInt32 (y - y / Int32.toInt64 (nI v) * Int32.toInt64 (nI v))) v (by omega) (by rw [e5]; exact b1) (by rw [e5]; exact b2)
    rw [er]
    exact h r y hy hr
theorem d_ringIt2 (hd : mD o ad) (hM : mOk mT M) {q : Int32 → hS → Prop} {p e : Nat} (hp : p < 8) (he : e < 6) (h : ∀ r N, mOk mT N → Fq M N → rEq (M.2.2.1 3) (N.2.2.1 3) → (r = 0 ∨ r = 1) → q r (ov S o ad N)) : w_X12_ringIt q (ov S o ad M) o (nI p) (nI e) := by
  refine ⟨ov_oK, f_isOpen hd hM hp he (fun N1 r1 hF1 => ⟨ov_oK, f_tiresOf hd (mOk_z hF1 hM) hp he (fun N2 r2 hF2 hr2 => ?_)⟩)⟩
  have hM2 := mOk_z hF2 (mOk_z hF1 hM)
  have hF := hF1.tr hF2
  simp (disch := decide) only [oi_gI, oi_gJ, oi_gP, oi_pI, oi_pZ, oi_pJ, oi_oK, oi_aI hd, oi_aZ hd, oi_aJ hd, oi_sI hd, oi_sZ hd, oi_sJ hd, mI_1, mI_2, mJ_1, mJ_2, mJ_3, mA_1, mA_2, mA_3, mA_4, mL_1, mL_2, mL_3, mL_4, mK, Nat.reduceEqDiff, if_true, if_false, ite_true, ite_false, true_and, Nat.reduceLT, reduceIte, reduceCtorEq, cl_0, cl_1, cl_2, cl_3, cl_4, cl_5, cl_6, cl_7, cl_8, cl_9, cl_10, cl_11, cl_12, cl_13, cl_14, cl_15, vl_0_5585, vl_1_5585, vl_2_5585, vl_3_5585, vl_4_5585, vl_5_5585, vl_6_5585, vl_0_7, vl_1_7, vl_2_7, vl_3_7, vl_4_7, vl_5_7, vl_6_7]
  rw [lit_nI 78, lit_nI 6, lit_nI 8, nImul, nIadd, nIadd, nIadd, nI_clamp (by omega), nI_clamp (by omega)]
  refine ⟨vp_in_nI (by omega) (by omega), vp_in_nI (by omega) (by omega), vp_in_nI (by omega) (by omega), s_withinV ?_⟩
  simp (disch := decide) only [oi_gI, oi_gJ, oi_gP, oi_pI, oi_pZ, oi_pJ, oi_oK, oi_aI hd, oi_aZ hd, oi_aJ hd, oi_sI hd, oi_sZ hd, oi_sJ hd, mI_1, mI_2, mJ_1, mJ_2, mJ_3, mA_1, mA_2, mA_3, mA_4, mL_1, mL_2, mL_3, mL_4, mK, Nat.reduceEqDiff, if_true, if_false, ite_true, ite_false, true_and, Nat.reduceLT, reduceIte, reduceCtorEq, cl_0, cl_1, cl_2, cl_3, cl_4, cl_5, cl_6, cl_7, cl_8, cl_9, cl_10, cl_11, cl_12, cl_13, cl_14, cl_15, vl_0_5585, vl_1_5585, vl_2_5585, vl_3_5585, vl_4_5585, vl_5_5585, vl_6_5585, vl_0_7, vl_1_7, vl_2_7, vl_3_7, vl_4_7, vl_5_7, vl_6_7, mA_mA]
  rw [nI_clamp (by omega)]
  have hq : rEq (M.2.2.1 3) (upd (upd (N2.2.2.1 3) (78 + 6 * p + e) (N2.2.2.1 3 (78 + 6 * p + e) + 1)) (8 + e) (wiV (Int32.toInt64 (upd (N2.2.2.1 3) (78 + 6 * p + e) (N2.2.2.1 3 (78 + 6 * p + e) + 1) (8 + e) + r2)) 0 99)) := by
    rw [hF.r]
    exact (rEq.rf.up (by unfold rCon; omega)).up (by unfold rCon; omega)
  refine ⟨vp_in_nI (by omega) (by omega), fun _ => h _ _ (mOk_r hM2 (hq.ok hM.1)) (hF.d.tr Fq.r) hq (Or.inl rfl), fun _ => h _ _ (mOk_r hM2 (hq.ok hM.1)) (hF.d.tr Fq.r) hq (Or.inr rfl)⟩
theorem f_gn188 (hd : mD o ad) (hM : mOk mT M) {q : Int32 → hS → Prop} {v : Int32} (hv : -6 ≤ v.toInt) (h : ∀ r N, mOk mT N → q r (ov S o ad N)) : w_X12_generations_b188 q (ov S o ad M) o v := by
  unfold w_X12_generations_b188
  simp (disch := decide) only [oi_gI, oi_gJ, oi_gP, oi_pI, oi_pZ, oi_pJ, oi_oK, oi_aI hd, oi_aZ hd, oi_aJ hd, oi_sI hd, oi_sZ hd, oi_sJ hd, mI_1, mI_2, mJ_1, mJ_2, mJ_3, mA_1, mA_2, mA_3, mA_4, mL_1, mL_2, mL_3, mL_4, mK, Nat.reduceEqDiff, if_true, if_false, ite_true, ite_false, true_and, Nat.reduceLT, reduceIte, reduceCtorEq, cl_0, cl_1, cl_2, cl_3, cl_4, cl_5, cl_6, cl_7, cl_8, cl_9, cl_10, cl_11, cl_12, cl_13, cl_14, cl_15, vl_0_5585, vl_1_5585, vl_2_5585, vl_3_5585, vl_4_5585, vl_5_5585, vl_6_5585, vl_0_7, vl_1_7, vl_2_7, vl_3_7, vl_4_7, vl_5_7, vl_6_7]
  have hM1 : mOk mT (mI (mI M 59 (M.2.2.1 3 1)) 60 (M.2.2.1 3 0)) := by
    have a1 := hM.1.1
    have a2 := hM.1.2.1
    refine ⟨hM.1, hM.2.1, hM.2.2.1, hM.2.2.2.1, hM.2.2.2.2.1, hM.2.2.2.2.2.1, ?_, ?_, ?_, ?_, ?_, hM.2.2.2.2.2.2.2.2.2.2.2⟩
    · simp [mI_1]; exact hM.2.2.2.2.2.2.1
    · simp [mI_1]; exact hM.2.2.2.2.2.2.2.1
    · simp [mI_1]; exact hM.2.2.2.2.2.2.2.2.1
    · simp [mI_1]; exact ⟨by have := a2.1; omega, a2.2⟩
    · simp [mI_1]; exact ⟨by have := a1.1; omega, a1.2⟩
  generalize mI (mI M 59 (M.2.2.1 3 1)) 60 (M.2.2.1 3 0) = N at hM1 ⊢
  have key := loop_m (σ := (Nat → Int32) × Nat) (fun m s => w_X12_generations_b211 q m (ov S o ad (mA N 58 s.1)) o v (nI s.2)) (fun s => s.2 ≤ 48) (fun s => 48 - s.2) ?_ (N.2.2.1 58, 0) (Nat.zero_le _)
  · rw [mA_self] at key
    exact key
  rintro m ⟨g, i⟩ hi ih
  dsimp only at hi ih ⊢
  rw [w_X12_generations_b211, lit_nI 48, nI_leI (by omega) (by omega)]
  refine ⟨fun _ => ⟨ov_oK, f_putBack hd (k := 16) (by omega) (fun P hF h1 h2 => ⟨ov_oK, ?_⟩)⟩, fun c => ?_⟩
  · have hP : mOk mT (mA N 58 g) := mOk_a hM1 (by omega)
    have hr : rowOk (mT.2.2.1 3) (P.2.2.1 3) := by
      refine rowOk_year (f := (mA N 58 g).2.2.1 3) (fun i hi h5 => h2 i ?_) ?_ hP.1
      · unfold rCon at hi; omega
      · have := h1 0 (by omega)
        rw [Nat.add_zero, Nat.add_zero] at this
        rw [this]
        exact hP.2.2.1 16 (by omega)
    exact g_tell hd (mOk_row hF hP hr (by simp)) hv (h _)
  · simp (disch := decide) only [oi_gI, oi_gJ, oi_gP, oi_pI, oi_pZ, oi_pJ, oi_oK, oi_aI hd, oi_aZ hd, oi_aJ hd, oi_sI hd, oi_sZ hd, oi_sJ hd, mI_1, mI_2, mJ_1, mJ_2, mJ_3, mA_1, mA_2, mA_3, mA_4, mL_1, mL_2, mL_3, mL_4, mK, Nat.reduceEqDiff, if_true, if_false, ite_true, ite_false, true_and, Nat.reduceLT, reduceIte, reduceCtorEq, cl_0, cl_1, cl_2, cl_3, cl_4, cl_5, cl_6, cl_7, cl_8, cl_9, cl_10, cl_11, cl_12, cl_13, cl_14, cl_15, vl_0_5585, vl_1_5585, vl_2_5585, vl_3_5585, vl_4_5585, vl_5_5585, vl_6_5585, vl_0_7, vl_1_7, vl_2_7, vl_3_7, vl_4_7, vl_5_7, vl_6_7, mA_mA]
    rw [lit_nI 30, nIadd, nI_clamp (by omega), nI_clamp (by omega)]
    refine ⟨vp_in_nI (by omega) (by omega), vp_in_nI (by omega) (by omega), fun y ey => ?_⟩
    rw [ey, nI_1]
    exact ih (upd g i (N.2.2.1 3 (30 + i)), i + 1) (by dsimp only; omega) (by dsimp only; omega)
theorem p_generations (hd : mD o ad) (hM : mOk mT M) {q : Int32 → hS → Prop} {a b : Int32} (h : ∀ r N, mOk mT N → q r (ov S o ad N)) : w_X12_generations q (ov S o ad M) o a b := by
  have hM0 : mOk mT (mI M 0 0) := mOk_i hM (by omega)
  have k29 : w_X12_generations_b29 q (ov S o ad (mI M 0 0)) o := ⟨ov_oK, g_tell hd hM0 (by decide) (h _)⟩
  have k53 : w_X12_generations_b53 q (ov S o ad (mI M 0 0)) o := ⟨ov_oK, g_tell hd hM0 (by decide) (h _)⟩
  obtain ⟨H, hH, eH⟩ := rg_inR (b := 6) hM.1.1 (by omega) (by omega)
  obtain ⟨P, hP, eP⟩ := rg_inR (b := 8) hM.1.2.1 (by omega) (by omega)
  unfold w_X12_generations
  simp (disch := decide) only [oi_gI, oi_gJ, oi_gP, oi_pI, oi_pZ, oi_pJ, oi_oK, oi_aI hd, oi_aZ hd, oi_aJ hd, oi_sI hd, oi_sZ hd, oi_sJ hd, mI_1, mI_2, mJ_1, mJ_2, mJ_3, mA_1, mA_2, mA_3, mA_4, mL_1, mL_2, mL_3, mL_4, mK, Nat.reduceEqDiff, if_true, if_false, ite_true, ite_false, true_and, Nat.reduceLT, reduceIte, reduceCtorEq, cl_0, cl_1, cl_2, cl_3, cl_4, cl_5, cl_6, cl_7, cl_8, cl_9, cl_10, cl_11, cl_12, cl_13, cl_14, cl_15, vl_0_5585, vl_1_5585, vl_2_5585, vl_3_5585, vl_4_5585, vl_5_5585, vl_6_5585, vl_0_7, vl_1_7, vl_2_7, vl_3_7, vl_4_7, vl_5_7, vl_6_7]
  refine s_in (fun x1 x2 => ⟨fun z => absurd z (by decide), fun _ => s_in (fun y1 y2 => ⟨fun _ => ?_, fun z => absurd z (by decide)⟩) (fun _ => ⟨fun z => absurd rfl z, fun _ => k29⟩)⟩) (fun _ => ⟨fun _ => k29, fun z => absurd rfl z⟩)
  simp (disch := decide) only [oi_gI, oi_gJ, oi_gP, oi_pI, oi_pZ, oi_pJ, oi_oK, oi_aI hd, oi_aZ hd, oi_aJ hd, oi_sI hd, oi_sZ hd, oi_sJ hd, mI_1, mI_2, mJ_1, mJ_2, mJ_3, mA_1, mA_2, mA_3, mA_4, mL_1, mL_2, mL_3, mL_4, mK, Nat.reduceEqDiff, if_true, if_false, ite_true, ite_false, true_and, Nat.reduceLT, reduceIte, reduceCtorEq, cl_0, cl_1, cl_2, cl_3, cl_4, cl_5, cl_6, cl_7, cl_8, cl_9, cl_10, cl_11, cl_12, cl_13, cl_14, cl_15, vl_0_5585, vl_1_5585, vl_2_5585, vl_3_5585, vl_4_5585, vl_5_5585, vl_6_5585, vl_0_7, vl_1_7, vl_2_7, vl_3_7, vl_4_7, vl_5_7, vl_6_7]
  rw [eP, eH]
  refine ⟨fun _ => k53, fun cP => ⟨fun cH => ?_, fun _ => k53⟩⟩
  have hP1 : 1 ≤ P := by
    refine Nat.pos_of_ne_zero (fun z => cP ?_)
    rw [z]; rfl
  have hH1 : 1 ≤ H := by
    refine Nat.pos_of_ne_zero (fun z => cH ?_)
    rw [z]; rfl
  refine f_keepAll hd (k := 16) (by omega) (fun N hF k1 k2 => ?_)
  have hN : mOk mT N := by
    refine mOk_und hF hM0 ?_ ?_ ?_ ?_ (by simp)
    · rw [hF.1 8 (by simp)]; exact hM0.2.2.2.2.2.2.1
    · refine undOk_keep hM0.2.2.1 ?_ k2
      have := k1 0 (by omega)
      rw [Nat.add_zero, Nat.add_zero] at this
      rw [this]; exact hM0.1.2.2.2.2.2.1
    · rw [hF.2.2.1 7 (by simp)]; exact hM0.2.2.2.2.1
    · rw [hF.2.2.1 3 (by simp)]; exact hM0.1
  simp (disch := decide) only [oi_gI, oi_gJ, oi_gP, oi_pI, oi_pZ, oi_pJ, oi_oK, oi_aI hd, oi_aZ hd, oi_aJ hd, oi_sI hd, oi_sZ hd, oi_sJ hd, mI_1, mI_2, mJ_1, mJ_2, mJ_3, mA_1, mA_2, mA_3, mA_4, mL_1, mL_2, mL_3, mL_4, mK, Nat.reduceEqDiff, if_true, if_false, ite_true, ite_false, true_and, Nat.reduceLT, reduceIte, reduceCtorEq, cl_0, cl_1, cl_2, cl_3, cl_4, cl_5, cl_6, cl_7, cl_8, cl_9, cl_10, cl_11, cl_12, cl_13, cl_14, cl_15, vl_0_5585, vl_1_5585, vl_2_5585, vl_3_5585, vl_4_5585, vl_5_5585, vl_6_5585, vl_0_7, vl_1_7, vl_2_7, vl_3_7, vl_4_7, vl_5_7, vl_6_7]
  rw [i64toInt] at y1 y2
  have t1 : (1 : Int64).toInt = 1 := by decide
  have t60 : (60 : Int64).toInt = 60 := by decide
  obtain ⟨n, hn, rfl⟩ := rg_in (z := b) 61 (by omega) (by omega) (by omega)
  refine loop_m (σ := mS × Nat × Nat) (fun m s => w_X12_generations_b77 q m (ov S o ad s.1) o (nI n) (nI s.2.1) (nI s.2.2)) (fun s => mOk mT s.1 ∧ s.1.2.2.1 3 1 = nI P ∧ s.1.2.2.1 3 0 = nI H ∧ dwOk (s.1.2.1 57) ∧ s.2.1 ≤ s.2.2 ∧ s.2.2 ≤ n) (fun s => n - s.2.2) ?_ (_, 0, 0) ⟨mOk_j hN, ?_, ?_, ?_, Nat.le_refl _, Nat.zero_le _⟩
  · rintro m ⟨Q, v, k⟩ ⟨hQ, q1, q0, qd, hv, hk⟩ ih
    dsimp only at hQ q1 q0 qd hv hk ih ⊢
    have fin : w_X12_generations_b188 q (ov S o ad Q) o (nI v) := f_gn188 hd hQ (by rw [nI_toInt (by omega)]; omega) h
    have y5 := hQ.1.2.2.2.2.2.1
    rw [w_X12_generations_b77, nI_leI (by omega) (by omega)]
    refine ⟨fun _ => fin, fun c => ⟨ov_oK, s_yearNow hd ⟨fun _ => fin, fun cy => ?_⟩⟩⟩
    have cy : (Q.2.2.1 3 5).toInt < 999 := by rw [i32ge, i32lit 999 (by omega)] at cy; omega
    simp (disch := decide) only [oi_gI, oi_gJ, oi_gP, oi_pI, oi_pZ, oi_pJ, oi_oK, oi_aI hd, oi_aZ hd, oi_aJ hd, oi_sI hd, oi_sZ hd, oi_sJ hd, mI_1, mI_2, mJ_1, mJ_2, mJ_3, mA_1, mA_2, mA_3, mA_4, mL_1, mL_2, mL_3, mL_4, mK, Nat.reduceEqDiff, if_true, if_false, ite_true, ite_false, true_and, Nat.reduceLT, reduceIte, reduceCtorEq, cl_0, cl_1, cl_2, cl_3, cl_4, cl_5, cl_6, cl_7, cl_8, cl_9, cl_10, cl_11, cl_12, cl_13, cl_14, cl_15, vl_0_5585, vl_1_5585, vl_2_5585, vl_3_5585, vl_4_5585, vl_5_5585, vl_6_5585, vl_0_7, vl_1_7, vl_2_7, vl_3_7, vl_4_7, vl_5_7, vl_6_7]
    rw [q1]
    refine s_draw hd ⟨hP1, hP⟩ qd (fun p x1 hx1 hp => ?_)
    simp (disch := decide) only [oi_gI, oi_gJ, oi_gP, oi_pI, oi_pZ, oi_pJ, oi_oK, oi_aI hd, oi_aZ hd, oi_aJ hd, oi_sI hd, oi_sZ hd, oi_sJ hd, mI_1, mI_2, mJ_1, mJ_2, mJ_3, mA_1, mA_2, mA_3, mA_4, mL_1, mL_2, mL_3, mL_4, mK, Nat.reduceEqDiff, if_true, if_false, ite_true, ite_false, true_and, Nat.reduceLT, reduceIte, reduceCtorEq, cl_0, cl_1, cl_2, cl_3, cl_4, cl_5, cl_6, cl_7, cl_8, cl_9, cl_10, cl_11, cl_12, cl_13, cl_14, cl_15, vl_0_5585, vl_1_5585, vl_2_5585, vl_3_5585, vl_4_5585, vl_5_5585, vl_6_5585, vl_0_7, vl_1_7, vl_2_7, vl_3_7, vl_4_7, vl_5_7, vl_6_7]
    rw [q0]
    refine s_draw hd ⟨hH1, by omega⟩ (by simp [mJ_2]; exact hx1) (fun e x2 hx2 he => ⟨ov_oK, ?_⟩)
    refine s_draw hd (v := 8) ⟨by omega, by omega⟩ (by simp [mJ_2]; exact hx2) (fun w x3 hx3 hw => ⟨ov_oK, ?_⟩)
    have hQ3 : mOk mT (mJ (mJ (mJ Q 57 x1) 57 x2) 57 x3) := mOk_j (mOk_j (mOk_j hQ))
    have d3 : dwOk ((mJ (mJ (mJ Q 57 x1) 57 x2) 57 x3).2.1 57) := by simp [mJ_2]; exact hx3
    have r3 : (mJ (mJ (mJ Q 57 x1) 57 x2) 57 x3).2.2.1 3 = Q.2.2.1 3 := rfl
    generalize mJ (mJ (mJ Q 57 x1) 57 x2) 57 x3 = U at hQ3 d3 r3 ⊢
    -- the next year's turn
    have nx : ∀ V c, mOk mT V → dwOk (V.2.1 57) → V.2.2.1 3 1 = nI P → V.2.2.1 3 0 = nI H → c ≤ k + 1 → w_X12_generations_b182 q (fun S v0 v2 v3 v4 => w_X12_generations_b77 q m S v0 v2 v3 v4) (ov S o ad V) o (nI n) (nI c) (nI k) := by
      intro V c hV hdV v1 v0 hc y ey
      rw [ey, nI_1]
      exact ih (V, c, k + 1) ⟨hV, v1, v0, hdV, by dsimp only; omega, by dsimp only; omega⟩ (by dsimp only; omega)
    have k172 : ∀ V c, mOk mT V → dwOk (V.2.1 57) → rEq (Q.2.2.1 3) (V.2.2.1 3) → c ≤ k + 1 → w_X12_generations_b172 q (fun S v0 v2 v3 v4 => w_X12_generations_b77 q m S v0 v2 v3 v4) (ov S o ad V) o (nI n) (nI c) (nI k) (nI w) := by
      intro V c hV hdV hE hc
      refine ⟨fun _ => nx V c hV hdV (by rw [hE.c (by omega)]; exact q1) (by rw [hE.c (by omega)]; exact q0) hc, fun _ => ⟨ov_oK, d_passIt hd hV (by rw [hE.c (by omega)]; exact cy) (fun f hf _ hf2 => nx _ c hf hdV ?_ ?_ hc)⟩⟩
      · show f 1 = _
        rw [hf2 1 (Or.inl (by omega)) (by omega), hE.c (by omega)]; exact q1
      · show f 0 = _
        rw [hf2 0 (Or.inl (by omega)) (by omega), hE.c (by omega)]; exact q0
    have k149 : ∀ V (r : Nat), mOk mT V → dwOk (V.2.1 57) → rEq (Q.2.2.1 3) (V.2.2.1 3) → r ≤ 1 → w_X12_generations_b149 q (fun S v0 v2 v3 v4 => w_X12_generations_b77 q m S v0 v2 v3 v4) (ov S o ad V) o (nI n) (nI k) (nI p) (nI w) (nI r) (nI v) := by
      intro V r hV hdV hE hr y ey
      rw [ey, nIadd]
      refine ⟨fun _ => k172 V _ hV hdV hE (by omega), fun _ => ⟨ov_oK, s_lives hd (by omega) (fun _ => ⟨fun z => absurd z (by decide), fun _ => ⟨ov_oK, d_dieIt hd hV (by omega) (fun r2 f hf _ => k172 _ _ (mOk_r hV (hf.ok hV.1)) hdV (fun i hi => ?_) (by omega))⟩⟩) (fun _ => ⟨fun _ => k172 V _ hV hdV hE (by omega), fun z => absurd rfl z⟩)⟩⟩
      show f i = _
      rw [hf i hi, hE i hi]
    refine f_canRing hd (by omega) (by omega) (fun r => ⟨fun _ => k149 U 0 hQ3 d3 (by rw [r3]; exact rEq.rf) (by omega), fun _ => ⟨ov_oK, d_ringIt2 hd hQ3 (by omega) (by omega) (fun r2 V hV hFV hE hr2 => ?_)⟩⟩)
    rw [r3] at hE
    have dV : dwOk (V.2.1 57) := by rw [hFV.2.1 57 (by simp)]; exact d3
    rcases hr2 with e | e
    · rw [e]; exact k149 V 0 hV dV hE (by omega)
    · rw [e]; exact k149 V 1 hV dV hE (by omega)
  · show N.2.2.1 3 1 = nI P
    rw [hF.2.2.1 3 (by simp)]; exact eP
  · show N.2.2.1 3 0 = nI H
    rw [hF.2.2.1 3 (by simp)]; exact eH
  · show dwOk ((mJ N 57 (Int32.toInt64 a)).2.1 57)
    rw [mJ_2, if_pos rfl]
    have e0 : (0 : Int64).toInt = 0 := by decide
    have e6 : (1000000 : Int64).toInt = 1000000 := by decide
    exact ⟨by omega, by omega⟩
end REF36
