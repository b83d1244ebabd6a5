/-! LAYER 2, the reference: rings, sales, deaths, years -/
theorem i32and1 (x : Int32) : (x &&& 1) = 0 ∨ (x &&& 1) = 1 := by
  have h : (x &&& 1).toBitVec.toNat = x.toBitVec.toNat % 2 := by
    rw [Int32.toBitVec_and, BitVec.toNat_and]
    exact Nat.and_one_is_mod _
  have : x.toBitVec.toNat % 2 = 0 ∨ x.toBitVec.toNat % 2 = 1 := by omega
  rcases this with e | e
  · left
    apply Int32.toBitVec_inj.mp
    apply BitVec.eq_of_toNat_eq
    rw [h, e]; rfl
  · right
    apply Int32.toBitVec_inj.mp
    apply BitVec.eq_of_toNat_eq
    rw [h, e]; rfl
def rEq (g f : Nat → Int32) : Prop := ∀ i, rCon i → f i = g i
theorem rEq.rf {g : Nat → Int32} : rEq g g := fun _ _ => rfl
theorem rEq.up {g f : Nat → Int32} {i : Nat} {v : Int32} (h : rEq g f) (hi : ¬ rCon i) : rEq g (upd f i v) := by
  intro j hj
  have hj' : j ≠ i := fun e => hi (e ▸ hj)
  rw [upd_ne f v hj']; exact h j hj
theorem rEq.ok {mU g f : Nat → Int32} (h : rEq g f) (hg : rowOk mU g) : rowOk mU f := rowOk_congr h hg
theorem rEq.c {g f : Nat → Int32} (h : rEq g f) {i : Nat} (hi : i ≤ 5) : f i = g i := h i (Or.inl hi)
/-- what a deed changes -/
def Fq (M N : mS) : Prop := Fx [8, 34, 38] [39, 40] [3, 6, 7] [35, 37] M N
section REF13
variable {S : hS} {o : Nat} {ad : Nat → Nat} {M : mS} {mT : mS}
theorem Fz.d {N : mS} (h : Fz M N) : Fq M N := h.1.le (by simp) (by simp) (by simp) (by simp)
theorem Fq.tr {N P : mS} (h1 : Fq M N) (h2 : Fq N P) : Fq M P := (Fx.tr h1 h2).le (by simp) (by simp) (by simp) (by simp)
theorem Fq.r {f : Nat → Int32} : Fq M (mA M 3 f) := (Fx.a 3 f).le (by simp) (by simp) (by simp) (by simp)
theorem Fq.rf : Fq M M := Fx.rf'
theorem s_ones8 {q : Int32 → hS → Prop} {T : hS} {a : Int32} (h : ∀ x, rg x 0 8 → q x T) : w_X12_ones q T a := by
  refine loop_m (σ := Nat × Nat) (fun n s => w_X12_ones_b4 q n T a (nI s.1) (nI s.2)) (fun s => s.1 ≤ s.2 ∧ s.2 ≤ 8) (fun s => 8 - s.2) ?_ (0, 0) ⟨Nat.le_refl _, by omega⟩
  rintro n ⟨x, i⟩ ⟨h1, h2⟩ ih
  dsimp only at h1 h2 ih ⊢
  rw [w_X12_ones_b4, lit_nI 8, nI_leI (by omega) (by omega)]
  refine ⟨fun _ => h _ ?_, fun c y ey z ez => ?_⟩
  · unfold rg; rw [nI_toInt (by omega)]; omega
  · rw [ez, nI_1]
    have : ∃ y' : Nat, y = nI y' ∧ y' ≤ x + 1 := by
      rw [ey]
      rcases i32and1 (a >>> (nI i &&& 31)) with e | e
      · exact ⟨x, by rw [e, show (0 : Int32) = nI 0 from rfl, nIadd]; rfl, by omega⟩
      · exact ⟨x + 1, by rw [e, nI_1], by omega⟩
    obtain ⟨y', rfl, hy⟩ := this
    exact ih (y', i + 1) ⟨by dsimp only; omega, by dsimp only; omega⟩ (by dsimp only; omega)
theorem mOk_rem {N : mS} (hM : mOk mT M) (hF : Fx [8] [] [6, 7] [] M N) (h6 : undOk (N.2.2.1 6) 18) (h7 : srtOk (N.2.2.1 7)) (h8 : rg (N.1 8) 0 16) : mOk mT N := mOk_und hF hM h8 h6 h7 (by rw [hF.2.2.1 3 (by simp)]; exact hM.1) (by simp)
theorem d_remember (hd : mD o ad) (hM : mOk mT M) {q : hS → Prop} {t : Int32} (ht : rg t 0 3) (h : ∀ N, mOk mT N → Fx [8] [] [6, 7] [] M N → q (ov S o ad N)) : w_X12_remember q (ov S o ad M) o t :=
  f_remember hd hM.2.2.1 hM.2.2.2.2.1 hM.2.2.2.2.2.2.1 hM.1.2.2.2.2.2.1 ht (fun N hF h6 h7 h8 => h N (mOk_rem hM hF h6 h7 h8) hF)
theorem d_ringIt (hd : mD o ad) (hM : mOk mT M) {q : Int32 → hS → Prop} {p e : Nat} (hp : p < 8) (he : e < 6) (h : ∀ r N, mOk mT N → Fq M N → rEq (M.2.2.1 3) (N.2.2.1 3) → 0 ≤ r.toInt → q r (ov S o ad N)) : w_X12_ringIt q (ov S o ad M) o (nI p) (nI e) := by
  refine ⟨ov_oK, f_isOpen hd hM hp he (fun N1 r1 hF1 => ⟨ov_oK, f_tiresOf hd (mOk_z hF1 hM) hp he (fun N2 r2 hF2 hr2 => ?_)⟩)⟩
  have hM2 := mOk_z hF2 (mOk_z hF1 hM)
  have hF := hF1.tr hF2
  simp (disch := decide) only [oi_gI, oi_gJ, oi_gP, oi_pI, oi_pZ, oi_pJ, oi_oK, oi_aI hd, oi_aZ hd, oi_aJ hd, oi_sI hd, oi_sZ hd, oi_sJ hd, mI_1, mI_2, mJ_1, mJ_2, mJ_3, mA_1, mA_2, mA_3, mA_4, mL_1, mL_2, mL_3, mL_4, mK, Nat.reduceEqDiff, if_true, if_false, ite_true, ite_false, true_and, Nat.reduceLT, reduceIte, reduceCtorEq, cl_0, cl_1, cl_2, cl_3, cl_4, cl_5, cl_6, cl_7, cl_8, cl_9, cl_10, cl_11, cl_12, cl_13, cl_14, cl_15, vl_0_5585, vl_1_5585, vl_2_5585, vl_3_5585, vl_4_5585, vl_5_5585, vl_6_5585, vl_0_7, vl_1_7, vl_2_7, vl_3_7, vl_4_7, vl_5_7, vl_6_7]
  rw [lit_nI 78, lit_nI 6, lit_nI 8, nImul, nIadd, nIadd, nIadd, nI_clamp (by omega), nI_clamp (by omega)]
  refine ⟨vp_in_nI (by omega) (by omega), vp_in_nI (by omega) (by omega), vp_in_nI (by omega) (by omega), s_withinV ?_⟩
  simp (disch := decide) only [oi_gI, oi_gJ, oi_gP, oi_pI, oi_pZ, oi_pJ, oi_oK, oi_aI hd, oi_aZ hd, oi_aJ hd, oi_sI hd, oi_sZ hd, oi_sJ hd, mI_1, mI_2, mJ_1, mJ_2, mJ_3, mA_1, mA_2, mA_3, mA_4, mL_1, mL_2, mL_3, mL_4, mK, Nat.reduceEqDiff, if_true, if_false, ite_true, ite_false, true_and, Nat.reduceLT, reduceIte, reduceCtorEq, cl_0, cl_1, cl_2, cl_3, cl_4, cl_5, cl_6, cl_7, cl_8, cl_9, cl_10, cl_11, cl_12, cl_13, cl_14, cl_15, vl_0_5585, vl_1_5585, vl_2_5585, vl_3_5585, vl_4_5585, vl_5_5585, vl_6_5585, vl_0_7, vl_1_7, vl_2_7, vl_3_7, vl_4_7, vl_5_7, vl_6_7, mA_mA]
  rw [nI_clamp (by omega)]
  have hq : rEq (M.2.2.1 3) (upd (upd (N2.2.2.1 3) (78 + 6 * p + e) (N2.2.2.1 3 (78 + 6 * p + e) + 1)) (8 + e) (wiV (Int32.toInt64 (upd (N2.2.2.1 3) (78 + 6 * p + e) (N2.2.2.1 3 (78 + 6 * p + e) + 1) (8 + e) + r2)) 0 99)) := by
    rw [hF.r]
    exact (rEq.rf.up (by unfold rCon; omega)).up (by unfold rCon; omega)
  refine ⟨vp_in_nI (by omega) (by omega), fun _ => h _ _ (mOk_r hM2 (hq.ok hM.1)) (hF.d.tr Fq.r) hq (by decide), fun _ => h _ _ (mOk_r hM2 (hq.ok hM.1)) (hF.d.tr Fq.r) hq (by decide)⟩
theorem d_ringNow (hd : mD o ad) (hM : mOk mT M) {q : Int32 → hS → Prop} {a b : Int32} (h : ∀ r N, mOk mT N → Fq M N → -3 ≤ r.toInt → q r (ov S o ad N)) : w_X12_ringNow q (ov S o ad M) o a b := by
  refine ⟨ov_oK, s_isPerson hd (fun h1 h2 => ⟨fun z => absurd z (by decide), fun _ => ⟨ov_oK, s_isHouse hd (fun h3 h4 => ⟨fun _ => ⟨ov_oK, ?_⟩, fun z => absurd z (by decide)⟩) (fun _ => ⟨fun z => absurd rfl z, fun _ => h _ _ hM Fq.rf (by decide)⟩)⟩⟩) (fun _ => ⟨fun _ => h _ _ hM Fq.rf (by decide), fun z => absurd rfl z⟩)⟩
  have b1 := hM.1.1.2
  have b2 := hM.1.2.1.2
  obtain ⟨p, hp, rfl⟩ := rg_in 8 (by omega) h1 (by omega)
  obtain ⟨e, he, rfl⟩ := rg_in 6 (by omega) h3 (by omega)
  exact f_canRing hd hp he (fun r => ⟨fun _ => ⟨ov_oK, d_remember hd hM ⟨by decide, by decide⟩ (fun N hN hF => ⟨ov_oK, d_ringIt hd hN hp he (fun r N2 hN2 hF2 _ hr => h _ _ hN2 (Fq.tr (hF.le (by simp) (by simp) (by simp) (by simp)) hF2) (by omega))⟩)⟩, fun _ => h _ _ hM Fq.rf (by decide)⟩)
theorem p_ring (hd : mD o ad) (hM : mOk mT M) {q : Int32 → hS → Prop} {a b : Int32} (h : ∀ r N, mOk mT N → q r (ov S o ad N)) : w_X12_ring q (ov S o ad M) o a b := by
  unfold w_X12_ring
  simp (disch := decide) only [oi_gI, oi_gJ, oi_gP, oi_pI, oi_pZ, oi_pJ, oi_oK, oi_aI hd, oi_aZ hd, oi_aJ hd, oi_sI hd, oi_sZ hd, oi_sJ hd, mI_1, mI_2, mJ_1, mJ_2, mJ_3, mA_1, mA_2, mA_3, mA_4, mL_1, mL_2, mL_3, mL_4, mK, Nat.reduceEqDiff, if_true, if_false, ite_true, ite_false, true_and, Nat.reduceLT, reduceIte, reduceCtorEq, cl_0, cl_1, cl_2, cl_3, cl_4, cl_5, cl_6, cl_7, cl_8, cl_9, cl_10, cl_11, cl_12, cl_13, cl_14, cl_15, vl_0_5585, vl_1_5585, vl_2_5585, vl_3_5585, vl_4_5585, vl_5_5585, vl_6_5585, vl_0_7, vl_1_7, vl_2_7, vl_3_7, vl_4_7, vl_5_7, vl_6_7]
  exact d_ringNow hd (mOk_i hM (by omega)) (fun r N hN _ hr => ⟨ov_oK, g_tell hd hN (by omega) (h _)⟩)
theorem d_sellNow (hd : mD o ad) (hM : mOk mT M) {q : Int32 → hS → Prop} {a b c : Int32} (h : ∀ r N, mOk mT N → Fq M N → -3 ≤ r.toInt → q r (ov S o ad N)) : w_X12_sellNow q (ov S o ad M) o a b c := by
  refine ⟨fun _ => ⟨ov_oK, s_isPerson hd (fun h1 h2 => ⟨fun z => absurd z (by decide), fun _ => ⟨ov_oK, s_isPerson hd (fun h3 h4 => ⟨fun z => absurd z (by decide), fun _ => ⟨ov_oK, s_isHouse hd (fun h5 h6 => ⟨fun _ => ⟨ov_oK, ?_⟩, fun z => absurd z (by decide)⟩) (fun _ => ⟨fun z => absurd rfl z, fun _ => h _ _ hM Fq.rf (by decide)⟩)⟩⟩) (fun _ => ⟨fun _ => h _ _ hM Fq.rf (by decide), fun z => absurd rfl z⟩)⟩⟩) (fun _ => ⟨fun _ => h _ _ hM Fq.rf (by decide), fun z => absurd rfl z⟩)⟩, fun _ => h _ _ hM Fq.rf (by decide)⟩
  have b1 := hM.1.1.2
  have b2 := hM.1.2.1.2
  obtain ⟨p, hp, rfl⟩ := rg_in 8 (by omega) h1 (by omega)
  obtain ⟨t, ht, rfl⟩ := rg_in 8 (by omega) h3 (by omega)
  obtain ⟨e, he, rfl⟩ := rg_in 6 (by omega) h5 (by omega)
  refine f_canSell hd hM hp ht he (fun N1 r hF1 => ⟨fun _ => ⟨ov_oK, d_remember hd (mOk_z hF1 hM) ⟨by decide, by decide⟩ (fun N2 hN2 hF2 => ⟨ov_oK, f_costsOf hd hN2 hp he (fun N3 hF3 => ?_)⟩)⟩, fun _ => h _ _ (mOk_z hF1 hM) hF1.d (by decide)⟩)
  have hN3 := mOk_z hF3 hN2
  have hFd : Fq M N3 := Fq.tr (Fq.tr hF1.d (hF2.le (by simp) (by simp) (by simp) (by simp))) hF3.d
  have hc := costV_rg (f := N2.2.2.1 3) (z := N2.2.2.2 35) (p := p) (t := t) (e := e)
  simp (disch := decide) only [oi_gI, oi_gJ, oi_gP, oi_pI, oi_pZ, oi_pJ, oi_oK, oi_aI hd, oi_aZ hd, oi_aJ hd, oi_sI hd, oi_sZ hd, oi_sJ hd, mI_1, mI_2, mJ_1, mJ_2, mJ_3, mA_1, mA_2, mA_3, mA_4, mL_1, mL_2, mL_3, mL_4, mK, Nat.reduceEqDiff, if_true, if_false, ite_true, ite_false, true_and, Nat.reduceLT, reduceIte, reduceCtorEq, cl_0, cl_1, cl_2, cl_3, cl_4, cl_5, cl_6, cl_7, cl_8, cl_9, cl_10, cl_11, cl_12, cl_13, cl_14, cl_15, vl_0_5585, vl_1_5585, vl_2_5585, vl_3_5585, vl_4_5585, vl_5_5585, vl_6_5585, vl_0_7, vl_1_7, vl_2_7, vl_3_7, vl_4_7, vl_5_7, vl_6_7, mA_mA]
  rw [lit_nI 30, lit_nI 6, lit_nI 14, nImul, nImul, nIadd, nIadd, nIadd, nIadd, nIadd, nIadd, nI_clamp (by omega), nI_clamp (by omega), nI_clamp (by omega), nI_clamp (by omega)]
  refine ⟨vp_in_nI (by omega) (by omega), vp_in_nI (by omega) (by omega), vp_in_nI (by omega) (by omega), vp_in_nI (by omega) (by omega), vp_in_nI (by omega) (by omega), vp_in_nI (by omega) (by omega), vp_in_nI (by omega) (by omega), s_withinV ?_⟩
  simp (disch := decide) only [oi_gI, oi_gJ, oi_gP, oi_pI, oi_pZ, oi_pJ, oi_oK, oi_aI hd, oi_aZ hd, oi_aJ hd, oi_sI hd, oi_sZ hd, oi_sJ hd, mI_1, mI_2, mJ_1, mJ_2, mJ_3, mA_1, mA_2, mA_3, mA_4, mL_1, mL_2, mL_3, mL_4, mK, Nat.reduceEqDiff, if_true, if_false, ite_true, ite_false, true_and, Nat.reduceLT, reduceIte, reduceCtorEq, cl_0, cl_1, cl_2, cl_3, cl_4, cl_5, cl_6, cl_7, cl_8, cl_9, cl_10, cl_11, cl_12, cl_13, cl_14, cl_15, vl_0_5585, vl_1_5585, vl_2_5585, vl_3_5585, vl_4_5585, vl_5_5585, vl_6_5585, vl_0_7, vl_1_7, vl_2_7, vl_3_7, vl_4_7, vl_5_7, vl_6_7, mA_mA]
  rw [nI_clamp (by omega)]
  refine ⟨vp_in_nI (by omega) (by omega), h _ _ (mOk_r hN3 ?_) (hFd.tr Fq.r) (by have := hc.1; omega)⟩
  exact rowOk_free (by unfold rCon; omega) (rowOk_free (by unfold rCon; omega) (rowOk_free (by unfold rCon; omega) (rowOk_free (by unfold rCon; omega) hN3.1)))
theorem p_sell (hd : mD o ad) (hM : mOk mT M) {q : Int32 → hS → Prop} {a b c : Int32} (h : ∀ r N, mOk mT N → q r (ov S o ad N)) : w_X12_sell q (ov S o ad M) o a b c := by
  unfold w_X12_sell
  simp (disch := decide) only [oi_gI, oi_gJ, oi_gP, oi_pI, oi_pZ, oi_pJ, oi_oK, oi_aI hd, oi_aZ hd, oi_aJ hd, oi_sI hd, oi_sZ hd, oi_sJ hd, mI_1, mI_2, mJ_1, mJ_2, mJ_3, mA_1, mA_2, mA_3, mA_4, mL_1, mL_2, mL_3, mL_4, mK, Nat.reduceEqDiff, if_true, if_false, ite_true, ite_false, true_and, Nat.reduceLT, reduceIte, reduceCtorEq, cl_0, cl_1, cl_2, cl_3, cl_4, cl_5, cl_6, cl_7, cl_8, cl_9, cl_10, cl_11, cl_12, cl_13, cl_14, cl_15, vl_0_5585, vl_1_5585, vl_2_5585, vl_3_5585, vl_4_5585, vl_5_5585, vl_6_5585, vl_0_7, vl_1_7, vl_2_7, vl_3_7, vl_4_7, vl_5_7, vl_6_7]
  exact d_sellNow hd (mOk_i hM (by omega)) (fun r N hN _ hr => ⟨ov_oK, g_tell hd hN (by omega) (h _)⟩)
theorem d_passIt (hd : mD o ad) (hM : mOk mT M) (hy : (M.2.2.1 3 5).toInt < 999) {q : hS → Prop} (h : ∀ f, mOk mT (mA M 3 f) → rg (f 5) 1 999 → (∀ i, rCon i → i ≠ 5 → f i = M.2.2.1 3 i) → q (ov S o ad (mA M 3 f))) : w_X12_passIt q (ov S o ad M) o := by
  have y5 := hM.1.2.2.2.2.2.1
  have k26 : ∀ f, rEq (M.2.2.1 3) f → ∃ n, w_X12_passIt_b26 q n (ov S o ad (mA M 3 f)) o 0 := by
    intro f0 hf0
    refine loop_m (σ := (Nat → Int32) × Nat) (fun n s => w_X12_passIt_b26 q n (ov S o ad (mA M 3 s.1)) o (nI s.2)) (fun s => rEq (M.2.2.1 3) s.1 ∧ s.2 ≤ 6) (fun s => 6 - s.2) ?_ (f0, 0) ⟨hf0, by omega⟩
    rintro n ⟨f, i⟩ ⟨hf, hi⟩ ih
    dsimp only at hf hi ih ⊢
    rw [w_X12_passIt_b26, lit_nI 6, nI_leI (by omega) (by omega)]
    refine ⟨fun _ => ?_, fun c => ?_⟩
    · simp (disch := decide) only [oi_gI, oi_gJ, oi_gP, oi_pI, oi_pZ, oi_pJ, oi_oK, oi_aI hd, oi_aZ hd, oi_aJ hd, oi_sI hd, oi_sZ hd, oi_sJ hd, mI_1, mI_2, mJ_1, mJ_2, mJ_3, mA_1, mA_2, mA_3, mA_4, mL_1, mL_2, mL_3, mL_4, mK, Nat.reduceEqDiff, if_true, if_false, ite_true, ite_false, true_and, Nat.reduceLT, reduceIte, reduceCtorEq, cl_0, cl_1, cl_2, cl_3, cl_4, cl_5, cl_6, cl_7, cl_8, cl_9, cl_10, cl_11, cl_12, cl_13, cl_14, cl_15, vl_0_5585, vl_1_5585, vl_2_5585, vl_3_5585, vl_4_5585, vl_5_5585, vl_6_5585, vl_0_7, vl_1_7, vl_2_7, vl_3_7, vl_4_7, vl_5_7, vl_6_7, mA_mA]
      have e5 : f 5 = M.2.2.1 3 5 := hf.c (by omega)
      have e1 : (f 5 + 1).toInt = (M.2.2.1 3 5).toInt + 1 := by
        have : (1 : Int32).toInt = 1 := by decide
        rw [e5, fb_addI (by have := y5.1; omega) (by omega)]; omega
      have hg : rg (upd f 5 (f 5 + 1) 5) 1 999 := by rw [upd_self]; unfold rg; rw [e1]; have := y5.1; omega
      refine h _ (mOk_r hM (rowOk_year (f := M.2.2.1 3) (fun i hi h5 => ?_) ⟨by have := hg.1; omega, hg.2⟩ hM.1)) hg (fun i hi h5 => ?_)
      · rw [upd_ne _ _ h5]; exact hf i hi
      · rw [upd_ne _ _ h5]; exact hf i hi
    · simp (disch := decide) only [oi_gI, oi_gJ, oi_gP, oi_pI, oi_pZ, oi_pJ, oi_oK, oi_aI hd, oi_aZ hd, oi_aJ hd, oi_sI hd, oi_sZ hd, oi_sJ hd, mI_1, mI_2, mJ_1, mJ_2, mJ_3, mA_1, mA_2, mA_3, mA_4, mL_1, mL_2, mL_3, mL_4, mK, Nat.reduceEqDiff, if_true, if_false, ite_true, ite_false, true_and, Nat.reduceLT, reduceIte, reduceCtorEq, cl_0, cl_1, cl_2, cl_3, cl_4, cl_5, cl_6, cl_7, cl_8, cl_9, cl_10, cl_11, cl_12, cl_13, cl_14, cl_15, vl_0_5585, vl_1_5585, vl_2_5585, vl_3_5585, vl_4_5585, vl_5_5585, vl_6_5585, vl_0_7, vl_1_7, vl_2_7, vl_3_7, vl_4_7, vl_5_7, vl_6_7, mA_mA]
      rw [lit_nI 8, nIadd, nI_clamp (by omega)]
      refine ⟨vp_in_nI (by omega) (by omega), fun y ey => ?_⟩
      rw [ey, nI_1]
      exact ih (upd f (8 + i) 0, i + 1) ⟨hf.up (by unfold rCon; omega), by dsimp only; omega⟩ (by dsimp only; omega)
  have hs := mA_self (M := M) 3
  have : ∃ n, w_X12_passIt_b2 q n (ov S o ad (mA M 3 (M.2.2.1 3))) o (nI 0) := by
    refine loop_m (σ := (Nat → Int32) × Nat) (fun n s => w_X12_passIt_b2 q n (ov S o ad (mA M 3 s.1)) o (nI s.2)) (fun s => rEq (M.2.2.1 3) s.1 ∧ s.2 ≤ 48) (fun s => 48 - s.2) ?_ (M.2.2.1 3, 0) ⟨rEq.rf, by omega⟩
    rintro n ⟨f, i⟩ ⟨hf, hi⟩ ih
    dsimp only at hf hi ih ⊢
    rw [w_X12_passIt_b2, lit_nI 48, nI_leI (by omega) (by omega)]
    refine ⟨fun _ => k26 f hf, fun c => ?_⟩
    simp (disch := decide) only [oi_gI, oi_gJ, oi_gP, oi_pI, oi_pZ, oi_pJ, oi_oK, oi_aI hd, oi_aZ hd, oi_aJ hd, oi_sI hd, oi_sZ hd, oi_sJ hd, mI_1, mI_2, mJ_1, mJ_2, mJ_3, mA_1, mA_2, mA_3, mA_4, mL_1, mL_2, mL_3, mL_4, mK, Nat.reduceEqDiff, if_true, if_false, ite_true, ite_false, true_and, Nat.reduceLT, reduceIte, reduceCtorEq, cl_0, cl_1, cl_2, cl_3, cl_4, cl_5, cl_6, cl_7, cl_8, cl_9, cl_10, cl_11, cl_12, cl_13, cl_14, cl_15, vl_0_5585, vl_1_5585, vl_2_5585, vl_3_5585, vl_4_5585, vl_5_5585, vl_6_5585, vl_0_7, vl_1_7, vl_2_7, vl_3_7, vl_4_7, vl_5_7, vl_6_7, mA_mA]
    rw [lit_nI 78, nIadd, nI_clamp (by omega)]
    refine ⟨vp_in_nI (by omega) (by omega), fun y ey => ?_⟩
    rw [ey, nI_1]
    exact ih (upd f (78 + i) 0, i + 1) ⟨hf.up (by unfold rCon; omega), by dsimp only; omega⟩ (by dsimp only; omega)
  rw [hs] at this
  exact this
theorem d_passNow (hd : mD o ad) (hM : mOk mT M) {q : Int32 → hS → Prop} (h : ∀ r N, mOk mT N → Fq M N → -3 ≤ r.toInt → q r (ov S o ad N)) : w_X12_passNow q (ov S o ad M) o := by
  refine ⟨ov_oK, s_yearNow hd ⟨fun c => ⟨ov_oK, d_remember hd hM ⟨by decide, by decide⟩ (fun N hN hF => ⟨ov_oK, d_passIt hd hN ?_ (fun f hf h5 _ => ⟨ov_oK, s_yearNow hd (h _ _ hf (Fq.tr (hF.le (by simp) (by simp) (by simp) (by simp)) Fq.r) ?_)⟩)⟩)⟩, fun _ => h _ _ hM Fq.rf (by decide)⟩⟩
  · rw [hF.2.2.1 3 (by simp)]
    have : (M.2.2.1 3 5).toInt ≠ 999 := fun z => c (Int32.toInt_inj.mp z)
    have := hM.1.2.2.2.2.2.1.2
    omega
  · show -3 ≤ (f 5).toInt
    have := h5.1
    omega
theorem p_pass (hd : mD o ad) (hM : mOk mT M) {q : Int32 → hS → Prop} (h : ∀ r N, mOk mT N → q r (ov S o ad N)) : w_X12_pass q (ov S o ad M) o := by
  unfold w_X12_pass
  simp (disch := decide) only [oi_gI, oi_gJ, oi_gP, oi_pI, oi_pZ, oi_pJ, oi_oK, oi_aI hd, oi_aZ hd, oi_aJ hd, oi_sI hd, oi_sZ hd, oi_sJ hd, mI_1, mI_2, mJ_1, mJ_2, mJ_3, mA_1, mA_2, mA_3, mA_4, mL_1, mL_2, mL_3, mL_4, mK, Nat.reduceEqDiff, if_true, if_false, ite_true, ite_false, true_and, Nat.reduceLT, reduceIte, reduceCtorEq, cl_0, cl_1, cl_2, cl_3, cl_4, cl_5, cl_6, cl_7, cl_8, cl_9, cl_10, cl_11, cl_12, cl_13, cl_14, cl_15, vl_0_5585, vl_1_5585, vl_2_5585, vl_3_5585, vl_4_5585, vl_5_5585, vl_6_5585, vl_0_7, vl_1_7, vl_2_7, vl_3_7, vl_4_7, vl_5_7, vl_6_7]
  exact d_passNow hd (mOk_i hM (by omega)) (fun r N hN _ hr => ⟨ov_oK, g_tell hd hN (by omega) (h _)⟩)
end REF13
