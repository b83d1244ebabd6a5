/-! THE REFERENCE'S PLAIN QUESTIONS, EXACTLY -/
section QA
variable {S : hS} {o : Nat} {ad : Nat → Nat} {M N P M0 : mS} {mT : mS} {T T' : aS} {rs rs' : Nat} {f g : Nat → Int32} {k n : Nat}
theorem allRR_b {F : Nat → Int32} (hB : rB F) {e : Nat} (he : e < 6) : ∀ n, n ≤ 8 → 0 ≤ allRR F e n ∧ allRR F e n ≤ 99 * n
  | 0, _ => by rw [allRR]; omega
  | n + 1, hn => by
    have ih := allRR_b hB he n (by omega)
    have := hB.1 (30 + 6 * n + e) (by omega)
    rw [(hi_r (by omega)).1, (hi_r (by omega)).2] at this
    rw [allRR]
    omega
theorem x_rightsTo (hd : mD o ad) (hB : rB (M.2.2.1 3)) {q : Int32 → hS → Prop} {e : Nat} (he : e < 6) (h : q (wI (allRR (cut (M.2.2.1 3)) e (nPR (cut (M.2.2.1 3))))) (ov S o ad M)) : w_X12_rightsTo q (ov S o ad M) o (nI e) := by
  have hBc := rB_cut.mpr hB
  have b0 := hBc.1 1 (by omega)
  rw [show rLo 1 = 0 by decide, show rHi 1 = 8 by decide] at b0
  have en : M.2.2.1 3 1 = nI (nPR (cut (M.2.2.1 3))) := by
    apply Int32.toInt_inj.mp
    have e : iR (cut (M.2.2.1 3)) 1 = (M.2.2.1 3 1).toInt := iR_cut (by omega)
    unfold nPR
    rw [nI_toInt (by omega)]; omega
  have hn : nPR (cut (M.2.2.1 3)) ≤ 8 := by unfold nPR; omega
  generalize nPR (cut (M.2.2.1 3)) = n0 at en hn h
  refine loop_m (σ := Int32 × Nat) (fun n s => w_X12_rightsTo_b4 q n (ov S o ad M) o (nI e) s.1 (nI s.2)) (fun s => s.2 ≤ n0 ∧ s.1 = wI (allRR (cut (M.2.2.1 3)) e s.2)) (fun s => n0 - s.2) ?_ (0, 0) ⟨Nat.zero_le _, rfl⟩
  rintro n ⟨v, i⟩ ⟨hi, hv⟩ ih
  dsimp only at hi hv ih ⊢
  rw [w_X12_rightsTo_b4]
  simp (disch := decide) only [oi_gI, oi_gJ, oi_gP, oi_pI, oi_pZ, oi_pJ, oi_oK, oi_aI hd, oi_aZ hd, oi_aJ hd, oi_sI hd, oi_sZ hd, oi_sJ hd, mI_1, mI_2, mJ_1, mJ_2, mJ_3, mA_1, mA_2, mA_3, mA_4, mL_1, mL_2, mL_3, mL_4, mK, Nat.reduceEqDiff, if_true, if_false, ite_true, ite_false, true_and, Nat.reduceLT, reduceIte, reduceCtorEq]
  have e1 : (1 : Int32).toNatClampNeg = 1 := by decide
  rw [e1, en]
  refine ⟨vp_in_iff.mpr (by decide), fun c => ?_, fun c => s_rights hd (p := i) ?_ he ?_⟩
  · rw [nI_leI (by omega) (by omega)] at c
    have : i = n0 := by omega
    rw [hv, this]
    exact h
  · rw [nI_not_le (by omega) (by omega)] at c; omega
  · rw [nI_not_le (by omega) (by omega)] at c
    intro y ey z ez
    rw [ez, nI_1]
    have := allRR_b hBc he i (by omega)
    have l := hBc.1 (30 + 6 * i + e) (by omega)
    rw [(hi_r (by omega)).1, (hi_r (by omega)).2] at l
    have lc : (M.2.2.1 3 (30 + 6 * i + e)).toInt = iR (cut (M.2.2.1 3)) (30 + 6 * i + e) := (iR_cut (by omega)).symm
    refine ih (y, i + 1) ⟨by show i + 1 ≤ n0; omega, ?_⟩ (by show n0 - (i + 1) < n0 - i; omega)
    dsimp only
    rw [ey, hv, wI_add (wI_i (by omega)) lc (by omega) (by omega), allRR]
theorem RR.fz (h : RR M rs T) (hF : Fz M N) : RR N rs T := h.fx hF.1 (by simp) (by simp) (by simp)
theorem xr_at (hd : mD o ad) (hM : mOk M M) (hR : RR M rs T) (hA : aB T) {q : Int32 → hS → Prop} {a b : Int32} (h : ∀ N, mOk N N → RR N rs T → q (spAt a b T) (ov S o ad N)) : w_X12_at q (ov S o ad M) o a b := by
  have hM0 : mOk M (mI M 0 0) := mOk_i hM (by omega)
  have hR0 := hR.z (x := 0)
  have hQ := hR0.QM hA
  have bb := hA.hi
  have e0 : (M.2.2.1 3 0).toInt = iR T.1.1 0 := hR.iR (by omega)
  have y5 := hA.1.1 5 (by omega)
  rw [show rLo 5 = 0 by decide, show rHi 5 = 999 by decide] at y5
  unfold w_X12_at
  simp (disch := decide) only [oi_gI, oi_gJ, oi_gP, oi_pI, oi_pZ, oi_pJ, oi_oK, oi_aI hd, oi_aZ hd, oi_aJ hd, oi_sI hd, oi_sZ hd, oi_sJ hd, mI_1, mI_2, mJ_1, mJ_2, mJ_3, mA_1, mA_2, mA_3, mA_4, mL_1, mL_2, mL_3, mL_4, mK, Nat.reduceEqDiff, if_true, if_false, ite_true, ite_false, true_and, Nat.reduceLT, reduceIte, reduceCtorEq, cl_0, cl_1, cl_2, cl_3, cl_4, cl_5, cl_6, cl_7, cl_8, cl_9, cl_10, cl_11, cl_12, cl_13, cl_14, cl_15, vl_0_5585, vl_1_5585, vl_2_5585, vl_3_5585, vl_4_5585, vl_5_5585, vl_6_5585, vl_0_7, vl_1_7, vl_2_7, vl_3_7, vl_4_7, vl_5_7, vl_6_7]
  refine s_isHouse hd (fun h1 h2 => ⟨fun _ => ?_, fun z => absurd z (by decide)⟩) (fun nh => ⟨fun z => absurd rfl z, fun _ => ?_⟩)
  · have h2' : a.toInt < iR T.1.1 0 := by rw [← e0]; exact h2
    obtain ⟨e, he, rfl⟩ := rg_in 6 (by omega) h1 (by omega)
    have te : (nI e).toInt.toNat = e := by rw [nI_toInt (by omega)]; omega
    have es : spAt (nI e) b T = if b.toInt = 0 then T.1.1 (126 + e) else if b.toInt = 1 then T.1.1 (132 + e) else if b.toInt = 2 then T.1.1 (8 + e) else if b.toInt = 3 then wI (allRR T.1.1 e (nPR T.1.1)) else if b.toInt = 4 then wI (worthR T.1.1 (csF T.1.1 T.1.2) e (iR T.1.1 5)) else -1 := by
      unfold spAt
      rw [if_neg (fun z => z ⟨h1, h2'⟩), te]
    rw [es] at h
    intro y ey
    rw [ey]
    simp (disch := decide) only [oi_gI, oi_gJ, oi_gP, oi_pI, oi_pZ, oi_pJ, oi_oK, oi_aI hd, oi_aZ hd, oi_aJ hd, oi_sI hd, oi_sZ hd, oi_sJ hd, mI_1, mI_2, mJ_1, mJ_2, mJ_3, mA_1, mA_2, mA_3, mA_4, mL_1, mL_2, mL_3, mL_4, mK, Nat.reduceEqDiff, if_true, if_false, ite_true, ite_false, true_and, Nat.reduceLT, reduceIte, reduceCtorEq, cl_0, cl_1, cl_2, cl_3, cl_4, cl_5, cl_6, cl_7, cl_8, cl_9, cl_10, cl_11, cl_12, cl_13, cl_14, cl_15, vl_0_5585, vl_1_5585, vl_2_5585, vl_3_5585, vl_4_5585, vl_5_5585, vl_6_5585, vl_0_7, vl_1_7, vl_2_7, vl_3_7, vl_4_7, vl_5_7, vl_6_7]
    rw [lit_nI 126, lit_nI 132, lit_nI 8, nIadd, nIadd, nIadd, nI_clamp (by omega), nI_clamp (by omega), nI_clamp (by omega), hR.at (i := 126 + e) (by omega), hR.at (i := 132 + e) (by omega), hR.at (i := 8 + e) (by omega)]
    refine ⟨fun c => ⟨vp_in_nI (by omega) (by omega), ?_⟩, fun c => ⟨vp_in_nI (by omega) (by omega), ?_⟩, fun c => ⟨vp_in_nI (by omega) (by omega), ?_⟩, fun c => x_rightsTo hd hQ.1 he ?_, fun c => x_worthOf hd hM0 hQ he ?_ (fun N hF => ?_), fun c => ?_⟩
    · rw [if_pos c] at h
      exact h _ (mOk_self hM0) hR0
    · rw [if_neg (by omega), if_pos c] at h
      exact h _ (mOk_self hM0) hR0
    · rw [if_neg (by omega), if_neg (by omega), if_pos c] at h
      exact h _ (mOk_self hM0) hR0
    · rw [if_neg (by omega), if_neg (by omega), if_neg (by omega), if_pos c] at h
      rw [hR0.1.1]
      exact h _ (mOk_self hM0) hR0
    · rw [hR.at (i := 5) (by omega)]
      show -10 ≤ iR T.1.1 5 ∧ iR T.1.1 5 ≤ 10000
      omega
    · rw [if_neg (by omega), if_neg (by omega), if_neg (by omega), if_neg (by omega), if_pos c] at h
      rw [hR0.1.1, hR.at (i := 5) (by omega)]
      exact h _ (mOk_self (mOk_z hF hM0)) (hR0.fz hF)
    · rw [if_neg (by omega), if_neg (by omega), if_neg (by omega), if_neg (by omega), if_neg (by omega)] at h
      exact h _ (mOk_self hM0) hR0
  · have es : spAt a b T = -1 := by
      unfold spAt
      rw [if_pos (fun z => nh ⟨z.1, by rw [← e0] at z; exact z.2⟩)]
    rw [es] at h
    exact h _ (mOk_self hM0) hR0
theorem xr_of (hd : mD o ad) (hM : mOk M M) (hR : RR M rs T) (hA : aB T) {q : Int32 → hS → Prop} {a b : Int32} (h : ∀ N, mOk N N → RR N rs T → q (spOf a b T) (ov S o ad N)) : w_X12_of q (ov S o ad M) o a b := by
  have hM0 : mOk M (mI M 0 0) := mOk_i hM (by omega)
  have hR0 := hR.z (x := 0)
  have bb := hA.hi
  have e1 : (M.2.2.1 3 1).toInt = iR T.1.1 1 := hR.iR (by omega)
  unfold w_X12_of
  simp (disch := decide) only [oi_gI, oi_gJ, oi_gP, oi_pI, oi_pZ, oi_pJ, oi_oK, oi_aI hd, oi_aZ hd, oi_aJ hd, oi_sI hd, oi_sZ hd, oi_sJ hd, mI_1, mI_2, mJ_1, mJ_2, mJ_3, mA_1, mA_2, mA_3, mA_4, mL_1, mL_2, mL_3, mL_4, mK, Nat.reduceEqDiff, if_true, if_false, ite_true, ite_false, true_and, Nat.reduceLT, reduceIte, reduceCtorEq, cl_0, cl_1, cl_2, cl_3, cl_4, cl_5, cl_6, cl_7, cl_8, cl_9, cl_10, cl_11, cl_12, cl_13, cl_14, cl_15, vl_0_5585, vl_1_5585, vl_2_5585, vl_3_5585, vl_4_5585, vl_5_5585, vl_6_5585, vl_0_7, vl_1_7, vl_2_7, vl_3_7, vl_4_7, vl_5_7, vl_6_7]
  refine s_isPerson hd (fun h1 h2 => ⟨fun _ => ?_, fun z => absurd z (by decide)⟩) (fun nh => ⟨fun z => absurd rfl z, fun _ => ?_⟩)
  · have h2' : a.toInt < iR T.1.1 1 := by rw [← e1]; exact h2
    obtain ⟨p, hp, rfl⟩ := rg_in 8 (by omega) h1 (by omega)
    have te : (nI p).toInt.toNat = p := by rw [nI_toInt (by omega)]; omega
    have es : spOf (nI p) b T = if b.toInt = 0 then T.1.1 (138 + p) else if b.toInt = 1 then T.1.1 (146 + p) else if b.toInt = 2 then T.1.1 (14 + p) else if b.toInt = 3 then T.1.1 (154 + p) else if b.toInt = 4 then T.1.1 (162 + p) else if b.toInt = 5 then (if liveR T.1.1 p = true then 1 else 0) else -1 := by
      unfold spOf
      rw [if_neg (fun z => z ⟨h1, h2'⟩), te]
    rw [es] at h
    have lv : liveR T.1.1 p = true ↔ M.2.2.1 3 (22 + p) = 0 := by
      unfold liveR
      rw [decide_eq_true_eq, i32_z, hR.at (by omega)]; rfl
    intro y ey
    rw [ey]
    simp (disch := decide) only [oi_gI, oi_gJ, oi_gP, oi_pI, oi_pZ, oi_pJ, oi_oK, oi_aI hd, oi_aZ hd, oi_aJ hd, oi_sI hd, oi_sZ hd, oi_sJ hd, mI_1, mI_2, mJ_1, mJ_2, mJ_3, mA_1, mA_2, mA_3, mA_4, mL_1, mL_2, mL_3, mL_4, mK, Nat.reduceEqDiff, if_true, if_false, ite_true, ite_false, true_and, Nat.reduceLT, reduceIte, reduceCtorEq, cl_0, cl_1, cl_2, cl_3, cl_4, cl_5, cl_6, cl_7, cl_8, cl_9, cl_10, cl_11, cl_12, cl_13, cl_14, cl_15, vl_0_5585, vl_1_5585, vl_2_5585, vl_3_5585, vl_4_5585, vl_5_5585, vl_6_5585, vl_0_7, vl_1_7, vl_2_7, vl_3_7, vl_4_7, vl_5_7, vl_6_7]
    rw [lit_nI 138, lit_nI 146, lit_nI 14, lit_nI 154, lit_nI 162, nIadd, nIadd, nIadd, nIadd, nIadd, nI_clamp (by omega), nI_clamp (by omega), nI_clamp (by omega), nI_clamp (by omega), nI_clamp (by omega), hR.at (i := 138 + p) (by omega), hR.at (i := 146 + p) (by omega), hR.at (i := 14 + p) (by omega), hR.at (i := 154 + p) (by omega), hR.at (i := 162 + p) (by omega)]
    refine ⟨fun c => ⟨vp_in_nI (by omega) (by omega), ?_⟩, fun c => ⟨vp_in_nI (by omega) (by omega), ?_⟩, fun c => ⟨vp_in_nI (by omega) (by omega), ?_⟩, fun c => ⟨vp_in_nI (by omega) (by omega), ?_⟩, fun c => ⟨vp_in_nI (by omega) (by omega), ?_⟩, fun c => s_lives hd hp (fun cl => ⟨fun z => absurd z (by decide), fun _ => ?_⟩) (fun cd => ⟨fun _ => ?_, fun z => absurd rfl z⟩), fun c => ?_⟩
    · rw [if_pos c] at h
      exact h _ (mOk_self hM0) hR0
    · rw [if_neg (by omega), if_pos c] at h
      exact h _ (mOk_self hM0) hR0
    · rw [if_neg (by omega), if_neg (by omega), if_pos c] at h
      exact h _ (mOk_self hM0) hR0
    · rw [if_neg (by omega), if_neg (by omega), if_neg (by omega), if_pos c] at h
      exact h _ (mOk_self hM0) hR0
    · rw [if_neg (by omega), if_neg (by omega), if_neg (by omega), if_neg (by omega), if_pos c] at h
      exact h _ (mOk_self hM0) hR0
    · rw [if_neg (by omega), if_neg (by omega), if_neg (by omega), if_neg (by omega), if_neg (by omega), if_pos c, if_pos (lv.mpr cl)] at h
      exact h _ (mOk_self hM0) hR0
    · rw [if_neg (by omega), if_neg (by omega), if_neg (by omega), if_neg (by omega), if_neg (by omega), if_pos c, if_neg (fun z => cd (lv.mp z))] at h
      exact h _ (mOk_self hM0) hR0
    · rw [if_neg (by omega), if_neg (by omega), if_neg (by omega), if_neg (by omega), if_neg (by omega), if_neg (by omega)] at h
      exact h _ (mOk_self hM0) hR0
  · have es : spOf a b T = -1 := by
      unfold spOf
      rw [if_pos (fun z => nh ⟨z.1, by rw [← e1] at z; exact z.2⟩)]
    rw [es] at h
    exact h _ (mOk_self hM0) hR0
end QA
