/-! THE REFERENCE'S DEEDS AS CALLS -/
section DK
variable {S : hS} {o : Nat} {ad : Nat → Nat} {M N P M1 : mS} {mT : mS} {T : aS} {rs : Nat} {L : Nat → List pCl} {us : uL} {f g u s F r : Nat → Int32}
theorem dvR.eq (h : dvR r g s) (hg : ∀ i, i < 185 → rCon i → g i = r i) : rEq r s := fun i hi => by
  by_cases c : i < 185
  · rw [h.at c]; exact hg i c hi
  · exact h.2 i (by omega)
theorem x_dieIt (hd : mD o ad) (hB : rB (M.2.2.1 3)) {q : Int32 → hS → Prop} {p : Nat} (hp : p < 8) (h : ∀ s, dvR (M.2.2.1 3) (dieF (cut (M.2.2.1 3)) p) s → rEq (M.2.2.1 3) s → q (nI (manyR (cut (M.2.2.1 3)) p)) (ov S o ad (mA M 3 s))) : w_X12_dieIt q (ov S o ad M) o (nI p) := by
  have hBc := rB_cut.mpr hB
  unfold w_X12_dieIt
  simp (disch := decide) only [oi_gI, oi_gJ, oi_gP, oi_pI, oi_pZ, oi_pJ, oi_oK, oi_aI hd, oi_aZ hd, oi_aJ hd, oi_sI hd, oi_sZ hd, oi_sJ hd, mI_1, mI_2, mJ_1, mJ_2, mJ_3, mA_1, mA_2, mA_3, mA_4, mL_1, mL_2, mL_3, mL_4, mK, Nat.reduceEqDiff, if_true, if_false, ite_true, ite_false, true_and, Nat.reduceLT, reduceIte, reduceCtorEq, cl_0, cl_1, cl_2, cl_3, cl_4, cl_5, cl_6, cl_7, cl_8, cl_9, cl_10, cl_11, cl_12, cl_13, cl_14, cl_15, vl_0_5585, vl_1_5585, vl_2_5585, vl_3_5585, vl_4_5585, vl_5_5585, vl_6_5585, vl_0_7, vl_1_7, vl_2_7, vl_3_7, vl_4_7, vl_5_7, vl_6_7]
  rw [lit_nI 22, lit_nI 162, nIadd, nIadd, nI_clamp (by omega), nI_clamp (by omega)]
  have hB' : rB (upd (M.2.2.1 3) (22 + p) 1) := rB_set hB (by omega) (by rw [(hi_d (by omega)).1, (hi_d (by omega)).2, n1I]; omega) (fun _ _ => by omega) (fun _ _ => by omega)
  refine ⟨vp_in_nI (by omega) (by omega), vp_in_nI (by omega) (by omega), x_living hd hB' (fun x hx y ey => x_ones ?_)⟩
  have hz : ∀ j, j < 8 → (dB y j = 1 ↔ heirB (cut (M.2.2.1 3)) p j = true) := by
    intro j hj
    have hx' : dB x j = 1 ↔ j < nPR (upd (M.2.2.1 3) (22 + p) 1) ∧ liveR (upd (M.2.2.1 3) (22 + p) 1) j = true := hx j hj
    rw [ey, dB_and2 hj, hx', upd_ne _ _ (by omega)]
    unfold heirB
    rw [cut_lt (by omega), iR_cut (by omega)]
    have hn : (j < nPR (upd (M.2.2.1 3) (22 + p) 1)) ↔ (j : Int) < iR (M.2.2.1 3) 1 := by
      unfold nPR
      rw [iR_ne (by omega)]
      omega
    rw [hn]
    have hl : j ≠ p → (liveR (upd (M.2.2.1 3) (22 + p) 1) j = liveR (cut (M.2.2.1 3)) j) := fun hjp => by
      unfold liveR
      rw [iR_ne (by omega), iR_cut (by omega)]
    simp only [Bool.and_eq_true, decide_eq_true_eq]
    by_cases c : j = p
    · subst c
      exact ⟨fun z => absurd z.1 (hB.2.2.2.2.2 j hj), fun z => absurd z.1.1 (hB.2.2.2.2.2 j hj)⟩
    · rw [hl c]
      exact ⟨fun z => ⟨⟨z.1, z.2.2⟩, z.2.1⟩, fun z => ⟨z.1.1, z.2, z.1.2⟩⟩
  have hmm : onesN y 8 = manyR (cut (M.2.2.1 3)) p := by
    rw [onesN_rank hz 8 (Nat.le_refl _)]
    refine rank_end 8 ?_
    have := hBc.1 1 (by omega)
    rw [show rLo 1 = 0 by decide, show rHi 1 = 8 by decide] at this
    unfold nPR; omega
  rw [hmm]
  refine x_die34 (F := cut (M.2.2.1 3)) (r := M.2.2.1 3) hd hp hBc hz rfl (fun s hs => h s hs (hs.eq (fun i hi hc => ?_))) ⟨?_, fun i hi => upd_ne _ _ (by omega)⟩
  · unfold dieF
    unfold rCon at hc
    rw [upd_ne _ _ (by omega), dieH_o (by omega), cut_lt hi]
  · rw [cut_upd (by omega)]
theorem xd_die (hd : mD o ad) (hM : mOk mT M) (hR : RR M rs T) (hA : aB T) {q : Int32 → hS → Prop} {a : Int32} (h : dPo S o ad mT M rs 2 a.toInt 0 0 T q) : w_X12_dieNow q (ov S o ad M) o a := by
  have hQ := hR.QM hA
  have e1 : (M.2.2.1 3 1).toInt = iR T.1.1 1 := hR.iR (by omega)
  have bb := hA.hi
  refine ⟨ov_oK, s_isPerson hd (fun h1 h2 => ⟨fun _ => ⟨ov_oK, ?_⟩, fun z => absurd z (by decide)⟩) (fun c => ⟨fun z => absurd rfl z, fun _ => h.no hM Fq.rf hR (code := -2) ?_ (by omega) (by decide)⟩)⟩
  · rw [e1] at h2
    have c2' : 0 ≤ a.toInt ∧ a.toInt < iR T.1.1 1 := ⟨h1, h2⟩
    obtain ⟨p, hp, rfl⟩ := rg_in 8 (by omega) h1 (by omega)
    have tp : (nI p).toInt.toNat = p := by rw [nI_toInt (by omega)]; omega
    have lv : liveR T.1.1 p = true ↔ M.2.2.1 3 (22 + p) = 0 := by
      unfold liveR
      rw [decide_eq_true_eq, i32_z, hR.at (by omega)]; rfl
    refine s_lives hd hp (fun c1 => ⟨fun _ => ⟨ov_oK, x_remember (t := 2) hd hM hR.2.2.1 (by omega) (fun N hN hF hU => ⟨ov_oK, x_dieIt hd (hQ.cg (hF.2.2.1 3 (by simp))).1 hp (fun s hs he => ?_)⟩)⟩, fun z => absurd z (by decide)⟩) (fun c0 => ⟨fun z => absurd rfl z, fun _ => h.no hM Fq.rf hR (code := -3) ?_ (by omega) (by decide)⟩)
    · rw [hF.2.2.1 3 (by simp)] at hs he ⊢
      rw [hR.1.1] at hs ⊢
      refine h.yes hR hA (code := manyR T.1.1 p) (f' := dieF T.1.1 p) ?_ (by omega) Fz.rf hF hU (mOk_r hN (he.ok hM.1)) ((Fx.a 3 _).le (by simp) (by simp) (by simp) (by simp)) hs.1 (fun i hi => ?_) (nI_toInt ?_)
      · show dieD _ _ = _
        unfold dieD
        rw [if_neg (fun z => z c2'), tp, if_neg (fun z => z (lv.mpr c1))]
      · show s i = _
        rw [hF.2.2.1 3 (by simp)]
        exact hs.2 i hi
      · have := rank_le (f := T.1.1) (p := p) (nPR T.1.1)
        have hn : nPR T.1.1 ≤ 8 := by unfold nPR; omega
        unfold manyR; omega
    · show dieD _ _ = _
      unfold dieD
      rw [if_neg (fun z => z c2'), tp, if_pos (fun z => c0 (lv.mp z))]
  · rw [e1] at c
    show dieD _ _ = _
    unfold dieD
    rw [if_pos c]
theorem x_passIt (hd : mD o ad) (hB : rB (M.2.2.1 3)) {q : hS → Prop} (h : ∀ s, dvR (M.2.2.1 3) (passF (cut (M.2.2.1 3))) s → q (ov S o ad (mA M 3 s))) : w_X12_passIt q (ov S o ad M) o := by
  have y5 := hB.1 5 (by omega)
  rw [show rLo 5 = 0 by decide, show rHi 5 = 999 by decide] at y5
  have k26 : ∀ f, dvR (M.2.2.1 3) (fun x => if 78 ≤ x ∧ x < 126 then 0 else cut (M.2.2.1 3) x) f → ∃ n, w_X12_passIt_b26 q n (ov S o ad (mA M 3 f)) o 0 := by
    intro f0 hf0
    refine loop_m (σ := (Nat → Int32) × Nat) (fun n s => w_X12_passIt_b26 q n (ov S o ad (mA M 3 s.1)) o (nI s.2)) (fun s => dvR (M.2.2.1 3) (fun x => if 8 ≤ x ∧ x < 8 + s.2 then 0 else if 78 ≤ x ∧ x < 126 then 0 else cut (M.2.2.1 3) x) s.1 ∧ s.2 ≤ 6) (fun s => 6 - s.2) ?_ (f0, 0) ⟨⟨by
      rw [hf0.1]
      funext x
      dsimp only
      rw [if_neg (show ¬ (8 ≤ x ∧ x < 8 + 0) by omega)], hf0.2⟩, by omega⟩
    rintro n ⟨f, i⟩ ⟨hf, hi⟩ ih
    dsimp only at hf hi ih ⊢
    rw [w_X12_passIt_b26, lit_nI 6, nI_leI (by omega) (by omega)]
    refine ⟨fun c => ?_, fun c => ?_⟩
    · simp (disch := decide) only [oi_gI, oi_gJ, oi_gP, oi_pI, oi_pZ, oi_pJ, oi_oK, oi_aI hd, oi_aZ hd, oi_aJ hd, oi_sI hd, oi_sZ hd, oi_sJ hd, mI_1, mI_2, mJ_1, mJ_2, mJ_3, mA_1, mA_2, mA_3, mA_4, mL_1, mL_2, mL_3, mL_4, mK, Nat.reduceEqDiff, if_true, if_false, ite_true, ite_false, true_and, Nat.reduceLT, reduceIte, reduceCtorEq, cl_0, cl_1, cl_2, cl_3, cl_4, cl_5, cl_6, cl_7, cl_8, cl_9, cl_10, cl_11, cl_12, cl_13, cl_14, cl_15, vl_0_5585, vl_1_5585, vl_2_5585, vl_3_5585, vl_4_5585, vl_5_5585, vl_6_5585, vl_0_7, vl_1_7, vl_2_7, vl_3_7, vl_4_7, vl_5_7, vl_6_7, mA_mA]
      have ei : i = 6 := by omega
      subst ei
      have e5 : f 5 = M.2.2.1 3 5 := by
        rw [hf.at (by omega), if_neg (by omega), if_neg (by omega), cut_lt (by omega)]
      have e1 : f 5 + 1 = wI (iR (M.2.2.1 3) 5 + 1) := by
        rw [e5]
        exact wI_add rfl n1I (by omega) (by omega)
      rw [e1]
      refine h _ ⟨?_, fun i hi => ?_⟩
      · rw [cut_upd (by omega), hf.1]
        funext x
        unfold passF upd
        rw [iR_cut (by omega)]
      · rw [upd_ne _ _ (by omega)]
        exact hf.2 i hi
    · simp (disch := decide) only [oi_gI, oi_gJ, oi_gP, oi_pI, oi_pZ, oi_pJ, oi_oK, oi_aI hd, oi_aZ hd, oi_aJ hd, oi_sI hd, oi_sZ hd, oi_sJ hd, mI_1, mI_2, mJ_1, mJ_2, mJ_3, mA_1, mA_2, mA_3, mA_4, mL_1, mL_2, mL_3, mL_4, mK, Nat.reduceEqDiff, if_true, if_false, ite_true, ite_false, true_and, Nat.reduceLT, reduceIte, reduceCtorEq, cl_0, cl_1, cl_2, cl_3, cl_4, cl_5, cl_6, cl_7, cl_8, cl_9, cl_10, cl_11, cl_12, cl_13, cl_14, cl_15, vl_0_5585, vl_1_5585, vl_2_5585, vl_3_5585, vl_4_5585, vl_5_5585, vl_6_5585, vl_0_7, vl_1_7, vl_2_7, vl_3_7, vl_4_7, vl_5_7, vl_6_7, mA_mA]
      rw [lit_nI 8, nIadd, nI_clamp (by omega)]
      refine ⟨vp_in_nI (by omega) (by omega), fun y ey => ?_⟩
      rw [ey, nI_1]
      refine ih (upd f (8 + i) 0, i + 1) ⟨⟨?_, fun j hj => ?_⟩, by dsimp only; omega⟩ (by dsimp only; omega)
      · dsimp only
        rw [cut_upd (by omega), hf.1]
        funext x
        unfold upd
        dsimp only
        by_cases c8 : x = 8 + i
        · rw [if_pos c8, if_pos (by omega)]
        · rw [if_neg c8]
          by_cases c9 : 8 ≤ x ∧ x < 8 + i
          · rw [if_pos c9, if_pos (by omega)]
          · rw [if_neg c9, if_neg (show ¬ (8 ≤ x ∧ x < 8 + (i + 1)) by omega)]
      · dsimp only
        rw [upd_ne _ _ (by omega)]
        exact hf.2 j hj
  have hs := mA_self (M := M) 3
  have : ∃ n, w_X12_passIt_b2 q n (ov S o ad (mA M 3 (M.2.2.1 3))) o (nI 0) := by
    refine loop_m (σ := (Nat → Int32) × Nat) (fun n s => w_X12_passIt_b2 q n (ov S o ad (mA M 3 s.1)) o (nI s.2)) (fun s => dvR (M.2.2.1 3) (fun x => if 78 ≤ x ∧ x < 78 + s.2 then 0 else cut (M.2.2.1 3) x) s.1 ∧ s.2 ≤ 48) (fun s => 48 - s.2) ?_ (M.2.2.1 3, 0) ⟨⟨by
      funext x
      dsimp only
      rw [if_neg (by omega)], fun _ _ => rfl⟩, by omega⟩
    rintro n ⟨f, i⟩ ⟨hf, hi⟩ ih
    dsimp only at hf hi ih ⊢
    rw [w_X12_passIt_b2, lit_nI 48, nI_leI (by omega) (by omega)]
    refine ⟨fun c => k26 f ?_, fun c => ?_⟩
    · have ei : i = 48 := by omega
      subst ei
      exact hf
    simp (disch := decide) only [oi_gI, oi_gJ, oi_gP, oi_pI, oi_pZ, oi_pJ, oi_oK, oi_aI hd, oi_aZ hd, oi_aJ hd, oi_sI hd, oi_sZ hd, oi_sJ hd, mI_1, mI_2, mJ_1, mJ_2, mJ_3, mA_1, mA_2, mA_3, mA_4, mL_1, mL_2, mL_3, mL_4, mK, Nat.reduceEqDiff, if_true, if_false, ite_true, ite_false, true_and, Nat.reduceLT, reduceIte, reduceCtorEq, cl_0, cl_1, cl_2, cl_3, cl_4, cl_5, cl_6, cl_7, cl_8, cl_9, cl_10, cl_11, cl_12, cl_13, cl_14, cl_15, vl_0_5585, vl_1_5585, vl_2_5585, vl_3_5585, vl_4_5585, vl_5_5585, vl_6_5585, vl_0_7, vl_1_7, vl_2_7, vl_3_7, vl_4_7, vl_5_7, vl_6_7, mA_mA]
    rw [lit_nI 78, nIadd, nI_clamp (by omega)]
    refine ⟨vp_in_nI (by omega) (by omega), fun y ey => ?_⟩
    rw [ey, nI_1]
    refine ih (upd f (78 + i) 0, i + 1) ⟨⟨?_, fun j hj => ?_⟩, by dsimp only; omega⟩ (by dsimp only; omega)
    · dsimp only
      rw [cut_upd (by omega), hf.1]
      funext x
      unfold upd
      dsimp only
      by_cases c8 : x = 78 + i
      · rw [if_pos c8, if_pos (by omega)]
      · rw [if_neg c8]
        by_cases c9 : 78 ≤ x ∧ x < 78 + i
        · rw [if_pos c9, if_pos (by omega)]
        · rw [if_neg c9, if_neg (show ¬ (78 ≤ x ∧ x < 78 + (i + 1)) by omega)]
    · dsimp only
      rw [upd_ne _ _ (by omega)]
      exact hf.2 j hj
  rw [hs] at this
  exact this
/-- a year's row is a good row -/
theorem pass_ok (hM : mOk mT M) (hB : rB (M.2.2.1 3)) (hy : iR (M.2.2.1 3) 5 < 999) (hs : dvR (M.2.2.1 3) (passF (cut (M.2.2.1 3))) s) : mOk mT (mA M 3 s) := by
  have y5 := hB.1 5 (by omega)
  rw [show rLo 5 = 0 by decide, show rHi 5 = 999 by decide] at y5
  refine mOk_r hM (rowOk_year (f := M.2.2.1 3) (fun i hi h5 => ?_) ?_ hM.1)
  · by_cases c : i < 185
    · rw [hs.at c]
      unfold rCon at hi
      rw [passF_o (by omega), cut_lt c]
    · exact hs.2 i (by omega)
  · have e : s 5 = wI (iR (M.2.2.1 3) 5 + 1) := by
      rw [hs.at (by omega)]
      unfold passF
      rw [if_pos rfl, iR_cut (by omega)]
    rw [e]
    unfold rg
    rw [wI_i (by omega)]
    omega
theorem xd_pass (hd : mD o ad) (hM : mOk mT M) (hR : RR M rs T) (hA : aB T) {q : Int32 → hS → Prop} (h : dPo S o ad mT M rs 3 0 0 0 T q) : w_X12_passNow q (ov S o ad M) o := by
  have hQ := hR.QM hA
  have e5 : (M.2.2.1 3 5).toInt = iR T.1.1 5 := hR.iR (by omega)
  have y5 := hA.1.1 5 (by omega)
  rw [show rLo 5 = 0 by decide, show rHi 5 = 999 by decide] at y5
  refine ⟨ov_oK, s_yearNow hd ⟨fun c => ⟨ov_oK, x_remember (t := 3) hd hM hR.2.2.1 (by omega) (fun N hN hF hU => ⟨ov_oK, x_passIt hd (hQ.cg (hF.2.2.1 3 (by simp))).1 (fun s hs => ⟨ov_oK, s_yearNow hd ?_⟩)⟩)⟩, fun c => h.no hM Fq.rf hR (code := -3) ?_ (by omega) (by decide)⟩⟩
  · have c' : iR T.1.1 5 ≠ 999 := fun z => c (Int32.toInt_inj.mp (e5.trans z))
    have r3 := hF.2.2.1 3 (by simp)
    have hB' : rB (N.2.2.1 3) := by rw [r3]; exact hQ.1
    have hy : iR (N.2.2.1 3) 5 < 999 := by rw [r3, hR.iR (by omega)]; omega
    have hP := pass_ok hN hB' hy hs
    rw [r3, hR.1.1] at hs
    refine h.yes hR hA (code := iR T.1.1 5 + 1) (f' := passF T.1.1) ?_ (by omega) Fz.rf hF hU hP ((Fx.a 3 _).le (by simp) (by simp) (by simp) (by simp)) hs.1 (fun i hi => ?_) ?_
    · show passD _ = _
      unfold passD
      rw [if_neg (by omega)]
    · show s i = _
      rw [r3]
      exact hs.2 i hi
    · show (s 5).toInt = _
      rw [hs.at (by omega)]
      unfold passF
      rw [if_pos rfl, wI_i (by omega)]
  · show passD _ = _
    unfold passD
    have := congrArg Int32.toInt c
    rw [e5, show (999 : Int32).toInt = 999 by decide] at this
    rw [if_pos (by omega)]
theorem aDc_b {act : Nat} {a b c : Int} (hA : aB T) : -6 ≤ aDc act a b c T := by
  have := (deedD_ok (cs := csF T.1.1 T.1.2) (a := a) (b := b) (c := c) (act := act) hA.1).2.2.1
  unfold aDc
  omega
theorem xr_ring (hd : mD o ad) (hM : mOk mT M) (hR : RR M rs T) (hA : aB T) {q : Int32 → hS → Prop} {a b : Int32} (h : ∀ N, mOk mT N → RR N rs (spDeed 0 a.toInt b.toInt 0 T).2 → q (spDeed 0 a.toInt b.toInt 0 T).1 (ov S o ad N)) : w_X12_ring q (ov S o ad M) o a b := by
  unfold w_X12_ring
  simp (disch := decide) only [oi_gI, oi_gJ, oi_gP, oi_pI, oi_pZ, oi_pJ, oi_oK, oi_aI hd, oi_aZ hd, oi_aJ hd, oi_sI hd, oi_sZ hd, oi_sJ hd, mI_1, mI_2, mJ_1, mJ_2, mJ_3, mA_1, mA_2, mA_3, mA_4, mL_1, mL_2, mL_3, mL_4, mK, Nat.reduceEqDiff, if_true, if_false, ite_true, ite_false, true_and, Nat.reduceLT, reduceIte, reduceCtorEq, cl_0, cl_1, cl_2, cl_3, cl_4, cl_5, cl_6, cl_7, cl_8, cl_9, cl_10, cl_11, cl_12, cl_13, cl_14, cl_15, vl_0_5585, vl_1_5585, vl_2_5585, vl_3_5585, vl_4_5585, vl_5_5585, vl_6_5585, vl_0_7, vl_1_7, vl_2_7, vl_3_7, vl_4_7, vl_5_7, vl_6_7]
  exact xd_ring hd (mOk_i hM (by omega)) hR.z hA (fun r N hN _ hr hRN => ⟨ov_oK, r_tell hd hN hRN hr (aDc_b hA) h⟩)
theorem xr_sell (hd : mD o ad) (hM : mOk mT M) (hR : RR M rs T) (hA : aB T) {q : Int32 → hS → Prop} {a b c : Int32} (h : ∀ N, mOk mT N → RR N rs (spDeed 1 a.toInt b.toInt c.toInt T).2 → q (spDeed 1 a.toInt b.toInt c.toInt T).1 (ov S o ad N)) : w_X12_sell q (ov S o ad M) o a b c := by
  unfold w_X12_sell
  simp (disch := decide) only [oi_gI, oi_gJ, oi_gP, oi_pI, oi_pZ, oi_pJ, oi_oK, oi_aI hd, oi_aZ hd, oi_aJ hd, oi_sI hd, oi_sZ hd, oi_sJ hd, mI_1, mI_2, mJ_1, mJ_2, mJ_3, mA_1, mA_2, mA_3, mA_4, mL_1, mL_2, mL_3, mL_4, mK, Nat.reduceEqDiff, if_true, if_false, ite_true, ite_false, true_and, Nat.reduceLT, reduceIte, reduceCtorEq, cl_0, cl_1, cl_2, cl_3, cl_4, cl_5, cl_6, cl_7, cl_8, cl_9, cl_10, cl_11, cl_12, cl_13, cl_14, cl_15, vl_0_5585, vl_1_5585, vl_2_5585, vl_3_5585, vl_4_5585, vl_5_5585, vl_6_5585, vl_0_7, vl_1_7, vl_2_7, vl_3_7, vl_4_7, vl_5_7, vl_6_7]
  exact xd_sell hd (mOk_i hM (by omega)) hR.z hA (fun r N hN _ hr hRN => ⟨ov_oK, r_tell hd hN hRN hr (aDc_b hA) h⟩)
theorem xr_die (hd : mD o ad) (hM : mOk mT M) (hR : RR M rs T) (hA : aB T) {q : Int32 → hS → Prop} {a : Int32} (h : ∀ N, mOk mT N → RR N rs (spDeed 2 a.toInt 0 0 T).2 → q (spDeed 2 a.toInt 0 0 T).1 (ov S o ad N)) : w_X12_die q (ov S o ad M) o a := by
  unfold w_X12_die
  simp (disch := decide) only [oi_gI, oi_gJ, oi_gP, oi_pI, oi_pZ, oi_pJ, oi_oK, oi_aI hd, oi_aZ hd, oi_aJ hd, oi_sI hd, oi_sZ hd, oi_sJ hd, mI_1, mI_2, mJ_1, mJ_2, mJ_3, mA_1, mA_2, mA_3, mA_4, mL_1, mL_2, mL_3, mL_4, mK, Nat.reduceEqDiff, if_true, if_false, ite_true, ite_false, true_and, Nat.reduceLT, reduceIte, reduceCtorEq, cl_0, cl_1, cl_2, cl_3, cl_4, cl_5, cl_6, cl_7, cl_8, cl_9, cl_10, cl_11, cl_12, cl_13, cl_14, cl_15, vl_0_5585, vl_1_5585, vl_2_5585, vl_3_5585, vl_4_5585, vl_5_5585, vl_6_5585, vl_0_7, vl_1_7, vl_2_7, vl_3_7, vl_4_7, vl_5_7, vl_6_7]
  exact xd_die hd (mOk_i hM (by omega)) hR.z hA (fun r N hN _ hr hRN => ⟨ov_oK, r_tell hd hN hRN hr (aDc_b hA) h⟩)
theorem xr_pass (hd : mD o ad) (hM : mOk mT M) (hR : RR M rs T) (hA : aB T) {q : Int32 → hS → Prop} (h : ∀ N, mOk mT N → RR N rs (spDeed 3 0 0 0 T).2 → q (spDeed 3 0 0 0 T).1 (ov S o ad N)) : w_X12_pass q (ov S o ad M) o := by
  unfold w_X12_pass
  simp (disch := decide) only [oi_gI, oi_gJ, oi_gP, oi_pI, oi_pZ, oi_pJ, oi_oK, oi_aI hd, oi_aZ hd, oi_aJ hd, oi_sI hd, oi_sZ hd, oi_sJ hd, mI_1, mI_2, mJ_1, mJ_2, mJ_3, mA_1, mA_2, mA_3, mA_4, mL_1, mL_2, mL_3, mL_4, mK, Nat.reduceEqDiff, if_true, if_false, ite_true, ite_false, true_and, Nat.reduceLT, reduceIte, reduceCtorEq, cl_0, cl_1, cl_2, cl_3, cl_4, cl_5, cl_6, cl_7, cl_8, cl_9, cl_10, cl_11, cl_12, cl_13, cl_14, cl_15, vl_0_5585, vl_1_5585, vl_2_5585, vl_3_5585, vl_4_5585, vl_5_5585, vl_6_5585, vl_0_7, vl_1_7, vl_2_7, vl_3_7, vl_4_7, vl_5_7, vl_6_7]
  exact xd_pass hd (mOk_i hM (by omega)) hR.z hA (fun r N hN _ hr hRN => ⟨ov_oK, r_tell hd hN hRN hr (aDc_b hA) h⟩)
end DK
