/-! THE REFERENCE'S RINGS AND SALES AS DEEDS -/
section RE2
variable {S : hS} {o : Nat} {ad : Nat → Nat} {M N P M1 : mS} {mT : mS} {T : aS} {rs : Nat} {L : Nat → List pCl} {us : uL} {f g u s : Nat → Int32}
theorem dPo.yes {act : Nat} {a b c code : Int} {f' : Nat → Int32} {q : Int32 → hS → Prop} (h : dPo S o ad mT M rs act a b c T q) (hR : RR M rs T) (hA : aB T) (ed : deedD (csF T.1.1 T.1.2) act T.1.1 a b c = (code, f')) (h0 : 0 ≤ code) (hF0 : Fz M M1) (hFN : Fx [8] [] [6, 7] [] M1 N) (hU : luM N (pushU T.2.2.1 (act, cut (M1.2.2.1 3))) ∧ kp M1 N) (hP : mOk mT P) (hFP : Fx [34, 38] [39, 40] [3] [35, 37] N P) (hcut : cut (P.2.2.1 3) = f') (hs : ∀ i, 185 ≤ i → P.2.2.1 3 i = N.2.2.1 3 i) {r : Int32} (er : r.toInt = code) : q r (ov S o ad P) := by
  obtain ⟨e1, e2⟩ := aDd_yes ed h0
  have hFall : Fx [8, 34, 38] [39, 40] [3, 6, 7] [35, 37] M P := ((hF0.1.tr hFN).tr hFP).le (by simp) (by simp) (by simp) (by simp)
  have r3 : N.2.2.1 3 = M.2.2.1 3 := by rw [hFN.2.2.1 3 (by simp), hF0.r]
  have fr := (deedD_ok (cs := csF T.1.1 T.1.2) (a := a) (b := b) (c := c) (act := act) hA.1).2.1
  rw [ed] at fr
  dsimp only at fr
  have at6 : ∀ i, i < 185 → ¬ inLe i → P.2.2.1 3 i = N.2.2.1 3 i := fun i hi hn => by
    rw [← cut_lt (f := P.2.2.1 3) hi, hcut, fr i hn, ← hR.1.1, cut_lt hi, r3]
  obtain ⟨hU, hk⟩ := hU
  refine h r P hP ⟨hFall, fun j hj => by rw [hFP.2.2.1 6 (by simp), hk j hj, hF0.1.2.2.1 6 (by simp)]⟩ (by rw [e2]; exact er) ?_
  rw [e1]
  refine hR.deed hFall (by simp) (by simp) hcut (fun i hi => by rw [hs i hi, r3]) (fr 3 (by unfold inLe; omega)) ?_
  rw [hF0.r, hR.1.1] at hU
  exact hU.cg (hFP.1 8 (by simp)) (hFP.2.2.1 6 (by simp)) (hFP.2.2.1 7 (by simp)) ⟨at6 6 (by omega) (by unfold inLe; omega), at6 7 (by omega) (by unfold inLe; omega)⟩
theorem QM.cg (h : QM M L) (e : N.2.2.1 3 = M.2.2.1 3) : QM N L := by unfold QM; rw [e]; exact h
theorem aB.hi (h : aB T) : 0 ≤ iR T.1.1 0 ∧ iR T.1.1 0 ≤ 6 ∧ 0 ≤ iR T.1.1 1 ∧ iR T.1.1 1 ≤ 8 := by
  have h0 := h.1.1 0 (by omega)
  have h1 := h.1.1 1 (by omega)
  rw [show rLo 0 = 0 by decide, show rHi 0 = 6 by decide] at h0
  rw [show rLo 1 = 0 by decide, show rHi 1 = 8 by decide] at h1
  omega
theorem xd_ring (hd : mD o ad) (hM : mOk mT M) (hR : RR M rs T) (hA : aB T) {q : Int32 → hS → Prop} {a b : Int32} (h : dPo S o ad mT M rs 0 a.toInt b.toInt 0 T q) : w_X12_ringNow q (ov S o ad M) o a b := by
  have hQ := hR.QM hA
  have e1 : (M.2.2.1 3 1).toInt = iR T.1.1 1 := hR.iR (by omega)
  have e0 : (M.2.2.1 3 0).toInt = iR T.1.1 0 := hR.iR (by omega)
  have bb := hA.hi
  have c2 : ¬ ((0 ≤ a.toInt ∧ a.toInt < iR T.1.1 1) ∧ (0 ≤ b.toInt ∧ b.toInt < iR T.1.1 0)) → q (-2) (ov S o ad M) := fun c => h.no hM Fq.rf hR (code := -2) (by show ringD _ _ _ _ = _; unfold ringD; rw [if_pos c]) (by omega) (by decide)
  refine ⟨ov_oK, s_isPerson hd (fun h1 h2 => ⟨fun z => absurd z (by decide), fun _ => ⟨ov_oK, s_isHouse hd (fun h3 h4 => ⟨fun _ => ⟨ov_oK, ?_⟩, fun z => absurd z (by decide)⟩) (fun c => ⟨fun z => absurd rfl z, fun _ => c2 (fun w => c (by rw [e0]; exact w.2))⟩)⟩⟩) (fun c => ⟨fun _ => c2 (fun w => c (by rw [e1]; exact w.1)), fun z => absurd rfl z⟩)⟩
  rw [e1] at h2
  rw [e0] at h4
  have c2' : (0 ≤ a.toInt ∧ a.toInt < iR T.1.1 1) ∧ (0 ≤ b.toInt ∧ b.toInt < iR T.1.1 0) := ⟨⟨h1, h2⟩, ⟨h3, h4⟩⟩
  obtain ⟨p, hp, rfl⟩ := rg_in 8 (by omega) h1 (by omega)
  obtain ⟨e, he, rfl⟩ := rg_in 6 (by omega) h3 (by omega)
  have tp : (nI p).toInt.toNat = p := by rw [nI_toInt (by omega)]; omega
  have te : (nI e).toInt.toNat = e := by rw [nI_toInt (by omega)]; omega
  refine x_canRing hd hQ hp he ?_
  rw [hR.1.1]
  by_cases cc : liveR T.1.1 p = true ∧ 1 ≤ leftR T.1.1 p e
  · rw [if_pos cc]
    refine ⟨fun _ => ⟨ov_oK, x_remember (t := 0) hd hM hR.2.2.1 (by omega) (fun N hN hF hU => ⟨ov_oK, x_ringIt hd hN (hQ.cg (hF.2.2.1 3 (by simp))) hp he (fun P hP hF2 hcut hs => ?_)⟩)⟩, fun z => absurd z (by decide)⟩
    rw [hF.2.2.1 3 (by simp), hR.1.1] at hcut ⊢
    refine h.yes hR hA (code := if opensR T.1.1 (csF T.1.1 T.1.2) p e = true then 1 else 0) (f' := ringF T.1.1 (csF T.1.1 T.1.2) p e) ?_ (by split <;> omega) Fz.rf hF hU hP hF2 hcut hs (by split <;> rfl)
    show ringD _ _ _ _ = _
    unfold ringD
    rw [if_neg (fun z => z c2'), tp, te, if_neg (fun z => z cc)]
  · rw [if_neg cc]
    refine ⟨fun z => absurd rfl z, fun _ => h.no hM Fq.rf hR (code := -3) ?_ (by omega) (by decide)⟩
    show ringD _ _ _ _ = _
    unfold ringD
    rw [if_neg (fun z => z c2'), tp, te, if_pos cc]
theorem xd_sell (hd : mD o ad) (hM : mOk mT M) (hR : RR M rs T) (hA : aB T) {q : Int32 → hS → Prop} {a b c : Int32} (h : dPo S o ad mT M rs 1 a.toInt b.toInt c.toInt T q) : w_X12_sellNow q (ov S o ad M) o a b c := by
  have hQ := hR.QM hA
  have e1 : (M.2.2.1 3 1).toInt = iR T.1.1 1 := hR.iR (by omega)
  have e0 : (M.2.2.1 3 0).toInt = iR T.1.1 0 := hR.iR (by omega)
  have bb := hA.hi
  have ab : a.toInt = b.toInt ↔ a = b := ⟨fun z => Int32.toInt_inj.mp z, fun z => by rw [z]⟩
  refine ⟨fun nab => ?_, fun eab => h.no hM Fq.rf hR (code := -1) (by show sellD _ _ _ _ _ = _; unfold sellD; rw [if_pos (ab.mpr eab)]) (by omega) (by decide)⟩
  have nab' : ¬ a.toInt = b.toInt := fun z => nab (ab.mp z)
  have c2 : ¬ ((0 ≤ a.toInt ∧ a.toInt < iR T.1.1 1) ∧ (0 ≤ b.toInt ∧ b.toInt < iR T.1.1 1) ∧ (0 ≤ c.toInt ∧ c.toInt < iR T.1.1 0)) → q (-2) (ov S o ad M) := fun cc => h.no hM Fq.rf hR (code := -2) (by show sellD _ _ _ _ _ = _; unfold sellD; rw [if_neg nab', if_pos cc]) (by omega) (by decide)
  refine ⟨ov_oK, s_isPerson hd (fun h1 h2 => ⟨fun z => absurd z (by decide), fun _ => ⟨ov_oK, s_isPerson hd (fun h3 h4 => ⟨fun z => absurd z (by decide), fun _ => ⟨ov_oK, s_isHouse hd (fun h5 h6 => ⟨fun _ => ⟨ov_oK, ?_⟩, fun z => absurd z (by decide)⟩) (fun cc => ⟨fun z => absurd rfl z, fun _ => c2 (fun w => cc (by rw [e0]; exact w.2.2))⟩)⟩⟩) (fun cc => ⟨fun _ => c2 (fun w => cc (by rw [e1]; exact w.2.1)), fun z => absurd rfl z⟩)⟩⟩) (fun cc => ⟨fun _ => c2 (fun w => cc (by rw [e1]; exact w.1)), fun z => absurd rfl z⟩)⟩
  rw [e1] at h2 h4
  rw [e0] at h6
  have c2' : (0 ≤ a.toInt ∧ a.toInt < iR T.1.1 1) ∧ (0 ≤ b.toInt ∧ b.toInt < iR T.1.1 1) ∧ (0 ≤ c.toInt ∧ c.toInt < iR T.1.1 0) := ⟨⟨h1, h2⟩, ⟨h3, h4⟩, h5, h6⟩
  obtain ⟨p, hp, rfl⟩ := rg_in 8 (by omega) h1 (by omega)
  obtain ⟨t, ht, rfl⟩ := rg_in 8 (by omega) h3 (by omega)
  obtain ⟨e, he, rfl⟩ := rg_in 6 (by omega) h5 (by omega)
  have tp : (nI p).toInt.toNat = p := by rw [nI_toInt (by omega)]; omega
  have tt : (nI t).toInt.toNat = t := by rw [nI_toInt (by omega)]; omega
  have te : (nI e).toInt.toNat = e := by rw [nI_toInt (by omega)]; omega
  have npt : p ≠ t := fun z => nab (by rw [z])
  refine x_canSell hd hM hQ hp ht he (fun M1 hF1 => ?_)
  rw [hR.1.1]
  by_cases cc : 1 ≤ leftR T.1.1 p e ∧ p ≠ t ∧ canBuyR T.1.1 (csF T.1.1 T.1.2) p t e = true
  · rw [if_pos cc]
    have hM1 := mOk_z hF1 hM
    have hU1 : luM M1 T.2.2.1 := hR.2.2.1.cg (hF1.1.1 8 (by simp)) (hF1.1.2.2.1 6 (by simp)) (hF1.1.2.2.1 7 (by simp)) (by rw [hF1.r]; exact ⟨rfl, rfl⟩)
    refine ⟨fun _ => ⟨ov_oK, x_remember (t := 1) hd hM1 hU1 (by omega) (fun N2 hN2 hF2 hU => ⟨ov_oK, x_costsOf hd hN2 (hQ.cg ((hF2.2.2.1 3 (by simp)).trans (by rw [hF1.r]))) hp ht he (fun N3 hF3 => ?_)⟩)⟩, fun z => absurd z (by decide)⟩
    have hN3 := mOk_z hF3 hN2
    have r2 : N2.2.2.1 3 = M.2.2.1 3 := (hF2.2.2.1 3 (by simp)).trans (by rw [hF1.r])
    have r3 : N3.2.2.1 3 = M.2.2.1 3 := by rw [hF3.r, r2]
    have hc := costs_in (f := T.1.1) (cs := csF T.1.1 T.1.2) (p := p) (o := t) (h := e)
    have b1 := hQ.1.1 (30 + 6 * p + e) (by omega)
    have b2 := hQ.1.1 (30 + 6 * t + e) (by omega)
    have b3 := hQ.1.1 (14 + t) (by omega)
    have b4 := hQ.1.1 (14 + p) (by omega)
    rw [(hi_r (by omega)).1, (hi_r (by omega)).2] at b1 b2
    rw [(hi_m (by omega)).1, (hi_m (by omega)).2] at b3 b4
    rw [r2, hR.1.1]
    simp (disch := decide) only [oi_gI, oi_gJ, oi_gP, oi_pI, oi_pZ, oi_pJ, oi_oK, oi_aI hd, oi_aZ hd, oi_aJ hd, oi_sI hd, oi_sZ hd, oi_sJ hd, mI_1, mI_2, mJ_1, mJ_2, mJ_3, mA_1, mA_2, mA_3, mA_4, mL_1, mL_2, mL_3, mL_4, mK, Nat.reduceEqDiff, if_true, if_false, ite_true, ite_false, true_and, Nat.reduceLT, reduceIte, reduceCtorEq, cl_0, cl_1, cl_2, cl_3, cl_4, cl_5, cl_6, cl_7, cl_8, cl_9, cl_10, cl_11, cl_12, cl_13, cl_14, cl_15, vl_0_5585, vl_1_5585, vl_2_5585, vl_3_5585, vl_4_5585, vl_5_5585, vl_6_5585, vl_0_7, vl_1_7, vl_2_7, vl_3_7, vl_4_7, vl_5_7, vl_6_7, mA_mA]
    rw [lit_nI 30, lit_nI 6, lit_nI 14, nImul, nImul, nIadd, nIadd, nIadd, nIadd, nIadd, nIadd, nI_clamp (by omega), nI_clamp (by omega), nI_clamp (by omega), nI_clamp (by omega)]
    refine ⟨vp_in_nI (by omega) (by omega), vp_in_nI (by omega) (by omega), vp_in_nI (by omega) (by omega), vp_in_nI (by omega) (by omega), vp_in_nI (by omega) (by omega), vp_in_nI (by omega) (by omega), vp_in_nI (by omega) (by omega), s_withinV ?_⟩
    simp (disch := decide) only [oi_gI, oi_gJ, oi_gP, oi_pI, oi_pZ, oi_pJ, oi_oK, oi_aI hd, oi_aZ hd, oi_aJ hd, oi_sI hd, oi_sZ hd, oi_sJ hd, mI_1, mI_2, mJ_1, mJ_2, mJ_3, mA_1, mA_2, mA_3, mA_4, mL_1, mL_2, mL_3, mL_4, mK, Nat.reduceEqDiff, if_true, if_false, ite_true, ite_false, true_and, Nat.reduceLT, reduceIte, reduceCtorEq, cl_0, cl_1, cl_2, cl_3, cl_4, cl_5, cl_6, cl_7, cl_8, cl_9, cl_10, cl_11, cl_12, cl_13, cl_14, cl_15, vl_0_5585, vl_1_5585, vl_2_5585, vl_3_5585, vl_4_5585, vl_5_5585, vl_6_5585, vl_0_7, vl_1_7, vl_2_7, vl_3_7, vl_4_7, vl_5_7, vl_6_7, mA_mA]
    rw [nI_clamp (by omega), r3]
    rw [upd_ne (M.2.2.1 3) _ (show 30 + 6 * t + e ≠ 30 + 6 * p + e by omega)]
    rw [upd_ne _ _ (show 14 + t ≠ 30 + 6 * t + e by omega), upd_ne _ _ (show 14 + t ≠ 30 + 6 * p + e by omega)]
    rw [upd_ne _ _ (show 14 + p ≠ 14 + t by omega), upd_ne _ _ (show 14 + p ≠ 30 + 6 * t + e by omega), upd_ne _ _ (show 14 + p ≠ 30 + 6 * p + e by omega)]
    have v1 : M.2.2.1 3 (30 + 6 * p + e) - 1 = wI (iR (M.2.2.1 3) (30 + 6 * p + e) - 1) := wI_sub rfl n1I (by omega) (by omega)
    have v2 : M.2.2.1 3 (30 + 6 * t + e) + 1 = wI (iR (M.2.2.1 3) (30 + 6 * t + e) + 1) := wI_add rfl n1I (by omega) (by omega)
    have v3 : M.2.2.1 3 (14 + t) - wI (costsR T.1.1 (csF T.1.1 T.1.2) p t e) = wI (iR (M.2.2.1 3) (14 + t) - costsR T.1.1 (csF T.1.1 T.1.2) p t e) := wI_sub rfl (wI_i (by omega)) (by omega) (by omega)
    have v4 : wiV (Int32.toInt64 (M.2.2.1 3 (14 + p) + wI (costsR T.1.1 (csF T.1.1 T.1.2) p t e))) 0 999 = wI (min (iR (M.2.2.1 3) (14 + p) + costsR T.1.1 (csF T.1.1 T.1.2) p t e) 999) := wiV_add (x := iR (M.2.2.1 3) (14 + p)) rfl (wI_i (by omega)) (by omega) (by omega) (by omega) (by decide)
    rw [v1, v2, v3, v4]
    refine ⟨vp_in_nI (by omega) (by omega), ?_⟩
    refine h.yes hR hA (code := costsR T.1.1 (csF T.1.1 T.1.2) p t e) (f' := sellF T.1.1 (csF T.1.1 T.1.2) p t e) ?_ (by omega) hF1 hF2 hU (mOk_r hN3 ?_) ((hF3.1.tr (Fx.a 3 _)).le (by simp) (by simp) (by simp) (by simp)) ?_ (fun i hi => ?_) (wI_i (by omega))
    · show sellD _ _ _ _ _ = _
      unfold sellD
      rw [if_neg nab', if_neg (fun z => z c2'), tp, tt, te, if_neg (fun z => z ⟨cc.1, cc.2.2⟩)]
    · exact rowOk_free (by unfold rCon; omega) (rowOk_free (by unfold rCon; omega) (rowOk_free (by unfold rCon; omega) (rowOk_free (by unfold rCon; omega) hM.1)))
    · show cut (upd _ _ _) = _
      unfold sellF
      rw [cut_upd (by omega), cut_upd (by omega), cut_upd (by omega), cut_upd (by omega), hR.1.1, hR.iR (i := 30 + 6 * p + e) (by omega), hR.iR (i := 30 + 6 * t + e) (by omega), hR.iR (i := 14 + t) (by omega), hR.iR (i := 14 + p) (by omega)]
    · show upd _ _ _ i = _
      rw [upd_ne _ _ (by omega), upd_ne _ _ (by omega), upd_ne _ _ (by omega), upd_ne _ _ (by omega), r2]
  · rw [if_neg cc]
    refine ⟨fun z => absurd rfl z, fun _ => h.noN (mOk_z hF1 hM) ⟨hF1.d, fun j _ => by rw [hF1.1.2.2.1 6 (by simp)]⟩ (hR.fx hF1.1 (by simp) (by simp) (by simp)) (code := -3) ?_ (by omega) (by decide)⟩
    show sellD _ _ _ _ _ = _
    unfold sellD
    rw [if_neg nab', if_neg (fun z => z c2'), tp, tt, te, if_pos (fun z => cc ⟨z.1, npt, z.2⟩)]
end RE2
