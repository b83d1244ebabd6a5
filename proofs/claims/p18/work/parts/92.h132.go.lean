section GO
variable {S : hS} {o : Nat} {ad : Nat → Nat} {M N P M0 : mS} {mT : mS} {T T' : aS} {rs : Nat} {f g : Nat → Int32} {s s' : gS} {k n : Nat}
theorem GI.row (h : GI mT M0 T k s M) {i : Nat} (hi : i < 185) : M.2.2.1 3 i = s.1 i := by rw [← h.2.2.1, cut_lt hi]
theorem x_gen77 (hd : mD o ad) (hA : aB T) (hL : lawG (M0.2.2.1 3) T.1.2) (h0 : cut (M0.2.2.1 3) = T.1.1) (hP1 : iR T.1.1 1 ≠ 0) (hH1 : iR T.1.1 0 ≠ 0) {q : Int32 → hS → Prop} {K : Nat} (hK : K ≤ 60) {s0 : gS} (hfin : ∀ N s' k, k ≤ K → GI mT M0 T k s' N → genRun (csF T.1.1 T.1.2) K s0 = s' → w_X12_generations_b188 q (ov S o ad N) o (nI s'.2.2)) : ∀ (n t : Nat) (M : mS) (s : gS), t + n = K → GI mT M0 T t s M → genRun (csF T.1.1 T.1.2) K s0 = genRun (csF T.1.1 T.1.2) n s → w_X12_generations_b77 q (n + 1) (ov S o ad M) o (nI K) (nI s.2.2) (nI t) := by
  have bb := hA.hi
  have e999 : (999 : Int32).toInt = 999 := by decide
  intro n
  induction n with
  | zero =>
    intro t M s ht hI he
    rw [w_X12_generations_b77, nI_leI (by omega) (by omega)]
    rw [genRun] at he
    exact ⟨fun _ => hfin M s t (by omega) hI he, fun z => absurd (by omega) z⟩
  | succ n ih =>
    intro t M s ht hI he
    rw [w_X12_generations_b77, nI_leI (by omega) (by omega)]
    rw [genRun] at he
    have ey : (M.2.2.1 3 5).toInt = iR s.1 5 := by rw [hI.row (by omega)]; rfl
    refine ⟨fun z => by omega, fun _ => ⟨ov_oK, s_yearNow hd ⟨fun cy => ?_, fun cy => ?_⟩⟩⟩
    · rw [Int32.le_iff_toInt_le, e999, ey] at cy
      rw [if_pos cy] at he
      exact hfin M s t (by omega) hI he
    · rw [Int32.le_iff_toInt_le, e999, ey] at cy
      rw [if_neg cy] at he
      obtain ⟨g1, g2, g3, g4, g5, g6, g7, g8, g9⟩ := id hI
      have eP : nPR s.1 = nPR T.1.1 := by unfold nPR iR; rw [g6 1 (by unfold inLe; omega)]
      have eH : nHR s.1 = nHR T.1.1 := by unfold nHR iR; rw [g6 0 (by unfold inLe; omega)]
      have i1 : iR s.1 1 = iR T.1.1 1 := iR_ge (g6 1 (by unfold inLe; omega))
      have i0 : iR s.1 0 = iR T.1.1 0 := iR_ge (g6 0 (by unfold inLe; omega))
      have r1 : M.2.2.1 3 1 = nI (nPR s.1) := by
        rw [hI.row (by omega)]
        apply Int32.toInt_inj.mp
        have : iR s.1 1 = (s.1 1).toInt := rfl
        rw [nI_toInt (by unfold nPR; omega)]
        unfold nPR
        omega
      have r0 : M.2.2.1 3 0 = nI (nHR s.1) := by
        rw [hI.row (by omega)]
        apply Int32.toInt_inj.mp
        have : iR s.1 0 = (s.1 0).toInt := rfl
        rw [nI_toInt (by unfold nHR; omega)]
        unfold nHR
        omega
      have pP : 1 ≤ nPR s.1 ∧ nPR s.1 ≤ 8 := by unfold nPR; omega
      have pH : 1 ≤ nHR s.1 ∧ nHR s.1 ≤ 6 := by unfold nHR; omega
      have l1 := nxtD_lt s.2.1
      have l2 := nxtD_lt (nxtD s.2.1)
      have l3 := nxtD_lt (nxtD (nxtD s.2.1))
      simp (disch := decide) only [oi_gI, oi_gJ, oi_gP, oi_pI, oi_pZ, oi_pJ, oi_oK, oi_aI hd, oi_aZ hd, oi_aJ hd, oi_sI hd, oi_sZ hd, oi_sJ hd, mI_1, mI_2, mJ_1, mJ_2, mJ_3, mA_1, mA_2, mA_3, mA_4, mL_1, mL_2, mL_3, mL_4, mK, Nat.reduceEqDiff, if_true, if_false, ite_true, ite_false, true_and, Nat.reduceLT, reduceIte, reduceCtorEq, cl_0, cl_1, cl_2, cl_3, cl_4, cl_5, cl_6, cl_7, cl_8, cl_9, cl_10, cl_11, cl_12, cl_13, cl_14, cl_15, vl_0_5585, vl_1_5585, vl_2_5585, vl_3_5585, vl_4_5585, vl_5_5585, vl_6_5585, vl_0_7, vl_1_7, vl_2_7, vl_3_7, vl_4_7, vl_5_7, vl_6_7]
      rw [r1]
      refine x_draw hd g7 g8 (by omega) ?_
      simp (disch := decide) only [oi_gI, oi_gJ, oi_gP, oi_pI, oi_pZ, oi_pJ, oi_oK, oi_aI hd, oi_aZ hd, oi_aJ hd, oi_sI hd, oi_sZ hd, oi_sJ hd, mI_1, mI_2, mJ_1, mJ_2, mJ_3, mA_1, mA_2, mA_3, mA_4, mL_1, mL_2, mL_3, mL_4, mK, Nat.reduceEqDiff, if_true, if_false, ite_true, ite_false, true_and, Nat.reduceLT, reduceIte, reduceCtorEq, cl_0, cl_1, cl_2, cl_3, cl_4, cl_5, cl_6, cl_7, cl_8, cl_9, cl_10, cl_11, cl_12, cl_13, cl_14, cl_15, vl_0_5585, vl_1_5585, vl_2_5585, vl_3_5585, vl_4_5585, vl_5_5585, vl_6_5585, vl_0_7, vl_1_7, vl_2_7, vl_3_7, vl_4_7, vl_5_7, vl_6_7]
      rw [r0]
      refine x_draw (s := nxtD s.2.1) hd (by rw [mJ_2, if_pos rfl]) (by omega) (by omega) ⟨ov_oK, x_draw (s := nxtD (nxtD s.2.1)) hd (n := 8) (by rw [mJ_2, if_pos rfl]) (by omega) (by omega) ?_⟩
      obtain ⟨M3, eM⟩ : ∃ M3, mJ (mJ (mJ M 57 (jN (nxtD s.2.1))) 57 (jN (nxtD (nxtD s.2.1)))) 57 (jN (nxtD (nxtD (nxtD s.2.1)))) = M3 := ⟨_, rfl⟩
      rw [eM]
      have hFM : Fx [] [57] [] [] M M3 := by
        rw [← eM]
        exact (((Fx.j 57 _).tr (Fx.j 57 _)).tr (Fx.j 57 _)).le (by simp) (by simp) (by simp) (by simp)
      have e57 : M3.2.1 57 = jN (nxtD (nxtD (nxtD s.2.1))) := by rw [← eM, mJ_2, if_pos rfl]
      have hI3 : GI mT M0 T t (s.1, nxtD (nxtD (nxtD s.2.1)), s.2.2) M3 := ⟨mOk_fx hFM g1 (by simp), g2.tr (hFM.le (by simp) (by simp) (by simp) (by simp)), by rw [hFM.2.2.1 3 (by simp)]; exact g3, fun i hi => by rw [hFM.2.2.1 3 (by simp)]; exact g4 i hi, g5, g6, e57, Nat.le_of_lt l3, g9⟩
      have hQ3 := hI3.QM hL h0
      have g33 : cut (M3.2.2.1 3) = s.1 := hI3.2.2.1
      obtain ⟨p, hp⟩ : ∃ p, nxtD s.2.1 % nPR s.1 = p := ⟨_, rfl⟩
      obtain ⟨h, hh⟩ : ∃ h, nxtD (nxtD s.2.1) % nHR s.1 = h := ⟨_, rfl⟩
      obtain ⟨e, hee⟩ : ∃ e, nxtD (nxtD (nxtD s.2.1)) % 8 = e := ⟨_, rfl⟩
      have lp : p < nPR s.1 := by rw [← hp]; exact Nat.mod_lt _ (by omega)
      have lh : h < nHR s.1 := by rw [← hh]; exact Nat.mod_lt _ (by omega)
      have le8 : e < 8 := by rw [← hee]; exact Nat.mod_lt _ (by omega)
      have eR : genStep (csF T.1.1 T.1.2) s = (genB (ringD s.1 (csF T.1.1 T.1.2) (p : Int) (h : Int)).2 e p, nxtD (nxtD (nxtD s.2.1)), s.2.2 + if (ringD s.1 (csF T.1.1 T.1.2) (p : Int) (h : Int)).1 = 1 then 1 else 0) := by
        unfold genStep
        rw [hp, hh, hee]
      rw [eR] at he
      have eD : ringD s.1 (csF T.1.1 T.1.2) (p : Int) (h : Int) = if ¬ (liveR s.1 p = true ∧ 1 ≤ leftR s.1 p h) then (-3, s.1) else (if opensR s.1 (csF T.1.1 T.1.2) p h = true then 1 else 0, ringF s.1 (csF T.1.1 T.1.2) p h) := by
        unfold ringD
        rw [if_neg (fun z => z ⟨⟨by omega, by unfold nPR at lp; omega⟩, ⟨by omega, by unfold nHR at lh; omega⟩⟩), Int.toNat_natCast, Int.toNat_natCast]
      have hcs : csF s.1 T.1.2 = csF T.1.1 T.1.2 := hI.cs
      rw [hp, hh, hee]
      refine ⟨ov_oK, x_canRing hd hQ3 (by omega) (by omega) ?_⟩
      rw [g33]
      by_cases cr : liveR s.1 p = true ∧ 1 ≤ leftR s.1 p h
      · rw [if_pos cr]
        rw [if_neg (fun z => z cr)] at eD
        refine ⟨fun z => absurd z (by decide), fun _ => ⟨ov_oK, x_ringIt hd hI3.1 hQ3 (by omega) (by omega) (fun N4 hM4 hF4 hcut4 hhi4 => ?_)⟩⟩
        rw [g33, hcs] at hcut4 ⊢
        rw [eD] at he
        dsimp only at he
        have rk := ringD_ok (cs := csF T.1.1 T.1.2) (a := (p : Int)) (b := (h : Int)) g5
        rw [eD] at rk
        dsimp only at rk
        have hI4 : GI mT M0 T t (ringF s.1 (csF T.1.1 T.1.2) p h, nxtD (nxtD (nxtD s.2.1)), s.2.2) N4 := ⟨hM4, hI3.2.1.tr (hF4.le (by simp) (by simp) (by simp) (by simp)), hcut4, fun i hi => by rw [hhi4 i hi]; exact hI3.2.2.2.1 i hi, rk.1, fun i hi => (rk.2.1 i hi).trans (g6 i hi), by rw [hF4.2.1 57 (by simp)]; exact e57, Nat.le_of_lt l3, g9⟩
        have lp4 : p < nPR (ringF s.1 (csF T.1.1 T.1.2) p h) := by
          have : nPR (ringF s.1 (csF T.1.1 T.1.2) p h) = nPR s.1 := by unfold nPR iR; rw [rk.2.1 1 (by unfold inLe; omega)]
          rw [this]; exact lp
        have y4 : iR (ringF s.1 (csF T.1.1 T.1.2) p h) 5 < 999 := by
          have : iR (ringF s.1 (csF T.1.1 T.1.2) p h) 5 = iR s.1 5 := iR_ge ringF_5
          omega
        by_cases co : opensR s.1 (csF T.1.1 T.1.2) p h = true
        · rw [if_pos co] at he ⊢
          rw [if_pos rfl] at he
          exact x_gen149 (s := (ringF s.1 (csF T.1.1 T.1.2) p h, nxtD (nxtD (nxtD s.2.1)), s.2.2)) (f1 := s.1) hd hL h0 lp4 le8 hI4 y4 (Or.inr (by decide)) (v3 := s.2.2 + 1) (by show ((s.2.2 + 1 : Nat) : Int) = (s.2.2 : Int) + (1 : Int32).toInt; rw [show (1 : Int32).toInt = 1 by decide]; omega) (by show s.2.2 ≤ 1000; omega) (fun P hP => ih (t + 1) P (genB (ringF s.1 (csF T.1.1 T.1.2) p h) e p, nxtD (nxtD (nxtD s.2.1)), s.2.2 + 1) (by omega) hP he)
        · rw [if_neg co] at he ⊢
          rw [if_neg (by decide)] at he
          exact x_gen149 (s := (ringF s.1 (csF T.1.1 T.1.2) p h, nxtD (nxtD (nxtD s.2.1)), s.2.2)) (f1 := s.1) hd hL h0 lp4 le8 hI4 y4 (Or.inl (by decide)) (v3 := s.2.2 + 0) (by show ((s.2.2 + 0 : Nat) : Int) = (s.2.2 : Int) + (0 : Int32).toInt; rw [show (0 : Int32).toInt = 0 by decide]; omega) (by show s.2.2 ≤ 1000; omega) (fun P hP => ih (t + 1) P (genB (ringF s.1 (csF T.1.1 T.1.2) p h) e p, nxtD (nxtD (nxtD s.2.1)), s.2.2 + 0) (by omega) hP he)
      · rw [if_neg cr]
        rw [if_pos cr] at eD
        rw [eD] at he
        dsimp only at he
        rw [if_neg (by decide)] at he
        exact ⟨fun _ => x_gen149 (s := (s.1, nxtD (nxtD (nxtD s.2.1)), s.2.2)) (f1 := s.1) hd hL h0 lp le8 hI3 (by show iR s.1 5 < 999; omega) (Or.inl (by decide)) (v3 := s.2.2 + 0) (by show ((s.2.2 + 0 : Nat) : Int) = (s.2.2 : Int) + (0 : Int32).toInt; rw [show (0 : Int32).toInt = 0 by decide]; omega) (by show s.2.2 ≤ 1000; omega) (fun P hP => ih (t + 1) P (genB s.1 e p, nxtD (nxtD (nxtD s.2.1)), s.2.2 + 0) (by omega) hP he), fun z => absurd rfl z⟩
end GO
