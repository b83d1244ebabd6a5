section RV2
variable {S : hS} {o : Nat} {ad : Nat → Nat} {M N P : mS} {mT : mS} {T T' : aS} {rs : Nat} {us : uL} {f g : Nat → Int32} {os : List pOr} {s s' : oS} {u : Nat}
/-- behind the test: the sums, the deed -/
theorem x_run97 (hd : mD o ad) (hI : ORI mT rs os T u s M) (hu : u ≤ 500) {j : Nat} (hj : j < os.length) (hO : okR os[j]) (c56 : M.1 56 = 0) (hnw : ∀ j, 1 ≤ j → j ≤ 4 → M.2.2.2 36 j = (nwM M s j).toInt64) (ht : wgV (os[j]).2.2.2 (envO s.1 s.2.1 s.2.2.1) = some 1) {q : Int32 → hS → Prop} (k1 : ∀ N s', orTry (csF T.1.1 T.1.2) os[j] s = some s' → ORI mT rs os T (u + 1) s' N → Fo M N → q 0 (ov S o ad N)) (k0 : ∀ N, orTry (csF T.1.1 T.1.2) os[j] s = none → mOk mT N → RR N rs (oT T s) → Fo M N → q (-3) (ov S o ad N)) : w_X12_run_b97 q (ov S o ad M) o (nI (10 * j)) := by
  obtain ⟨out, o1, o2, o3, o4⟩ := hI.2.2.2.2.1.mk hj
  obtain ⟨m0, m1, m2, m3, m4, m5⟩ := o4
  obtain ⟨p0, ⟨p1, p2, p3, p4⟩, pT, pa, pb, pc, p5, p6⟩ := hO
  unfold w_X12_run_b97
  rw [show nI (10 * j) + 1 = nI (10 * j + 1) from nI_1 _, show nI (10 * j) + 3 = nI (10 * j + 3) by rw [lit_nI 3, nIadd], show nI (10 * j) + 5 = nI (10 * j + 5) by rw [lit_nI 5, nIadd]]
  refine ⟨ov_oK, x_sumB hd hI (by omega) (by omega) m1 o1 o2 p1 hnw (fun x1 N1 hF1 hI1 r1 => ⟨ov_oK, x_sumB hd hI1 (by omega) (by omega) (m2.fx hF1 (by simp)) (by rw [hF1.2.2.1 24 (by simp), hF1.2.2.1 25 (by simp)]; exact o1) o2 p2 (nw_cg hF1 hnw) (fun x2 N2 hF2 hI2 r2 => ⟨ov_oK, x_sumB hd hI2 (by omega) (by omega) ((m3.fx hF1 (by simp)).fx hF2 (by simp)) (by rw [hF2.2.2.1 24 (by simp), hF2.2.2.1 25 (by simp), hF1.2.2.1 24 (by simp), hF1.2.2.1 25 (by simp)]; exact o1) o2 p3 (nw_cg hF2 (nw_cg hF1 hnw)) (fun x3 N3 hF3 hI3 r3 => ?_)⟩)⟩)⟩
  have hF := (hF1.tr hF2).tr hF3
  have hFo : Fo M N3 := Fo.of hF (by simp) (by simp) (by simp) (by simp) (by simp)
  have e52 : N3.2.2.1 52 = M.2.2.1 52 := hF.2.2.1 52 (by simp)
  have r1 := (r1.resolve_left (fun z => z.1 c56)).2.val
  simp (disch := decide) only [oi_gI, oi_gJ, oi_gP, oi_pI, oi_pZ, oi_pJ, oi_oK, oi_aI hd, oi_aZ hd, oi_aJ hd, oi_sI hd, oi_sZ hd, oi_sJ hd, mI_1, mI_2, mJ_1, mJ_2, mJ_3, mA_1, mA_2, mA_3, mA_4, mL_1, mL_2, mL_3, mL_4, mK, Nat.reduceEqDiff, if_true, if_false, ite_true, ite_false, true_and, Nat.reduceLT, reduceIte, reduceCtorEq, cl_0, cl_1, cl_2, cl_3, cl_4, cl_5, cl_6, cl_7, cl_8, cl_9, cl_10, cl_11, cl_12, cl_13, cl_14, cl_15, vl_0_5585, vl_1_5585, vl_2_5585, vl_3_5585, vl_4_5585, vl_5_5585, vl_6_5585, vl_0_7, vl_1_7, vl_2_7, vl_3_7, vl_4_7, vl_5_7, vl_6_7]
  refine ⟨fun c => ?_, fun c => ?_⟩
  · have z2 : N2.1 56 = 0 ∧ smO os[j].2.1.2.2 (envO s.1 s.2.1 s.2.2.1) N3 x3 := r3.resolve_left (fun z => z.2 c)
    have z1 : N1.1 56 = 0 ∧ smO os[j].2.1.2.1 (envO s.1 s.2.1 s.2.2.1) N2 x2 := r2.resolve_left (fun z => z.2 z2.1)
    obtain ⟨-, v1, w1, y1⟩ := r1.resolve_left (fun z => z.1 z1.1)
    obtain ⟨-, v2, w2, y2⟩ := z1.2.val.resolve_left (fun z => z.1 z2.1)
    obtain ⟨-, v3, w3, y3⟩ := z2.2.val.resolve_left (fun z => z.1 c)
    have eT : orTry (csF T.1.1 T.1.2) os[j] s = orDo (csF T.1.1 T.1.2) os[j].1 s v1 v2 v3 := by
      unfold orTry
      rw [if_pos ht, w1, w2, w3]
    rw [eT] at k1 k0
    have hA := hI3.2.2.2.2.2.1.1
    have hcs := oT_cs hI3.2.2.2.2.2.1
    have e0 : N3.2.2.1 52 (nI (10 * j)).toNatClampNeg = nI os[j].1 := by rw [e52, nI_clamp (by omega)]; exact m0
    rw [e0]
    refine ⟨vp_in_nI (by omega) (by omega), ?_⟩
    have dB := deedD_ok (cs := csF T.1.1 T.1.2) (act := os[j].1) (a := v1) (b := v2) (c := v3) (f := s.1) hA.1
    have neg := deedD_neg (cs := csF T.1.1 T.1.2) (act := os[j].1) (a := v1) (b := v2) (c := v3) (f := s.1) hA.1
    have eO : orDo (csF T.1.1 T.1.2) os[j].1 s v1 v2 v3 = if (deedD (csF T.1.1 T.1.2) os[j].1 s.1 v1 v2 v3).1 < 0 then none else some ((deedD (csF T.1.1 T.1.2) os[j].1 s.1 v1 v2 v3).2, s.2.1 + 1, (if os[j].1 = 0 then (deedD (csF T.1.1 T.1.2) os[j].1 s.1 v1 v2 v3).1 else s.2.2.1), pushU s.2.2.2 (os[j].1, s.1)) := rfl
    rw [eO] at k1 k0
    refine x_act hd hI3.1 hI3.2.1 hA p0 (fun z => y1 (pa z)) (fun z => y2 (pb z)) (fun z => y3 (pc z)) (fun r N4 hM4 hF4 er hR4 => ?_)
    have eD : aDc os[j].1 v1 v2 v3 (oT T s) = (deedD (csF T.1.1 T.1.2) os[j].1 s.1 v1 v2 v3).1 := by
      unfold aDc
      rw [hcs]
      rfl
    have eA : aDd os[j].1 v1 v2 v3 (oT T s) = (((deedD (csF T.1.1 T.1.2) os[j].1 s.1 v1 v2 v3).2, T.1.2), T.2.1, usD s.2.2.2 os[j].1 s.1 (deedD (csF T.1.1 T.1.2) os[j].1 s.1 v1 v2 v3).1, T.2.2.2) := by
      unfold aDd
      rw [hcs]
      rfl
    rw [eD] at er
    rw [eA] at hR4
    have z0 : (0 : Int32).toInt = 0 := by decide
    have hFo4 : Fo M N4 := hFo.tr ⟨hF4.1.le (by simp) (by simp) (by simp) (by simp), hF4.2⟩
    generalize hdd : deedD (csF T.1.1 T.1.2) os[j].1 s.1 v1 v2 v3 = D at *
    obtain ⟨code, f'⟩ := D
    dsimp only at er hR4 dB neg k1 k0
    refine ⟨fun cr => ?_, fun cr => ?_⟩
    · rw [Int32.le_iff_toInt_le, z0, er] at cr
      rw [if_neg (by omega)] at k1
      have eu : usD s.2.2.2 os[j].1 s.1 code = pushU s.2.2.2 (os[j].1, s.1) := if_neg (by omega)
      rw [eu] at hR4
      have e4 : N4.2.2.1 52 (nI (10 * j)).toNatClampNeg = nI os[j].1 := by rw [hF4.1.2.2.1 52 (by simp)]; exact e0
      have e53 : N4.1 53 = N3.1 53 := hF4.1.1 53 (by simp)
      have e54 : N4.1 54 = N3.1 54 := hF4.1.1 54 (by simp)
      have d3 := hI3.2.2.1
      have d4 := hI3.2.2.2.1
      have hb := hI3.2.2.2.2.2.1
      have hu7 := hI3.2.2.2.2.2.2
      have n1 : (1 : Int32).toInt = 1 := by decide
      have hb0 := hb.2.2.1
      have us' : ∀ y ∈ pushU s.2.2.2 (os[j].1, s.1), rB y.2 := by
        have := usD_rB (kd := os[j].1) (code := code) hA.1 hA.2.2
        rw [show usD (oT T s).2.2.1 os[j].1 (oT T s).1.1 code = pushU s.2.2.2 (os[j].1, s.1) from eu] at this
        exact this
      have fin : ∀ (lt : Int32), lt.toInt = (if os[j].1 = 0 then code else s.2.2.1) → q 0 (ov S o ad (mI (mI N4 54 lt) 53 (N4.1 53 + 1))) := by
        intro lt hl
        have hFx : Fx [53, 54] [] [] [] N4 (mI (mI N4 54 lt) 53 (N4.1 53 + 1)) := ((Fx.i 54 lt).tr (Fx.i 53 _)).le (by simp) (by simp) (by simp) (by simp)
        refine k1 _ _ rfl ⟨mOk_fx hFx hM4 (by simp), hR4.fx hFx (by simp) (by simp) (by simp), ?_, ?_, ?_, ⟨⟨dB.1, hA.2.1, us'⟩, ?_, ?_, ?_, ?_⟩, ?_⟩ (hFo4.tr (Fo.of hFx (by simp) (by simp) (by simp) (by simp) (by simp)))
        · show (N4.1 53 + 1).toInt = s.2.1 + 1
          rw [e53, fb_addI] <;> rw [d3, n1] <;> omega
        · show lt.toInt = _
          exact hl
        · exact ((hI3.2.2.2.2.1.fx hF4.1 (by simp) (by simp)).fx hFx (by simp) (by simp))
        · intro i hi
          show f' i = T.1.1 i
          rw [dB.2.1 i hi]
          exact hb.2.1 i hi
        · show 0 ≤ s.2.1 + 1
          have := hb.2.2.1
          omega
        · show -1 ≤ (if os[j].1 = 0 then code else s.2.2.1)
          have := hb.2.2.2.1
          split <;> omega
        · show (if os[j].1 = 0 then code else s.2.2.1) ≤ 1000
          have := hb.2.2.2.2
          split <;> omega
        · show s.2.1 + 1 ≤ ((u + 1 : Nat) : Int)
          omega
      simp (disch := decide) only [oi_gI, oi_gJ, oi_gP, oi_pI, oi_pZ, oi_pJ, oi_oK, oi_aI hd, oi_aZ hd, oi_aJ hd, oi_sI hd, oi_sZ hd, oi_sJ hd, mI_1, mI_2, mJ_1, mJ_2, mJ_3, mA_1, mA_2, mA_3, mA_4, mL_1, mL_2, mL_3, mL_4, mK, Nat.reduceEqDiff, if_true, if_false, ite_true, ite_false, true_and, Nat.reduceLT, reduceIte, reduceCtorEq, cl_0, cl_1, cl_2, cl_3, cl_4, cl_5, cl_6, cl_7, cl_8, cl_9, cl_10, cl_11, cl_12, cl_13, cl_14, cl_15, vl_0_5585, vl_1_5585, vl_2_5585, vl_3_5585, vl_4_5585, vl_5_5585, vl_6_5585, vl_0_7, vl_1_7, vl_2_7, vl_3_7, vl_4_7, vl_5_7, vl_6_7]
      rw [e4]
      refine ⟨vp_in_nI (by omega) (by omega), fun ca => ?_, fun ca => ?_⟩
      · have c0 : ¬ os[j].1 = 0 := fun z => ca (by rw [z]; rfl)
        unfold w_X12_run_b175
        simp (disch := decide) only [oi_gI, oi_gJ, oi_gP, oi_pI, oi_pZ, oi_pJ, oi_oK, oi_aI hd, oi_aZ hd, oi_aJ hd, oi_sI hd, oi_sZ hd, oi_sJ hd, mI_1, mI_2, mJ_1, mJ_2, mJ_3, mA_1, mA_2, mA_3, mA_4, mL_1, mL_2, mL_3, mL_4, mK, Nat.reduceEqDiff, if_true, if_false, ite_true, ite_false, true_and, Nat.reduceLT, reduceIte, reduceCtorEq, cl_0, cl_1, cl_2, cl_3, cl_4, cl_5, cl_6, cl_7, cl_8, cl_9, cl_10, cl_11, cl_12, cl_13, cl_14, cl_15, vl_0_5585, vl_1_5585, vl_2_5585, vl_3_5585, vl_4_5585, vl_5_5585, vl_6_5585, vl_0_7, vl_1_7, vl_2_7, vl_3_7, vl_4_7, vl_5_7, vl_6_7]
        refine fin (N4.1 54) ?_
        rw [if_neg c0, e54, d4]
      · have c0 : os[j].1 = 0 := nI_inj (by omega) (by omega) ca
        unfold w_X12_run_b175
        simp (disch := decide) only [oi_gI, oi_gJ, oi_gP, oi_pI, oi_pZ, oi_pJ, oi_oK, oi_aI hd, oi_aZ hd, oi_aJ hd, oi_sI hd, oi_sZ hd, oi_sJ hd, mI_1, mI_2, mJ_1, mJ_2, mJ_3, mA_1, mA_2, mA_3, mA_4, mL_1, mL_2, mL_3, mL_4, mK, Nat.reduceEqDiff, if_true, if_false, ite_true, ite_false, true_and, Nat.reduceLT, reduceIte, reduceCtorEq, cl_0, cl_1, cl_2, cl_3, cl_4, cl_5, cl_6, cl_7, cl_8, cl_9, cl_10, cl_11, cl_12, cl_13, cl_14, cl_15, vl_0_5585, vl_1_5585, vl_2_5585, vl_3_5585, vl_4_5585, vl_5_5585, vl_6_5585, vl_0_7, vl_1_7, vl_2_7, vl_3_7, vl_4_7, vl_5_7, vl_6_7]
        refine fin r ?_
        rw [if_pos c0, er]
    · rw [Int32.le_iff_toInt_le, z0, er] at cr
      rw [if_pos (by omega)] at k0
      have eu : usD s.2.2.2 os[j].1 s.1 code = s.2.2.2 := if_pos (by omega)
      rw [eu, neg (by omega)] at hR4
      exact k0 N4 rfl hM4 hR4 hFo4
  · refine k0 N3 ?_ hI3.1 hI3.2.1 hFo
    unfold orTry
    rw [if_pos ht]
    rcases r1 with ⟨z, w⟩ | ⟨z1, v1, w1, -⟩
    · rw [w]
    · have r2 := (r2.resolve_left (fun z => z.1 z1)).2.val
      rcases r2 with ⟨z, w⟩ | ⟨z2, v2, w2, -⟩
      · rw [w1, w]
      · have r3 := (r3.resolve_left (fun z => z.1 z2)).2.val
        rcases r3 with ⟨z, w⟩ | ⟨z3, -⟩
        · rw [w1, w2, w]
        · exact absurd z3 c
end RV2
