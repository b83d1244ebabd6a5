section RW2
variable {S : hS} {o : Nat} {ad : Nat → Nat} {M N P : mS} {mT : mS} {T T' : aS} {rs : Nat} {us : uL} {f g : Nat → Int32} {os : List pOr} {s s' : oS} {u : Nat}
theorem x_run (hd : mD o ad) (hI : ORI mT rs os T u s M) (hu : u ≤ 500) {j : Nat} (hj : j < os.length) (hO : okR os[j]) {q : Int32 → hS → Prop} (k1 : ∀ N u' s', u' ≤ u + 1 → orTry (csF T.1.1 T.1.2) os[j] s = some s' → ORI mT rs os T u' s' N → Fo M N → q 0 (ov S o ad N)) (k0 : ∀ N, orTry (csF T.1.1 T.1.2) os[j] s = none → mOk mT N → RR N rs (oT T s) → Fo M N → q (-3) (ov S o ad N)) : w_X12_run q (ov S o ad M) o (nI (10 * j)) := by
  obtain ⟨h1, h2, h3, h4, h5, h6, h7⟩ := id hI
  have hB : rB s.1 := h6.1.1
  have hBM : rB (M.2.2.1 3) := rB_cut.mp (by rw [h2.1.1]; exact hB)
  have ec : cut (M.2.2.1 3) = s.1 := h2.1.1
  have b1 := rB_1 hB
  have hP : nPR s.1 ≤ 8 := by unfold nPR; omega
  have e5 : M.2.2.1 3 5 = s.1 5 := h2.at (by omega)
  obtain ⟨out, o1, o2, o3, o4⟩ := h5.mk hj
  obtain ⟨m0, m1, m2, m3, m4, m5⟩ := o4
  obtain ⟨p0, ⟨p1, p2, p3, p4⟩, pT, pa, pb, pc, p5, p6⟩ := id hO
  unfold w_X12_run
  simp (disch := decide) only [oi_gI, oi_gJ, oi_gP, oi_pI, oi_pZ, oi_pJ, oi_oK, oi_aI hd, oi_aZ hd, oi_aJ hd, oi_sI hd, oi_sZ hd, oi_sJ hd, mI_1, mI_2, mJ_1, mJ_2, mJ_3, mA_1, mA_2, mA_3, mA_4, mL_1, mL_2, mL_3, mL_4, mK, Nat.reduceEqDiff, if_true, if_false, ite_true, ite_false, true_and, Nat.reduceLT, reduceIte, reduceCtorEq, cl_0, cl_1, cl_2, cl_3, cl_4, cl_5, cl_6, cl_7, cl_8, cl_9, cl_10, cl_11, cl_12, cl_13, cl_14, cl_15, vl_0_5585, vl_1_5585, vl_2_5585, vl_3_5585, vl_4_5585, vl_5_5585, vl_6_5585, vl_0_7, vl_1_7, vl_2_7, vl_3_7, vl_4_7, vl_5_7, vl_6_7]
  refine s_yearNow hd ?_
  simp (disch := decide) only [oi_gI, oi_gJ, oi_gP, oi_pI, oi_pZ, oi_pJ, oi_oK, oi_aI hd, oi_aZ hd, oi_aJ hd, oi_sI hd, oi_sZ hd, oi_sJ hd, mI_1, mI_2, mJ_1, mJ_2, mJ_3, mA_1, mA_2, mA_3, mA_4, mL_1, mL_2, mL_3, mL_4, mK, Nat.reduceEqDiff, if_true, if_false, ite_true, ite_false, true_and, Nat.reduceLT, reduceIte, reduceCtorEq, cl_0, cl_1, cl_2, cl_3, cl_4, cl_5, cl_6, cl_7, cl_8, cl_9, cl_10, cl_11, cl_12, cl_13, cl_14, cl_15, vl_0_5585, vl_1_5585, vl_2_5585, vl_3_5585, vl_4_5585, vl_5_5585, vl_6_5585, vl_0_7, vl_1_7, vl_2_7, vl_3_7, vl_4_7, vl_5_7, vl_6_7]
  refine ⟨show vp_in (nI 1) 13 from vp_in_nI (by omega) (by omega), show vp_in (nI 2) 13 from vp_in_nI (by omega) (by omega), show vp_in (nI 3) 13 from vp_in_nI (by omega) (by omega), x_living hd (by exact hBM) (fun x hx => x_ones ?_)⟩
  simp (disch := decide) only [oi_gI, oi_gJ, oi_gP, oi_pI, oi_pZ, oi_pJ, oi_oK, oi_aI hd, oi_aZ hd, oi_aJ hd, oi_sI hd, oi_sZ hd, oi_sJ hd, mI_1, mI_2, mJ_1, mJ_2, mJ_3, mA_1, mA_2, mA_3, mA_4, mL_1, mL_2, mL_3, mL_4, mK, Nat.reduceEqDiff, if_true, if_false, ite_true, ite_false, true_and, Nat.reduceLT, reduceIte, reduceCtorEq, cl_0, cl_1, cl_2, cl_3, cl_4, cl_5, cl_6, cl_7, cl_8, cl_9, cl_10, cl_11, cl_12, cl_13, cl_14, cl_15, vl_0_5585, vl_1_5585, vl_2_5585, vl_3_5585, vl_4_5585, vl_5_5585, vl_6_5585, vl_0_7, vl_1_7, vl_2_7, vl_3_7, vl_4_7, vl_5_7, vl_6_7]
  have n1 : onesN x 8 = aliveR s.1 (nPR s.1) := by
    have hx' : ∀ j, j < 8 → (dB x j = 1 ↔ j < nPR s.1 ∧ liveR s.1 j = true) := by
      intro k hk
      have eN : nPR (M.2.2.1 3) = nPR s.1 := by
        unfold nPR
        rw [h2.iR (by omega)]
        rfl
      have eL : liveR (M.2.2.1 3) k = liveR s.1 k := by
        unfold liveR
        rw [h2.iR (by omega)]
        rfl
      rw [← eN, ← eL]
      exact hx k hk
    rw [onesN_alive hx' 8 (Nat.le_refl _), Nat.min_eq_right hP]
  rw [n1]
  refine ⟨show vp_in (nI 4) 13 from vp_in_nI (by omega) (by omega), ?_⟩
  obtain ⟨M1, eM⟩ : ∃ M1, mI (mL (mL (mL (mL M 36 (vp_updL (M.2.2.2 36) 1 (M.2.2.1 3 5).toInt64)) 36 (vp_updL (vp_updL (M.2.2.2 36) 1 (M.2.2.1 3 5).toInt64) 2 (M.1 53).toInt64)) 36 (vp_updL (vp_updL (vp_updL (M.2.2.2 36) 1 (M.2.2.1 3 5).toInt64) 2 (M.1 53).toInt64) 3 (M.1 54).toInt64)) 36 (vp_updL (vp_updL (vp_updL (vp_updL (M.2.2.2 36) 1 (M.2.2.1 3 5).toInt64) 2 (M.1 53).toInt64) 3 (M.1 54).toInt64) 4 (nI (aliveR s.1 (nPR s.1))).toInt64)) 56 0 = M1 := ⟨_, rfl⟩
  rw [eM]
  have hF1 : Fx [56] [] [] [36] M M1 := by
    rw [← eM]
    exact (((((Fx.l 36 _).tr (Fx.l 36 _)).tr (Fx.l 36 _)).tr (Fx.l 36 _)).tr (Fx.i 56 0)).le (by simp) (by simp) (by simp) (by simp)
  have hM1 : mOk mT M1 := mOk_fx hF1 h1 (by simp)
  have hI1 : ORI mT rs os T u s M1 := hI.fx hF1 hM1 (by simp) (by simp) (by simp)
  have c56 : M1.1 56 = 0 := by rw [← eM, mI_1, if_pos rfl]
  have nw : ∀ j, 1 ≤ j → j ≤ 4 → M1.2.2.2 36 j = (nwM M1 s j).toInt64 := by
    intro j j1 j4
    have e36 : M1.2.2.2 36 = vp_updL (vp_updL (vp_updL (vp_updL (M.2.2.2 36) 1 (M.2.2.1 3 5).toInt64) 2 (M.1 53).toInt64) 3 (M.1 54).toInt64) 4 (nI (aliveR s.1 (nPR s.1))).toInt64 := by rw [← eM]; rfl
    rw [e36]
    unfold nwM
    rw [hF1.1 53 (by simp), hF1.1 54 (by simp)]
    have : j = 1 ∨ j = 2 ∨ j = 3 ∨ j = 4 := by omega
    rcases this with rfl | rfl | rfl | rfl
    · unfold vp_updL
      rw [if_neg (by omega), if_neg (by omega), if_neg (by omega), if_pos rfl, if_pos rfl, e5]
    · unfold vp_updL
      rw [if_neg (by omega), if_neg (by omega), if_pos rfl, if_neg (by omega), if_pos rfl]
    · unfold vp_updL
      rw [if_neg (by omega), if_pos rfl, if_neg (by omega), if_neg (by omega), if_pos rfl]
    · unfold vp_updL
      rw [if_pos rfl, if_neg (by omega), if_neg (by omega), if_neg (by omega)]
  have hFo1 : Fo M M1 := Fo.of hF1 (by simp) (by simp) (by simp) (by simp) (by simp)
  rw [show nI (10 * j) + 7 = nI (10 * j + 7) by rw [lit_nI 7, nIadd], nI_1, nI_clamp (by omega), nI_clamp (by omega)]
  obtain ⟨b, y1, y2, y3, y4⟩ := id m4
  rw [show 10 * j + 7 + 1 = 10 * j + 8 by omega] at y2 ⊢
  rw [y1, y2, nI_leI (by omega) (by omega)]
  refine ⟨Or.inl trivial, vp_in_nI (by omega) (by omega), vp_in_nI (by omega) (by omega), fun c => ?_, fun c => ?_⟩
  · have et : os[j].2.2.2 = none := by
      cases e : os[j].2.2.2 with
      | none => rfl
      | some t =>
        exfalso
        obtain ⟨d, d0, d1, -⟩ := (p4 t e).2.1 b
        rw [e] at c
        have e2 : (oR' (some t) b).length = (t.2.1 b).length := rfl
        have hz : (t.2.1 b).length ≠ 0 := fun z => by rw [z, d0] at d1; cases d1
        omega
    exact x_run97 hd hI1 hu hj hO c56 nw (by rw [et]; rfl) (fun N s' h h' h'' => k1 N (u + 1) s' (Nat.le_refl _) h h' (hFo1.tr h'')) (fun N h h' h'' h3 => k0 N h h' h'' (hFo1.tr h3))
  · obtain ⟨t, et⟩ : ∃ t, os[j].2.2.2 = some t := by
      cases e : os[j].2.2.2 with
      | none => exact absurd (by rw [e]; exact Nat.le_refl _) c
      | some t => exact ⟨t, rfl⟩
    have m4' : mkP out M1 (10 * j + 7) os[j].2.2.2 := m4.fx hF1 (by simp)
    refine x_sumB hd hI1 (by omega) (by omega) m4' (by rw [hF1.2.2.1 24 (by simp), hF1.2.2.1 25 (by simp)]; exact o1) o2 p4 nw (fun x N hF hIN hr => ?_)
    have hFoN : Fo M N := hFo1.tr (Fo.of hF (by simp) (by simp) (by simp) (by simp) (by simp))
    have hv := (hr.resolve_left (fun z => z.1 c56)).2.val
    simp (disch := decide) only [oi_gI, oi_gJ, oi_gP, oi_pI, oi_pZ, oi_pJ, oi_oK, oi_aI hd, oi_aZ hd, oi_aJ hd, oi_sI hd, oi_sZ hd, oi_sJ hd, mI_1, mI_2, mJ_1, mJ_2, mJ_3, mA_1, mA_2, mA_3, mA_4, mL_1, mL_2, mL_3, mL_4, mK, Nat.reduceEqDiff, if_true, if_false, ite_true, ite_false, true_and, Nat.reduceLT, reduceIte, reduceCtorEq, cl_0, cl_1, cl_2, cl_3, cl_4, cl_5, cl_6, cl_7, cl_8, cl_9, cl_10, cl_11, cl_12, cl_13, cl_14, cl_15, vl_0_5585, vl_1_5585, vl_2_5585, vl_3_5585, vl_4_5585, vl_5_5585, vl_6_5585, vl_0_7, vl_1_7, vl_2_7, vl_3_7, vl_4_7, vl_5_7, vl_6_7]
    refine ⟨fun c2 => ?_, fun c2 => ⟨fun c3 => ?_, fun c3 => ?_⟩⟩
    · obtain ⟨-, w⟩ := hv.resolve_right (fun z => c2 z.1)
      refine k1 N u s (Nat.le_succ _) ?_ hIN hFoN
      unfold orTry
      rw [if_neg (by rw [w]; intro z; cases z)]
    · obtain ⟨-, v, w, hx⟩ := hv.resolve_left (fun z => z.1 c2)
      have hx := hx (by rw [et]; intro z; cases z)
      have v01 := (pT t et).1 (envO s.1 s.2.1 s.2.2.1) v (by rw [et] at w; exact w)
      have v1 : v = 1 := by
        rcases v01 with z | z
        · exact absurd (i32_z.mpr (hx.trans z)) c3
        · exact z
      exact x_run97 hd hIN hu hj hO c2 (nw_cg hF nw) (by rw [w, v1]) (fun N s' h h' h'' => k1 N (u + 1) s' (Nat.le_refl _) h h' (hFoN.tr h'')) (fun N h h' h'' h3 => k0 N h h' h'' (hFoN.tr h3))
    · obtain ⟨-, v, w, hx⟩ := hv.resolve_left (fun z => z.1 c2)
      have hx := hx (by rw [et]; intro z; cases z)
      have v0 : v = 0 := by rw [← hx, c3]; decide
      refine k1 N u s (Nat.le_succ _) ?_ hIN hFoN
      unfold orTry
      rw [if_neg (by rw [w, v0]; intro z; cases z)]
end RW2
