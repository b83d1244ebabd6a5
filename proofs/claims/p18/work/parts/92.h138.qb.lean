section QB
variable {S : hS} {o : Nat} {ad : Nat → Nat} {M N P M0 : mS} {mT : mS} {T T' : aS} {rs rs' : Nat} {f g : Nat → Int32} {k n : Nat}
theorem xr_has (hd : mD o ad) (hM : mOk M M) (hR : RR M rs T) (hA : aB T) {q : Int32 → hS → Prop} {a b c : Int32} (h : ∀ N, mOk N N → RR N rs T → q (spHas a b c T) (ov S o ad N)) : w_X12_has q (ov S o ad M) o a b c := by
  have hM0 : mOk M (mI M 0 0) := mOk_i hM (by omega)
  have hR0 := hR.z (x := 0)
  have hQ := hR0.QM hA
  have bb := hA.hi
  have e0 : (M.2.2.1 3 0).toInt = iR T.1.1 0 := hR.iR (by omega)
  have e1 : (M.2.2.1 3 1).toInt = iR T.1.1 1 := hR.iR (by omega)
  have no : ¬ ((0 ≤ a.toInt ∧ a.toInt < iR T.1.1 1) ∧ (0 ≤ b.toInt ∧ b.toInt < iR T.1.1 0)) → q (-1) (ov S o ad (mI M 0 0)) := fun hn => by
    have es : spHas a b c T = -1 := by
      unfold spHas
      rw [if_pos hn]
    rw [es] at h
    exact h _ (mOk_self hM0) hR0
  unfold w_X12_has
  simp (disch := decide) only [oi_gI, oi_gJ, oi_gP, oi_pI, oi_pZ, oi_pJ, oi_oK, oi_aI hd, oi_aZ hd, oi_aJ hd, oi_sI hd, oi_sZ hd, oi_sJ hd, mI_1, mI_2, mJ_1, mJ_2, mJ_3, mA_1, mA_2, mA_3, mA_4, mL_1, mL_2, mL_3, mL_4, mK, Nat.reduceEqDiff, if_true, if_false, ite_true, ite_false, true_and, Nat.reduceLT, reduceIte, reduceCtorEq, cl_0, cl_1, cl_2, cl_3, cl_4, cl_5, cl_6, cl_7, cl_8, cl_9, cl_10, cl_11, cl_12, cl_13, cl_14, cl_15, vl_0_5585, vl_1_5585, vl_2_5585, vl_3_5585, vl_4_5585, vl_5_5585, vl_6_5585, vl_0_7, vl_1_7, vl_2_7, vl_3_7, vl_4_7, vl_5_7, vl_6_7]
  refine s_isPerson hd (fun h1 h2 => ⟨fun z => absurd z (by decide), fun _ => ⟨ov_oK, s_isHouse hd (fun h3 h4 => ⟨fun _ => ?_, fun z => absurd z (by decide)⟩) (fun nh => ⟨fun z => absurd rfl z, fun _ => no (fun z => nh ⟨z.2.1, by rw [← e0] at z; exact z.2.2⟩)⟩)⟩⟩) (fun np => ⟨fun _ => no (fun z => np ⟨z.1.1, by rw [← e1] at z; exact z.1.2⟩), fun z => absurd rfl z⟩)
  have h2' : a.toInt < iR T.1.1 1 := by rw [← e1]; exact h2
  have h4' : b.toInt < iR T.1.1 0 := by rw [← e0]; exact h4
  obtain ⟨p, hp, rfl⟩ := rg_in 8 (by omega) h1 (by omega)
  obtain ⟨e, he, rfl⟩ := rg_in 6 (by omega) h3 (by omega)
  have tp : (nI p).toInt.toNat = p := by rw [nI_toInt (by omega)]; omega
  have te : (nI e).toInt.toNat = e := by rw [nI_toInt (by omega)]; omega
  have es : spHas (nI p) (nI e) c T = if c.toInt = 0 then T.1.1 (30 + 6 * p + e) else if c.toInt = 1 then T.1.1 (78 + 6 * p + e) else if c.toInt = 2 then wI (leftR T.1.1 p e) else if c.toInt = 3 then (if opensR T.1.1 (csF T.1.1 T.1.2) p e = true then 1 else 0) else if c.toInt = 4 then wI (tiresR T.1.1 (csF T.1.1 T.1.2) p e) else -1 := by
    unfold spHas
    rw [if_neg (fun z => z ⟨⟨h1, h2'⟩, ⟨h3, h4'⟩⟩), tp, te]
  rw [es] at h
  intro y ey
  rw [ey]
  have lq := left_eq (M := mI M 0 0) hQ.1 hp he
  have ecut : cut ((mI M 0 0).2.2.1 3) = T.1.1 := hR0.1.1
  rw [ecut] at lq
  simp (disch := decide) only [oi_gI, oi_gJ, oi_gP, oi_pI, oi_pZ, oi_pJ, oi_oK, oi_aI hd, oi_aZ hd, oi_aJ hd, oi_sI hd, oi_sZ hd, oi_sJ hd, mI_1, mI_2, mJ_1, mJ_2, mJ_3, mA_1, mA_2, mA_3, mA_4, mL_1, mL_2, mL_3, mL_4, mK, Nat.reduceEqDiff, if_true, if_false, ite_true, ite_false, true_and, Nat.reduceLT, reduceIte, reduceCtorEq, cl_0, cl_1, cl_2, cl_3, cl_4, cl_5, cl_6, cl_7, cl_8, cl_9, cl_10, cl_11, cl_12, cl_13, cl_14, cl_15, vl_0_5585, vl_1_5585, vl_2_5585, vl_3_5585, vl_4_5585, vl_5_5585, vl_6_5585, vl_0_7, vl_1_7, vl_2_7, vl_3_7, vl_4_7, vl_5_7, vl_6_7]
  rw [lit_nI 78, lit_nI 6, nImul, nIadd, nIadd, nI_clamp (by omega), hR.at (i := 78 + 6 * p + e) (by omega)]
  refine ⟨fun c0 => s_rights hd hp he ?_, fun c1 => ⟨vp_in_nI (by omega) (by omega), ?_⟩, fun c2 => s_leftOf hd hp he ?_, fun c3 => x_isOpen hd hM0 hQ hp he (fun N hF => ?_), fun c4 => x_tiresOf hd hM0 hQ hp he (fun N hF => ?_), fun c5 => ?_⟩
  · rw [if_pos c0] at h
    have ea : (mI M 0 0).2.2.1 3 (30 + 6 * p + e) = T.1.1 (30 + 6 * p + e) := hR.at (by omega)
    rw [ea]
    exact h _ (mOk_self hM0) hR0
  · rw [if_neg (by omega), if_pos c1] at h
    exact h _ (mOk_self hM0) hR0
  · rw [if_neg (by omega), if_neg (by omega), if_pos c2] at h
    rw [wI_of lq.1]
    exact h _ (mOk_self hM0) hR0
  · rw [if_neg (by omega), if_neg (by omega), if_neg (by omega), if_pos c3] at h
    have h' := h _ (mOk_self (mOk_z hF hM0)) (hR0.fz hF)
    rw [ecut]
    by_cases co : opensR T.1.1 (csF T.1.1 T.1.2) p e = true
    · rw [if_pos co] at h' ⊢
      exact ⟨fun z => absurd z (by decide), fun _ => h'⟩
    · rw [if_neg co] at h' ⊢
      exact ⟨fun _ => h', fun z => absurd rfl z⟩
  · rw [if_neg (by omega), if_neg (by omega), if_neg (by omega), if_neg (by omega), if_pos c4] at h
    rw [ecut]
    exact h _ (mOk_self (mOk_z hF hM0)) (hR0.fz hF)
  · rw [if_neg (by omega), if_neg (by omega), if_neg (by omega), if_neg (by omega), if_neg (by omega)] at h
    exact h _ (mOk_self hM0) hR0
theorem xr_asks (hd : mD o ad) (hM : mOk M M) (hR : RR M rs T) (hA : aB T) {q : Int32 → hS → Prop} {a b c d : Int32} (h : ∀ N, mOk N N → RR N rs T → q (spAsks a b c d T) (ov S o ad N)) : w_X12_asks q (ov S o ad M) o a b c d := by
  have hM0 : mOk M (mI M 0 0) := mOk_i hM (by omega)
  have hR0 := hR.z (x := 0)
  have hQ := hR0.QM hA
  have bb := hA.hi
  have e0 : (M.2.2.1 3 0).toInt = iR T.1.1 0 := hR.iR (by omega)
  have e1 : (M.2.2.1 3 1).toInt = iR T.1.1 1 := hR.iR (by omega)
  have no : ¬ ((0 ≤ a.toInt ∧ a.toInt < iR T.1.1 1) ∧ (0 ≤ b.toInt ∧ b.toInt < iR T.1.1 1) ∧ a ≠ b ∧ (0 ≤ c.toInt ∧ c.toInt < iR T.1.1 0)) → q (-1) (ov S o ad (mI M 0 0)) := fun hn => by
    have es : spAsks a b c d T = -1 := by
      unfold spAsks
      rw [if_pos hn]
    rw [es] at h
    exact h _ (mOk_self hM0) hR0
  have ecut : cut ((mI M 0 0).2.2.1 3) = T.1.1 := hR0.1.1
  unfold w_X12_asks
  simp (disch := decide) only [oi_gI, oi_gJ, oi_gP, oi_pI, oi_pZ, oi_pJ, oi_oK, oi_aI hd, oi_aZ hd, oi_aJ hd, oi_sI hd, oi_sZ hd, oi_sJ hd, mI_1, mI_2, mJ_1, mJ_2, mJ_3, mA_1, mA_2, mA_3, mA_4, mL_1, mL_2, mL_3, mL_4, mK, Nat.reduceEqDiff, if_true, if_false, ite_true, ite_false, true_and, Nat.reduceLT, reduceIte, reduceCtorEq, cl_0, cl_1, cl_2, cl_3, cl_4, cl_5, cl_6, cl_7, cl_8, cl_9, cl_10, cl_11, cl_12, cl_13, cl_14, cl_15, vl_0_5585, vl_1_5585, vl_2_5585, vl_3_5585, vl_4_5585, vl_5_5585, vl_6_5585, vl_0_7, vl_1_7, vl_2_7, vl_3_7, vl_4_7, vl_5_7, vl_6_7]
  refine ⟨fun ab => no (fun z => z.2.2.1 ab), fun nab => s_isPerson hd (fun h1 h2 => ⟨fun z => absurd z (by decide), fun _ => ⟨ov_oK, s_isPerson hd (fun h3 h4 => ⟨fun z => absurd z (by decide), fun _ => ⟨ov_oK, s_isHouse hd (fun h5 h6 => ⟨fun z => absurd z (by decide), fun _ => ?_⟩) (fun nh => ⟨fun _ => no (fun z => nh ⟨z.2.2.2.1, by rw [← e0] at z; exact z.2.2.2.2⟩), fun z => absurd rfl z⟩)⟩⟩) (fun np => ⟨fun _ => no (fun z => np ⟨z.2.1.1, by rw [← e1] at z; exact z.2.1.2⟩), fun z => absurd rfl z⟩)⟩⟩) (fun np => ⟨fun _ => no (fun z => np ⟨z.1.1, by rw [← e1] at z; exact z.1.2⟩), fun z => absurd rfl z⟩)⟩
  have h2' : a.toInt < iR T.1.1 1 := by rw [← e1]; exact h2
  have h4' : b.toInt < iR T.1.1 1 := by rw [← e1]; exact h4
  have h6' : c.toInt < iR T.1.1 0 := by rw [← e0]; exact h6
  obtain ⟨p, hp, rfl⟩ := rg_in 8 (by omega) h1 (by omega)
  obtain ⟨t, ht, rfl⟩ := rg_in 8 (by omega) h3 (by omega)
  obtain ⟨e, he, rfl⟩ := rg_in 6 (by omega) h5 (by omega)
  have tp : (nI p).toInt.toNat = p := by rw [nI_toInt (by omega)]; omega
  have tt : (nI t).toInt.toNat = t := by rw [nI_toInt (by omega)]; omega
  have te : (nI e).toInt.toNat = e := by rw [nI_toInt (by omega)]; omega
  have hpt : p ≠ t := fun z => nab (by rw [z])
  have es : spAsks (nI p) (nI t) (nI e) d T = if d.toInt = 0 then wI (costsR T.1.1 (csF T.1.1 T.1.2) p t e) else if d.toInt = 1 then (if barredR T.1.1 (csF T.1.1 T.1.2) p t e = true then 1 else 0) else if d.toInt = 2 then (if 1 ≤ leftR T.1.1 p e ∧ canBuyR T.1.1 (csF T.1.1 T.1.2) p t e = true then 1 else 0) else -1 := by
    unfold spAsks
    rw [if_neg (fun z => z ⟨⟨h1, h2'⟩, ⟨h3, h4'⟩, nab, ⟨h5, h6'⟩⟩), tp, tt, te]
  rw [es] at h
  have t0 : (0 : Int32).toInt = 0 := by decide
  have t1 : (1 : Int32).toInt = 1 := by decide
  refine s_inI 0 2 (by decide) (by decide) (fun d1 d2 => ⟨fun _ => ⟨fun n1 => ⟨ov_oK, x_canSell hd hM0 hQ hp ht he (fun N hF => ?_)⟩, fun c1 => ⟨ov_oK, x_isBarred hd hM0 hQ hp ht he (fun N hF => ?_)⟩⟩, fun z => absurd z (by decide)⟩) (fun nd => ⟨fun z => absurd rfl z, fun _ => ?_⟩)
  · have hMN := mOk_z hF hM0
    have hRN := hR0.fz hF
    have hQN := hRN.QM hA
    have dn1 : d.toInt ≠ 1 := fun z => n1 (Int32.toInt_inj.mp (z.trans t1.symm))
    rw [ecut]
    refine ⟨fun n0 => ?_, fun c0 => ⟨ov_oK, x_costsOf hd hMN hQN hp ht he (fun P hFP => ?_)⟩⟩
    · have dn0 : d.toInt ≠ 0 := fun z => n0 (Int32.toInt_inj.mp (z.trans t0.symm))
      rw [if_neg dn0, if_neg dn1, if_pos (by omega)] at h
      have h' := h _ (mOk_self hMN) hRN
      by_cases co : 1 ≤ leftR T.1.1 p e ∧ canBuyR T.1.1 (csF T.1.1 T.1.2) p t e = true
      · rw [if_pos co] at h'
        rw [if_pos ⟨co.1, hpt, co.2⟩]
        exact ⟨fun z => absurd z (by decide), fun _ => h'⟩
      · rw [if_neg co] at h'
        rw [if_neg (fun z => co ⟨z.1, z.2.2⟩)]
        exact ⟨fun _ => h', fun z => absurd rfl z⟩
    · have d0 : d.toInt = 0 := by rw [c0]; exact t0
      rw [if_pos d0] at h
      rw [hRN.1.1]
      exact h _ (mOk_self (mOk_z hFP hMN)) (hRN.fz hFP)
  · have hMN := mOk_z hF hM0
    have hRN := hR0.fz hF
    have d1' : d.toInt = 1 := by rw [c1]; exact t1
    rw [if_neg (by omega), if_pos d1'] at h
    have h' := h _ (mOk_self hMN) hRN
    rw [ecut]
    refine ⟨fun _ => ?_, fun c0 => absurd (c1.symm.trans c0) (by decide)⟩
    by_cases co : barredR T.1.1 (csF T.1.1 T.1.2) p t e = true
    · rw [if_pos co] at h' ⊢
      exact ⟨fun z => absurd z (by decide), fun _ => h'⟩
    · rw [if_neg co] at h' ⊢
      exact ⟨fun _ => h', fun z => absurd rfl z⟩
  · rw [if_neg (by omega), if_neg (by omega), if_neg (by omega)] at h
    exact h _ (mOk_self hM0) hR0
theorem xr_drawn (hd : mD o ad) (hM : mOk M M) (hR : RR M rs T) {q : Int32 → hS → Prop} {a b : Int32} (h : ∀ N, mOk N N → RR N rs T → q (spDrawn a b T) (ov S o ad N)) : w_X12_drawn q (ov S o ad M) o a b := by
  have hM0 : mOk M (mI M 0 0) := mOk_i hM (by omega)
  have hR0 := hR.z (x := 0)
  have h9 := hM.2.2.2.2.2.2.2.2.2.1
  have h10 := hM.2.2.2.2.2.2.2.2.2.2.1
  obtain ⟨d1, d2, d3⟩ := hR.2.2.2.2.2.2.1
  have m1 : (-1 : Int32).toInt = -1 := by decide
  have z0 : (0 : Int32).toInt = 0 := by decide
  have f1 : ∀ x : Int32, 0 ≤ x.toInt → (x.toInt < (M.1 59).toInt ↔ x.toInt < (T.2.2.2.2.1 3).toInt) := fun x hx => by
    rcases d1 with z | ⟨z1, z2⟩
    · rw [z]
    · rw [z1, z2, m1, z0]; omega
  have f2 : ∀ x : Int32, 0 ≤ x.toInt → (x.toInt < (M.1 60).toInt ↔ x.toInt < (T.2.2.2.2.1 4).toInt) := fun x hx => by
    rcases d2 with z | ⟨z1, z2⟩
    · rw [z]
    · rw [z1, z2, m1, z0]; omega
  have no : ¬ (0 ≤ a.toInt ∧ a.toInt < (T.2.2.2.2.1 3).toInt ∧ 0 ≤ b.toInt ∧ b.toInt < (T.2.2.2.2.1 4).toInt) → q (-1) (ov S o ad (mI M 0 0)) := fun hn => by
    have es : spDrawn a b T = -1 := by
      unfold spDrawn
      rw [if_neg hn]
    rw [es] at h
    exact h _ (mOk_self hM0) hR0
  have sub1 : ∀ x : Int32, -1 ≤ x.toInt → x.toInt ≤ 8 → (Int32.toInt64 x - 1).toInt = x.toInt - 1 := fun x hx hx2 => by
    rw [fb_subL] <;> rw [i64toInt, show (1 : Int64).toInt = 1 by decide] <;> omega
  unfold w_X12_drawn
  simp (disch := decide) only [oi_gI, oi_gJ, oi_gP, oi_pI, oi_pZ, oi_pJ, oi_oK, oi_aI hd, oi_aZ hd, oi_aJ hd, oi_sI hd, oi_sZ hd, oi_sJ hd, mI_1, mI_2, mJ_1, mJ_2, mJ_3, mA_1, mA_2, mA_3, mA_4, mL_1, mL_2, mL_3, mL_4, mK, Nat.reduceEqDiff, if_true, if_false, ite_true, ite_false, true_and, Nat.reduceLT, reduceIte, reduceCtorEq, cl_0, cl_1, cl_2, cl_3, cl_4, cl_5, cl_6, cl_7, cl_8, cl_9, cl_10, cl_11, cl_12, cl_13, cl_14, cl_15, vl_0_5585, vl_1_5585, vl_2_5585, vl_3_5585, vl_4_5585, vl_5_5585, vl_6_5585, vl_0_7, vl_1_7, vl_2_7, vl_3_7, vl_4_7, vl_5_7, vl_6_7]
  unfold rg at h9 h10
  refine s_inI 0 ((M.1 59).toInt - 1) (by decide) (sub1 _ h9.1 h9.2) (fun x1 x2 => ⟨fun z => absurd z (by decide), fun _ => ?_⟩) (fun nx => ⟨fun _ => no (fun z => nx ⟨z.1, by have := (f1 a z.1).mpr z.2.1; omega⟩), fun z => absurd rfl z⟩)
  simp (disch := decide) only [oi_gI, oi_gJ, oi_gP, oi_pI, oi_pZ, oi_pJ, oi_oK, oi_aI hd, oi_aZ hd, oi_aJ hd, oi_sI hd, oi_sZ hd, oi_sJ hd, mI_1, mI_2, mJ_1, mJ_2, mJ_3, mA_1, mA_2, mA_3, mA_4, mL_1, mL_2, mL_3, mL_4, mK, Nat.reduceEqDiff, if_true, if_false, ite_true, ite_false, true_and, Nat.reduceLT, reduceIte, reduceCtorEq, cl_0, cl_1, cl_2, cl_3, cl_4, cl_5, cl_6, cl_7, cl_8, cl_9, cl_10, cl_11, cl_12, cl_13, cl_14, cl_15, vl_0_5585, vl_1_5585, vl_2_5585, vl_3_5585, vl_4_5585, vl_5_5585, vl_6_5585, vl_0_7, vl_1_7, vl_2_7, vl_3_7, vl_4_7, vl_5_7, vl_6_7]
  refine s_inI 0 ((M.1 60).toInt - 1) (by decide) (sub1 _ h10.1 (by have := h10.2; omega)) (fun y1 y2 => ⟨fun z => absurd z (by decide), fun _ => ?_⟩) (fun ny => ⟨fun _ => no (fun z => ny ⟨z.2.2.1, by have := (f2 b z.2.2.1).mpr z.2.2.2; omega⟩), fun z => absurd rfl z⟩)
  simp (disch := decide) only [oi_gI, oi_gJ, oi_gP, oi_pI, oi_pZ, oi_pJ, oi_oK, oi_aI hd, oi_aZ hd, oi_aJ hd, oi_sI hd, oi_sZ hd, oi_sJ hd, mI_1, mI_2, mJ_1, mJ_2, mJ_3, mA_1, mA_2, mA_3, mA_4, mL_1, mL_2, mL_3, mL_4, mK, Nat.reduceEqDiff, if_true, if_false, ite_true, ite_false, true_and, Nat.reduceLT, reduceIte, reduceCtorEq, cl_0, cl_1, cl_2, cl_3, cl_4, cl_5, cl_6, cl_7, cl_8, cl_9, cl_10, cl_11, cl_12, cl_13, cl_14, cl_15, vl_0_5585, vl_1_5585, vl_2_5585, vl_3_5585, vl_4_5585, vl_5_5585, vl_6_5585, vl_0_7, vl_1_7, vl_2_7, vl_3_7, vl_4_7, vl_5_7, vl_6_7]
  have g1 := (f1 a x1).mp (by omega)
  have g2 := (f2 b y1).mp (by omega)
  obtain ⟨p, hp, rfl⟩ := rg_in 8 (by omega) x1 (by omega)
  obtain ⟨e, he, rfl⟩ := rg_in 6 (by omega) y1 (by omega)
  have tp : (nI p).toInt.toNat = p := by rw [nI_toInt (by omega)]; omega
  have te : (nI e).toInt.toNat = e := by rw [nI_toInt (by omega)]; omega
  have es : spDrawn (nI p) (nI e) T = T.2.2.2.2.2.2 (6 * p + e) := by
    unfold spDrawn
    rw [if_pos ⟨x1, g1, y1, g2⟩, tp, te]
  rw [es] at h
  rw [lit_nI 6, nImul, nIadd, nI_clamp (by omega), d3 (6 * p + e) (by omega)]
  exact ⟨vp_in_nI (by omega) (by omega), h _ (mOk_self hM0) hR0⟩
theorem xr_fault (hd : mD o ad) (hM : mOk M M) (hR : RR M rs T) {q : Int32 → hS → Prop} (h : ∀ N, mOk N N → RR N rs T → q (T.2.2.2.2.1 0) (ov S o ad N)) : w_X12_fault q (ov S o ad M) o := by
  have hM0 : mOk M (mI M 0 0) := mOk_i hM (by omega)
  unfold w_X12_fault
  simp (disch := decide) only [oi_gI, oi_gJ, oi_gP, oi_pI, oi_pZ, oi_pJ, oi_oK, oi_aI hd, oi_aZ hd, oi_aJ hd, oi_sI hd, oi_sZ hd, oi_sJ hd, mI_1, mI_2, mJ_1, mJ_2, mJ_3, mA_1, mA_2, mA_3, mA_4, mL_1, mL_2, mL_3, mL_4, mK, Nat.reduceEqDiff, if_true, if_false, ite_true, ite_false, true_and, Nat.reduceLT, reduceIte, reduceCtorEq]
  rw [hR.2.2.2.2.1.1]
  exact h _ (mOk_self hM0) hR.z
theorem xr_stopped (hd : mD o ad) (hM : mOk M M) (hR : RR M rs T) {q : Int32 → hS → Prop} (h : ∀ N, mOk N N → RR N rs T → q (T.2.2.2.2.1 1) (ov S o ad N)) : w_X12_stopped q (ov S o ad M) o := by
  have hM0 : mOk M (mI M 0 0) := mOk_i hM (by omega)
  unfold w_X12_stopped
  simp (disch := decide) only [oi_gI, oi_gJ, oi_gP, oi_pI, oi_pZ, oi_pJ, oi_oK, oi_aI hd, oi_aZ hd, oi_aJ hd, oi_sI hd, oi_sZ hd, oi_sJ hd, mI_1, mI_2, mJ_1, mJ_2, mJ_3, mA_1, mA_2, mA_3, mA_4, mL_1, mL_2, mL_3, mL_4, mK, Nat.reduceEqDiff, if_true, if_false, ite_true, ite_false, true_and, Nat.reduceLT, reduceIte, reduceCtorEq]
  rw [hR.2.2.2.2.1.2.1]
  exact h _ (mOk_self hM0) hR.z
theorem xr_status (hd : mD o ad) (hM : mOk M M) (hR : RR M rs T) {q : Int32 → hS → Prop} (h : ∀ N, mOk N N → RR N rs T → q (T.2.2.2.2.1 2) (ov S o ad N)) : w_X12_status q (ov S o ad M) o := by
  have hM0 : mOk M (mI M 0 0) := mOk_i hM (by omega)
  unfold w_X12_status
  simp (disch := decide) only [oi_gI, oi_gJ, oi_gP, oi_pI, oi_pZ, oi_pJ, oi_oK, oi_aI hd, oi_aZ hd, oi_aJ hd, oi_sI hd, oi_sZ hd, oi_sJ hd, mI_1, mI_2, mJ_1, mJ_2, mJ_3, mA_1, mA_2, mA_3, mA_4, mL_1, mL_2, mL_3, mL_4, mK, Nat.reduceEqDiff, if_true, if_false, ite_true, ite_false, true_and, Nat.reduceLT, reduceIte, reduceCtorEq]
  rw [hR.2.2.2.2.1.2.2]
  exact h _ (mOk_self hM0) hR.z
theorem xr_rust (hd : mD o ad) (hM : mOk M M) (hR : RR M rs T) {q : Int32 → hS → Prop} (h : ∀ N, mOk N N → RR N rs T → q (nI rs) (ov S o ad N)) : w_X12_rust q (ov S o ad M) o := by
  have hM0 : mOk M (mI M 0 0) := mOk_i hM (by omega)
  unfold w_X12_rust
  simp (disch := decide) only [oi_gI, oi_gJ, oi_gP, oi_pI, oi_pZ, oi_pJ, oi_oK, oi_aI hd, oi_aZ hd, oi_aJ hd, oi_sI hd, oi_sZ hd, oi_sJ hd, mI_1, mI_2, mJ_1, mJ_2, mJ_3, mA_1, mA_2, mA_3, mA_4, mL_1, mL_2, mL_3, mL_4, mK, Nat.reduceEqDiff, if_true, if_false, ite_true, ite_false, true_and, Nat.reduceLT, reduceIte, reduceCtorEq]
  rw [hR.2.2.2.2.2.2.2.1]
  exact h _ (mOk_self hM0) hR.z
end QB
