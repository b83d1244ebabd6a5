/-! THE TAPE IN THE REFERENCE, EXACTLY; ROW -/
section FE
variable {S : hS} {o : Nat} {ad : Nat → Nat} {M N P M0 : mS} {mT : mS} {T T' : aS} {rs rs' : Nat} {f g : Nat → Int32} {G G' : pG} {k n : Nat}
theorem RR.tp (h : RR M rs T) (hF : Fx [13] [] [12] [] M N) (hG : tpM G N) : RR N rs (aTp G T) := by
  obtain ⟨h1, h2, h3, h4, h5, h6, h7, h8, h9⟩ := h
  refine ⟨?_, ?_, ?_, hG, ?_, ?_, ?_, ?_, h9.fx hF (by simp)⟩
  · rw [hF.2.2.1 3 (by simp)]; exact h1
  · rw [hF.2.2.1 4 (by simp), hF.2.2.1 5 (by simp)]; exact h2
  · unfold luM; rw [hF.1 8 (by simp), hF.2.2.1 6 (by simp), hF.2.2.1 7 (by simp), hF.2.2.1 3 (by simp)]; exact h3
  · unfold scM; rw [hF.1 18 (by simp), hF.1 55 (by simp), hF.1 1 (by simp)]; exact h5
  · rw [hF.2.2.1 2 (by simp)]; exact h6
  · unfold drM; rw [hF.1 59 (by simp), hF.1 60 (by simp), hF.2.2.1 58 (by simp)]; exact h7
  · rw [hF.1 11 (by simp)]; exact h8
theorem RR.tpM (h : RR M rs T) : tpM T.2.2.2.1 M := h.2.2.2.1
theorem x_four (hd : mD o ad) {q : hS → Prop} {v : Int32} {m : Nat} (hm : m + 4 ≤ 400) (em : M.1 13 = nI m) (hM : mOk mT M) (h : ∀ N, mOk (mI (mA mT 12 (fo4 (mT.2.2.1 12) m v)) 13 (nI (m + 4))) N → N.1 13 = nI (m + 4) → Fx [13] [] [12] [] M N → N.2.2.1 12 = fo4 (M.2.2.1 12) m v → q (ov S o ad N)) : w_X12_four q (ov S o ad M) o v := by
  have key : ∀ N, ∀ j, N.1 13 = nI j → j < 400 → ∀ n (by' by2 : Int32), ¬ by' < 0 → by2 = by' + (-8) → w_X12_four_b3 q n (ov S o ad (mI (mA N 12 (upd (N.2.2.1 12) j ((v >>> (by' &&& 31)) &&& 255))) 13 (nI (j + 1)))) o v by2 → w_X12_four_b3 q (n + 1) (ov S o ad N) o v by' := by
    intro N j ej hj n b1 b2 hb eb hw
    rw [w_X12_four_b3]
    simp (disch := decide) only [oi_gI, oi_gJ, oi_gP, oi_pI, oi_pZ, oi_pJ, oi_oK, oi_aI hd, oi_aZ hd, oi_aJ hd, oi_sI hd, oi_sZ hd, oi_sJ hd, mI_1, mI_2, mJ_1, mJ_2, mJ_3, mA_1, mA_2, mA_3, mA_4, mL_1, mL_2, mL_3, mL_4, mK, Nat.reduceEqDiff, if_true, if_false, ite_true, ite_false, true_and, Nat.reduceLT, reduceIte, reduceCtorEq, cl_0, cl_1, cl_2, cl_3, cl_4, cl_5, cl_6, cl_7, cl_8, cl_9, cl_10, cl_11, cl_12, cl_13, cl_14, cl_15, vl_0_5585, vl_1_5585, vl_2_5585, vl_3_5585, vl_4_5585, vl_5_5585, vl_6_5585, vl_0_7, vl_1_7, vl_2_7, vl_3_7, vl_4_7, vl_5_7, vl_6_7]
    rw [ej, nI_clamp (by omega), nI_1]
    refine ⟨fun z => absurd z hb, fun _ => ⟨vp_in_nI (by omega) (by omega), fun y ey => ?_⟩⟩
    rw [ey, ← eb]
    exact hw
  have st : ∀ T N, mOk T N → ∀ j (x : Int32), j < 400 → mOk (mI (mA T 12 (upd (T.2.2.1 12) j x)) 13 (nI (j + 1))) (mI (mA N 12 (upd (N.2.2.1 12) j x)) 13 (nI (j + 1))) := fun T N hN j x hj => mOk_13 (mOk_12 hN (by rw [hN.2.2.2.2.2.2.2.2.2.2.2.2.2.1])) (rg_n (b := 400) (by omega) (by omega))
  have h1 := st _ _ hM m ((v >>> ((24 : Int32) &&& 31)) &&& 255) (by omega)
  have h2 := st _ _ h1 (m + 1) ((v >>> ((16 : Int32) &&& 31)) &&& 255) (by omega)
  have h3 := st _ _ h2 (m + 2) ((v >>> ((8 : Int32) &&& 31)) &&& 255) (by omega)
  have h4 := st _ _ h3 (m + 3) ((v >>> ((0 : Int32) &&& 31)) &&& 255) (by omega)
  refine ⟨5, key M m em (by omega) 4 24 16 (by decide) (by decide) (key _ (m + 1) rfl (by omega) 3 16 8 (by decide) (by decide) (key _ (m + 2) rfl (by omega) 2 8 0 (by decide) (by decide) (key _ (m + 3) rfl (by omega) 1 0 (-8) (by decide) (by decide) ?_)))⟩
  rw [w_X12_four_b3]
  refine ⟨fun _ => h _ (mOk_cg h4 (by simp only [mA_mI, mI_mI, mA_mA]; rfl)) rfl ?_ rfl, fun c => absurd (by decide) c⟩
  exact ((((((((Fx.a 12 _).tr (Fx.i 13 _)).tr (Fx.a 12 _)).tr (Fx.i 13 _)).tr (Fx.a 12 _)).tr (Fx.i 13 _)).tr (Fx.a 12 _)).tr (Fx.i 13 _)).le (by simp) (by simp) (by simp) (by simp)
theorem tp_feed {a b c d e : Int32} (hG : tpM G M) (hm : G.2 ≤ 380) (h13 : N.1 13 = nI (G.2 + 20)) (h12 : N.2.2.1 12 = fo20 (M.2.2.1 12) G.2 a b c d e) : tpM (fdG G a b c d e) N := by
  obtain ⟨g1, g2, g3, g4⟩ := hG
  have hb := fo20_by (f := fun i => nI (G.1 i)) (m := G.2) (a := a) (b := b) (c := c) (d := d) (e := e) (fun j => ⟨G.1 j, g4 j, rfl⟩)
  have ho := fo20_on (f := M.2.2.1 12) (g := fun i => nI (G.1 i)) (m := G.2) (a := a) (b := b) (c := c) (d := d) (e := e) g3
  refine ⟨h13, by show G.2 + 20 ≤ 400; omega, fun i hi => ?_, fun i => ?_⟩
  · obtain ⟨n, n1, n2⟩ := hb i
    rw [h12, ho i hi]
    show _ = nI (fo20 (fun i => nI (G.1 i)) G.2 a b c d e i).toNatClampNeg
    rw [n2, nI_clamp (by omega)]
  · obtain ⟨n, n1, n2⟩ := hb i
    show (fo20 (fun i => nI (G.1 i)) G.2 a b c d e i).toNatClampNeg < 256
    rw [n2, nI_clamp (by omega)]
    exact n1
theorem xr_feed (hd : mD o ad) (hM : mOk M M) (hR : RR M rs T) {q : Int32 → hS → Prop} {a b c d e : Int32} (h : ∀ N, mOk N N → RR N rs (spFeed a b c d e T).2 → q (spFeed a b c d e T).1 (ov S o ad N)) : w_X12_feed q (ov S o ad M) o a b c d e := by
  have hM0 : mOk M (mI M 0 0) := mOk_i hM (by omega)
  have hR0 := hR.z (x := 0)
  have hG := hR.tpM
  have hG0 := hR0.tpM
  obtain ⟨m, emm⟩ : ∃ m, T.2.2.2.1.2 = m := ⟨_, rfl⟩
  have hm : m ≤ 400 := by rw [← emm]; exact hG.2.1
  have em : M.1 13 = nI m := by rw [← emm]; exact hG.1
  have em0 : (mI M 0 0).1 13 = nI m := em
  unfold w_X12_feed
  simp (disch := decide) only [oi_gI, oi_gJ, oi_gP, oi_pI, oi_pZ, oi_pJ, oi_oK, oi_aI hd, oi_aZ hd, oi_aJ hd, oi_sI hd, oi_sZ hd, oi_sJ hd, mI_1, mI_2, mJ_1, mJ_2, mJ_3, mA_1, mA_2, mA_3, mA_4, mL_1, mL_2, mL_3, mL_4, mK, Nat.reduceEqDiff, if_true, if_false, ite_true, ite_false, true_and, Nat.reduceLT, reduceIte, reduceCtorEq, cl_0, cl_1, cl_2, cl_3, cl_4, cl_5, cl_6, cl_7, cl_8, cl_9, cl_10, cl_11, cl_12, cl_13, cl_14, cl_15, vl_0_5585, vl_1_5585, vl_2_5585, vl_3_5585, vl_4_5585, vl_5_5585, vl_6_5585, vl_0_7, vl_1_7, vl_2_7, vl_3_7, vl_4_7, vl_5_7, vl_6_7]
  rw [em, show nI m + 20 = nI (m + 20) from nIadd m 20, lit_nI 400, nI_leI (by omega) (by omega)]
  refine ⟨fun cc => x_four hd (m := m) (by omega) em0 hM0 (fun N1 h1 e1 f1 g1 => ⟨ov_oK, x_four hd (m := m + 4) (by omega) e1 h1 (fun N2 h2 e2 f2 g2 => ⟨ov_oK, x_four hd (m := m + 8) (by omega) e2 h2 (fun N3 h3 e3 f3 g3 => ⟨ov_oK, x_four hd (m := m + 12) (by omega) e3 h3 (fun N4 h4 e4 f4 g4 => ⟨ov_oK, x_four hd (m := m + 16) (by omega) e4 h4 (fun N5 h5 e5 f5 g5 => ?_)⟩)⟩)⟩)⟩), fun cc => ?_⟩
  · simp (disch := decide) only [oi_gI, oi_gJ, oi_gP, oi_pI, oi_pZ, oi_pJ, oi_oK, oi_aI hd, oi_aZ hd, oi_aJ hd, oi_sI hd, oi_sZ hd, oi_sJ hd, mI_1, mI_2, mJ_1, mJ_2, mJ_3, mA_1, mA_2, mA_3, mA_4, mL_1, mL_2, mL_3, mL_4, mK, Nat.reduceEqDiff, if_true, if_false, ite_true, ite_false, true_and, Nat.reduceLT, reduceIte, reduceCtorEq, cl_0, cl_1, cl_2, cl_3, cl_4, cl_5, cl_6, cl_7, cl_8, cl_9, cl_10, cl_11, cl_12, cl_13, cl_14, cl_15, vl_0_5585, vl_1_5585, vl_2_5585, vl_3_5585, vl_4_5585, vl_5_5585, vl_6_5585, vl_0_7, vl_1_7, vl_2_7, vl_3_7, vl_4_7, vl_5_7, vl_6_7]
    rw [e5]
    have es : spFeed a b c d e T = (nI (m + 20), aTp (fdG T.2.2.2.1 a b c d e) T) := by
      unfold spFeed
      rw [if_neg (by omega), emm]
    rw [es] at h
    have hF : Fx [13] [] [12] [] (mI M 0 0) N5 := (((((f1.tr f2).tr f3).tr f4).tr f5)).le (by simp) (by simp) (by simp) (by simp)
    refine h N5 (mOk_self h5) (hR0.tp hF (tp_feed hG0 (by omega) (by rw [e5, emm]) ?_))
    rw [g5, g4, g3, g2, g1, emm]
    rfl
  · have es : spFeed a b c d e T = (-1, T) := by
      unfold spFeed
      rw [if_pos (by omega)]
    rw [es] at h
    exact h _ (mOk_self hM0) hR0
theorem xr_end (hd : mD o ad) (hM : mOk M M) (hR : RR M rs T) {q : Int32 → hS → Prop} {a : Int32} (h : ∀ N, mOk N N → RR N rs (spEnd a T).2 → q (spEnd a T).1 (ov S o ad N)) : w_X12_end q (ov S o ad M) o a := by
  have hM0 : mOk M (mI M 0 0) := mOk_i hM (by omega)
  have hR0 := hR.z (x := 0)
  have hG := hR.tpM
  have z0 : (0 : Int32).toInt = 0 := by decide
  have e13 : (M.1 13).toInt = T.2.2.2.1.2 := by rw [hG.1, nI_toInt (by have := hG.2.1; omega)]
  have g400 := hG.2.1
  have no : ¬ (0 ≤ a.toInt ∧ a.toInt ≤ T.2.2.2.1.2) → q (-1) (ov S o ad (mI M 0 0)) := fun c => by
    have es : spEnd a T = (-1, T) := by
      unfold spEnd
      rw [if_pos c]
    rw [es] at h
    exact h _ (mOk_self hM0) hR0
  unfold w_X12_end
  simp (disch := decide) only [oi_gI, oi_gJ, oi_gP, oi_pI, oi_pZ, oi_pJ, oi_oK, oi_aI hd, oi_aZ hd, oi_aJ hd, oi_sI hd, oi_sZ hd, oi_sJ hd, mI_1, mI_2, mJ_1, mJ_2, mJ_3, mA_1, mA_2, mA_3, mA_4, mL_1, mL_2, mL_3, mL_4, mK, Nat.reduceEqDiff, if_true, if_false, ite_true, ite_false, true_and, Nat.reduceLT, reduceIte, reduceCtorEq, cl_0, cl_1, cl_2, cl_3, cl_4, cl_5, cl_6, cl_7, cl_8, cl_9, cl_10, cl_11, cl_12, cl_13, cl_14, cl_15, vl_0_5585, vl_1_5585, vl_2_5585, vl_3_5585, vl_4_5585, vl_5_5585, vl_6_5585, vl_0_7, vl_1_7, vl_2_7, vl_3_7, vl_4_7, vl_5_7, vl_6_7]
  refine ⟨fun c => no (fun z => ?_), fun c => ⟨fun c2 => ?_, fun c2 => no (fun z => c2 ?_)⟩⟩
  · rw [Int32.lt_iff_toInt_lt, z0] at c; omega
  · rw [Int32.lt_iff_toInt_lt, z0] at c
    rw [i32ge, e13] at c2
    have es : spEnd a T = (a, aTp (T.2.2.2.1.1, a.toInt.toNat) T) := by
      unfold spEnd
      rw [if_neg (fun z => z ⟨by omega, c2⟩)]
    rw [es] at h
    refine h _ (mOk_self (mOk_13 hM0 ⟨by omega, by omega⟩)) (hR0.tp ((Fx.i 13 a).le (by simp) (by simp) (by simp) (by simp)) ⟨?_, ?_, ?_, hG.2.2.2⟩)
    · rw [mI_1, if_pos rfl]
      apply Int32.toInt_inj.mp
      rw [nI_toInt (by omega)]
      show a.toInt = (a.toInt.toNat : Int)
      omega
    · show a.toInt.toNat ≤ 400
      omega
    · exact hG.2.2.1
  · rw [i32ge, e13]; exact z.2
end FE
