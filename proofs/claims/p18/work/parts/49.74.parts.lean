/-! LAYER 2, the reference: what a part, a plain test is read by -/
section REF24
variable {S : hS} {o : Nat} {ad : Nat → Nat} {M : mS}
theorem f_readPart (hd : mD o ad) {q : Int32 → hS → Prop} {T lo f t c p l : Nat} (hb : M.1 19 = 0) (hj : pj M T lo f t c p l) (hs : sg M lo c p l 0) (hbs : bs (M.2.2.1 27) p) (h : ∀ r N, pc M N T lo f 0 r → q r (ov S o ad N)) : w_X12_readPart q (ov S o ad M) o := by
  have k99 : ∀ its y x v : Int32, (¬ v = 0 → ¬ M.1 16 = 0 ∧ rg x 0 9) → w_X12_readPart_b99 q (ov S o ad M) o its y x v o := by
    intro its y x v hv
    refine ⟨ov_oK, f_leaf hd hb hj hs hv (fun N hF hn => ?_) (fun N f' t' hF hlow hj' hl hs' hop => ?_)⟩
    · have := h 3 N (pc_bad hF hn hj)
      simp (disch := decide) only [oi_gI, oi_gJ, oi_gP, oi_pI, oi_pZ, oi_pJ, oi_oK, oi_aI hd, oi_aZ hd, oi_aJ hd, oi_sI hd, oi_sZ hd, oi_sJ hd, mI_1, mI_2, mJ_1, mJ_2, mJ_3, mA_1, mA_2, mA_3, mA_4, mL_1, mL_2, mL_3, mL_4, mK, Nat.reduceEqDiff, if_true, if_false, ite_true, ite_false, true_and, Nat.reduceLT, reduceIte, reduceCtorEq, cl_0, cl_1, cl_2, cl_3, cl_4, cl_5, cl_6, cl_7, cl_8, cl_9, cl_10, cl_11, cl_12, cl_13, cl_14, cl_15, vl_0_5585, vl_1_5585, vl_2_5585, vl_3_5585, vl_4_5585, vl_5_5585, vl_6_5585, vl_0_7, vl_1_7, vl_2_7, vl_3_7, vl_4_7, vl_5_7, vl_6_7]
      exact ⟨fun _ => this, fun _ => ⟨fun _ => this, fun _ => ⟨fun _ => this, fun z => absurd z hn⟩⟩⟩
    · have n27 : N.2.2.1 27 = M.2.2.1 27 := hF.2.2.1 27 (by simp)
      have n19 : N.1 19 = 0 := (hF.1 19 (by simp)).trans hb
      have lc := hj.2.1.2.2.1
      obtain ⟨j1, j2, j3, j4, j5, j6⟩ := hj'
      have b := tk_400 j1
      have hP : ∀ N2 r f2 t2, Fx [14, 15, 16, 18, 19] [17] [] [] N N2 → tk N2 T f2 t2 → f' ≤ f2 → pc M (mA N2 25 (upd (N2.2.2.1 25) c r)) T lo f 0 3 := by
        intro N2 r f2 t2 hF2 ht2 hle
        have hF3 := hF2.tr (Fx.a 25 (upd (N2.2.2.1 25) c r))
        refine ⟨(hF.tr hF3).le (by simp) (by simp) (by simp) (by simp), hlow.tr (fun k hk => ?_), f2, t2, c + 1, p, l + 1, ⟨tk_fx (Fx.a 25 _) ht2 (by simp), wk_fx hF3 j2 (by simp) (by simp), (hF3.1 26 (by simp)).trans j3, j4, ?_, by omega⟩, by omega, fun _ => ⟨⟨?_, Or.inr (Or.inr (Or.inr (Or.inl ⟨rfl, ?_⟩)))⟩, Or.inl (by omega)⟩⟩
        · show N2.2.2.1 24 k = N.2.2.1 24 k ∧ upd (N2.2.2.1 25) c r k = N.2.2.1 25 k
          rw [upd_ne _ _ (by omega), hF2.2.2.1 24 (by simp), hF2.2.2.1 25 (by simp)]
          exact ⟨rfl, rfl⟩
        · show c + 1 + pE (N2.2.2.1 27) p ≤ f2
          rw [hF2.2.2.1 27 (by simp)]; omega
        · show bs (N2.2.2.1 27) p
          rw [hF2.2.2.1 27 (by simp), n27]; exact hbs
        · show sgF (N2.2.2.1 24) (upd (N2.2.2.1 25) c r) (N2.2.2.1 27) (N2.2.2.1 28) lo (c + 1) p (l + 1) 1
          exact sg_arg (sg_fx hF2 hs' (by simp)) (by rw [hF2.2.2.1 24 (by simp)]; exact hop)
      have fin : q 3 (ov S o ad N) := h 3 N ⟨hF.le (by simp) (by simp) (by simp) (by simp), hlow, f', t', c + 1, p, l + 1, ⟨j1, j2, j3, j4, j5, j6⟩, by omega, fun _ => ⟨⟨by rw [n27]; exact hbs, Or.inr (Or.inr (Or.inr (Or.inl ⟨rfl, hs'⟩)))⟩, Or.inl hl⟩⟩
      have k150 : ∀ x1 x2 : Int64, w_X12_readPart_b150 q (ov S o ad N) x1 x2 o (nI c) (ad 25) := by
        intro x1 x2
        refine ⟨ov_oK, f_number hd n19 j1 (fun r N2 hF2 hn2 => ?_) (fun r N2 f2 t2 hF2 ht2 hl2 => ?_)⟩
        · simp (disch := decide) only [oi_gI, oi_gJ, oi_gP, oi_pI, oi_pZ, oi_pJ, oi_oK, oi_aI hd, oi_aZ hd, oi_aJ hd, oi_sI hd, oi_sZ hd, oi_sJ hd, mI_1, mI_2, mJ_1, mJ_2, mJ_3, mA_1, mA_2, mA_3, mA_4, mL_1, mL_2, mL_3, mL_4, mK, Nat.reduceEqDiff, if_true, if_false, ite_true, ite_false, true_and, Nat.reduceLT, reduceIte, reduceCtorEq, cl_0, cl_1, cl_2, cl_3, cl_4, cl_5, cl_6, cl_7, cl_8, cl_9, cl_10, cl_11, cl_12, cl_13, cl_14, cl_15, vl_0_5585, vl_1_5585, vl_2_5585, vl_3_5585, vl_4_5585, vl_5_5585, vl_6_5585, vl_0_7, vl_1_7, vl_2_7, vl_3_7, vl_4_7, vl_5_7, vl_6_7]
          rw [nI_clamp (by omega)]
          exact ⟨vp_in_nI (by omega) (by omega), h 3 _ (hP N2 r f' t' (hF2.le (by simp) (by simp) (by simp) (by simp)) (tk_fx hF2 j1 (by simp)) (Nat.le_refl _))⟩
        · simp (disch := decide) only [oi_gI, oi_gJ, oi_gP, oi_pI, oi_pZ, oi_pJ, oi_oK, oi_aI hd, oi_aZ hd, oi_aJ hd, oi_sI hd, oi_sZ hd, oi_sJ hd, mI_1, mI_2, mJ_1, mJ_2, mJ_3, mA_1, mA_2, mA_3, mA_4, mL_1, mL_2, mL_3, mL_4, mK, Nat.reduceEqDiff, if_true, if_false, ite_true, ite_false, true_and, Nat.reduceLT, reduceIte, reduceCtorEq, cl_0, cl_1, cl_2, cl_3, cl_4, cl_5, cl_6, cl_7, cl_8, cl_9, cl_10, cl_11, cl_12, cl_13, cl_14, cl_15, vl_0_5585, vl_1_5585, vl_2_5585, vl_3_5585, vl_4_5585, vl_5_5585, vl_6_5585, vl_0_7, vl_1_7, vl_2_7, vl_3_7, vl_4_7, vl_5_7, vl_6_7]
          rw [nI_clamp (by omega)]
          exact ⟨vp_in_nI (by omega) (by omega), h 3 _ (hP N2 r f2 t2 (hF2.le (by simp) (by simp) (by simp) (by simp)) ht2 (by omega))⟩
      simp (disch := decide) only [oi_gI, oi_gJ, oi_gP, oi_pI, oi_pZ, oi_pJ, oi_oK, oi_aI hd, oi_aZ hd, oi_aJ hd, oi_sI hd, oi_sZ hd, oi_sJ hd, mI_1, mI_2, mJ_1, mJ_2, mJ_3, mA_1, mA_2, mA_3, mA_4, mL_1, mL_2, mL_3, mL_4, mK, Nat.reduceEqDiff, if_true, if_false, ite_true, ite_false, true_and, Nat.reduceLT, reduceIte, reduceCtorEq, cl_0, cl_1, cl_2, cl_3, cl_4, cl_5, cl_6, cl_7, cl_8, cl_9, cl_10, cl_11, cl_12, cl_13, cl_14, cl_15, vl_0_5585, vl_1_5585, vl_2_5585, vl_3_5585, vl_4_5585, vl_5_5585, vl_6_5585, vl_0_7, vl_1_7, vl_2_7, vl_3_7, vl_4_7, vl_5_7, vl_6_7]
      rw [n19, j2.1]
      refine ⟨fun _ => fin, fun _ => ⟨fun _ => fin, fun _ => ⟨fun z => absurd rfl z, fun _ y ey => ?_⟩⟩⟩
      rw [nI_s1 (by omega), show c + 1 - 1 = c from rfl] at ey
      rw [ey]
      exact ⟨fun _ => k150 _ _, fun _ => k150 _ _⟩
  have k35 : ∀ its : Int32, (its = -1 ∨ (¬ M.1 16 = 0 ∧ rg its 1 9)) → w_X12_readPart_b35 q (ov S o ad M) o its := by
    intro its hi
    have k86 : ∀ v2 x v : Int32, (¬ v = 0 → ¬ M.1 16 = 0 ∧ rg x 0 9) → w_X12_readPart_b86 q (ov S o ad M) o its v2 x v o := by
      intro v2 x v hv
      unfold w_X12_readPart_b86
      simp (disch := decide) only [oi_gI, oi_gJ, oi_gP, oi_pI, oi_pZ, oi_pJ, oi_oK, oi_aI hd, oi_aZ hd, oi_aJ hd, oi_sI hd, oi_sZ hd, oi_sJ hd, mI_1, mI_2, mJ_1, mJ_2, mJ_3, mA_1, mA_2, mA_3, mA_4, mL_1, mL_2, mL_3, mL_4, mK, Nat.reduceEqDiff, if_true, if_false, ite_true, ite_false, true_and, Nat.reduceLT, reduceIte, reduceCtorEq, cl_0, cl_1, cl_2, cl_3, cl_4, cl_5, cl_6, cl_7, cl_8, cl_9, cl_10, cl_11, cl_12, cl_13, cl_14, cl_15, vl_0_5585, vl_1_5585, vl_2_5585, vl_3_5585, vl_4_5585, vl_5_5585, vl_6_5585, vl_0_7, vl_1_7, vl_2_7, vl_3_7, vl_4_7, vl_5_7, vl_6_7]
      exact ⟨fun _ => k99 _ _ _ _ hv, fun _ => k99 _ _ _ _ hv⟩
    have k76 : ∀ v2 v : Int32, (¬ v = 0 → ¬ M.1 16 = 0) → w_X12_readPart_b76 q (ov S o ad M) o its v2 v o := by
      intro v2 v hv
      unfold w_X12_readPart_b76
      refine ⟨fun c1 => k86 _ _ _ (fun z => ⟨hv z, ?_⟩), fun _ => k86 _ _ _ (fun z => ⟨hv z, by decide, by decide⟩)⟩
      rcases hi with e | e
      · exact absurd e c1
      · exact ⟨by have := e.2.1; omega, e.2.2⟩
    have k60 : ∀ g : Int32, (¬ g = 0 → ¬ M.1 16 = 0) → w_X12_readPart_b60 q (ov S o ad M) o its g := by
      intro g hg
      unfold w_X12_readPart_b60 w_X12_readPart_b71
      refine ⟨fun c1 => k76 _ _ (fun _ => ?_), fun _ => ⟨fun _ => k76 _ _ (fun z => absurd rfl z), fun c2 => k76 _ _ (fun _ => hg c2)⟩⟩
      rcases hi with e | e
      · exact absurd e c1
      · exact e.1
    unfold w_X12_readPart_b35 w_X12_readPart_b59
    simp (disch := decide) only [oi_gI, oi_gJ, oi_gP, oi_pI, oi_pZ, oi_pJ, oi_oK, oi_aI hd, oi_aZ hd, oi_aJ hd, oi_sI hd, oi_sZ hd, oi_sJ hd, mI_1, mI_2, mJ_1, mJ_2, mJ_3, mA_1, mA_2, mA_3, mA_4, mL_1, mL_2, mL_3, mL_4, mK, Nat.reduceEqDiff, if_true, if_false, ite_true, ite_false, true_and, Nat.reduceLT, reduceIte, reduceCtorEq, cl_0, cl_1, cl_2, cl_3, cl_4, cl_5, cl_6, cl_7, cl_8, cl_9, cl_10, cl_11, cl_12, cl_13, cl_14, cl_15, vl_0_5585, vl_1_5585, vl_2_5585, vl_3_5585, vl_4_5585, vl_5_5585, vl_6_5585, vl_0_7, vl_1_7, vl_2_7, vl_3_7, vl_4_7, vl_5_7, vl_6_7]
    exact ⟨fun _ => k60 0 (fun z => absurd rfl z), fun c1 => ⟨fun _ => k60 0 (fun z => absurd rfl z), fun _ => k60 1 (fun _ => by rw [c1]; decide)⟩⟩
  refine ⟨ov_oK, s_isSign hd (fun h16 => ⟨fun z => absurd z (by decide), fun _ => ⟨ov_oK, f_openBracket hd hb hj hs hbs h16 (Or.inl ⟨rfl, rfl⟩) (fun N hp => h 1 N hp)⟩⟩) ⟨fun _ => ?_, fun z => absurd rfl z⟩⟩
  simp (disch := decide) only [oi_gI, oi_gJ, oi_gP, oi_pI, oi_pZ, oi_pJ, oi_oK, oi_aI hd, oi_aZ hd, oi_aJ hd, oi_sI hd, oi_sZ hd, oi_sJ hd, mI_1, mI_2, mJ_1, mJ_2, mJ_3, mA_1, mA_2, mA_3, mA_4, mL_1, mL_2, mL_3, mL_4, mK, Nat.reduceEqDiff, if_true, if_false, ite_true, ite_false, true_and, Nat.reduceLT, reduceIte, reduceCtorEq, cl_0, cl_1, cl_2, cl_3, cl_4, cl_5, cl_6, cl_7, cl_8, cl_9, cl_10, cl_11, cl_12, cl_13, cl_14, cl_15, vl_0_5585, vl_1_5585, vl_2_5585, vl_3_5585, vl_4_5585, vl_5_5585, vl_6_5585, vl_0_7, vl_1_7, vl_2_7, vl_3_7, vl_4_7, vl_5_7, vl_6_7]
  exact ⟨fun _ => s_partAt hd k35, fun _ => s_orderPartAt hd k35⟩
theorem f_readPlain (hd : mD o ad) {q : Int32 → hS → Prop} {T lo f t c p l : Nat} (hb : M.1 19 = 0) (hj : pj M T lo f t c p l) (hs : sg M lo c p l 0) (hbs : bs (M.2.2.1 27) p) (hB : pB (M.2.2.1 27) p ≠ 32) (h : ∀ r N, pc M N T lo f 0 r → q r (ov S o ad N)) : w_X12_readPlain q (ov S o ad M) o := by
  refine ⟨ov_oK, s_isWord hd (fun h16 => ⟨fun z => absurd z (by decide), fun _ => ⟨ov_oK, ?_⟩⟩) ⟨fun _ => ⟨ov_oK, s_isSign hd (fun h16 => ⟨fun z => absurd z (by decide), fun _ => ⟨ov_oK, f_openBracket hd hb hj hs hbs h16 (Or.inr ⟨rfl, rfl, hB⟩) (fun N hp => h 0 N hp)⟩⟩) ⟨fun _ => ⟨ov_oK, f_readPart hd hb hj hs hbs h⟩, fun z => absurd rfl z⟩⟩, fun z => absurd rfl z⟩⟩
  obtain ⟨h1, h2, h3, h4, h5, h6⟩ := hj
  have b := tk_400 h1
  have bf := b.2.2 h16
  have hna : ¬ ao 28 := by unfold ao; decide
  have e28 : (28 : Int32).toInt = 28 := by decide
  obtain ⟨e13, e14, e15, hT, l1, l2, l3⟩ := h1
  have ft : f < t := by
    rcases l3 with e | e
    · exact absurd e h16
    · exact e
  refine f_push hd h2.2.1 (by omega) ⟨ov_oK, f_next hd (M := mP M p 28 0) (T := T) (t := t) ((mP_fx.1 13 (by simp)).trans e13) hT ((mP_fx.1 15 (by simp)).trans e15) l2 (fun N f' t' hF ht hl => h 0 N ?_)⟩
  have hF3 := (mP_fx (N := M) (p := p) (x := 28) (y := 0)).tr hF
  have n27 : N.2.2.1 27 = upd (M.2.2.1 27) p 28 := (hF.2.2.1 27 (by simp)).trans mP_27
  refine ⟨hF3.le (by simp) (by simp) (by simp) (by simp), lowEq.fx hF3 (by simp) (by simp), f', t', c, p + 1, l, ⟨ht, wk_fx hF (wk_mP h2 ⟨by decide, by decide⟩ (fun z => absurd z hna)) (by simp) (by simp), (hF3.1 26 (by simp)).trans h3, h4, ?_, by omega⟩, by omega, fun _ => ⟨⟨?_, Or.inl ⟨rfl, sg_fx hF (sg_mP hs hna (by rw [e28]; rfl)) (by simp), ?_⟩⟩, Or.inl (by omega)⟩⟩
  · rw [n27, pE_push, e28, if_pos (by omega)]; omega
  · rw [n27]; exact bs_push hbs (fun _ => hB)
  · rw [n27, pB_push, e28, if_neg (by omega)]; exact hB
end REF24
