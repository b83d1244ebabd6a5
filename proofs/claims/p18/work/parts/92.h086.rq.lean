/-! THE REFERENCE'S ORDERS, EXACTLY: WHAT IS BAD STAYS BAD; A SUM IS READ -/
def acM (M : mS) : Prop := ∀ k, (h : k < acW.length) → M.2.2.2 51 k = jN (wL (acW[k]).1 : Nat)
/-- a part's marks at i: from, to; its code lies there -/
def mkP (out : List (Nat × Nat)) (M : mS) (i : Nat) (a : Option pA) : Prop := ∃ b, M.2.2.1 52 i = nI b ∧ M.2.2.1 52 (i + 1) = nI (b + (oR' a b).length) ∧ b + (oR' a b).length ≤ out.length ∧ ∀ t, t < (oR' a b).length → out[b + t]? = (oR' a b)[t]?
def clR (out : List (Nat × Nat)) (M : mS) (j : Nat) (c : pOr) : Prop := M.2.2.1 52 (10 * j) = nI c.1 ∧ mkP out M (10 * j + 1) c.2.1.1 ∧ mkP out M (10 * j + 3) c.2.1.2.1 ∧ mkP out M (10 * j + 5) c.2.1.2.2 ∧ mkP out M (10 * j + 7) c.2.2.2 ∧ M.2.2.1 52 (10 * j + 9) = nI c.2.2.1
theorem mkP.to {out l : List (Nat × Nat)} {M N : mS} {i : Nat} {a : Option pA} (h : mkP out M i a) (e1 : N.2.2.1 52 i = M.2.2.1 52 i) (e2 : N.2.2.1 52 (i + 1) = M.2.2.1 52 (i + 1)) : mkP (out ++ l) N i a := by
  obtain ⟨b, h1, h2, h3, h4⟩ := h
  refine ⟨b, e1.trans h1, e2.trans h2, by rw [List.length_append]; omega, fun t ht => ?_⟩
  rw [List.getElem?_append_left (by omega)]
  exact h4 t ht
theorem mkP.new {out l : List (Nat × Nat)} {M : mS} {i : Nat} {a : Option pA} (h1 : M.2.2.1 52 i = nI out.length) (h2 : M.2.2.1 52 (i + 1) = nI (out ++ oR' a out.length).length) : mkP (out ++ oR' a out.length ++ l) M i a := by
  refine ⟨out.length, h1, by rw [h2, List.length_append], by rw [List.length_append, List.length_append]; omega, fun t ht => ?_⟩
  rw [List.append_assoc, List.getElem?_append_right (by omega), Nat.add_sub_cancel_left, List.getElem?_append_left ht]
theorem mkP.non {out : List (Nat × Nat)} {M : mS} {i b : Nat} (h1 : M.2.2.1 52 i = nI b) (h2 : M.2.2.1 52 (i + 1) = nI b) (hb : b ≤ out.length) : mkP out M i none := ⟨b, h1, h2, hb, fun t ht => absurd ht (Nat.not_lt_zero _)⟩
section RQ
variable {S : hS} {o : Nat} {ad : Nat → Nat} {M : mS} {G : pG} {p k : Nat}
theorem x_readSumB (hd : mD o ad) {q : hS → Prop} {i f : Nat} (hi : i + 1 < 120) (hR : RBo G M f) (h : ∀ N, OF M N → RBo G N f → q (ov S o ad N)) : w_X12_readSum q (ov S o ad M) o (nI i) := by
  unfold w_X12_readSum w_X12_readSum_b22
  simp (disch := decide) only [oi_gI, oi_gJ, oi_gP, oi_pI, oi_pZ, oi_pJ, oi_oK, oi_aI hd, oi_aZ hd, oi_aJ hd, oi_sI hd, oi_sZ hd, oi_sJ hd, mI_1, mI_2, mJ_1, mJ_2, mJ_3, mA_1, mA_2, mA_3, mA_4, mL_1, mL_2, mL_3, mL_4, mK, Nat.reduceEqDiff, if_true, if_false, ite_true, ite_false, true_and, Nat.reduceLT, reduceIte, reduceCtorEq, cl_0, cl_1, cl_2, cl_3, cl_4, cl_5, cl_6, cl_7, cl_8, cl_9, cl_10, cl_11, cl_12, cl_13, cl_14, cl_15, vl_0_5585, vl_1_5585, vl_2_5585, vl_3_5585, vl_4_5585, vl_5_5585, vl_6_5585, vl_0_7, vl_1_7, vl_2_7, vl_3_7, vl_4_7, vl_5_7, vl_6_7, mA_mA]
  rw [hR.1, nI_1, nI_clamp (by omega), nI_clamp (by omega)]
  exact ⟨vp_in_nI (by omega) (by omega), fun _ => ⟨vp_in_nI (by omega) (by omega), h _ ((Fx.a 52 _).le (by simp) (by simp) (by simp) (by simp)) (RBo_fx (Fx.a 52 _) hR (by simp))⟩, fun z => absurd z (by decide)⟩
theorem x_behindB (hd : mD o ad) {q : hS → Prop} {i f : Nat} {v : Int64} (hi : i + 1 < 120) (hR : RBo G M f) (h : ∀ N, OF M N → RBo G N f → q (ov S o ad N)) : w_X12_behind q (ov S o ad M) o v (nI i) := by
  unfold w_X12_behind w_X12_behind_b16
  simp (disch := decide) only [oi_gI, oi_gJ, oi_gP, oi_pI, oi_pZ, oi_pJ, oi_oK, oi_aI hd, oi_aZ hd, oi_aJ hd, oi_sI hd, oi_sZ hd, oi_sJ hd, mI_1, mI_2, mJ_1, mJ_2, mJ_3, mA_1, mA_2, mA_3, mA_4, mL_1, mL_2, mL_3, mL_4, mK, Nat.reduceEqDiff, if_true, if_false, ite_true, ite_false, true_and, Nat.reduceLT, reduceIte, reduceCtorEq, cl_0, cl_1, cl_2, cl_3, cl_4, cl_5, cl_6, cl_7, cl_8, cl_9, cl_10, cl_11, cl_12, cl_13, cl_14, cl_15, vl_0_5585, vl_1_5585, vl_2_5585, vl_3_5585, vl_4_5585, vl_5_5585, vl_6_5585, vl_0_7, vl_1_7, vl_2_7, vl_3_7, vl_4_7, vl_5_7, vl_6_7]
  rw [hR.1]
  exact ⟨fun _ => x_readSumB hd hi hR h, fun z => absurd z (by decide)⟩
theorem x_b251b (hd : mD o ad) {q : hS → Prop} {n f : Nat} (hn : n < 12) (hR : RBo G M f) (h : ∀ N, OF M N → RBo G N f → q (ov S o ad N)) : w_X12_readOrder_b251 q (ov S o ad M) o (nI (10 * n)) := by
  unfold w_X12_readOrder_b251
  simp (disch := decide) only [oi_gI, oi_gJ, oi_gP, oi_pI, oi_pZ, oi_pJ, oi_oK, oi_aI hd, oi_aZ hd, oi_aJ hd, oi_sI hd, oi_sZ hd, oi_sJ hd, mI_1, mI_2, mJ_1, mJ_2, mJ_3, mA_1, mA_2, mA_3, mA_4, mL_1, mL_2, mL_3, mL_4, mK, Nat.reduceEqDiff, if_true, if_false, ite_true, ite_false, true_and, Nat.reduceLT, reduceIte, reduceCtorEq, cl_0, cl_1, cl_2, cl_3, cl_4, cl_5, cl_6, cl_7, cl_8, cl_9, cl_10, cl_11, cl_12, cl_13, cl_14, cl_15, vl_0_5585, vl_1_5585, vl_2_5585, vl_3_5585, vl_4_5585, vl_5_5585, vl_6_5585, vl_0_7, vl_1_7, vl_2_7, vl_3_7, vl_4_7, vl_5_7, vl_6_7]
  rw [show nI (10 * n) + 7 + 1 = nI (10 * n + 8) from by rw [lit_nI 7, nIadd, nI_1], nI_clamp (by omega)]
  exact ⟨vp_in_nI (by omega) (by omega), h _ ((Fx.a 52 _).le (by simp) (by simp) (by simp) (by simp)) (RBo_fx (Fx.a 52 _) hR (by simp))⟩
theorem x_b212b (hd : mD o ad) {q : hS → Prop} {n f : Nat} (hn : n < 12) (hR : RBo G M f) (h : ∀ N, OF M N → RBo G N f → q (ov S o ad N)) : w_X12_readOrder_b212 q (ov S o ad M) o (nI (10 * n)) := by
  unfold w_X12_readOrder_b212
  simp (disch := decide) only [oi_gI, oi_gJ, oi_gP, oi_pI, oi_pZ, oi_pJ, oi_oK, oi_aI hd, oi_aZ hd, oi_aJ hd, oi_sI hd, oi_sZ hd, oi_sJ hd, mI_1, mI_2, mJ_1, mJ_2, mJ_3, mA_1, mA_2, mA_3, mA_4, mL_1, mL_2, mL_3, mL_4, mK, Nat.reduceEqDiff, if_true, if_false, ite_true, ite_false, true_and, Nat.reduceLT, reduceIte, reduceCtorEq, cl_0, cl_1, cl_2, cl_3, cl_4, cl_5, cl_6, cl_7, cl_8, cl_9, cl_10, cl_11, cl_12, cl_13, cl_14, cl_15, vl_0_5585, vl_1_5585, vl_2_5585, vl_3_5585, vl_4_5585, vl_5_5585, vl_6_5585, vl_0_7, vl_1_7, vl_2_7, vl_3_7, vl_4_7, vl_5_7, vl_6_7]
  rw [show nI (10 * n) + 7 = nI (10 * n + 7) from nIadd _ _, nI_clamp (by omega), hR.1]
  exact ⟨vp_in_nI (by omega) (by omega), fun _ => x_b251b hd hn (RBo_fx (Fx.a 52 _) hR (by simp)) (fun N hF hN => h N (OF.tr ((Fx.a 52 _).le (by simp) (by simp) (by simp) (by simp)) hF) hN), fun z => absurd z (by decide)⟩
theorem x_b164b (hd : mD o ad) {q : hS → Prop} {n f : Nat} (hn : n < 12) (hR : RBo G M f) (h : ∀ N, OF M N → RBo G N f → q (ov S o ad N)) : w_X12_readOrder_b164 q (ov S o ad M) o (nI (10 * n)) := by
  unfold w_X12_readOrder_b164
  simp (disch := decide) only [oi_gI, oi_gJ, oi_gP, oi_pI, oi_pZ, oi_pJ, oi_oK, oi_aI hd, oi_aZ hd, oi_aJ hd, oi_sI hd, oi_sZ hd, oi_sJ hd, mI_1, mI_2, mJ_1, mJ_2, mJ_3, mA_1, mA_2, mA_3, mA_4, mL_1, mL_2, mL_3, mL_4, mK, Nat.reduceEqDiff, if_true, if_false, ite_true, ite_false, true_and, Nat.reduceLT, reduceIte, reduceCtorEq, cl_0, cl_1, cl_2, cl_3, cl_4, cl_5, cl_6, cl_7, cl_8, cl_9, cl_10, cl_11, cl_12, cl_13, cl_14, cl_15, vl_0_5585, vl_1_5585, vl_2_5585, vl_3_5585, vl_4_5585, vl_5_5585, vl_6_5585, vl_0_7, vl_1_7, vl_2_7, vl_3_7, vl_4_7, vl_5_7, vl_6_7]
  rw [show nI (10 * n) + 9 = nI (10 * n + 9) from nIadd _ _, nI_clamp (by omega), hR.1]
  exact ⟨vp_in_nI (by omega) (by omega), fun _ => x_b212b hd hn (RBo_fx (Fx.a 52 _) hR (by simp)) (fun N hF hN => h N (OF.tr ((Fx.a 52 _).le (by simp) (by simp) (by simp) (by simp)) hF) hN), fun z => absurd z (by decide)⟩
theorem x_b139b (hd : mD o ad) {q : hS → Prop} {n f : Nat} {v1 : Int32} (hn : n < 12) (hR : RBo G M f) (h : ∀ N, OF M N → RBo G N f → q (ov S o ad N)) : w_X12_readOrder_b139 q (ov S o ad M) o v1 (nI (10 * n)) := by
  unfold w_X12_readOrder_b139
  refine ⟨fun _ => x_b164b hd hn hR h, fun _ => ⟨ov_oK, ?_⟩⟩
  rw [show nI (10 * n) + 3 = nI (10 * n + 3) from nIadd _ _, show nI (10 * n) + 5 = nI (10 * n + 5) from nIadd _ _]
  exact x_behindB hd (by omega) hR (fun N1 h1 r1 => ⟨ov_oK, x_behindB hd (by omega) r1 (fun N2 h2 r2 => x_b164b hd hn r2 (fun N3 h3 r3 => h N3 (OF.tr (OF.tr h1 h2) h3) r3))⟩)
theorem x_b125b (hd : mD o ad) {q : hS → Prop} {n f : Nat} {v1 : Int32} (hn : n < 12) (hR : RBo G M f) (h : ∀ N, OF M N → RBo G N f → q (ov S o ad N)) : w_X12_readOrder_b125 q (ov S o ad M) o v1 (nI (10 * n)) := by
  unfold w_X12_readOrder_b125
  refine ⟨fun _ => x_b139b hd hn hR h, fun _ => ⟨ov_oK, ?_⟩⟩
  rw [show nI (10 * n) + 3 = nI (10 * n + 3) from nIadd _ _]
  exact x_behindB hd (by omega) hR (fun N1 h1 r1 => x_b139b hd hn r1 (fun N2 h2 r2 => h N2 (OF.tr h1 h2) r2))
/-- a sum is read, its marks at i -/
theorem x_readSum (hd : mD o ad) {q : hS → Prop} {i : Nat} {out : List (Nat × Nat)} (hi : i + 1 < 120) (hR : R0 G M p k out) (e20 : M.1 20 = 1) (h1 : ∀ r a, prS G orW 8 p k = (r, some a) → ∀ N, OF M N → R0 G N r.1 r.2 (out ++ a.2.1 out.length) → N.1 21 = M.1 21 → N.1 20 = 1 → N.2.2.1 52 = upd (upd (M.2.2.1 52) i (nI out.length)) (i + 1) (nI (out ++ a.2.1 out.length).length) → q (ov S o ad N)) (h0 : ∀ r, prS G orW 8 p k = (r, none) → ∀ N, OF M N → RBo G N r.1 → q (ov S o ad N)) : w_X12_readSum q (ov S o ad M) o (nI i) := by
  unfold w_X12_readSum
  simp (disch := decide) only [oi_gI, oi_gJ, oi_gP, oi_pI, oi_pZ, oi_pJ, oi_oK, oi_aI hd, oi_aZ hd, oi_aJ hd, oi_sI hd, oi_sZ hd, oi_sJ hd, mI_1, mI_2, mJ_1, mJ_2, mJ_3, mA_1, mA_2, mA_3, mA_4, mL_1, mL_2, mL_3, mL_4, mK, Nat.reduceEqDiff, if_true, if_false, ite_true, ite_false, true_and, Nat.reduceLT, reduceIte, reduceCtorEq, cl_0, cl_1, cl_2, cl_3, cl_4, cl_5, cl_6, cl_7, cl_8, cl_9, cl_10, cl_11, cl_12, cl_13, cl_14, cl_15, vl_0_5585, vl_1_5585, vl_2_5585, vl_3_5585, vl_4_5585, vl_5_5585, vl_6_5585, vl_0_7, vl_1_7, vl_2_7, vl_3_7, vl_4_7, vl_5_7, vl_6_7]
  rw [hR.2.2.2.1.1, hR.1, nI_clamp (by omega)]
  refine ⟨vp_in_nI (by omega) (by omega), fun z => absurd rfl z, fun _ => ?_⟩
  have hF0 : Fx [] [] [52] [] M (mA M 52 (upd (M.2.2.1 52) i (nI out.length))) := Fx.a 52 _
  have e52 : (mA M 52 (upd (M.2.2.1 52) i (nI out.length))).2.2.1 52 = upd (M.2.2.1 52) i (nI out.length) := by simp [mA_3]
  generalize mA M 52 (upd (M.2.2.1 52) i (nI out.length)) = N0 at hF0 e52 ⊢
  have hR0 := R0_fx hF0 hR (by simp)
  have hL0 : OF M N0 := hF0.le (by simp) (by simp) (by simp) (by simp)
  have e20' : N0.1 20 = 1 := (hF0.1 20 (by simp)).trans e20
  have hW : wdsO (N0.1 20) = orW := by rw [e20']; exact if_neg (by decide)
  refine x_sumE hd (wl := 26) (by rw [hW]; exact okW_ord) hR0 (fun r a e N hF hN => ?_) (fun r e N hF hB => ?_)
  · rw [hW] at e
    unfold w_X12_readSum_b22
    simp (disch := decide) only [oi_gI, oi_gJ, oi_gP, oi_pI, oi_pZ, oi_pJ, oi_oK, oi_aI hd, oi_aZ hd, oi_aJ hd, oi_sI hd, oi_sZ hd, oi_sJ hd, mI_1, mI_2, mJ_1, mJ_2, mJ_3, mA_1, mA_2, mA_3, mA_4, mL_1, mL_2, mL_3, mL_4, mK, Nat.reduceEqDiff, if_true, if_false, ite_true, ite_false, true_and, Nat.reduceLT, reduceIte, reduceCtorEq, cl_0, cl_1, cl_2, cl_3, cl_4, cl_5, cl_6, cl_7, cl_8, cl_9, cl_10, cl_11, cl_12, cl_13, cl_14, cl_15, vl_0_5585, vl_1_5585, vl_2_5585, vl_3_5585, vl_4_5585, vl_5_5585, vl_6_5585, vl_0_7, vl_1_7, vl_2_7, vl_3_7, vl_4_7, vl_5_7, vl_6_7]
    rw [nI_1, hN.2.2.2.1.1, nI_clamp (by omega)]
    refine ⟨vp_in_nI (by omega) (by omega), ?_⟩
    have hF2 : Fx [] [] [52] [] N (mA N 52 (upd (N.2.2.1 52) (i + 1) (nI (out ++ a.2.1 out.length).length))) := Fx.a 52 _
    refine h1 r a e _ (OF.tr (OF.tr hL0 (PF.o hF)) (hF2.le (by simp) (by simp) (by simp) (by simp))) (R0_fx hF2 hN (by simp)) ?_ ?_ ?_
    · exact ((hF2.1 21 (by simp)).trans (hF.1 21 (by simp))).trans (hF0.1 21 (by simp))
    · exact ((hF2.1 20 (by simp)).trans (hF.1 20 (by simp))).trans e20'
    · rw [show (mA N 52 (upd (N.2.2.1 52) (i + 1) (nI (out ++ a.2.1 out.length).length))).2.2.1 52 = upd (N.2.2.1 52) (i + 1) (nI (out ++ a.2.1 out.length).length) by simp [mA_3], hF.2.2.1 52 (by simp), e52]
  · rw [hW] at e
    unfold w_X12_readSum_b22
    simp (disch := decide) only [oi_gI, oi_gJ, oi_gP, oi_pI, oi_pZ, oi_pJ, oi_oK, oi_aI hd, oi_aZ hd, oi_aJ hd, oi_sI hd, oi_sZ hd, oi_sJ hd, mI_1, mI_2, mJ_1, mJ_2, mJ_3, mA_1, mA_2, mA_3, mA_4, mL_1, mL_2, mL_3, mL_4, mK, Nat.reduceEqDiff, if_true, if_false, ite_true, ite_false, true_and, Nat.reduceLT, reduceIte, reduceCtorEq, cl_0, cl_1, cl_2, cl_3, cl_4, cl_5, cl_6, cl_7, cl_8, cl_9, cl_10, cl_11, cl_12, cl_13, cl_14, cl_15, vl_0_5585, vl_1_5585, vl_2_5585, vl_3_5585, vl_4_5585, vl_5_5585, vl_6_5585, vl_0_7, vl_1_7, vl_2_7, vl_3_7, vl_4_7, vl_5_7, vl_6_7]
    rw [nI_1, nI_clamp (by omega)]
    exact ⟨vp_in_nI (by omega) (by omega), h0 r e _ (OF.tr (OF.tr hL0 (PF.o hF)) ((Fx.a 52 _).le (by simp) (by simp) (by simp) (by simp))) (RBo_fx (Fx.a 52 _) (RB.o hB) (by simp))⟩
/-- a word, then a sum -/
theorem x_behind (hd : mD o ad) {q : hS → Prop} {i : Nat} {w : List Nat} {v : Int64} {out : List (Nat × Nat)} (hi : i + 1 < 120) (hw : ltr w = true) (hv : v = jN (wL w : Nat)) (hR : R0 G M p k out) (e20 : M.1 20 = 1) (h1 : ∀ r a, prNx G w p k = (r, some a) → ∀ N, OF M N → R0 G N r.1 r.2 (out ++ oR' a out.length) → N.1 21 = M.1 21 → N.1 20 = 1 → N.2.2.1 52 = upd (upd (M.2.2.1 52) i (nI out.length)) (i + 1) (nI (out ++ oR' a out.length).length) → q (ov S o ad N)) (h0 : ∀ r, prNx G w p k = (r, none) → ∀ N, OF M N → RBo G N r.1 → q (ov S o ad N)) : w_X12_behind q (ov S o ad M) o v (nI i) := by
  have hb := hR.2.2.1.2.2.2
  unfold w_X12_behind
  simp (disch := decide) only [oi_gI, oi_gJ, oi_gP, oi_pI, oi_pZ, oi_pJ, oi_oK, oi_aI hd, oi_aZ hd, oi_aJ hd, oi_sI hd, oi_sZ hd, oi_sJ hd, mI_1, mI_2, mJ_1, mJ_2, mJ_3, mA_1, mA_2, mA_3, mA_4, mL_1, mL_2, mL_3, mL_4, mK, Nat.reduceEqDiff, if_true, if_false, ite_true, ite_false, true_and, Nat.reduceLT, reduceIte, reduceCtorEq, cl_0, cl_1, cl_2, cl_3, cl_4, cl_5, cl_6, cl_7, cl_8, cl_9, cl_10, cl_11, cl_12, cl_13, cl_14, cl_15, vl_0_5585, vl_1_5585, vl_2_5585, vl_3_5585, vl_4_5585, vl_5_5585, vl_6_5585, vl_0_7, vl_1_7, vl_2_7, vl_3_7, vl_4_7, vl_5_7, vl_6_7]
  rw [hR.1]
  refine ⟨fun z => absurd rfl z, fun _ => ?_⟩
  unfold prNx at h1 h0
  obtain ⟨s1, s2, s3, s4, s5, s6, s7, s8, s9⟩ := id hR
  refine x_isWord hd hb hR.2.1 hw hv (fun hs => ⟨ov_oK, x_must hd s1 s3 s7 s2 (fun z => absurd z (by decide)) (fun _ N1 hF1 ht => ?_)⟩) (fun hs => ⟨ov_oK, x_must hd s1 s3 s7 s2 (fun _ N1 hF1 b19 b18 => ?_) (fun z => absurd rfl z)⟩)
  · rw [if_pos hs] at h1 h0
    have hk := isWd_k hs
    have t1 := tE_gt (G := G) (p := p) (by omega)
    have t2 := tS_ge G p
    have t3 := tE_le s7
    have hL1 : OF M N1 := hF1.le (by simp) (by simp) (by simp) (by simp)
    have hR1 : R0 G N1 (tE G p) k out := ⟨(hF1.1 19 (by simp)).trans s1, ht, tpM_fx hF1 s3 (by simp), ⟨(hF1.1 23 (by simp)).trans s4.1, by rw [hF1.2.2.1 24 (by simp), hF1.2.2.1 25 (by simp)]; exact s4.2⟩, (hF1.1 26 (by simp)).trans s5, wdsG_fx hF1 s6 (by simp), t3, by omega, s9⟩
    unfold w_X12_behind_b16
    refine ⟨ov_oK, x_readSum hd hi hR1 ((hF1.1 20 (by simp)).trans e20) (fun r a e N hF hN n21 n20 n52 => h1 r (some a) (by rw [e]; rfl) N (OF.tr hL1 hF) hN (n21.trans (hF1.1 21 (by simp))) n20 (by rw [n52, hF1.2.2.1 52 (by simp)]; rfl)) (fun r e N hF hB => h0 r (by rw [e]; rfl) N (OF.tr hL1 hF) hB)⟩
  · rw [if_neg hs] at h0
    have hB : RBo G N1 p := ⟨b19, b18, tpM_fx hF1 s3 (by simp), wdsM_fx hF1 s6.1 (by simp)⟩
    unfold w_X12_behind_b16
    exact ⟨ov_oK, x_readSumB hd hi hB (fun N hF hN => h0 (p, k) rfl N (OF.tr (hF1.le (by simp) (by simp) (by simp) (by simp)) hF) hN)⟩
end RQ
