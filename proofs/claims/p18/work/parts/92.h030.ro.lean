/-! THE REFERENCE'S law(), EXACTLY -/
section RL0
variable {S : hS} {o : Nat} {ad : Nat → Nat} {M : mS} {G : pG}
theorem x_beginText (hd : mD o ad) {q : hS → Prop} {v : Int32} (hv : v = 0 ∨ v = 1) (hG : tpM G M) (hw : wdsM M) (h : ∀ N, Fx [14, 15, 16, 18, 19, 20, 21, 23, 26] [17] [] [] M N → R0 G N 0 0 [] → N.1 20 = v → N.1 21 = 0 → N.1 18 = -1 → q (ov S o ad N)) : w_X12_beginText q (ov S o ad M) o v := by
  unfold w_X12_beginText w_X12_begin
  simp (disch := decide) only [oi_gI, oi_gJ, oi_gP, oi_pI, oi_pZ, oi_pJ, oi_oK, oi_aI hd, oi_aZ hd, oi_aJ hd, oi_sI hd, oi_sZ hd, oi_sJ hd, mI_1, mI_2, mJ_1, mJ_2, mJ_3, mA_1, mA_2, mA_3, mA_4, mL_1, mL_2, mL_3, mL_4, mK, Nat.reduceEqDiff, if_true, if_false, ite_true, ite_false, true_and, Nat.reduceLT, reduceIte, reduceCtorEq, cl_0, cl_1, cl_2, cl_3, cl_4, cl_5, cl_6, cl_7, cl_8, cl_9, cl_10, cl_11, cl_12, cl_13, cl_14, cl_15, vl_0_5585, vl_1_5585, vl_2_5585, vl_3_5585, vl_4_5585, vl_5_5585, vl_6_5585, vl_0_7, vl_1_7, vl_2_7, vl_3_7, vl_4_7, vl_5_7, vl_6_7]
  have hF0 : Fx [15, 18, 19, 20] [] [] [] M (mI (mI (mI (mI M 20 v) 15 0) 19 0) 18 (-1)) := ((((Fx.i 20 v).tr (Fx.i 15 0)).tr (Fx.i 19 0)).tr (Fx.i 18 (-1))).le (by simp) (by simp) (by simp) (by simp)
  refine ⟨hv, by simp, x_next hd (M := mI (mI (mI (mI M 20 v) 15 0) 19 0) 18 (-1)) (p := 0) (tpM_fx hF0 hG (by simp)) (by simp [mI_1]; rfl) (Nat.zero_le _) (fun N hF ht => ?_)⟩
  simp (disch := decide) only [oi_gI, oi_gJ, oi_gP, oi_pI, oi_pZ, oi_pJ, oi_oK, oi_aI hd, oi_aZ hd, oi_aJ hd, oi_sI hd, oi_sZ hd, oi_sJ hd, mI_1, mI_2, mJ_1, mJ_2, mJ_3, mA_1, mA_2, mA_3, mA_4, mL_1, mL_2, mL_3, mL_4, mK, Nat.reduceEqDiff, if_true, if_false, ite_true, ite_false, true_and, Nat.reduceLT, reduceIte, reduceCtorEq, cl_0, cl_1, cl_2, cl_3, cl_4, cl_5, cl_6, cl_7, cl_8, cl_9, cl_10, cl_11, cl_12, cl_13, cl_14, cl_15, vl_0_5585, vl_1_5585, vl_2_5585, vl_3_5585, vl_4_5585, vl_5_5585, vl_6_5585, vl_0_7, vl_1_7, vl_2_7, vl_3_7, vl_4_7, vl_5_7, vl_6_7]
  have hF2 := ((Fx.i (M := N) 21 0).tr (Fx.i 23 0)).tr (Fx.i 26 0)
  have hF3 := (hF0.tr hF).tr hF2
  have hF4 := hF.tr hF2
  have e18 : (mI (mI (mI N 21 0) 23 0) 26 0).1 18 = -1 := by rw [hF4.1 18 (by simp)]; simp [mI_1]
  refine h _ (hF3.le (by simp) (by simp) (by simp) (by simp)) ⟨?_, tokAt_fx hF2 ht (by simp), tpM_fx hF3 hG (by simp), ⟨by simp [mI_1]; rfl, fun i hi => absurd hi (Nat.not_lt_zero _)⟩, by simp [mI_1]; rfl, ⟨wdsM_fx hF3 hw (by simp), e18⟩, Nat.zero_le _, Nat.zero_le _, by omega⟩ ?_ (by simp [mI_1]) ?_
  · rw [hF4.1 19 (by simp)]; simp [mI_1]
  · rw [hF4.1 20 (by simp)]; simp [mI_1]
  · exact e18
theorem prTx_no {α : Type} {cl : Nat → Nat → (Nat × Nat) × Option α} {n p k : Nat} {acc : List α} {q : Nat × Nat} (h : cl p k = (q, none)) : prTx G cl (n + 1) p k acc = (q, none) := by
  rw [prTx, h]
theorem prTx_so {α : Type} {cl : Nat → Nat → (Nat × Nat) × Option α} {n p k : Nat} {acc : List α} {q : Nat × Nat} {c : α} (h : cl p k = (q, some c)) : prTx G cl (n + 1) p k acc = bhd G cl n q (acc ++ [c]) := by
  rw [prTx, h]
  rfl
/-- law(): full, or a text that can't be read, or one more -/
theorem x_law (hd : mD o ad) {q : Int32 → hS → Prop} {nl : Nat} (hG : tpM G M) (hw : wdsM M) (hh : hdM M) (e3 : M.2.2.1 3 3 = nI nl) (hnl : nl ≤ 6)
    (hfull : nl = 6 → q (-5) (ov S o ad (tlM (mI (mI M 0 0) 13 0) (-5))))
    (hbad : nl < 6 → ∀ r, lawTx G = (r, none) → ∀ N, Fx [0, 13, 14, 15, 16, 18, 19, 20, 21, 23, 26, 29, 30] [17] [22, 24, 25, 27, 28] [] M N → N.1 0 = 0 → N.1 13 = 0 → N.1 20 = 0 → N.1 18 = nI (tS G r.1) → q (-6) (ov S o ad (tlM N (-6))))
    (hok : nl < 6 → ∀ r cs, lawTx G = (r, some cs) → ∀ N g, Fx [0, 13, 14, 15, 16, 18, 19, 20, 21, 23, 26, 29, 30] [17] [22, 24, 25, 27, 28] [] M N → N.1 0 = 0 → N.1 13 = 0 → N.1 20 = 0 → N.1 18 = -1 → lwR g (185 + 900 * nl) cs ∧ (rAll cs 0).length ≤ 400 → g 3 = nI (nl + 1) → (∀ i, i ≠ 3 → (i < 185 + 900 * nl ∨ 185 + 900 * nl + 900 ≤ i) → g i = M.2.2.1 3 i) → q (nI nl) (ov S o ad (tlM (mA N 3 g) (nI nl)))) : w_X12_law q (ov S o ad M) o := by
  unfold w_X12_law
  simp (disch := decide) only [oi_gI, oi_gJ, oi_gP, oi_pI, oi_pZ, oi_pJ, oi_oK, oi_aI hd, oi_aZ hd, oi_aJ hd, oi_sI hd, oi_sZ hd, oi_sJ hd, mI_1, mI_2, mJ_1, mJ_2, mJ_3, mA_1, mA_2, mA_3, mA_4, mL_1, mL_2, mL_3, mL_4, mK, Nat.reduceEqDiff, if_true, if_false, ite_true, ite_false, true_and, Nat.reduceLT, reduceIte, reduceCtorEq, cl_0, cl_1, cl_2, cl_3, cl_4, cl_5, cl_6, cl_7, cl_8, cl_9, cl_10, cl_11, cl_12, cl_13, cl_14, cl_15, vl_0_5585, vl_1_5585, vl_2_5585, vl_3_5585, vl_4_5585, vl_5_5585, vl_6_5585, vl_0_7, vl_1_7, vl_2_7, vl_3_7, vl_4_7, vl_5_7, vl_6_7]
  rw [e3, lit_nI 6, nI_eq (by omega) (by omega)]
  refine ⟨fun c => ?_, fun c => x_tell hd (by decide) (hfull c)⟩
  have c6 : nl < 6 := by omega
  have hbad := hbad c6
  have hok := hok c6
  have hF0 : Fx [0] [] [] [] M (mI M 0 0) := Fx.i 0 0
  refine x_beginText hd (M := mI M 0 0) (Or.inl rfl) (tpM_fx hF0 hG (by simp)) (wdsM_fx hF0 hw (by simp)) (fun N hF hR e20 e21 e18 => ⟨ov_oK, ?_⟩)
  have hFN := hF0.tr hF
  have z0 : N.1 0 = 0 := by rw [hF.1 0 (by simp)]; simp [mI_1]
  have hR1 : R1 G N 0 0 [] := ⟨hR, e21, by decide, fun j hj => absurd hj (Nat.not_lt_zero _), hdM_fx hFN hh (by simp), e20⟩
  -- the end: bad
  have b64 : ∀ (r : Nat × Nat) (P : mS), LF N P → (RBo G P r.1 ∨ ((∃ k out, R0 G P r.1 k out) ∧ tK G r.1 ≠ 0)) → lawTx G = (r, none) → w_X12_law_b64 q (ov S o ad P) o := by
    intro r P hP hB e
    refine x_64bad hd hB (fun Q hQ h13 h20 h18 => hbad r e Q (((hFN.tr hP).tr hQ).le (by simp) (by simp) (by simp) (by simp)) ?_ h13 h20 h18)
    rw [hQ.1 0 (by simp), hP.1 0 (by simp)]
    exact z0
  refine x_readLaw hd hR1 (fun r c hc _ P hP hRP => ⟨13, ?_⟩) (fun r hr P hP hB => ⟨1, ?_⟩)
  · have et : lawTx G = bhd G (prLaw G) 11 r ([] ++ [c]) := prTx_so hc
    refine x_law37 hd 11 P r.1 r.2 ([] ++ [c]) rfl hRP (fun r' ds e Q hQ hRQ hk => ?_) (fun r' e Q hQ hB => b64 r' Q (LF.tr hP hQ) hB (et.trans e))
    have hFQ := (hFN.tr hP).tr hQ
    refine x_64ok hd hRQ hk (by rw [hFQ.2.2.1 3 (by simp)]; exact e3) c6 (fun U g hU h13 h20 g1 g2 g3 => hok r' ds (et.trans e) U g ((hFQ.tr hU).le (by simp) (by simp) (by simp) (by simp)) ?_ h13 h20 ?_ ⟨g1, by
      have u1 := hRQ.1.2.2.1.2.1
      have u2 := hRQ.1.2.2.2.2.2.2.1
      have u3 := hRQ.1.2.2.2.2.2.2.2.1
      omega⟩ g2 (fun i i1 i2 => by rw [← hFQ.2.2.1 3 (by simp)]; exact g3 i i1 i2))
    · rw [hU.1 0 (by simp), hQ.1 0 (by simp), hP.1 0 (by simp)]
      exact z0
    · rw [hU.1 18 (by simp)]
      exact hRQ.1.2.2.2.2.2.1.2
  · have hr : prLaw G 0 0 = (r, none) := by
      rcases hr with ⟨e, -⟩ | ⟨z, -⟩
      · exact e
      · exact absurd z (by decide)
    rw [w_X12_law_b37]
    simp (disch := decide) only [oi_gI, oi_gJ, oi_gP, oi_pI, oi_pZ, oi_pJ, oi_oK, oi_aI hd, oi_aZ hd, oi_aJ hd, oi_sI hd, oi_sZ hd, oi_sJ hd, mI_1, mI_2, mJ_1, mJ_2, mJ_3, mA_1, mA_2, mA_3, mA_4, mL_1, mL_2, mL_3, mL_4, mK, Nat.reduceEqDiff, if_true, if_false, ite_true, ite_false, true_and, Nat.reduceLT, reduceIte, reduceCtorEq, cl_0, cl_1, cl_2, cl_3, cl_4, cl_5, cl_6, cl_7, cl_8, cl_9, cl_10, cl_11, cl_12, cl_13, cl_14, cl_15, vl_0_5585, vl_1_5585, vl_2_5585, vl_3_5585, vl_4_5585, vl_5_5585, vl_6_5585, vl_0_7, vl_1_7, vl_2_7, vl_3_7, vl_4_7, vl_5_7, vl_6_7]
    rw [hB.1]
    exact ⟨fun _ => b64 r P hP (Or.inl hB) (prTx_no hr), fun z => absurd z (by decide)⟩
end RL0
