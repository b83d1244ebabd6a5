/-! THE REFERENCE'S ORDERS, EXACTLY: A CLAUSE -/
theorem ac_ltr : ∀ k, (h : k < acW.length) → ltr (acW[k]).1 = true := by decide
theorem ac_k : ∀ k, (h : k < acW.length) → ∀ w ∈ acW, w.1 = (acW[k]).1 → w.2 = k := by decide
theorem wL_times : (21279923 : Int64) = jN (wL wTimes : Nat) := by decide
theorem wL_at : (52 : Int64) = jN (wL [97, 116] : Nat) := by decide
theorem wL_to : (655 : Int64) = jN (wL [116, 111] : Nat) := by decide
theorem wL_of : (486 : Int64) = jN (wL [111, 102] : Nat) := by decide
section RR
variable {S : hS} {o : Nat} {ad : Nat → Nat} {M : mS} {G : pG} {p k : Nat}
/-- a step of a clause: the rest of row 52 stays -/
def kpO (i : Nat) (M N : mS) : Prop := ∀ j, j ≠ i → j ≠ i + 1 → N.2.2.1 52 j = M.2.2.1 52 j
theorem x_or251 (hd : mD o ad) {q : hS → Prop} {n : Nat} {out : List (Nat × Nat)} (hn : n < 12) (hR : R0 G M p k out) (h : ∀ N, Fx [] [] [52] [] M N → N.2.2.1 52 = upd (M.2.2.1 52) (10 * n + 8) (nI out.length) → q (ov S o ad N)) : w_X12_readOrder_b251 q (ov S o ad M) o (nI (10 * n)) := by
  unfold w_X12_readOrder_b251
  simp (disch := decide) only [oi_gI, oi_gJ, oi_gP, oi_pI, oi_pZ, oi_pJ, oi_oK, oi_aI hd, oi_aZ hd, oi_aJ hd, oi_sI hd, oi_sZ hd, oi_sJ hd, mI_1, mI_2, mJ_1, mJ_2, mJ_3, mA_1, mA_2, mA_3, mA_4, mL_1, mL_2, mL_3, mL_4, mK, Nat.reduceEqDiff, if_true, if_false, ite_true, ite_false, true_and, Nat.reduceLT, reduceIte, reduceCtorEq, cl_0, cl_1, cl_2, cl_3, cl_4, cl_5, cl_6, cl_7, cl_8, cl_9, cl_10, cl_11, cl_12, cl_13, cl_14, cl_15, vl_0_5585, vl_1_5585, vl_2_5585, vl_3_5585, vl_4_5585, vl_5_5585, vl_6_5585, vl_0_7, vl_1_7, vl_2_7, vl_3_7, vl_4_7, vl_5_7, vl_6_7]
  rw [show nI (10 * n) + 7 + 1 = nI (10 * n + 8) from by rw [lit_nI 7, nIadd, nI_1], nI_clamp (by omega), hR.2.2.2.1.1]
  exact ⟨vp_in_nI (by omega) (by omega), h _ (Fx.a 52 _) (by simp [mA_3])⟩
/-- the test of a clause -/
theorem x_or212 (hd : mD o ad) {q : hS → Prop} {n : Nat} {out : List (Nat × Nat)} (hn : n < 12) (hR : R0 G M p k out) (e20 : M.1 20 = 1) (h1 : ∀ r t, prIf G orW p k = (r, some t) → ∀ N, OF M N → R0 G N r.1 r.2 (out ++ oR' t out.length) → N.1 21 = M.1 21 → N.1 20 = 1 → kpO (10 * n + 7) M N → mkP (out ++ oR' t out.length) N (10 * n + 7) t → q (ov S o ad N)) (h0 : ∀ r, prIf G orW p k = (r, none) → ∀ N, OF M N → RBo G N r.1 → q (ov S o ad N)) : w_X12_readOrder_b212 q (ov S o ad M) o (nI (10 * n)) := by
  have hb := hR.2.2.1.2.2.2
  unfold w_X12_readOrder_b212
  simp (disch := decide) only [oi_gI, oi_gJ, oi_gP, oi_pI, oi_pZ, oi_pJ, oi_oK, oi_aI hd, oi_aZ hd, oi_aJ hd, oi_sI hd, oi_sZ hd, oi_sJ hd, mI_1, mI_2, mJ_1, mJ_2, mJ_3, mA_1, mA_2, mA_3, mA_4, mL_1, mL_2, mL_3, mL_4, mK, Nat.reduceEqDiff, if_true, if_false, ite_true, ite_false, true_and, Nat.reduceLT, reduceIte, reduceCtorEq, cl_0, cl_1, cl_2, cl_3, cl_4, cl_5, cl_6, cl_7, cl_8, cl_9, cl_10, cl_11, cl_12, cl_13, cl_14, cl_15, vl_0_5585, vl_1_5585, vl_2_5585, vl_3_5585, vl_4_5585, vl_5_5585, vl_6_5585, vl_0_7, vl_1_7, vl_2_7, vl_3_7, vl_4_7, vl_5_7, vl_6_7]
  rw [show nI (10 * n) + 7 = nI (10 * n + 7) from nIadd _ _, hR.2.2.2.1.1, hR.1, nI_clamp (by omega)]
  refine ⟨vp_in_nI (by omega) (by omega), fun z => absurd rfl z, fun _ => ?_⟩
  have hF0 : Fx [] [] [52] [] M (mA M 52 (upd (M.2.2.1 52) (10 * n + 7) (nI out.length))) := Fx.a 52 _
  have e52 : (mA M 52 (upd (M.2.2.1 52) (10 * n + 7) (nI out.length))).2.2.1 52 = upd (M.2.2.1 52) (10 * n + 7) (nI out.length) := by simp [mA_3]
  generalize mA M 52 (upd (M.2.2.1 52) (10 * n + 7) (nI out.length)) = N0 at hF0 e52 ⊢
  have hR0 := R0_fx hF0 hR (by simp)
  have hL0 : OF M N0 := hF0.le (by simp) (by simp) (by simp) (by simp)
  have kp : ∀ {N : mS} {z : Int32}, N.2.2.1 52 = upd (N0.2.2.1 52) (10 * n + 8) z → kpO (10 * n + 7) M N := fun e j j1 j2 => by
    rw [e, upd_ne _ _ (by omega), e52, upd_ne _ _ (by omega)]
  unfold prIf at h1 h0
  refine x_isWord hd hb hR0.2.1 (s := wIf) (by decide) wL_if (fun hs => ⟨fun z => absurd z (by decide), fun _ => ⟨ov_oK, ?_⟩⟩) (fun hs => ⟨fun _ => ?_, fun z => absurd rfl z⟩)
  · rw [if_pos hs] at h1 h0
    have hk := isWd_k hs
    have t1 := tE_gt (G := G) (p := p) (by omega)
    have t2 := tS_ge G p
    obtain ⟨s1, s2, s3, s4, s5, s6, s7, s8, s9⟩ := id hR0
    have t3 := tE_le s7
    refine x_next hd s3 s2.2.1 t3 (fun N1 hF1 ht => ⟨ov_oK, ?_⟩)
    have e20' : N1.1 20 = 1 := ((hF0.tr hF1).1 20 (by simp)).trans e20
    have hW : wdsO (N1.1 20) = orW := by rw [e20']; exact if_neg (by decide)
    have hR1 : R0 G N1 (tE G p) k out := ⟨(hF1.1 19 (by simp)).trans s1, ht, tpM_fx hF1 s3 (by simp), ⟨(hF1.1 23 (by simp)).trans s4.1, by rw [hF1.2.2.1 24 (by simp), hF1.2.2.1 25 (by simp)]; exact s4.2⟩, (hF1.1 26 (by simp)).trans s5, wdsG_fx hF1 s6 (by simp), t3, by omega, s9⟩
    have hL1 : OF M N1 := OF.tr hL0 (hF1.le (by simp) (by simp) (by simp) (by simp))
    refine x_tstE hd (wl := 26) (by rw [hW]; exact okW_ord) hR1 (fun r a e N hF hN => ?_) (fun r e N hF hB => ?_)
    · rw [hW] at e
      have hL2 := OF.tr hL1 (PF.o hF)
      refine x_or251 hd hn hN (fun N2 hF2 e2 => ?_)
      have e2' : N2.2.2.1 52 = upd (N0.2.2.1 52) (10 * n + 8) (nI (out ++ a.2.1 out.length).length) := by rw [e2, hF.2.2.1 52 (by simp), hF1.2.2.1 52 (by simp)]
      refine h1 r (some a) (by rw [e]; rfl) N2 (OF.tr hL2 (hF2.le (by simp) (by simp) (by simp) (by simp))) (R0_fx hF2 hN (by simp)) ?_ ?_ (kp e2') ?_
      · exact ((hF2.1 21 (by simp)).trans (hF.1 21 (by simp))).trans ((hF0.tr hF1).1 21 (by simp))
      · exact ((hF2.1 20 (by simp)).trans (hF.1 20 (by simp))).trans e20'
      · have := mkP.new (out := out) (l := []) (M := N2) (i := 10 * n + 7) (a := some a) (by rw [e2', upd_ne _ _ (by omega), e52, upd_self]) (by rw [e2', upd_self]; rfl)
        rw [List.append_nil] at this
        exact this
    · rw [hW] at e
      exact x_b251b hd hn (RB.o hB) (fun N2 hF2 hB2 => h0 r (by rw [e]; rfl) N2 (OF.tr (OF.tr hL1 (PF.o hF)) hF2) hB2)
  · rw [if_neg hs] at h1
    refine x_or251 hd hn hR0 (fun N2 hF2 e2 => ?_)
    have en : out ++ oR' none out.length = out := List.append_nil _
    refine h1 (p, k) none rfl N2 (OF.tr hL0 (hF2.le (by simp) (by simp) (by simp) (by simp))) ?_ ((hF0.tr hF2).1 21 (by simp)) (((hF0.tr hF2).1 20 (by simp)).trans e20) (kp e2) ?_
    · rw [en]
      exact R0_fx hF2 hR0 (by simp)
    · rw [en]
      exact mkP.non (b := out.length) (by rw [e2, upd_ne _ _ (by omega), e52, upd_self]) (by rw [e2, upd_self]) (Nat.le_refl _)
/-- how often, and the test -/
theorem x_or164 (hd : mD o ad) {q : hS → Prop} {n : Nat} {out : List (Nat × Nat)} (hn : n < 12) (hR : R0 G M p k out) (e20 : M.1 20 = 1) (h1 : ∀ r m r2 t, prTm G p k = (r, some m) → prIf G orW r.1 r.2 = (r2, some t) → ∀ N, OF M N → R0 G N r2.1 r2.2 (out ++ oR' t out.length) → N.1 21 = M.1 21 → N.1 20 = 1 → (∀ j, j < 10 * n + 7 → N.2.2.1 52 j = M.2.2.1 52 j) → mkP (out ++ oR' t out.length) N (10 * n + 7) t → N.2.2.1 52 (10 * n + 9) = nI m → q (ov S o ad N)) (h0 : ∀ r, (prTm G p k = (r, none) ∨ ∃ r' m, prTm G p k = (r', some m) ∧ prIf G orW r'.1 r'.2 = (r, none)) → ∀ N, OF M N → RBo G N r.1 → q (ov S o ad N)) : w_X12_readOrder_b164 q (ov S o ad M) o (nI (10 * n)) := by
  have hb := hR.2.2.1.2.2.2
  unfold w_X12_readOrder_b164
  simp (disch := decide) only [oi_gI, oi_gJ, oi_gP, oi_pI, oi_pZ, oi_pJ, oi_oK, oi_aI hd, oi_aZ hd, oi_aJ hd, oi_sI hd, oi_sZ hd, oi_sJ hd, mI_1, mI_2, mJ_1, mJ_2, mJ_3, mA_1, mA_2, mA_3, mA_4, mL_1, mL_2, mL_3, mL_4, mK, Nat.reduceEqDiff, if_true, if_false, ite_true, ite_false, true_and, Nat.reduceLT, reduceIte, reduceCtorEq, cl_0, cl_1, cl_2, cl_3, cl_4, cl_5, cl_6, cl_7, cl_8, cl_9, cl_10, cl_11, cl_12, cl_13, cl_14, cl_15, vl_0_5585, vl_1_5585, vl_2_5585, vl_3_5585, vl_4_5585, vl_5_5585, vl_6_5585, vl_0_7, vl_1_7, vl_2_7, vl_3_7, vl_4_7, vl_5_7, vl_6_7]
  rw [show nI (10 * n) + 9 = nI (10 * n + 9) from nIadd _ _, hR.1, nI_clamp (by omega)]
  refine ⟨vp_in_nI (by omega) (by omega), fun z => absurd rfl z, fun _ => ?_⟩
  have hF0 : Fx [] [] [52] [] M (mA M 52 (upd (M.2.2.1 52) (10 * n + 9) 1)) := Fx.a 52 _
  have e52 : (mA M 52 (upd (M.2.2.1 52) (10 * n + 9) 1)).2.2.1 52 = upd (M.2.2.1 52) (10 * n + 9) 1 := by simp [mA_3]
  generalize mA M 52 (upd (M.2.2.1 52) (10 * n + 9) 1) = N0 at hF0 e52 ⊢
  have hR0 := R0_fx hF0 hR (by simp)
  have hL0 : OF M N0 := hF0.le (by simp) (by simp) (by simp) (by simp)
  have e20' : N0.1 20 = 1 := (hF0.1 20 (by simp)).trans e20
  unfold prTm at h1 h0
  obtain ⟨s1, s2, s3, s4, s5, s6, s7, s8, s9⟩ := id hR0
  -- the test, whatever the times
  have fin : ∀ r m N, (if isWd G p wTimes = true then (if isNm G (tE G p) 1 20 = true then ((tE G (tE G p), k), some (nV G (tE G p))) else ((tE G p, k), none)) else ((p, k), some 1)) = (r, some m) → OF M N → R0 G N r.1 r.2 out → N.1 21 = M.1 21 → N.1 20 = 1 → (∀ j, j < 10 * n + 7 → N.2.2.1 52 j = M.2.2.1 52 j) → N.2.2.1 52 (10 * n + 9) = nI m → w_X12_readOrder_b212 q (ov S o ad N) o (nI (10 * n)) := by
    intro r m N hm hL hN n21 n20 n52 n9
    refine x_or212 hd hn hN n20 (fun r2 t ht N2 hL2 hN2 m21 m20 kp mk => h1 r m r2 t hm ht N2 (OF.tr hL hL2) hN2 (m21.trans n21) m20 (fun j hj => (kp j (by omega) (by omega)).trans (n52 j hj)) mk ((kp _ (by omega) (by omega)).trans n9)) (fun r2 ht N2 hL2 hB2 => h0 r2 (Or.inr ⟨r, m, hm, ht⟩) N2 (OF.tr hL hL2) hB2)
  refine x_isWord hd hb hR0.2.1 (s := wTimes) (by decide) wL_times (fun hs => ⟨fun z => absurd z (by decide), fun _ => ⟨ov_oK, ?_⟩⟩) (fun hs => ⟨fun _ => ?_, fun z => absurd rfl z⟩)
  rotate_left
  · refine fin (p, k) 1 N0 (if_neg hs) hL0 hR0 (hF0.1 21 (by simp)) e20' (fun j hj => by rw [e52, upd_ne _ _ (by omega)]) (by rw [e52, upd_self]; rfl)
  rw [if_pos hs] at h0
  have hk := isWd_k hs
  have t1 := tE_gt (G := G) (p := p) (by omega)
  have t2 := tS_ge G p
  have t3 := tE_le s7
  refine x_next hd s3 s2.2.1 t3 (fun N1 hF1 ht => ?_)
  have hR1 : R0 G N1 (tE G p) k out := ⟨(hF1.1 19 (by simp)).trans s1, ht, tpM_fx hF1 s3 (by simp), ⟨(hF1.1 23 (by simp)).trans s4.1, by rw [hF1.2.2.1 24 (by simp), hF1.2.2.1 25 (by simp)]; exact s4.2⟩, (hF1.1 26 (by simp)).trans s5, wdsG_fx hF1 s6 (by simp), t3, by omega, s9⟩
  have hL1 : OF M N1 := OF.tr hL0 (hF1.le (by simp) (by simp) (by simp) (by simp))
  obtain ⟨u1, u2, u3, u4, u5, u6, u7, u8, u9⟩ := id hR1
  simp (disch := decide) only [oi_gI, oi_gJ, oi_gP, oi_pI, oi_pZ, oi_pJ, oi_oK, oi_aI hd, oi_aZ hd, oi_aJ hd, oi_sI hd, oi_sZ hd, oi_sJ hd, mI_1, mI_2, mJ_1, mJ_2, mJ_3, mA_1, mA_2, mA_3, mA_4, mL_1, mL_2, mL_3, mL_4, mK, Nat.reduceEqDiff, if_true, if_false, ite_true, ite_false, true_and, Nat.reduceLT, reduceIte, reduceCtorEq, cl_0, cl_1, cl_2, cl_3, cl_4, cl_5, cl_6, cl_7, cl_8, cl_9, cl_10, cl_11, cl_12, cl_13, cl_14, cl_15, vl_0_5585, vl_1_5585, vl_2_5585, vl_3_5585, vl_4_5585, vl_5_5585, vl_6_5585, vl_0_7, vl_1_7, vl_2_7, vl_3_7, vl_4_7, vl_5_7, vl_6_7]
  refine x_number hd (lo := 1) (hi := 20) (by omega) (by omega) u1 u3 u7 u2 (fun nn r N2 hF2 b19 b18 => ?_) (fun nn N2 hF2 ht2 => ?_)
  · rw [if_neg nn] at h0
    simp (disch := decide) only [oi_gI, oi_gJ, oi_gP, oi_pI, oi_pZ, oi_pJ, oi_oK, oi_aI hd, oi_aZ hd, oi_aJ hd, oi_sI hd, oi_sZ hd, oi_sJ hd, mI_1, mI_2, mJ_1, mJ_2, mJ_3, mA_1, mA_2, mA_3, mA_4, mL_1, mL_2, mL_3, mL_4, mK, Nat.reduceEqDiff, if_true, if_false, ite_true, ite_false, true_and, Nat.reduceLT, reduceIte, reduceCtorEq, cl_0, cl_1, cl_2, cl_3, cl_4, cl_5, cl_6, cl_7, cl_8, cl_9, cl_10, cl_11, cl_12, cl_13, cl_14, cl_15, vl_0_5585, vl_1_5585, vl_2_5585, vl_3_5585, vl_4_5585, vl_5_5585, vl_6_5585, vl_0_7, vl_1_7, vl_2_7, vl_3_7, vl_4_7, vl_5_7, vl_6_7]
    rw [nI_clamp (by omega)]
    have hB2 : RBo G N2 (tE G p) := ⟨b19, b18, tpM_fx hF2 u3 (by simp), wdsM_fx hF2 u6.1 (by simp)⟩
    exact ⟨vp_in_nI (by omega) (by omega), x_b212b hd hn (RBo_fx (Fx.a 52 _) hB2 (by simp)) (fun N3 hF3 hB3 => h0 (tE G p, k) (Or.inl rfl) N3 (OF.tr (OF.tr hL1 ((hF2.tr (Fx.a 52 _)).le (by simp) (by simp) (by simp) (by simp))) hF3) hB3)⟩
  · simp (disch := decide) only [oi_gI, oi_gJ, oi_gP, oi_pI, oi_pZ, oi_pJ, oi_oK, oi_aI hd, oi_aZ hd, oi_aJ hd, oi_sI hd, oi_sZ hd, oi_sJ hd, mI_1, mI_2, mJ_1, mJ_2, mJ_3, mA_1, mA_2, mA_3, mA_4, mL_1, mL_2, mL_3, mL_4, mK, Nat.reduceEqDiff, if_true, if_false, ite_true, ite_false, true_and, Nat.reduceLT, reduceIte, reduceCtorEq, cl_0, cl_1, cl_2, cl_3, cl_4, cl_5, cl_6, cl_7, cl_8, cl_9, cl_10, cl_11, cl_12, cl_13, cl_14, cl_15, vl_0_5585, vl_1_5585, vl_2_5585, vl_3_5585, vl_4_5585, vl_5_5585, vl_6_5585, vl_0_7, vl_1_7, vl_2_7, vl_3_7, vl_4_7, vl_5_7, vl_6_7]
    rw [nI_clamp (by omega)]
    refine ⟨vp_in_nI (by omega) (by omega), ?_⟩
    have nk := isNm_k nn
    have v1 := tE_gt (G := G) (p := tE G p) (by omega)
    have v2 := tS_ge G (tE G p)
    have v3 := tE_le t3
    have hF3 : Fx [] [] [52] [] N2 (mA N2 52 (upd (N2.2.2.1 52) (10 * n + 9) (nI (nV G (tE G p))))) := Fx.a 52 _
    have e3 : (mA N2 52 (upd (N2.2.2.1 52) (10 * n + 9) (nI (nV G (tE G p))))).2.2.1 52 = upd (N2.2.2.1 52) (10 * n + 9) (nI (nV G (tE G p))) := by simp [mA_3]
    generalize mA N2 52 (upd (N2.2.2.1 52) (10 * n + 9) (nI (nV G (tE G p)))) = N3 at hF3 e3 ⊢
    have hR2 : R0 G N2 (tE G (tE G p)) k out := ⟨(hF2.1 19 (by simp)).trans u1, ht2, tpM_fx hF2 u3 (by simp), ⟨(hF2.1 23 (by simp)).trans u4.1, by rw [hF2.2.2.1 24 (by simp), hF2.2.2.1 25 (by simp)]; exact u4.2⟩, (hF2.1 26 (by simp)).trans u5, wdsG_fx hF2 u6 (by simp), v3, by omega, u9⟩
    refine fin (tE G (tE G p), k) (nV G (tE G p)) N3 (by rw [if_pos hs, if_pos nn]) (OF.tr hL1 ((hF2.tr hF3).le (by simp) (by simp) (by simp) (by simp))) (R0_fx hF3 hR2 (by simp)) ?_ ?_ (fun j hj => ?_) (by rw [e3, upd_self])
    · exact (((hF3.1 21 (by simp)).trans (hF2.1 21 (by simp))).trans (hF1.1 21 (by simp))).trans (hF0.1 21 (by simp))
    · exact (((hF3.1 20 (by simp)).trans (hF2.1 20 (by simp))).trans (hF1.1 20 (by simp))).trans e20'
    · rw [e3, upd_ne _ _ (by omega), hF2.2.2.1 52 (by simp), hF1.2.2.1 52 (by simp), e52, upd_ne _ _ (by omega)]
end RR
