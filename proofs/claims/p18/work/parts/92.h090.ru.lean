/-! THE REFERENCE'S ORDERS AS A WHOLE TEXT, EXACTLY -/
/-- orders os lie read in the reference -/
def OT (M : mS) (os : List pOr) : Prop := ∃ out, M.1 23 = nI out.length ∧ outAt out (M.2.2.1 24) (M.2.2.1 25) ∧ out.length ≤ 400 ∧ M.1 21 = nI os.length ∧ os.length ≤ 12 ∧ ∀ j, (h : j < os.length) → clR out M j os[j]
theorem clR_fx {out : List (Nat × Nat)} {M N : mS} {j : Nat} {c : pOr} (h : clR out M j c) (e : N.2.2.1 52 = M.2.2.1 52) : clR out N j c := by
  have := h.to (l := []) (N := N) (fun i _ _ => by rw [e])
  rw [List.append_nil] at this
  exact this
theorem R3_fx {G : pG} {M N : mS} {p k p' k' : Nat} {os : List pOr} {a b c d : List Nat} (h : Fx a b c d M N) (hR : R3 G M p k os) (h0 : ∀ out, R0 G M p k out → R0 G N p' k' out) (ha : (20 ∉ a ∧ 21 ∉ a) ∧ 52 ∉ c ∧ 51 ∉ d) : R3 G N p' k' os := by
  obtain ⟨out, r1, r2, r3, r4, r5, r6⟩ := hR
  exact ⟨out, h0 out r1, (h.1 21 ha.1.2).trans r2, r3, fun j hj => clR_fx (r4 j hj) (h.2.2.1 52 ha.2.1), acM_fx h r5 ha.2.2, (h.1 20 ha.1.1).trans r6⟩
section RU2
variable {S : hS} {o : Nat} {ad : Nat → Nat} {M : mS} {G : pG} {p k : Nat}
theorem x_nx3 (hd : mD o ad) {q : hS → Prop} {os : List pOr} (hR : R3 G M p k os) (hk : tK G p ≠ 0) (h : ∀ N, Fx [14, 15, 16] [17] [] [] M N → R3 G N (tE G p) k os → q (ov S o ad N)) : w_X12_next q (ov S o ad M) o := by
  obtain ⟨out, hR0, -⟩ := id hR
  obtain ⟨s1, s2, s3, s4, s5, s6, s7, s8, s9⟩ := hR0
  have t1 := tE_gt hk
  have t2 := tS_ge G p
  have t3 := tE_le s7
  exact x_next hd s3 s2.2.1 t3 (fun N hF ht => h N hF (R3_fx hF hR (fun out ⟨u1, u2, u3, u4, u5, u6, u7, u8, u9⟩ => ⟨(hF.1 19 (by simp)).trans u1, ht, tpM_fx hF u3 (by simp), ⟨(hF.1 23 (by simp)).trans u4.1, by rw [hF.2.2.1 24 (by simp), hF.2.2.1 25 (by simp)]; exact u4.2⟩, (hF.1 26 (by simp)).trans u5, wdsG_fx hF u6 (by simp), t3, by omega, u9⟩) (by simp)))
theorem R3.r0 {os : List pOr} (h : R3 G M p k os) : ∃ out, R0 G M p k out := ⟨_, h.choose_spec.1⟩
theorem x_ord19 (hd : mD o ad) {q : Int32 → hS → Prop} : ∀ (n : Nat) (M : mS) (p k : Nat) (os : List pOr), os.length + n = 12 → R3 G M p k os → (∀ r ds, bhd G (prOrd G) n (p, k) os = (r, some ds) → ∀ N, OF M N → R3 G N r.1 r.2 ds → tK G r.1 = 0 → w_X12_orders_b46 q (ov S o ad N) o) → (∀ r, bhd G (prOrd G) n (p, k) os = (r, none) → ∀ N, OF M N → (RBo G N r.1 ∨ ((∃ k out, R0 G N r.1 k out) ∧ tK G r.1 ≠ 0)) → w_X12_orders_b46 q (ov S o ad N) o) → w_X12_orders_b19 q (n + 2) (ov S o ad M) o := by
  intro n
  induction n with
  | zero =>
    intro M p k os hl hR h1 h0
    obtain ⟨out, hR0⟩ := hR.r0
    have hb := hR0.2.2.1.2.2.2
    rw [w_X12_orders_b19]
    simp (disch := decide) only [oi_gI, oi_gJ, oi_gP, oi_pI, oi_pZ, oi_pJ, oi_oK, oi_aI hd, oi_aZ hd, oi_aJ hd, oi_sI hd, oi_sZ hd, oi_sJ hd, mI_1, mI_2, mJ_1, mJ_2, mJ_3, mA_1, mA_2, mA_3, mA_4, mL_1, mL_2, mL_3, mL_4, mK, Nat.reduceEqDiff, if_true, if_false, ite_true, ite_false, true_and, Nat.reduceLT, reduceIte, reduceCtorEq, cl_0, cl_1, cl_2, cl_3, cl_4, cl_5, cl_6, cl_7, cl_8, cl_9, cl_10, cl_11, cl_12, cl_13, cl_14, cl_15, vl_0_5585, vl_1_5585, vl_2_5585, vl_3_5585, vl_4_5585, vl_5_5585, vl_6_5585, vl_0_7, vl_1_7, vl_2_7, vl_3_7, vl_4_7, vl_5_7, vl_6_7]
    rw [hR0.1]
    unfold bhd at h1 h0
    dsimp only at h1 h0
    refine ⟨fun z => absurd rfl z, fun _ => x_isSign hd hb hR0.2.1 (c := 59) (by omega) (fun hs => ⟨fun z => absurd z (by decide), fun _ => ⟨ov_oK, ?_⟩⟩) (fun hs => ⟨fun _ => ?_, fun z => absurd rfl z⟩)⟩
    · have hk := (isSg_k hs).1
      rw [if_neg (by omega), if_pos hs] at h0
      refine x_nx3 hd hR (by omega) (fun N hF hN => ⟨ov_oK, x_readOrder hd hN (fun r c hc hlt P hP hRP => by omega) (fun r hr P hP hB => ?_)⟩)
      rcases hr with ⟨-, z⟩ | ⟨-, rfl⟩
      · omega
      · rw [w_X12_orders_b19]
        simp (disch := decide) only [oi_gI, oi_gJ, oi_gP, oi_pI, oi_pZ, oi_pJ, oi_oK, oi_aI hd, oi_aZ hd, oi_aJ hd, oi_sI hd, oi_sZ hd, oi_sJ hd, mI_1, mI_2, mJ_1, mJ_2, mJ_3, mA_1, mA_2, mA_3, mA_4, mL_1, mL_2, mL_3, mL_4, mK, Nat.reduceEqDiff, if_true, if_false, ite_true, ite_false, true_and, Nat.reduceLT, reduceIte, reduceCtorEq, cl_0, cl_1, cl_2, cl_3, cl_4, cl_5, cl_6, cl_7, cl_8, cl_9, cl_10, cl_11, cl_12, cl_13, cl_14, cl_15, vl_0_5585, vl_1_5585, vl_2_5585, vl_3_5585, vl_4_5585, vl_5_5585, vl_6_5585, vl_0_7, vl_1_7, vl_2_7, vl_3_7, vl_4_7, vl_5_7, vl_6_7]
        rw [hB.1]
        exact ⟨fun _ => h0 _ rfl P (OF.tr (hF.le (by simp) (by simp) (by simp) (by simp)) hP) (Or.inl hB), fun z => absurd z (by decide)⟩
    · by_cases c : tK G p = 0
      · rw [if_pos c] at h1
        exact h1 _ _ rfl M OF.rf hR c
      · rw [if_neg c, if_neg hs] at h0
        exact h0 _ rfl M OF.rf (Or.inr ⟨⟨_, _, hR0⟩, c⟩)
  | succ n ih =>
    intro M p k os hl hR h1 h0
    obtain ⟨out, hR0⟩ := hR.r0
    have hb := hR0.2.2.1.2.2.2
    rw [w_X12_orders_b19]
    simp (disch := decide) only [oi_gI, oi_gJ, oi_gP, oi_pI, oi_pZ, oi_pJ, oi_oK, oi_aI hd, oi_aZ hd, oi_aJ hd, oi_sI hd, oi_sZ hd, oi_sJ hd, mI_1, mI_2, mJ_1, mJ_2, mJ_3, mA_1, mA_2, mA_3, mA_4, mL_1, mL_2, mL_3, mL_4, mK, Nat.reduceEqDiff, if_true, if_false, ite_true, ite_false, true_and, Nat.reduceLT, reduceIte, reduceCtorEq, cl_0, cl_1, cl_2, cl_3, cl_4, cl_5, cl_6, cl_7, cl_8, cl_9, cl_10, cl_11, cl_12, cl_13, cl_14, cl_15, vl_0_5585, vl_1_5585, vl_2_5585, vl_3_5585, vl_4_5585, vl_5_5585, vl_6_5585, vl_0_7, vl_1_7, vl_2_7, vl_3_7, vl_4_7, vl_5_7, vl_6_7]
    rw [hR0.1]
    unfold bhd at h1 h0
    dsimp only at h1 h0
    refine ⟨fun z => absurd rfl z, fun _ => x_isSign hd hb hR0.2.1 (c := 59) (by omega) (fun hs => ⟨fun z => absurd z (by decide), fun _ => ⟨ov_oK, ?_⟩⟩) (fun hs => ⟨fun _ => ?_, fun z => absurd rfl z⟩)⟩
    · have hk := (isSg_k hs).1
      rw [if_neg (by omega), if_pos hs] at h0 h1
      rw [prTx] at h0 h1
      refine x_nx3 hd hR (by omega) (fun N hF hN => ⟨ov_oK, ?_⟩)
      have hLN : OF M N := hF.le (by simp) (by simp) (by simp) (by simp)
      refine x_readOrder hd hN (fun r c hc hlt P hP hRP => ?_) (fun r hr P hP hB => ?_)
      · rw [hc] at h0 h1
        exact ih P r.1 r.2 (os ++ [c]) (by rw [List.length_append, List.length_singleton]; omega) hRP (fun r' ds e Q hQ => h1 r' ds e Q (OF.tr (OF.tr hLN hP) hQ)) (fun r' e Q hQ => h0 r' e Q (OF.tr (OF.tr hLN hP) hQ))
      · rcases hr with ⟨e, -⟩ | ⟨z, -⟩
        · rw [e] at h0
          rw [w_X12_orders_b19]
          simp (disch := decide) only [oi_gI, oi_gJ, oi_gP, oi_pI, oi_pZ, oi_pJ, oi_oK, oi_aI hd, oi_aZ hd, oi_aJ hd, oi_sI hd, oi_sZ hd, oi_sJ hd, mI_1, mI_2, mJ_1, mJ_2, mJ_3, mA_1, mA_2, mA_3, mA_4, mL_1, mL_2, mL_3, mL_4, mK, Nat.reduceEqDiff, if_true, if_false, ite_true, ite_false, true_and, Nat.reduceLT, reduceIte, reduceCtorEq, cl_0, cl_1, cl_2, cl_3, cl_4, cl_5, cl_6, cl_7, cl_8, cl_9, cl_10, cl_11, cl_12, cl_13, cl_14, cl_15, vl_0_5585, vl_1_5585, vl_2_5585, vl_3_5585, vl_4_5585, vl_5_5585, vl_6_5585, vl_0_7, vl_1_7, vl_2_7, vl_3_7, vl_4_7, vl_5_7, vl_6_7]
          rw [hB.1]
          exact ⟨fun _ => h0 r rfl P (OF.tr hLN hP) (Or.inl hB), fun z => absurd z (by decide)⟩
        · omega
    · by_cases c : tK G p = 0
      · rw [if_pos c] at h1
        exact h1 _ _ rfl M OF.rf hR c
      · rw [if_neg c, if_neg hs] at h0
        exact h0 _ rfl M OF.rf (Or.inr ⟨⟨_, _, hR0⟩, c⟩)
/-- orders(): a text that can't be read, or one that lies read -/
theorem x_ordTx (hd : mD o ad) {q : Int32 → hS → Prop} (hG : tpM G M) (hw : wdsM M) (hh : acM M)
    (hbad : ∀ r, ordTx G = (r, none) → ∀ N, Fx [0, 13, 14, 15, 16, 18, 19, 20, 21, 23, 26, 29, 30, 55] [17] [24, 25, 27, 28, 52] [] M N → N.1 0 = 0 → N.1 55 = -1 → N.1 13 = 0 → N.1 20 = 0 → N.1 18 = nI (tS G r.1) → oK (ov S o ad N) o 12 ∧ w_X12_tell (fun x60 S => q x60 S) (ov S o ad N) o (-6))
    (hok : ∀ r os, ordTx G = (r, some os) → ∀ N, Fx [0, 13, 14, 15, 16, 18, 19, 20, 21, 23, 26, 29, 30, 55] [17] [24, 25, 27, 28, 52] [] M N → N.1 0 = 0 → N.1 55 = -1 → N.1 13 = 0 → N.1 20 = 0 → N.1 18 = -1 → N.1 19 = 0 → OT N os → oK (ov S o ad N) o 12 ∧ w_X12_keepAll (fun S => gI S o 12 8 (fun x71 => (∃ n77 : Nat, w_X12_orders_b77 q n77 S o x71 0))) (ov S o ad N) o 17) : w_X12_orders q (ov S o ad M) o := by
  unfold w_X12_orders
  simp (disch := decide) only [oi_gI, oi_gJ, oi_gP, oi_pI, oi_pZ, oi_pJ, oi_oK, oi_aI hd, oi_aZ hd, oi_aJ hd, oi_sI hd, oi_sZ hd, oi_sJ hd, mI_1, mI_2, mJ_1, mJ_2, mJ_3, mA_1, mA_2, mA_3, mA_4, mL_1, mL_2, mL_3, mL_4, mK, Nat.reduceEqDiff, if_true, if_false, ite_true, ite_false, true_and, Nat.reduceLT, reduceIte, reduceCtorEq, cl_0, cl_1, cl_2, cl_3, cl_4, cl_5, cl_6, cl_7, cl_8, cl_9, cl_10, cl_11, cl_12, cl_13, cl_14, cl_15, vl_0_5585, vl_1_5585, vl_2_5585, vl_3_5585, vl_4_5585, vl_5_5585, vl_6_5585, vl_0_7, vl_1_7, vl_2_7, vl_3_7, vl_4_7, vl_5_7, vl_6_7]
  have hF0 : Fx [0, 55] [] [] [] M (mI (mI M 0 0) 55 (-1)) := ((Fx.i 0 0).tr (Fx.i 55 (-1))).le (by simp) (by simp) (by simp) (by simp)
  have a0 : (mI (mI M 0 0) 55 (-1)).1 0 = 0 := by simp [mI_1]
  have a55 : (mI (mI M 0 0) 55 (-1)).1 55 = -1 := by simp [mI_1]
  generalize mI (mI M 0 0) 55 (-1) = M0 at hF0 a0 a55 ⊢
  refine x_beginText hd (Or.inr rfl) (tpM_fx hF0 hG (by simp)) (wdsM_fx hF0 hw (by simp)) (fun N hF hR n20 n21 n18 => ?_)
  have hac : acM N := acM_fx (hF0.tr hF) hh (by simp)
  have hR3 : R3 G N 0 0 [] := ⟨[], hR, n21, Nat.zero_le _, fun j hj => absurd hj (Nat.not_lt_zero _), hac, n20⟩
  -- the end of the text
  have ok46 : ∀ r ds P, ordTx G = (r, some ds) → OF N P → R3 G P r.1 r.2 ds → tK G r.1 = 0 → w_X12_orders_b46 q (ov S o ad P) o := by
    intro r ds P e hP hRP hk
    obtain ⟨out, u0, u1, u2, u3, u4, u5⟩ := hRP
    unfold w_X12_orders_b46
    refine ⟨ov_oK, x_endOk hd u0 hk (fun Q hQ q13 q20 => ?_)⟩
    simp (disch := decide) only [oi_gI, oi_gJ, oi_gP, oi_pI, oi_pZ, oi_pJ, oi_oK, oi_aI hd, oi_aZ hd, oi_aJ hd, oi_sI hd, oi_sZ hd, oi_sJ hd, mI_1, mI_2, mJ_1, mJ_2, mJ_3, mA_1, mA_2, mA_3, mA_4, mL_1, mL_2, mL_3, mL_4, mK, Nat.reduceEqDiff, if_true, if_false, ite_true, ite_false, true_and, Nat.reduceLT, reduceIte, reduceCtorEq, cl_0, cl_1, cl_2, cl_3, cl_4, cl_5, cl_6, cl_7, cl_8, cl_9, cl_10, cl_11, cl_12, cl_13, cl_14, cl_15, vl_0_5585, vl_1_5585, vl_2_5585, vl_3_5585, vl_4_5585, vl_5_5585, vl_6_5585, vl_0_7, vl_1_7, vl_2_7, vl_3_7, vl_4_7, vl_5_7, vl_6_7]
    have q19 : Q.1 19 = 0 := (hQ.1 19 (by simp)).trans u0.1
    rw [q19]
    refine ⟨fun _ => (hok r ds e Q ((hF0.tr hF).tr (Fx.tr hP hQ) |>.le (by simp) (by simp) (by simp) (by simp)) ?_ ?_ q13 q20 ((hQ.1 18 (by simp)).trans u0.2.2.2.2.2.1.2) q19 ⟨out, (hQ.1 23 (by simp)).trans u0.2.2.2.1.1, by rw [hQ.2.2.1 24 (by simp), hQ.2.2.1 25 (by simp)]; exact u0.2.2.2.1.2, ?_, (hQ.1 21 (by simp)).trans u1, u2, fun j hj => clR_fx (u3 j hj) (hQ.2.2.1 52 (by simp))⟩).2, fun z => absurd rfl z⟩
    · exact (((hQ.1 0 (by simp)).trans (hP.1 0 (by simp))).trans (hF.1 0 (by simp))).trans a0
    · exact (((hQ.1 55 (by simp)).trans (hP.1 55 (by simp))).trans (hF.1 55 (by simp))).trans a55
    · have g2 := u0.2.2.1.2.1
      have g7 := u0.2.2.2.2.2.2.1
      have g8 := u0.2.2.2.2.2.2.2.1
      omega
  have bad46 : ∀ r P, ordTx G = (r, none) → OF N P → (RBo G P r.1 ∨ ((∃ k out, R0 G P r.1 k out) ∧ tK G r.1 ≠ 0)) → w_X12_orders_b46 q (ov S o ad P) o := by
    intro r P e hP hB
    unfold w_X12_orders_b46
    refine ⟨ov_oK, x_endBad hd hB (fun Q hQ q13 q20 q19 q18 => ?_)⟩
    simp (disch := decide) only [oi_gI, oi_gJ, oi_gP, oi_pI, oi_pZ, oi_pJ, oi_oK, oi_aI hd, oi_aZ hd, oi_aJ hd, oi_sI hd, oi_sZ hd, oi_sJ hd, mI_1, mI_2, mJ_1, mJ_2, mJ_3, mA_1, mA_2, mA_3, mA_4, mL_1, mL_2, mL_3, mL_4, mK, Nat.reduceEqDiff, if_true, if_false, ite_true, ite_false, true_and, Nat.reduceLT, reduceIte, reduceCtorEq, cl_0, cl_1, cl_2, cl_3, cl_4, cl_5, cl_6, cl_7, cl_8, cl_9, cl_10, cl_11, cl_12, cl_13, cl_14, cl_15, vl_0_5585, vl_1_5585, vl_2_5585, vl_3_5585, vl_4_5585, vl_5_5585, vl_6_5585, vl_0_7, vl_1_7, vl_2_7, vl_3_7, vl_4_7, vl_5_7, vl_6_7]
    rw [q19]
    refine ⟨fun z => absurd z (by decide), fun _ => (hbad r e Q ((hF0.tr hF).tr (Fx.tr hP hQ) |>.le (by simp) (by simp) (by simp) (by simp)) ?_ ?_ q13 q20 q18).2⟩
    · exact (((hQ.1 0 (by simp)).trans (hP.1 0 (by simp))).trans (hF.1 0 (by simp))).trans a0
    · exact (((hQ.1 55 (by simp)).trans (hP.1 55 (by simp))).trans (hF.1 55 (by simp))).trans a55
  refine ⟨ov_oK, x_readOrder hd hR3 (fun r c hc hlt P hP hRP => ⟨11 + 2, x_ord19 hd 11 P r.1 r.2 [c] rfl hRP (fun r' ds e Q hQ hRQ hk => ok46 r' ds Q ?_ (OF.tr hP hQ) hRQ hk) (fun r' e Q hQ hB => bad46 r' Q ?_ (OF.tr hP hQ) hB)⟩) (fun r hr P hP hB => ⟨1, ?_⟩)⟩
  · unfold ordTx
    rw [prTx_so hc]
    exact e
  · unfold ordTx
    rw [prTx_so hc]
    exact e
  · rcases hr with ⟨e, -⟩ | ⟨z, -⟩
    · rw [w_X12_orders_b19]
      simp (disch := decide) only [oi_gI, oi_gJ, oi_gP, oi_pI, oi_pZ, oi_pJ, oi_oK, oi_aI hd, oi_aZ hd, oi_aJ hd, oi_sI hd, oi_sZ hd, oi_sJ hd, mI_1, mI_2, mJ_1, mJ_2, mJ_3, mA_1, mA_2, mA_3, mA_4, mL_1, mL_2, mL_3, mL_4, mK, Nat.reduceEqDiff, if_true, if_false, ite_true, ite_false, true_and, Nat.reduceLT, reduceIte, reduceCtorEq, cl_0, cl_1, cl_2, cl_3, cl_4, cl_5, cl_6, cl_7, cl_8, cl_9, cl_10, cl_11, cl_12, cl_13, cl_14, cl_15, vl_0_5585, vl_1_5585, vl_2_5585, vl_3_5585, vl_4_5585, vl_5_5585, vl_6_5585, vl_0_7, vl_1_7, vl_2_7, vl_3_7, vl_4_7, vl_5_7, vl_6_7]
      rw [hB.1]
      refine ⟨fun _ => bad46 r P ?_ hP (Or.inl hB), fun z => absurd z (by decide)⟩
      unfold ordTx
      exact prTx_no e
    · exact absurd z (by decide)
end RU2
