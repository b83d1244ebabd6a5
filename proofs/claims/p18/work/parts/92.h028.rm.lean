/-! THE REFERENCE'S LAW AS A WHOLE TEXT, EXACTLY -/
theorem R1_fx {G : pG} {M N : mS} {p k p' k' : Nat} {cs : List pCl} {a b c d : List Nat} (h : Fx a b c d M N) (hR : R1 G M p k cs) (h0 : R0 G N p' k' (rAll cs 0)) (ha : (20 ∉ a ∧ 21 ∉ a) ∧ 22 ∉ c ∧ 33 ∉ d) : R1 G N p' k' cs := by
  obtain ⟨r1, r2, r3, r4, r5, r6⟩ := hR
  refine ⟨h0, (h.1 21 ha.1.2).trans r2, r3, ?_, hdM_fx h r5 ha.2.2, (h.1 20 ha.1.1).trans r6⟩
  unfold mkM at *
  rw [h.2.2.1 22 ha.2.1]
  exact r4
section RM
variable {S : hS} {o : Nat} {ad : Nat → Nat} {M : mS} {G : pG} {p k : Nat}
theorem x_nx1 (hd : mD o ad) {q : hS → Prop} {cs : List pCl} (hR : R1 G M p k cs) (hk : tK G p ≠ 0) (h : ∀ N, Fx [14, 15, 16] [17] [] [] M N → R1 G N (tE G p) k cs → q (ov S o ad N)) : w_X12_next q (ov S o ad M) o := by
  obtain ⟨s1, s2, s3, s4, s5, s6, s7, s8, s9⟩ := id hR.1
  have t1 := tE_gt hk
  have t2 := tS_ge G p
  have t3 := tE_le s7
  exact x_next hd s3 s2.2.1 t3 (fun N hF ht => h N hF (R1_fx hF hR ⟨(hF.1 19 (by simp)).trans s1, ht, tpM_fx hF s3 (by simp), ⟨(hF.1 23 (by simp)).trans s4.1, by rw [hF.2.2.1 24 (by simp), hF.2.2.1 25 (by simp)]; exact s4.2⟩, (hF.1 26 (by simp)).trans s5, wdsG_fx hF s6 (by simp), t3, by omega, s9⟩ (by simp)))
/-- behind a clause -/
def bhd {α : Type} (G : pG) (cl : Nat → Nat → (Nat × Nat) × Option α) (n : Nat) (q : Nat × Nat) (acc : List α) : (Nat × Nat) × Option (List α) := if tK G q.1 = 0 then (q, some acc) else if isSg G q.1 59 = true then prTx G cl n (tE G q.1) q.2 acc else (q, none)
theorem x_law37 (hd : mD o ad) {q : Int32 → hS → Prop} : ∀ (n : Nat) (M : mS) (p k : Nat) (cs : List pCl), cs.length + n = 12 → R1 G M p k cs → (∀ r ds, bhd G (prLaw G) n (p, k) cs = (r, some ds) → ∀ N, LF M N → R1 G N r.1 r.2 ds → tK G r.1 = 0 → w_X12_law_b64 q (ov S o ad N) o) → (∀ r, bhd G (prLaw G) n (p, k) cs = (r, none) → ∀ N, LF M N → (RBo G N r.1 ∨ ((∃ k out, R0 G N r.1 k out) ∧ tK G r.1 ≠ 0)) → w_X12_law_b64 q (ov S o ad N) o) → w_X12_law_b37 q (n + 2) (ov S o ad M) o := by
  intro n
  induction n with
  | zero =>
    intro M p k cs hl hR h1 h0
    have hb := hR.1.2.2.1.2.2.2
    rw [w_X12_law_b37]
    simp (disch := decide) only [oi_gI, oi_gJ, oi_gP, oi_pI, oi_pZ, oi_pJ, oi_oK, oi_aI hd, oi_aZ hd, oi_aJ hd, oi_sI hd, oi_sZ hd, oi_sJ hd, mI_1, mI_2, mJ_1, mJ_2, mJ_3, mA_1, mA_2, mA_3, mA_4, mL_1, mL_2, mL_3, mL_4, mK, Nat.reduceEqDiff, if_true, if_false, ite_true, ite_false, true_and, Nat.reduceLT, reduceIte, reduceCtorEq, cl_0, cl_1, cl_2, cl_3, cl_4, cl_5, cl_6, cl_7, cl_8, cl_9, cl_10, cl_11, cl_12, cl_13, cl_14, cl_15, vl_0_5585, vl_1_5585, vl_2_5585, vl_3_5585, vl_4_5585, vl_5_5585, vl_6_5585, vl_0_7, vl_1_7, vl_2_7, vl_3_7, vl_4_7, vl_5_7, vl_6_7]
    rw [hR.1.1]
    unfold bhd at h1 h0
    dsimp only at h1 h0
    refine ⟨fun z => absurd rfl z, fun _ => x_isSign hd hb hR.1.2.1 (c := 59) (by omega) (fun hs => ⟨fun z => absurd z (by decide), fun _ => ⟨ov_oK, ?_⟩⟩) (fun hs => ⟨fun _ => ?_, fun z => absurd rfl z⟩)⟩
    · have hk := (isSg_k hs).1
      rw [if_neg (by omega), if_pos hs] at h0
      refine x_nx1 hd hR (by omega) (fun N hF hN => ⟨ov_oK, x_readLaw hd hN (fun r c hc hlt P hP hRP => by omega) (fun r hr P hP hB => ?_)⟩)
      rcases hr with ⟨-, z⟩ | ⟨-, rfl⟩
      · omega
      · rw [w_X12_law_b37]
        simp (disch := decide) only [oi_gI, oi_gJ, oi_gP, oi_pI, oi_pZ, oi_pJ, oi_oK, oi_aI hd, oi_aZ hd, oi_aJ hd, oi_sI hd, oi_sZ hd, oi_sJ hd, mI_1, mI_2, mJ_1, mJ_2, mJ_3, mA_1, mA_2, mA_3, mA_4, mL_1, mL_2, mL_3, mL_4, mK, Nat.reduceEqDiff, if_true, if_false, ite_true, ite_false, true_and, Nat.reduceLT, reduceIte, reduceCtorEq, cl_0, cl_1, cl_2, cl_3, cl_4, cl_5, cl_6, cl_7, cl_8, cl_9, cl_10, cl_11, cl_12, cl_13, cl_14, cl_15, vl_0_5585, vl_1_5585, vl_2_5585, vl_3_5585, vl_4_5585, vl_5_5585, vl_6_5585, vl_0_7, vl_1_7, vl_2_7, vl_3_7, vl_4_7, vl_5_7, vl_6_7]
        rw [hB.1]
        exact ⟨fun _ => h0 _ rfl P (LF.tr (hF.le (by simp) (by simp) (by simp) (by simp)) hP) (Or.inl hB), fun z => absurd z (by decide)⟩
    · by_cases c : tK G p = 0
      · rw [if_pos c] at h1
        exact h1 _ _ rfl M Fx.rf' hR c
      · rw [if_neg c, if_neg hs] at h0
        exact h0 _ rfl M Fx.rf' (Or.inr ⟨⟨_, _, hR.1⟩, c⟩)
  | succ n ih =>
    intro M p k cs hl hR h1 h0
    have hb := hR.1.2.2.1.2.2.2
    rw [w_X12_law_b37]
    simp (disch := decide) only [oi_gI, oi_gJ, oi_gP, oi_pI, oi_pZ, oi_pJ, oi_oK, oi_aI hd, oi_aZ hd, oi_aJ hd, oi_sI hd, oi_sZ hd, oi_sJ hd, mI_1, mI_2, mJ_1, mJ_2, mJ_3, mA_1, mA_2, mA_3, mA_4, mL_1, mL_2, mL_3, mL_4, mK, Nat.reduceEqDiff, if_true, if_false, ite_true, ite_false, true_and, Nat.reduceLT, reduceIte, reduceCtorEq, cl_0, cl_1, cl_2, cl_3, cl_4, cl_5, cl_6, cl_7, cl_8, cl_9, cl_10, cl_11, cl_12, cl_13, cl_14, cl_15, vl_0_5585, vl_1_5585, vl_2_5585, vl_3_5585, vl_4_5585, vl_5_5585, vl_6_5585, vl_0_7, vl_1_7, vl_2_7, vl_3_7, vl_4_7, vl_5_7, vl_6_7]
    rw [hR.1.1]
    unfold bhd at h1 h0
    dsimp only at h1 h0
    refine ⟨fun z => absurd rfl z, fun _ => x_isSign hd hb hR.1.2.1 (c := 59) (by omega) (fun hs => ⟨fun z => absurd z (by decide), fun _ => ⟨ov_oK, ?_⟩⟩) (fun hs => ⟨fun _ => ?_, fun z => absurd rfl z⟩)⟩
    · have hk := (isSg_k hs).1
      rw [if_neg (by omega), if_pos hs] at h0 h1
      rw [prTx] at h0 h1
      refine x_nx1 hd hR (by omega) (fun N hF hN => ⟨ov_oK, ?_⟩)
      have hLN : LF M N := hF.le (by simp) (by simp) (by simp) (by simp)
      refine x_readLaw hd hN (fun r c hc hlt P hP hRP => ?_) (fun r hr P hP hB => ?_)
      · rw [hc] at h0 h1
        exact ih P r.1 r.2 (cs ++ [c]) (by rw [List.length_append, List.length_singleton]; omega) hRP (fun r' ds e Q hQ => h1 r' ds e Q (LF.tr (LF.tr hLN hP) hQ)) (fun r' e Q hQ => h0 r' e Q (LF.tr (LF.tr hLN hP) hQ))
      · rcases hr with ⟨e, -⟩ | ⟨z, -⟩
        · rw [e] at h0
          rw [w_X12_law_b37]
          simp (disch := decide) only [oi_gI, oi_gJ, oi_gP, oi_pI, oi_pZ, oi_pJ, oi_oK, oi_aI hd, oi_aZ hd, oi_aJ hd, oi_sI hd, oi_sZ hd, oi_sJ hd, mI_1, mI_2, mJ_1, mJ_2, mJ_3, mA_1, mA_2, mA_3, mA_4, mL_1, mL_2, mL_3, mL_4, mK, Nat.reduceEqDiff, if_true, if_false, ite_true, ite_false, true_and, Nat.reduceLT, reduceIte, reduceCtorEq, cl_0, cl_1, cl_2, cl_3, cl_4, cl_5, cl_6, cl_7, cl_8, cl_9, cl_10, cl_11, cl_12, cl_13, cl_14, cl_15, vl_0_5585, vl_1_5585, vl_2_5585, vl_3_5585, vl_4_5585, vl_5_5585, vl_6_5585, vl_0_7, vl_1_7, vl_2_7, vl_3_7, vl_4_7, vl_5_7, vl_6_7]
          rw [hB.1]
          exact ⟨fun _ => h0 r rfl P (LF.tr hLN hP) (Or.inl hB), fun z => absurd z (by decide)⟩
        · omega
    · by_cases c : tK G p = 0
      · rw [if_pos c] at h1
        exact h1 _ _ rfl M Fx.rf' hR c
      · rw [if_neg c, if_neg hs] at h0
        exact h0 _ rfl M Fx.rf' (Or.inr ⟨⟨_, _, hR.1⟩, c⟩)
/-- the end of a text: bad or read -/
theorem x_endBad (hd : mD o ad) {q : hS → Prop} {f : Nat} (hB : RBo G M f ∨ ((∃ k out, R0 G M f k out) ∧ tK G f ≠ 0)) (h : ∀ N, Fx [13, 18, 19, 20] [] [] [] M N → N.1 13 = 0 → N.1 20 = 0 → N.1 19 = 1 → N.1 18 = nI (tS G f) → q (ov S o ad N)) : w_X12_endText q (ov S o ad M) o := by
  have fin : ∀ N, Fx [18, 19] [] [] [] M N → N.1 19 = 1 → N.1 18 = nI (tS G f) → w_X12_endText_b19 q (ov S o ad N) o := by
    intro N hF h19 h18
    unfold w_X12_endText_b19
    simp (disch := decide) only [oi_gI, oi_gJ, oi_gP, oi_pI, oi_pZ, oi_pJ, oi_oK, oi_aI hd, oi_aZ hd, oi_aJ hd, oi_sI hd, oi_sZ hd, oi_sJ hd, mI_1, mI_2, mJ_1, mJ_2, mJ_3, mA_1, mA_2, mA_3, mA_4, mL_1, mL_2, mL_3, mL_4, mK, Nat.reduceEqDiff, if_true, if_false, ite_true, ite_false, true_and, Nat.reduceLT, reduceIte, reduceCtorEq, cl_0, cl_1, cl_2, cl_3, cl_4, cl_5, cl_6, cl_7, cl_8, cl_9, cl_10, cl_11, cl_12, cl_13, cl_14, cl_15, vl_0_5585, vl_1_5585, vl_2_5585, vl_3_5585, vl_4_5585, vl_5_5585, vl_6_5585, vl_0_7, vl_1_7, vl_2_7, vl_3_7, vl_4_7, vl_5_7, vl_6_7]
    have hF2 := (Fx.i (M := N) 20 0).tr (Fx.i 13 0)
    exact ⟨by simp, h _ ((hF.tr hF2).le (by simp) (by simp) (by simp) (by simp)) (by simp [mI_1]) (by simp [mI_1]) ((hF2.1 19 (by simp)).trans h19) ((hF2.1 18 (by simp)).trans h18)⟩
  unfold w_X12_endText
  simp (disch := decide) only [oi_gI, oi_gJ, oi_gP, oi_pI, oi_pZ, oi_pJ, oi_oK, oi_aI hd, oi_aZ hd, oi_aJ hd, oi_sI hd, oi_sZ hd, oi_sJ hd, mI_1, mI_2, mJ_1, mJ_2, mJ_3, mA_1, mA_2, mA_3, mA_4, mL_1, mL_2, mL_3, mL_4, mK, Nat.reduceEqDiff, if_true, if_false, ite_true, ite_false, true_and, Nat.reduceLT, reduceIte, reduceCtorEq, cl_0, cl_1, cl_2, cl_3, cl_4, cl_5, cl_6, cl_7, cl_8, cl_9, cl_10, cl_11, cl_12, cl_13, cl_14, cl_15, vl_0_5585, vl_1_5585, vl_2_5585, vl_3_5585, vl_4_5585, vl_5_5585, vl_6_5585, vl_0_7, vl_1_7, vl_2_7, vl_3_7, vl_4_7, vl_5_7, vl_6_7]
  rcases hB with hB | ⟨⟨k, out, hR⟩, hk⟩
  · rw [hB.1]
    exact ⟨fun _ => fin M Fx.rf' hB.1 hB.2.1, fun z => absurd z (by decide)⟩
  · obtain ⟨s1, s2, s3, s4, s5, s6, s7, s8, s9⟩ := id hR
    have k4 := tK_4 G f
    rw [s1, s2.2.2.1, show (0 : Int32) = nI 0 from rfl]
    refine ⟨fun z => absurd rfl z, fun _ => ⟨fun z => absurd ((nI_eq (by omega) (by omega)).mp z) hk, fun _ => x_must hd s1 s3 s7 s2 (fun _ N hF h19 h18 => fin N hF h19 h18) (fun z => absurd rfl z)⟩⟩
theorem x_endOk (hd : mD o ad) {q : hS → Prop} {out : List (Nat × Nat)} (hR : R0 G M p k out) (hk : tK G p = 0) (h : ∀ N, Fx [13, 20] [] [] [] M N → N.1 13 = 0 → N.1 20 = 0 → q (ov S o ad N)) : w_X12_endText q (ov S o ad M) o := by
  have hF2 := (Fx.i (M := M) 20 0).tr (Fx.i 13 0)
  unfold w_X12_endText w_X12_endText_b19
  simp (disch := decide) only [oi_gI, oi_gJ, oi_gP, oi_pI, oi_pZ, oi_pJ, oi_oK, oi_aI hd, oi_aZ hd, oi_aJ hd, oi_sI hd, oi_sZ hd, oi_sJ hd, mI_1, mI_2, mJ_1, mJ_2, mJ_3, mA_1, mA_2, mA_3, mA_4, mL_1, mL_2, mL_3, mL_4, mK, Nat.reduceEqDiff, if_true, if_false, ite_true, ite_false, true_and, Nat.reduceLT, reduceIte, reduceCtorEq, cl_0, cl_1, cl_2, cl_3, cl_4, cl_5, cl_6, cl_7, cl_8, cl_9, cl_10, cl_11, cl_12, cl_13, cl_14, cl_15, vl_0_5585, vl_1_5585, vl_2_5585, vl_3_5585, vl_4_5585, vl_5_5585, vl_6_5585, vl_0_7, vl_1_7, vl_2_7, vl_3_7, vl_4_7, vl_5_7, vl_6_7]
  rw [hR.1, hR.2.1.2.2.1, hk]
  exact ⟨fun z => absurd rfl z, fun _ => ⟨fun _ => ⟨by simp, h _ (hF2.le (by simp) (by simp) (by simp) (by simp)) (by simp [mI_1]) (by simp [mI_1])⟩, fun z => absurd rfl z⟩⟩
end RM
