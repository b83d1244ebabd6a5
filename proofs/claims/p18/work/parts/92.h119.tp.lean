/-! THE REFERENCE'S PEOPLE, EXACTLY -/
section TP
variable {S : hS} {o : Nat} {ad : Nat → Nat} {M N : mS} {mT : mS} {T T' : aS} {rs : Nat} {us : uL} {f g : Nat → Int32}
theorem x_come (hd : mD o ad) {mU : Nat → Int32} (hr : rowOk mU (M.2.2.1 3)) {n : Nat} (hn : n ≤ 8) (en : M.2.2.1 3 1 = nI n) {q : Int32 → hS → Prop} {a b c : Int32} (h1 : ¬ (inB a 0 24 ∧ inB b 0 99 ∧ inB c 0 999) → q (-1) (ov S o ad M)) (h5 : (inB a 0 24 ∧ inB b 0 99 ∧ inB c 0 999) → n = 8 → q (-5) (ov S o ad M)) (h : (inB a 0 24 ∧ inB b 0 99 ∧ inB c 0 999) → n < 8 → ∀ f, rowOk (upd (upd mU (162 + n) 0) 1 (nI (n + 1))) f → cut f = psX (cut (M.2.2.1 3)) n a b c → (∀ i, 185 ≤ i → f i = M.2.2.1 3 i) → q (nI n) (ov S o ad (mA M 3 f))) : w_X12_come q (ov S o ad M) o a b c := by
  unfold w_X12_come
  refine s_isPlaceI (fun a1 a2 => ⟨fun z => absurd z (by decide), fun _ => s_inI 0 99 (by decide) (by decide) (fun b1 b2 => ⟨fun z => absurd z (by decide), fun _ => s_inI 0 999 (by decide) (by decide) (fun c1 c2 => ⟨fun _ => ?_, fun z => absurd z (by decide)⟩) (fun nc => ⟨fun z => absurd rfl z, fun _ => h1 (fun z => nc z.2.2)⟩)⟩) (fun nb => ⟨fun _ => h1 (fun z => nb z.2.1), fun z => absurd rfl z⟩)⟩) (fun na => ⟨fun _ => h1 (fun z => na z.1), fun z => absurd rfl z⟩)
  have hin : inB a 0 24 ∧ inB b 0 99 ∧ inB c 0 999 := ⟨⟨a1, a2⟩, ⟨b1, b2⟩, c1, c2⟩
  simp (disch := decide) only [oi_gI, oi_gJ, oi_gP, oi_pI, oi_pZ, oi_pJ, oi_oK, oi_aI hd, oi_aZ hd, oi_aJ hd, oi_sI hd, oi_sZ hd, oi_sJ hd, mI_1, mI_2, mJ_1, mJ_2, mJ_3, mA_1, mA_2, mA_3, mA_4, mL_1, mL_2, mL_3, mL_4, mK, Nat.reduceEqDiff, if_true, if_false, ite_true, ite_false, true_and, Nat.reduceLT, reduceIte, reduceCtorEq, cl_0, cl_1, cl_2, cl_3, cl_4, cl_5, cl_6, cl_7, cl_8, cl_9, cl_10, cl_11, cl_12, cl_13, cl_14, cl_15, vl_0_5585, vl_1_5585, vl_2_5585, vl_3_5585, vl_4_5585, vl_5_5585, vl_6_5585, vl_0_7, vl_1_7, vl_2_7, vl_3_7, vl_4_7, vl_5_7, vl_6_7]
  rw [en]
  refine ⟨fun c8 => ?_, fun c8 => h5 hin (nI_inj (by omega) (by omega) c8)⟩
  have hn8 : n < 8 := by
    have : n ≠ 8 := fun e => c8 (by rw [e]; rfl)
    omega
  simp (disch := decide) only [oi_gI, oi_gJ, oi_gP, oi_pI, oi_pZ, oi_pJ, oi_oK, oi_aI hd, oi_aZ hd, oi_aJ hd, oi_sI hd, oi_sZ hd, oi_sJ hd, mI_1, mI_2, mJ_1, mJ_2, mJ_3, mA_1, mA_2, mA_3, mA_4, mL_1, mL_2, mL_3, mL_4, mK, Nat.reduceEqDiff, if_true, if_false, ite_true, ite_false, true_and, Nat.reduceLT, reduceIte, reduceCtorEq, cl_0, cl_1, cl_2, cl_3, cl_4, cl_5, cl_6, cl_7, cl_8, cl_9, cl_10, cl_11, cl_12, cl_13, cl_14, cl_15, vl_0_5585, vl_1_5585, vl_2_5585, vl_3_5585, vl_4_5585, vl_5_5585, vl_6_5585, vl_0_7, vl_1_7, vl_2_7, vl_3_7, vl_4_7, vl_5_7, vl_6_7, mA_mA]
  rw [lit_nI 138, lit_nI 146, lit_nI 14, lit_nI 154, lit_nI 162, lit_nI 22, nIadd, nIadd, nIadd, nIadd, nIadd, nIadd, nI_clamp (by omega), nI_clamp (by omega), nI_clamp (by omega), nI_clamp (by omega), nI_clamp (by omega), nI_clamp (by omega)]
  refine ⟨vp_in_nI (by omega) (by omega), vp_in_nI (by omega) (by omega), vp_in_nI (by omega) (by omega), vp_in_nI (by omega) (by omega), vp_in_nI (by omega) (by omega), vp_in_nI (by omega) (by omega), ?_⟩
  have hf1 : rowOk mU (upd (upd (upd (M.2.2.1 3) (138 + n) a) (146 + n) b) (14 + n) c) := rowOk_free (by unfold rCon; omega) (rowOk_free (by unfold rCon; omega) (rowOk_free (by unfold rCon; omega) hr))
  have hf2 := rowOk_upd (i := 154 + n) (v := -1) hf1 (by omega) (by omega) (fun e => by omega) (fun e => by omega) (fun e => by omega) (fun e => by omega) (fun e => by omega) (fun _ _ => ⟨by decide, by decide⟩) (fun e => by omega) (by unfold rTk; omega)
  have hf : rowOk (upd mU (162 + n) 0) (upd (upd (upd (upd (upd (upd (M.2.2.1 3) (138 + n) a) (146 + n) b) (14 + n) c) (154 + n) (-1)) (162 + n) 0) (22 + n) 0) := rowOk_free (by unfold rCon; omega) (rowOk_updT hf2 (by omega) (by omega) (fun e => by omega) (fun e => by omega) (fun e => by omega) (fun e => by omega) (fun e => by omega) (fun e => by omega) (fun e => by omega))
  obtain ⟨f0, ef⟩ : ∃ f0, upd (upd (upd (upd (upd (upd (M.2.2.1 3) (138 + n) a) (146 + n) b) (14 + n) c) (154 + n) (-1)) (162 + n) 0) (22 + n) 0 = f0 := ⟨_, rfl⟩
  rw [ef] at hf ⊢
  refine loop_m (σ := (Nat → Int32) × Nat) (fun t s => w_X12_come_b124 q t (ov S o ad (mA M 3 s.1)) o (nI n) (nI s.2)) (fun s => s.2 ≤ 6 ∧ rowOk (upd mU (162 + n) 0) s.1 ∧ s.1 = psL f0 n s.2) (fun s => 6 - s.2) ?_ (f0, 0) ⟨Nat.zero_le _, hf, ?_⟩
  · rintro t ⟨f, i⟩ ⟨hi, hf, hL⟩ ih
    dsimp only at hi hf hL ih ⊢
    rw [w_X12_come_b124]
    refine ⟨fun cc => ?_, fun cc => ?_⟩
    · have c6 : i = 6 := by
        rw [lit_nI 6, nI_leI (by omega) (by omega)] at cc
        omega
      simp (disch := decide) only [oi_gI, oi_gJ, oi_gP, oi_pI, oi_pZ, oi_pJ, oi_oK, oi_aI hd, oi_aZ hd, oi_aJ hd, oi_sI hd, oi_sZ hd, oi_sJ hd, mI_1, mI_2, mJ_1, mJ_2, mJ_3, mA_1, mA_2, mA_3, mA_4, mL_1, mL_2, mL_3, mL_4, mK, Nat.reduceEqDiff, if_true, if_false, ite_true, ite_false, true_and, Nat.reduceLT, reduceIte, reduceCtorEq, cl_0, cl_1, cl_2, cl_3, cl_4, cl_5, cl_6, cl_7, cl_8, cl_9, cl_10, cl_11, cl_12, cl_13, cl_14, cl_15, vl_0_5585, vl_1_5585, vl_2_5585, vl_3_5585, vl_4_5585, vl_5_5585, vl_6_5585, vl_0_7, vl_1_7, vl_2_7, vl_3_7, vl_4_7, vl_5_7, vl_6_7, mA_mA]
      have h0' : f 1 = nI n := by
        rw [hL, ← ef]
        unfold psL
        rw [if_neg (by omega), upd_ne _ _ (by omega), upd_ne _ _ (by omega), upd_ne _ _ (by omega), upd_ne _ _ (by omega), upd_ne _ _ (by omega), upd_ne _ _ (by omega)]
        exact en
      rw [h0', nI_1]
      refine h hin hn8 _ (rowOk_updT hf (by omega) (by omega) (fun e => by omega) (fun _ => ⟨?_, ?_⟩) (fun e => by omega) (fun e => by omega) (fun e => by omega) (fun e => by omega) (fun e => by omega)) ?_ (fun j hj => ?_)
      · rw [nI_toInt (by omega)]; omega
      · rw [nI_toInt (by omega)]; omega
      · rw [cut_upd (by omega), hL, c6]
        have c0 : ∀ j, cut (psL f0 n 6) j = if 30 ≤ j ∧ j < 126 ∧ ((j - 30) / 6) % 8 = n then 0 else if j = 22 + n then 0 else if j = 162 + n then 0 else if j = 154 + n then -1 else if j = 14 + n then c else if j = 146 + n then b else if j = 138 + n then a else cut (M.2.2.1 3) j := by
          intro j
          rw [← ef]
          unfold cut psL upd
          by_cases cj : j < 185
          · rw [if_pos cj, if_pos cj]
            by_cases d1 : 30 ≤ j ∧ j < 126 ∧ ((j - 30) / 6) % 8 = n
            · rw [if_pos (by omega), if_pos d1]
            · rw [if_neg (by omega), if_neg d1]
          · rw [if_neg cj, if_neg cj, if_neg (by omega), if_neg (by omega), if_neg (by omega), if_neg (by omega), if_neg (by omega), if_neg (by omega), if_neg (by omega)]
        funext j
        unfold psX psR upd
        rw [c0]
        by_cases d0 : j = 1
        · rw [if_pos d0, if_neg (by omega), if_pos d0]
        · rw [if_neg d0]
          by_cases d1 : 30 ≤ j ∧ j < 126 ∧ ((j - 30) / 6) % 8 = n
          · rw [if_pos d1, if_neg (by omega), if_neg d0, if_neg (by omega), if_neg (by omega), if_neg (by omega), if_neg (by omega), if_neg (by omega), if_pos d1]
          · rw [if_neg d1]
            by_cases d2 : j = 22 + n
            · rw [if_pos d2, if_pos d2]
            · rw [if_neg d2, if_neg d2, if_neg d0]
              by_cases d3 : j = 162 + n
              · rw [if_pos d3, if_neg (by omega), if_neg (by omega), if_neg (by omega), if_pos d3]
              · rw [if_neg d3]
                by_cases d4 : j = 154 + n
                · rw [if_pos d4, if_neg (by omega), if_neg (by omega), if_pos d4]
                · rw [if_neg d4]
                  by_cases d5 : j = 14 + n
                  · rw [if_pos d5, if_neg (by omega), if_neg (by omega), if_neg (by omega), if_neg (by omega), if_pos d5]
                  · rw [if_neg d5]
                    by_cases d6 : j = 146 + n
                    · rw [if_pos d6, if_neg (by omega), if_pos d6]
                    · rw [if_neg d6]
                      by_cases d7 : j = 138 + n
                      · rw [if_pos d7, if_pos d7]
                      · rw [if_neg d7, if_neg d7, if_neg d6, if_neg d4, if_neg d3, if_neg d5, if_neg d1]
      · rw [upd_ne _ _ (by omega), hL, ← ef]
        unfold psL
        rw [if_neg (by omega), upd_ne _ _ (by omega), upd_ne _ _ (by omega), upd_ne _ _ (by omega), upd_ne _ _ (by omega), upd_ne _ _ (by omega), upd_ne _ _ (by omega)]
    · have cc : i < 6 := by
        rw [lit_nI 6, nI_not_le (by omega) (by omega)] at cc
        exact cc
      simp (disch := decide) only [oi_gI, oi_gJ, oi_gP, oi_pI, oi_pZ, oi_pJ, oi_oK, oi_aI hd, oi_aZ hd, oi_aJ hd, oi_sI hd, oi_sZ hd, oi_sJ hd, mI_1, mI_2, mJ_1, mJ_2, mJ_3, mA_1, mA_2, mA_3, mA_4, mL_1, mL_2, mL_3, mL_4, mK, Nat.reduceEqDiff, if_true, if_false, ite_true, ite_false, true_and, Nat.reduceLT, reduceIte, reduceCtorEq, cl_0, cl_1, cl_2, cl_3, cl_4, cl_5, cl_6, cl_7, cl_8, cl_9, cl_10, cl_11, cl_12, cl_13, cl_14, cl_15, vl_0_5585, vl_1_5585, vl_2_5585, vl_3_5585, vl_4_5585, vl_5_5585, vl_6_5585, vl_0_7, vl_1_7, vl_2_7, vl_3_7, vl_4_7, vl_5_7, vl_6_7, mA_mA]
      rw [lit_nI 30, lit_nI 78, lit_nI 6, nImul, nIadd, nIadd, nIadd, nIadd, nI_1, nI_clamp (by omega), nI_clamp (by omega)]
      refine ⟨vp_in_nI (by omega) (by omega), vp_in_nI (by omega) (by omega), eq_imp ?_⟩
      refine ih (upd (upd f (30 + 6 * n + i) 0) (78 + 6 * n + i) 0, i + 1) ⟨by show i + 1 ≤ 6; omega, ?_, ?_⟩ (by show 6 - (i + 1) < 6 - i; omega)
      · exact rowOk_free (by unfold rCon; omega) (rowOk_free (by unfold rCon; omega) hf)
      · dsimp only
        rw [hL]
        funext j
        unfold psL upd
        dsimp only
        by_cases d1 : j = 78 + 6 * n + i
        · rw [if_pos d1, if_pos (by omega)]
        · rw [if_neg d1]
          by_cases d2 : j = 30 + 6 * n + i
          · rw [if_pos d2, if_pos (by omega)]
          · rw [if_neg d2]
            by_cases d3 : 30 ≤ j ∧ j < 126 ∧ ((j - 30) / 6) % 8 = n ∧ j % 6 < i
            · rw [if_pos d3, if_pos (by omega)]
            · rw [if_neg d3, if_neg (by omega)]
  · dsimp only
    funext j
    unfold psL
    rw [if_neg (by omega)]
theorem xr_person (hd : mD o ad) (hM : mOk M M) (hR : RR M rs T) (hA : aB T) {q : Int32 → hS → Prop} {a b c : Int32} (h : ∀ N, mOk N N → RR N rs (spPerson a b c T).2 → q (spPerson a b c T).1 (ov S o ad N)) : w_X12_person q (ov S o ad M) o a b c := by
  have hM0 : mOk M (mI M 0 0) := mOk_i hM (by omega)
  have hR0 := hR.z (x := 0)
  have bb := hA.hi
  have hn : nPR T.1.1 ≤ 8 := by unfold nPR; omega
  have hi : (nPR T.1.1 : Int) = iR T.1.1 1 := by unfold nPR; omega
  unfold w_X12_person
  simp (disch := decide) only [oi_gI, oi_gJ, oi_gP, oi_pI, oi_pZ, oi_pJ, oi_oK, oi_aI hd, oi_aZ hd, oi_aJ hd, oi_sI hd, oi_sZ hd, oi_sJ hd, mI_1, mI_2, mJ_1, mJ_2, mJ_3, mA_1, mA_2, mA_3, mA_4, mL_1, mL_2, mL_3, mL_4, mK, Nat.reduceEqDiff, if_true, if_false, ite_true, ite_false, true_and, Nat.reduceLT, reduceIte, reduceCtorEq, cl_0, cl_1, cl_2, cl_3, cl_4, cl_5, cl_6, cl_7, cl_8, cl_9, cl_10, cl_11, cl_12, cl_13, cl_14, cl_15, vl_0_5585, vl_1_5585, vl_2_5585, vl_3_5585, vl_4_5585, vl_5_5585, vl_6_5585, vl_0_7, vl_1_7, vl_2_7, vl_3_7, vl_4_7, vl_5_7, vl_6_7]
  refine x_come hd hM0.1 hn (RRnP hR hA) (fun hc => ⟨ov_oK, r_settledN hd hM0 hR0 (v := 1) (by omega) (by decide) (fun N hN hRN => ?_)⟩) (fun hc e => ⟨ov_oK, r_settledN hd hM0 hR0 (v := 5) (by omega) (by decide) (fun N hN hRN => ?_)⟩) (fun hc hn8 f hf hcut hhi => ⟨ov_oK, r_settled hd (mOk_rT hM0 hf) (hR0.tc (g := psX T.1.1 (nPR T.1.1) a b c) ?_ hhi ?_) (by rw [nI_toInt (by omega)]; omega) (fun N hN hRN => ?_)⟩)
  · have e : spPerson a b c T = spRef 1 T := by unfold spPerson; rw [if_pos hc]
    rw [e] at h
    exact h N (mOk_self hN) hRN
  · have e : spPerson a b c T = spRef 5 T := by unfold spPerson; rw [if_neg (fun z => z hc), if_neg (by omega)]
    rw [e] at h
    exact h N (mOk_self hN) hRN
  · rw [hcut]
    show psX (cut (M.2.2.1 3)) _ _ _ _ = _
    rw [hR.1.1]
  · unfold psX psR
    rw [if_neg (by omega), if_neg (by omega), if_neg (by omega), if_neg (by omega), if_neg (by omega), if_neg (by omega), if_neg (by omega), if_neg (by omega)]
  · have e : spPerson a b c T = spAcc (nI (nPR T.1.1)) (aTn (psX T.1.1 (nPR T.1.1) a b c) (aCl T)) := by unfold spPerson; rw [if_neg (fun z => z hc), if_pos (by omega)]
    rw [e] at h
    exact h N (mOk_self hN) hRN
end TP
