/-! THE REFERENCE'S LEAVES AND PARTS, EXACTLY -/
section RY
variable {S : hS} {o : Nat} {ad : Nat → Nat} {M : mS} {G : pG} {out π : List (Nat × Nat)} {p k d : Nat}
theorem x_leaf (hd : mD o ad) {q : hS → Prop} (hR : RS G M p k out π d) {v : Int32} {op arg : Nat} (hv : ¬ v = 0 → tK G p ≠ 0) (k0 : (v = 0 ∨ 50 ≤ k) → ∀ N, Fx [18, 19] [] [] [] M N → RB G N p → q (ov S o ad N)) (k1 : ¬ v = 0 → k < 50 → ∀ N, Fx [14, 15, 16, 23, 26] [17] [24, 25] [] M N → RS G N (tE G p) (k + 1) (out ++ [(op, arg)]) π d → q (ov S o ad N)) : w_X12_leaf q (ov S o ad M) o v (nI op) (nI arg) := by
  obtain ⟨r1, r2, r3, r4, r5, r6, r7, r8, r9, r10, r11, r12⟩ := id hR
  have hT := r3.2.1
  have t3 := tE_le r8
  have k18 : (v = 0 ∨ 50 ≤ k) → w_X12_leaf_b19 q (ov S o ad M) o (nI op) (nI arg) 0 o := by
    intro c
    refine ⟨ov_oK, x_must hd r1 r3 r8 r2 (fun _ N hF h19 h18 => ?_) (fun z => absurd rfl z)⟩
    simp (disch := decide) only [oi_gI, oi_gJ, oi_gP, oi_pI, oi_pZ, oi_pJ, oi_oK, oi_aI hd, oi_aZ hd, oi_aJ hd, oi_sI hd, oi_sZ hd, oi_sJ hd, mI_1, mI_2, mJ_1, mJ_2, mJ_3, mA_1, mA_2, mA_3, mA_4, mL_1, mL_2, mL_3, mL_4, mK, Nat.reduceEqDiff, if_true, if_false, ite_true, ite_false, true_and, Nat.reduceLT, reduceIte, reduceCtorEq, cl_0, cl_1, cl_2, cl_3, cl_4, cl_5, cl_6, cl_7, cl_8, cl_9, cl_10, cl_11, cl_12, cl_13, cl_14, cl_15, vl_0_5585, vl_1_5585, vl_2_5585, vl_3_5585, vl_4_5585, vl_5_5585, vl_6_5585, vl_0_7, vl_1_7, vl_2_7, vl_3_7, vl_4_7, vl_5_7, vl_6_7]
    rw [h19]
    exact ⟨fun _ => k0 c N hF (RB_of hR hF h19 h18), fun z => absurd z (by decide)⟩
  unfold w_X12_leaf w_X12_leaf_b18
  simp (disch := decide) only [oi_gI, oi_gJ, oi_gP, oi_pI, oi_pZ, oi_pJ, oi_oK, oi_aI hd, oi_aZ hd, oi_aJ hd, oi_sI hd, oi_sZ hd, oi_sJ hd, mI_1, mI_2, mJ_1, mJ_2, mJ_3, mA_1, mA_2, mA_3, mA_4, mL_1, mL_2, mL_3, mL_4, mK, Nat.reduceEqDiff, if_true, if_false, ite_true, ite_false, true_and, Nat.reduceLT, reduceIte, reduceCtorEq, cl_0, cl_1, cl_2, cl_3, cl_4, cl_5, cl_6, cl_7, cl_8, cl_9, cl_10, cl_11, cl_12, cl_13, cl_14, cl_15, vl_0_5585, vl_1_5585, vl_2_5585, vl_3_5585, vl_4_5585, vl_5_5585, vl_6_5585, vl_0_7, vl_1_7, vl_2_7, vl_3_7, vl_4_7, vl_5_7, vl_6_7]
  rw [r6, lit_nI 50, nI_leI (by omega) (by omega)]
  refine ⟨fun c => k18 (Or.inl c), fun c1 => ⟨fun c => k18 (Or.inr c), fun c2 => ⟨ov_oK, x_must hd r1 r3 r8 r2 (fun z => absurd z (by decide)) (fun _ N hF ht => ?_)⟩⟩⟩
  have n19 : N.1 19 = 0 := (hF.1 19 (by simp)).trans r1
  have n26 : N.1 26 = nI k := (hF.1 26 (by simp)).trans r6
  have t1 := tE_gt (hv c1)
  have t2 := tS_ge G p
  have r4' := pR2_fx hF r4 (by simp)
  simp (disch := decide) only [oi_gI, oi_gJ, oi_gP, oi_pI, oi_pZ, oi_pJ, oi_oK, oi_aI hd, oi_aZ hd, oi_aJ hd, oi_sI hd, oi_sZ hd, oi_sJ hd, mI_1, mI_2, mJ_1, mJ_2, mJ_3, mA_1, mA_2, mA_3, mA_4, mL_1, mL_2, mL_3, mL_4, mK, Nat.reduceEqDiff, if_true, if_false, ite_true, ite_false, true_and, Nat.reduceLT, reduceIte, reduceCtorEq, cl_0, cl_1, cl_2, cl_3, cl_4, cl_5, cl_6, cl_7, cl_8, cl_9, cl_10, cl_11, cl_12, cl_13, cl_14, cl_15, vl_0_5585, vl_1_5585, vl_2_5585, vl_3_5585, vl_4_5585, vl_5_5585, vl_6_5585, vl_0_7, vl_1_7, vl_2_7, vl_3_7, vl_4_7, vl_5_7, vl_6_7]
  rw [n19]
  refine ⟨fun z => absurd rfl z, fun _ => f_emit hd r4'.1 (by omega) ?_⟩
  simp (disch := decide) only [oi_gI, oi_gJ, oi_gP, oi_pI, oi_pZ, oi_pJ, oi_oK, oi_aI hd, oi_aZ hd, oi_aJ hd, oi_sI hd, oi_sZ hd, oi_sJ hd, mI_1, mI_2, mJ_1, mJ_2, mJ_3, mA_1, mA_2, mA_3, mA_4, mL_1, mL_2, mL_3, mL_4, mK, Nat.reduceEqDiff, if_true, if_false, ite_true, ite_false, true_and, Nat.reduceLT, reduceIte, reduceCtorEq, cl_0, cl_1, cl_2, cl_3, cl_4, cl_5, cl_6, cl_7, cl_8, cl_9, cl_10, cl_11, cl_12, cl_13, cl_14, cl_15, vl_0_5585, vl_1_5585, vl_2_5585, vl_3_5585, vl_4_5585, vl_5_5585, vl_6_5585, vl_0_7, vl_1_7, vl_2_7, vl_3_7, vl_4_7, vl_5_7, vl_6_7]
  rw [mE_fx.1 26 (by simp), n26, nI_1]
  have hF3 := (mE_fx (N := N) (c := out.length) (x := nI op) (y := nI arg)).tr (Fx.i 26 (nI (k + 1)))
  have hF4 := hF.tr hF3
  refine k1 c1 (by omega) _ (hF4.le (by simp) (by simp) (by simp) (by simp)) ⟨(hF3.1 19 (by simp)).trans n19, tokAt_fx hF3 ht (by simp), tpM_fx hF4 r3 (by simp), pR2_fx (Fx.i 26 _) (pR2_emit (x := (op, arg)) r4') (by simp), (hF4.1 30 (by simp)).trans r5, by simp [mI_1], wdsG_fx hF4 r7 (by simp), t3, by rw [List.length_append, List.length_singleton]; omega, by omega, r11, jOk_app r12⟩
theorem pR2_arg {op a g : Nat} (hR : pR2 M (out ++ [(op, a)]) π) : pR2 (mA M 25 (upd (M.2.2.1 25) out.length (nI g))) (out ++ [(op, g)]) π := by
  obtain ⟨h1, h2, h3, h4⟩ := hR
  refine ⟨by rw [mA_1, h1, List.length_append, List.length_append]; rfl, fun i hi => ?_, h3, h4⟩
  rw [List.length_append, List.length_singleton] at hi
  have h2 := h2 i (by rw [List.length_append, List.length_singleton]; exact hi)
  show M.2.2.1 24 i = _ ∧ upd (M.2.2.1 25) out.length (nI g) i = _
  by_cases c : i = out.length
  · subst c
    rw [upd_self]
    simp at h2
    simp [h2.1]
  · rw [upd_ne _ _ c, List.getElem_append_left (by omega)]
    rw [List.getElem_append_left (by omega)] at h2
    exact h2
theorem fndN_no {W : List (List Nat × Nat × Nat × Option Nat)} (h : fndW G W p = none) : fndN G W p = -1 := by
  unfold fndN
  rw [h]
theorem fndN_so {W : List (List Nat × Nat × Nat × Option Nat)} {w : List Nat × Nat × Nat × Option Nat} (h : fndW G W p = some w) : fndN G W p = nI w.2.2.1 := by
  unfold fndN
  rw [h]
/-- the words that are known: by the languages -/
def wdsO (x : Int32) : List (List Nat × Nat × Nat × Option Nat) := if x = 0 then lwW else orW
theorem wdsO_r {x : Int32} {w : List Nat × Nat × Nat × Option Nat} (h : fndW G (wdsO x) p = some w) : 1 ≤ w.2.2.1 ∧ w.2.2.1 ≤ 9 := by
  have hm := (fndW_in h).1
  unfold wdsO at hm
  split at hm
  · obtain ⟨k, hk, rfl⟩ := List.mem_iff_getElem.mp hm
    have l9 : lwW.length = 9 := rfl
    have := (lw_k k hk _ hm rfl).1
    omega
  · obtain ⟨k, hk, rfl⟩ := List.mem_iff_getElem.mp hm
    have l7 : orW.length = 7 := rfl
    have := (or_k k hk _ hm rfl).1
    omega
theorem x_readPart (hd : mD o ad) {q : Int32 → hS → Prop} (hR : RS G M p k out π d) (h : RO G M (ptS G (wdsO (M.1 20)) p k out π d) q S o ad) : w_X12_readPart q (ov S o ad M) o := by
  obtain ⟨r1, r2, r3, r4, r5, r6, r7, r8, r9, r10, r11, r12⟩ := id hR
  have hT := r3.2.1
  have hb := r3.2.2.2
  have k4 := tK_4 G p
  have hw := wth_le (G := G) (p := p) hb
  unfold ptS at h
  -- behind the question for a bracket
  have k35 : ¬ isSg G p 91 = true → w_X12_readPart_b35 q (ov S o ad M) o (fndN G (wdsO (M.1 20)) p) := by
    intro nb
    rw [if_neg nb] at h
    -- a leaf that can't be
    have bad : ∀ (its y x v : Int32) (op arg : Nat), x = nI op → y = nI arg → (¬ v = 0 → 50 ≤ k) → (v = 0 → isNm G p 0 1000 ≠ true ∧ fndW G (wdsO (M.1 20)) p = none) → (¬ v = 0 → tK G p ≠ 0) → w_X12_readPart_b99 q (ov S o ad M) o its y x v o := by
      rintro its y x v op arg rfl rfl hv1 hv2 hv3
      refine ⟨ov_oK, x_leaf hd hR hv3 (fun c N hF hB => ?_) (fun c c2 => absurd (hv1 c) (by omega))⟩
      have hq : ∀ r, q r (ov S o ad N) := by
        have h := h N (hF.le (by simp) (by simp) (by simp) (by simp))
        by_cases c5 : 50 ≤ k
        · rw [if_pos c5] at h
          exact h hB
        · rw [if_neg c5] at h
          have v0 : v = 0 := by
            rcases c with c | c
            · exact c
            · omega
          rw [if_neg (hv2 v0).1, (hv2 v0).2] at h
          exact h hB
      simp (disch := decide) only [oi_gI, oi_gJ, oi_gP, oi_pI, oi_pZ, oi_pJ, oi_oK, oi_aI hd, oi_aZ hd, oi_aJ hd, oi_sI hd, oi_sZ hd, oi_sJ hd, mI_1, mI_2, mJ_1, mJ_2, mJ_3, mA_1, mA_2, mA_3, mA_4, mL_1, mL_2, mL_3, mL_4, mK, Nat.reduceEqDiff, if_true, if_false, ite_true, ite_false, true_and, Nat.reduceLT, reduceIte, reduceCtorEq, cl_0, cl_1, cl_2, cl_3, cl_4, cl_5, cl_6, cl_7, cl_8, cl_9, cl_10, cl_11, cl_12, cl_13, cl_14, cl_15, vl_0_5585, vl_1_5585, vl_2_5585, vl_3_5585, vl_4_5585, vl_5_5585, vl_6_5585, vl_0_7, vl_1_7, vl_2_7, vl_3_7, vl_4_7, vl_5_7, vl_6_7]
      exact ⟨fun _ => hq _, fun _ => ⟨fun _ => hq _, fun _ => ⟨fun _ => hq _, fun z => absurd (z.symm.trans hB.1) (by decide)⟩⟩⟩
    -- digits
    have num : isNm G p 0 1000 = true → w_X12_readPart_b60 q (ov S o ad M) o (fndN G (wdsO (M.1 20)) p) 1 := by
      intro hn
      have hk2 := isNm_k hn
      have hv := isNm_v (by omega) hn
      have no : fndW G (wdsO (M.1 20)) p = none := by
        cases e : fndW G (wdsO (M.1 20)) p with
        | none => rfl
        | some w =>
          have := (fndW_in e).2
          omega
      have ew : wth G p = (nV G p : Nat) := by
        unfold wth
        rw [if_neg (by omega), if_pos hk2.1, hv.1]
      rw [fndN_no no]
      unfold w_X12_readPart_b60 w_X12_readPart_b71 w_X12_readPart_b76 w_X12_readPart_b86
      simp (disch := decide) only [oi_gI, oi_gJ, oi_gP, oi_pI, oi_pZ, oi_pJ, oi_oK, oi_aI hd, oi_aZ hd, oi_aJ hd, oi_sI hd, oi_sZ hd, oi_sJ hd, mI_1, mI_2, mJ_1, mJ_2, mJ_3, mA_1, mA_2, mA_3, mA_4, mL_1, mL_2, mL_3, mL_4, mK, Nat.reduceEqDiff, if_true, if_false, ite_true, ite_false, true_and, Nat.reduceLT, reduceIte, reduceCtorEq, cl_0, cl_1, cl_2, cl_3, cl_4, cl_5, cl_6, cl_7, cl_8, cl_9, cl_10, cl_11, cl_12, cl_13, cl_14, cl_15, vl_0_5585, vl_1_5585, vl_2_5585, vl_3_5585, vl_4_5585, vl_5_5585, vl_6_5585, vl_0_7, vl_1_7, vl_2_7, vl_3_7, vl_4_7, vl_5_7, vl_6_7]
      rw [r2.2.2.2, ew, toI32 (by omega)]
      refine ⟨fun z => absurd trivial z, fun _ => ⟨fun z => absurd z (by decide), fun _ => ⟨fun z => absurd trivial z, fun _ => ⟨fun z => absurd z (by decide), fun _ => ?_⟩⟩⟩⟩
      by_cases c5 : 50 ≤ k
      · exact bad (-1) (nI (nV G p)) 0 1 0 (nV G p) rfl rfl (fun _ => c5) (fun z => absurd z (by decide)) (fun _ => by omega)
      · refine ⟨ov_oK, x_leaf hd hR (op := 0) (arg := nV G p) (fun _ => by omega) (fun c => by rcases c with c | c; exact absurd c (by decide); omega) (fun _ _ N hF hN => ?_)⟩
        have h := h N (hF.le (by simp) (by simp) (by simp) (by simp))
        rw [if_neg c5, if_pos hn] at h
        have hq : q 3 (ov S o ad N) := h hN
        simp (disch := decide) only [oi_gI, oi_gJ, oi_gP, oi_pI, oi_pZ, oi_pJ, oi_oK, oi_aI hd, oi_aZ hd, oi_aJ hd, oi_sI hd, oi_sZ hd, oi_sJ hd, mI_1, mI_2, mJ_1, mJ_2, mJ_3, mA_1, mA_2, mA_3, mA_4, mL_1, mL_2, mL_3, mL_4, mK, Nat.reduceEqDiff, if_true, if_false, ite_true, ite_false, true_and, Nat.reduceLT, reduceIte, reduceCtorEq, cl_0, cl_1, cl_2, cl_3, cl_4, cl_5, cl_6, cl_7, cl_8, cl_9, cl_10, cl_11, cl_12, cl_13, cl_14, cl_15, vl_0_5585, vl_1_5585, vl_2_5585, vl_3_5585, vl_4_5585, vl_5_5585, vl_6_5585, vl_0_7, vl_1_7, vl_2_7, vl_3_7, vl_4_7, vl_5_7, vl_6_7]
        exact ⟨fun _ => hq, fun _ => ⟨fun _ => hq, fun z => absurd (by decide) z⟩⟩
    -- no digits
    have wrd : ¬ isNm G p 0 1000 = true → w_X12_readPart_b60 q (ov S o ad M) o (fndN G (wdsO (M.1 20)) p) 0 := by
      intro hn
      unfold w_X12_readPart_b60 w_X12_readPart_b71 w_X12_readPart_b76 w_X12_readPart_b86
      simp (disch := decide) only [oi_gI, oi_gJ, oi_gP, oi_pI, oi_pZ, oi_pJ, oi_oK, oi_aI hd, oi_aZ hd, oi_aJ hd, oi_sI hd, oi_sZ hd, oi_sJ hd, mI_1, mI_2, mJ_1, mJ_2, mJ_3, mA_1, mA_2, mA_3, mA_4, mL_1, mL_2, mL_3, mL_4, mK, Nat.reduceEqDiff, if_true, if_false, ite_true, ite_false, true_and, Nat.reduceLT, reduceIte, reduceCtorEq, cl_0, cl_1, cl_2, cl_3, cl_4, cl_5, cl_6, cl_7, cl_8, cl_9, cl_10, cl_11, cl_12, cl_13, cl_14, cl_15, vl_0_5585, vl_1_5585, vl_2_5585, vl_3_5585, vl_4_5585, vl_5_5585, vl_6_5585, vl_0_7, vl_1_7, vl_2_7, vl_3_7, vl_4_7, vl_5_7, vl_6_7]
      cases hf : fndW G (wdsO (M.1 20)) p with
      | none =>
        rw [fndN_no hf]
        exact ⟨fun z => absurd rfl z, fun _ => ⟨fun _ => ⟨fun z => absurd rfl z, fun _ => ⟨fun _ => bad (-1) 0 0 0 0 0 rfl rfl (fun z => absurd rfl z) (fun _ => ⟨hn, hf⟩) (fun z => absurd rfl z), fun z => absurd trivial z⟩⟩, fun z => absurd trivial z⟩⟩
      | some w =>
        have hw9 := wdsO_r hf
        have hk1 := (fndW_in hf).2
        have nm : ¬ nI w.2.2.1 = -1 := fun z => by
          have := congrArg Int32.toInt z
          rw [nI_toInt (by omega), show (-1 : Int32).toInt = -1 by decide] at this
          omega
        rw [fndN_so hf]
        refine ⟨fun _ => ⟨fun _ => ⟨fun _ => ?_, fun z => absurd trivial z⟩, fun z => absurd z nm⟩, fun z => absurd z nm⟩
        by_cases c5 : 50 ≤ k
        · exact bad _ 0 _ 1 w.2.2.1 0 rfl rfl (fun _ => c5) (fun z => absurd z (by decide)) (fun _ => by omega)
        · refine ⟨ov_oK, x_leaf hd hR (op := w.2.2.1) (arg := 0) (fun _ => by omega) (fun c => by rcases c with c | c; exact absurd c (by decide); omega) (fun _ _ N hF hN => ?_)⟩
          rw [if_neg c5, if_neg hn, hf] at h
          dsimp only at h
          have n20 : N.1 20 = M.1 20 := hF.1 20 (by simp)
          have hm := (fndW_in hf).1
          obtain ⟨s1, s2, s3, s4, s5, s6, s7, s8, s9, s10, s11, s12⟩ := id hN
          have s9' := s9
          rw [List.length_append, List.length_singleton] at s9'
          simp (disch := decide) only [oi_gI, oi_gJ, oi_gP, oi_pI, oi_pZ, oi_pJ, oi_oK, oi_aI hd, oi_aZ hd, oi_aJ hd, oi_sI hd, oi_sZ hd, oi_sJ hd, mI_1, mI_2, mJ_1, mJ_2, mJ_3, mA_1, mA_2, mA_3, mA_4, mL_1, mL_2, mL_3, mL_4, mK, Nat.reduceEqDiff, if_true, if_false, ite_true, ite_false, true_and, Nat.reduceLT, reduceIte, reduceCtorEq, cl_0, cl_1, cl_2, cl_3, cl_4, cl_5, cl_6, cl_7, cl_8, cl_9, cl_10, cl_11, cl_12, cl_13, cl_14, cl_15, vl_0_5585, vl_1_5585, vl_2_5585, vl_3_5585, vl_4_5585, vl_5_5585, vl_6_5585, vl_0_7, vl_1_7, vl_2_7, vl_3_7, vl_4_7, vl_5_7, vl_6_7]
          rw [n20, s1, s4.1, List.length_append, List.length_singleton]
          have one : w.2.2.2 = none → q 3 (ov S o ad N) := by
            intro e
            have h := h N (hF.le (by simp) (by simp) (by simp) (by simp))
            rw [e] at h
            exact h hN
          refine ⟨fun c => one ?_, fun c => ?_⟩
          · rw [c] at hm
            obtain ⟨j, hj, rfl⟩ := List.mem_iff_getElem.mp hm
            exact (lw_k j hj _ hm rfl).2
          · have ewd : wdsO (M.1 20) = orW := if_neg c
            rw [ewd] at hm
            obtain ⟨j, hj, hjw⟩ := List.mem_iff_getElem.mp hm
            have hj := or_k j hj w hm (by rw [hjw])
            rw [i32lt, nI_toInt (by omega), show (5 : Int32).toInt = 5 by decide]
            refine ⟨fun c2 => one (hj.2.1.mpr (by omega)), fun c2 => ⟨fun z => absurd rfl z, fun _ y ey => ?_⟩⟩
            rw [nI_s1 (by omega), show out.length + 1 - 1 = out.length by omega] at ey
            have hmx : w.2.2.2 = some (if w.2.2.1 = 7 then 5 else 7) := by
              rcases hj.2.2 with e | e
              · have := hj.2.1.mp e
                omega
              · rw [e, hj.1]
            rw [hmx] at h
            dsimp only at h
            have k150 : w_X12_readPart_b150 q (ov S o ad N) (jN (if w.2.2.1 = 7 then 5 else 7 : Nat)) (jN (0 : Nat)) o (nI out.length) (ad 25) := by
              have t3 := tE_le r8
              refine ⟨ov_oK, x_number hd (p := tE G p) (by split <;> omega) (by omega) s1 s3 s8 s2 (fun c3 r N2 hF2 h19 h18 => ?_) (fun c3 N2 hF2 ht2 => ?_)⟩
              · obtain ⟨g, rfl⟩ := nI_all r
                have hF3 := (hF.tr hF2).tr (Fx.a 25 (upd (N2.2.2.1 25) out.length (nI g)))
                have hF4 := hF2.tr (Fx.a 25 (upd (N2.2.2.1 25) out.length (nI g)))
                have h := h _ (hF3.le (by simp) (by simp) (by simp) (by simp))
                rw [if_neg c3] at h
                simp (disch := decide) only [oi_gI, oi_gJ, oi_gP, oi_pI, oi_pZ, oi_pJ, oi_oK, oi_aI hd, oi_aZ hd, oi_aJ hd, oi_sI hd, oi_sZ hd, oi_sJ hd, mI_1, mI_2, mJ_1, mJ_2, mJ_3, mA_1, mA_2, mA_3, mA_4, mL_1, mL_2, mL_3, mL_4, mK, Nat.reduceEqDiff, if_true, if_false, ite_true, ite_false, true_and, Nat.reduceLT, reduceIte, reduceCtorEq, cl_0, cl_1, cl_2, cl_3, cl_4, cl_5, cl_6, cl_7, cl_8, cl_9, cl_10, cl_11, cl_12, cl_13, cl_14, cl_15, vl_0_5585, vl_1_5585, vl_2_5585, vl_3_5585, vl_4_5585, vl_5_5585, vl_6_5585, vl_0_7, vl_1_7, vl_2_7, vl_3_7, vl_4_7, vl_5_7, vl_6_7]
                rw [nI_clamp (by omega)]
                exact ⟨vp_in_nI (by omega) (by omega), h ⟨h19, h18, tpM_fx hF4 s3 (by simp), wdsM_fx hF4 s7.1 (by simp), out ++ [(w.2.2.1, g)], π, pR2_arg (pR2_fx hF2 s4 (by simp)), jOk_app r12, by rw [List.length_append, List.length_singleton]; omega⟩ 3⟩
              · have hF3 := (hF.tr hF2).tr (Fx.a 25 (upd (N2.2.2.1 25) out.length (nI (nV G (tE G p)))))
                have hF4 := hF2.tr (Fx.a 25 (upd (N2.2.2.1 25) out.length (nI (nV G (tE G p)))))
                have h := h _ (hF3.le (by simp) (by simp) (by simp) (by simp))
                rw [if_pos c3] at h
                simp (disch := decide) only [oi_gI, oi_gJ, oi_gP, oi_pI, oi_pZ, oi_pJ, oi_oK, oi_aI hd, oi_aZ hd, oi_aJ hd, oi_sI hd, oi_sZ hd, oi_sJ hd, mI_1, mI_2, mJ_1, mJ_2, mJ_3, mA_1, mA_2, mA_3, mA_4, mL_1, mL_2, mL_3, mL_4, mK, Nat.reduceEqDiff, if_true, if_false, ite_true, ite_false, true_and, Nat.reduceLT, reduceIte, reduceCtorEq, cl_0, cl_1, cl_2, cl_3, cl_4, cl_5, cl_6, cl_7, cl_8, cl_9, cl_10, cl_11, cl_12, cl_13, cl_14, cl_15, vl_0_5585, vl_1_5585, vl_2_5585, vl_3_5585, vl_4_5585, vl_5_5585, vl_6_5585, vl_0_7, vl_1_7, vl_2_7, vl_3_7, vl_4_7, vl_5_7, vl_6_7]
                rw [nI_clamp (by omega)]
                have t4 := tE_le t3
                have t5 := tE_gt (G := G) (p := tE G p) (by rw [(isNm_k c3).1]; omega)
                have t6 := tS_ge G (tE G p)
                exact ⟨vp_in_nI (by omega) (by omega), h ⟨(hF4.1 19 (by simp)).trans s1, tokAt_fx (Fx.a 25 _) ht2 (by simp), tpM_fx hF4 s3 (by simp), pR2_arg (pR2_fx hF2 s4 (by simp)), (hF4.1 30 (by simp)).trans s5, (hF4.1 26 (by simp)).trans s6, wdsG_fx hF4 s7 (by simp), t4, by rw [List.length_append, List.length_singleton] at s9 ⊢; dsimp only; omega, s10, s11, jOk_app r12⟩⟩
            subst ey
            refine ⟨fun c3 => ?_, fun c3 => ?_⟩
            · rw [if_neg (fun z => c3 (by rw [z]; rfl))] at k150
              exact k150
            · have : w.2.2.1 = 7 := by
                rw [lit_nI 7, nI_eq (by omega) (by omega)] at c3
                exact c3
              rw [if_pos this] at k150
              exact k150
    unfold w_X12_readPart_b35 w_X12_readPart_b59
    simp (disch := decide) only [oi_gI, oi_gJ, oi_gP, oi_pI, oi_pZ, oi_pJ, oi_oK, oi_aI hd, oi_aZ hd, oi_aJ hd, oi_sI hd, oi_sZ hd, oi_sJ hd, mI_1, mI_2, mJ_1, mJ_2, mJ_3, mA_1, mA_2, mA_3, mA_4, mL_1, mL_2, mL_3, mL_4, mK, Nat.reduceEqDiff, if_true, if_false, ite_true, ite_false, true_and, Nat.reduceLT, reduceIte, reduceCtorEq, cl_0, cl_1, cl_2, cl_3, cl_4, cl_5, cl_6, cl_7, cl_8, cl_9, cl_10, cl_11, cl_12, cl_13, cl_14, cl_15, vl_0_5585, vl_1_5585, vl_2_5585, vl_3_5585, vl_4_5585, vl_5_5585, vl_6_5585, vl_0_7, vl_1_7, vl_2_7, vl_3_7, vl_4_7, vl_5_7, vl_6_7]
    rw [r2.2.2.1, r2.2.2.2, lit_nI 2, nI_eq (by omega) (by omega)]
    refine ⟨fun c => wrd (fun z => c (isNm_k z).1), fun c => ?_⟩
    have ew : wth G p = (rV G p : Nat) := by
      unfold wth
      rw [if_neg (by omega), if_pos c]
    rw [ew] at hw ⊢
    have e1000 : 0 < lg_cmp (jN (rV G p : Nat)) 1000 ↔ ¬ rV G p ≤ 1000 := by
      rw [show (0 < lg_cmp (jN (rV G p : Nat)) 1000 ↔ ¬ (lg_cmp (jN (rV G p : Nat)) 1000 ≤ 0)) from by rw [Int32.not_le], lg_cmp_le, show (1000 : Int64) = jN 1000 from rfl, jN_le (by omega) (by omega)]
      omega
    rw [e1000]
    refine ⟨fun c2 => wrd (fun z => ?_), fun c2 => num ((isNm_r (by omega)).mpr ⟨c, by omega, by omega⟩)⟩
    have := (isNm_r (by omega)).mp z
    omega
  refine ⟨ov_oK, x_isSign hd hb r2 (c := 91) (by omega) (fun hs => ⟨fun z => absurd z (by decide), fun _ => ⟨ov_oK, ?_⟩⟩) (fun hs => ⟨fun _ => ?_, fun z => absurd rfl z⟩)⟩
  · rw [if_pos hs] at h
    have hk := (isSg_k hs).1
    refine x_openBracket hd hR (by omega) (op := 32) (Or.inr rfl) (fun c N hF hN => ?_) (fun c N hF hB => ?_)
    · have h := h N hF
      rw [if_pos c] at h
      exact h hN
    · have h := h N hF
      rw [if_neg c] at h
      exact h hB _
  · have e := k35 hs
    simp (disch := decide) only [oi_gI, oi_gJ, oi_gP, oi_pI, oi_pZ, oi_pJ, oi_oK, oi_aI hd, oi_aZ hd, oi_aJ hd, oi_sI hd, oi_sZ hd, oi_sJ hd, mI_1, mI_2, mJ_1, mJ_2, mJ_3, mA_1, mA_2, mA_3, mA_4, mL_1, mL_2, mL_3, mL_4, mK, Nat.reduceEqDiff, if_true, if_false, ite_true, ite_false, true_and, Nat.reduceLT, reduceIte, reduceCtorEq, cl_0, cl_1, cl_2, cl_3, cl_4, cl_5, cl_6, cl_7, cl_8, cl_9, cl_10, cl_11, cl_12, cl_13, cl_14, cl_15, vl_0_5585, vl_1_5585, vl_2_5585, vl_3_5585, vl_4_5585, vl_5_5585, vl_6_5585, vl_0_7, vl_1_7, vl_2_7, vl_3_7, vl_4_7, vl_5_7, vl_6_7]
    refine ⟨fun c => ?_, fun c => ?_⟩
    · have ew : wdsO (M.1 20) = lwW := if_pos c
      rw [ew] at e
      exact x_partAt hd r7.1 hb r2 e
    · have ew : wdsO (M.1 20) = orW := if_neg c
      rw [ew] at e
      exact x_orderPartAt hd r7.1 hb r2 e
end RY
