/-! WHO IT CAN HAVE BEEN: THE REFERENCE -/
section RW3
variable {S : hS} {o : Nat} {ad : Nat → Nat} {M : mS} {mT : mS} {T : aS} {rs : Nat} {G : Nat → Int32}
theorem x_timesTold (hd : mD o ad) (hB : rB G) (hG : ∀ i, i < 185 → M.2.2.1 3 i = G i) {q : Int32 → hS → Prop} {h : Nat} (hh : h < 100) (k : q (nI (toR G h (nCR G))) (ov S o ad M)) : w_X12_timesTold q (ov S o ad M) o (nI h) := by
  obtain ⟨c6, e2⟩ := nCR_le hB
  refine loop_m (σ := Nat) (fun t j => w_X12_timesTold_b4 q t (ov S o ad M) o (nI h) (nI (toR G h j)) (nI j)) (fun j => j ≤ nCR G) (fun j => nCR G - j) ?_ 0 (Nat.zero_le _)
  rintro t j hj ih
  have tl := toR_le (f := G) (h := h) j
  rw [w_X12_timesTold_b4]
  simp (disch := decide) only [oi_gI, oi_gJ, oi_gP, oi_pI, oi_pZ, oi_pJ, oi_oK, oi_aI hd, oi_aZ hd, oi_aJ hd, oi_sI hd, oi_sZ hd, oi_sJ hd, mI_1, mI_2, mJ_1, mJ_2, mJ_3, mA_1, mA_2, mA_3, mA_4, mL_1, mL_2, mL_3, mL_4, mK, Nat.reduceEqDiff, if_true, if_false, ite_true, ite_false, true_and, Nat.reduceLT, reduceIte, reduceCtorEq, cl_0, cl_1, cl_2, cl_3, cl_4, cl_5, cl_6, cl_7, cl_8, cl_9, cl_10, cl_11, cl_12, cl_13, cl_14, cl_15, vl_0_5585, vl_1_5585, vl_2_5585, vl_3_5585, vl_4_5585, vl_5_5585, vl_6_5585, vl_0_7, vl_1_7, vl_2_7, vl_3_7, vl_4_7, vl_5_7, vl_6_7]
  rw [hG 2 (by omega), e2, nI_leI (by omega) (by omega)]
  refine ⟨fun c => by rw [show j = nCR G by omega]; exact k, fun c => ?_⟩
  obtain ⟨cl, ce⟩ := clu_in hB (k := j) (by omega)
  rw [lit_nI 2, lit_nI 170, nImul, nIadd, nI_clamp (by omega), hG (170 + 2 * j) (by omega)]
  have eq : G (170 + 2 * j) = nI h ↔ chR G j = h := by
    rw [← Int32.toInt_inj, ce, nI_toInt (by omega)]
    omega
  refine ⟨vp_in_nI (by omega) (by omega), fun c3 z ez y ey => ?_, fun c3 z ez y ey => ?_⟩
  · rw [ey, ez, nI_1, Int32.add_zero]
    have := ih (j + 1) (by omega) (by omega)
    rw [toR, if_neg (fun z => c3 (eq.mpr z))] at this
    exact this
  · rw [ey, ez, nI_1, nI_1]
    have := ih (j + 1) (by omega) (by omega)
    rw [toR, if_pos (eq.mp c3)] at this
    exact this
/-- the first k clues bear it -/
def okCl (f : Nat → Int32) (p : Nat) : Nat → Bool
  | 0 => true
  | k + 1 => okCl f p k && (decide (stE (wplR f p k) (f (126 + chR f k)) ≤ f (171 + 2 * k)) && decide ((toR f (chR f k) (nCR f) : Int) ≤ leftR f p (chR f k)))
theorem okCl_wt {f : Nat → Int32} {p : Nat} : ∀ k, okCl f p k = (okWk f p k && okTd f p k)
  | 0 => rfl
  | k + 1 => by
    rw [okCl, okWk, okTd, okCl_wt k]
    generalize okWk f p k = a
    generalize okTd f p k = b
    generalize decide (stE (wplR f p k) (f (126 + chR f k)) ≤ f (171 + 2 * k)) = c
    generalize decide ((toR f (chR f k) (nCR f) : Int) ≤ leftR f p (chR f k)) = d
    cases a <;> cases b <;> cases c <;> cases d <;> rfl
theorem left_G (hB : rB G) {p e : Nat} (hp : p < 8) (he : e < 6) : (G (30 + 6 * p + e) - G (78 + 6 * p + e)).toInt = leftR G p e ∧ 0 ≤ leftR G p e ∧ leftR G p e ≤ 99 := by
  have h1 := hB.1 (30 + 6 * p + e) (by omega)
  have h2 := hB.1 (78 + 6 * p + e) (by omega)
  rw [(hi_r (by omega)).1, (hi_r (by omega)).2] at h1
  rw [(hi_u (by omega)).1, (hi_u (by omega)).2] at h2
  have u := hB.2.2.2.2.1 (6 * p + e) (by omega)
  rw [show 30 + (6 * p + e) = 30 + 6 * p + e by omega, show 78 + (6 * p + e) = 78 + 6 * p + e by omega] at u
  unfold leftR
  unfold iR at *
  rw [fb_subI (by omega) (by omega)]
  omega
theorem x_canHaveRung (hd : mD o ad) (hB : rB G) (hG : ∀ i, i < 185 → M.2.2.1 3 i = G i) {q : Int32 → hS → Prop} {p : Nat} (hp : p < 8) (k : q (if canR G p = true then 1 else 0) (ov S o ad M)) : w_X12_canHaveRung q (ov S o ad M) o (nI p) := by
  obtain ⟨c6, e2⟩ := nCR_le hB
  have lv : liveR G p = true ↔ M.2.2.1 3 (22 + p) = 0 := by
    unfold liveR
    rw [decide_eq_true_eq, i32_z, hG _ (by omega)]; rfl
  have main : ∀ L : Bool, liveR G p = L → ∃ n, w_X12_canHaveRung_b20 q n (ov S o ad M) o (nI p) (if L = true then 1 else 0) (G (138 + p)) 0 := by
    intro L hL
    have z : ∃ n, w_X12_canHaveRung_b20 q n (ov S o ad M) o (nI p) (if (L && okCl G p 0) = true then 1 else 0) (wplR G p 0) (nI 0) := by
      refine loop_m (σ := Nat) (fun t j => w_X12_canHaveRung_b20 q t (ov S o ad M) o (nI p) (if (L && okCl G p j) = true then 1 else 0) (wplR G p j) (nI j)) (fun j => j ≤ nCR G) (fun j => nCR G - j) ?_ 0 (Nat.zero_le _)
      rintro t j hj ih
      rw [w_X12_canHaveRung_b20]
      simp (disch := decide) only [oi_gI, oi_gJ, oi_gP, oi_pI, oi_pZ, oi_pJ, oi_oK, oi_aI hd, oi_aZ hd, oi_aJ hd, oi_sI hd, oi_sZ hd, oi_sJ hd, mI_1, mI_2, mJ_1, mJ_2, mJ_3, mA_1, mA_2, mA_3, mA_4, mL_1, mL_2, mL_3, mL_4, mK, Nat.reduceEqDiff, if_true, if_false, ite_true, ite_false, true_and, Nat.reduceLT, reduceIte, reduceCtorEq, cl_0, cl_1, cl_2, cl_3, cl_4, cl_5, cl_6, cl_7, cl_8, cl_9, cl_10, cl_11, cl_12, cl_13, cl_14, cl_15, vl_0_5585, vl_1_5585, vl_2_5585, vl_3_5585, vl_4_5585, vl_5_5585, vl_6_5585, vl_0_7, vl_1_7, vl_2_7, vl_3_7, vl_4_7, vl_5_7, vl_6_7]
      rw [hG 2 (by omega), e2, nI_leI (by omega) (by omega)]
      refine ⟨fun c => ⟨by split; exact Or.inr rfl; exact Or.inl rfl, ?_⟩, fun c => ?_⟩
      · have ej : j = nCR G := by omega
        have : canR G p = (L && okCl G p j) := by
          unfold canR
          rw [hL, ej, okCl_wt, Bool.and_assoc]
        rw [← this]
        exact k
      · obtain ⟨cl, ce⟩ := clu_in hB (k := j) (by omega)
        have eN : G (170 + 2 * j) = nI (chR G j) := Int32.toInt_inj.mp (by rw [ce, nI_toInt (by omega)])
        have wn : G (126 + chR G j) = wplR G p (j + 1) := by
          unfold wplR
          rw [if_neg (by omega), Nat.add_sub_cancel]
        try simp (disch := decide) only [oi_gI, oi_gJ, oi_gP, oi_pI, oi_pZ, oi_pJ, oi_oK, oi_aI hd, oi_aZ hd, oi_aJ hd, oi_sI hd, oi_sZ hd, oi_sJ hd, mI_1, mI_2, mJ_1, mJ_2, mJ_3, mA_1, mA_2, mA_3, mA_4, mL_1, mL_2, mL_3, mL_4, mK, Nat.reduceEqDiff, if_true, if_false, ite_true, ite_false, true_and, Nat.reduceLT, reduceIte, reduceCtorEq, cl_0, cl_1, cl_2, cl_3, cl_4, cl_5, cl_6, cl_7, cl_8, cl_9, cl_10, cl_11, cl_12, cl_13, cl_14, cl_15, vl_0_5585, vl_1_5585, vl_2_5585, vl_3_5585, vl_4_5585, vl_5_5585, vl_6_5585, vl_0_7, vl_1_7, vl_2_7, vl_3_7, vl_4_7, vl_5_7, vl_6_7]
        rw [lit_nI 2, lit_nI 170, nImul, nIadd, nI_1, nI_clamp (by omega), hG (170 + 2 * j) (by omega), eN, lit_nI 126, nIadd, nI_clamp (by omega), hG (126 + chR G j) (by omega)]
        have b103 : ∀ v : Int32, v = (if (L && okCl G p (j + 1)) = true then 1 else 0) → w_X12_canHaveRung_b103 q (fun S v0 v1 v2 v3 v4 => w_X12_canHaveRung_b20 q t S v0 v1 v2 v3 v4) (ov S o ad M) o (nI p) (nI j) (nI (chR G j)) v := by
          intro v ev
          unfold w_X12_canHaveRung_b103
          simp (disch := decide) only [oi_gI, oi_gJ, oi_gP, oi_pI, oi_pZ, oi_pJ, oi_oK, oi_aI hd, oi_aZ hd, oi_aJ hd, oi_sI hd, oi_sZ hd, oi_sJ hd, mI_1, mI_2, mJ_1, mJ_2, mJ_3, mA_1, mA_2, mA_3, mA_4, mL_1, mL_2, mL_3, mL_4, mK, Nat.reduceEqDiff, if_true, if_false, ite_true, ite_false, true_and, Nat.reduceLT, reduceIte, reduceCtorEq, cl_0, cl_1, cl_2, cl_3, cl_4, cl_5, cl_6, cl_7, cl_8, cl_9, cl_10, cl_11, cl_12, cl_13, cl_14, cl_15, vl_0_5585, vl_1_5585, vl_2_5585, vl_3_5585, vl_4_5585, vl_5_5585, vl_6_5585, vl_0_7, vl_1_7, vl_2_7, vl_3_7, vl_4_7, vl_5_7, vl_6_7]
          rw [lit_nI 126, nIadd, nI_clamp (by omega), hG (126 + chR G j) (by omega), nI_1]
          refine ⟨vp_in_nI (by omega) (by omega), fun y ey => ?_⟩
          rw [ey, ev, wn]
          exact ih (j + 1) (by omega) (by omega)
        have no : ¬ (L && okCl G p (j + 1)) = true → w_X12_canHaveRung_b102 q (fun S v0 v1 v2 v3 v4 => w_X12_canHaveRung_b20 q t S v0 v1 v2 v3 v4) (ov S o ad M) o (nI p) (nI j) (nI (chR G j)) := fun z => b103 0 (by rw [if_neg z])
        have ex : (L && okCl G p (j + 1)) = true ↔ (L && okCl G p j) = true ∧ stE (wplR G p j) (G (126 + chR G j)) ≤ G (171 + 2 * j) ∧ (toR G (chR G j) (nCR G) : Int) ≤ leftR G p (chR G j) := by
          rw [okCl, ← Bool.and_assoc]
          generalize (L && okCl G p j) = a
          rw [Bool.and_eq_true, Bool.and_eq_true, decide_eq_true_eq, decide_eq_true_eq]
        refine ⟨vp_in_nI (by omega) (by omega), fun c0 => no (fun z => ?_), fun c1 => ⟨vp_in_nI (by omega) (by omega), x_stepsOf ?_⟩⟩
        · rw [if_pos (ex.mp z).1] at c0
          exact absurd c0 (by decide)
        simp (disch := decide) only [oi_gI, oi_gJ, oi_gP, oi_pI, oi_pZ, oi_pJ, oi_oK, oi_aI hd, oi_aZ hd, oi_aJ hd, oi_sI hd, oi_sZ hd, oi_sJ hd, mI_1, mI_2, mJ_1, mJ_2, mJ_3, mA_1, mA_2, mA_3, mA_4, mL_1, mL_2, mL_3, mL_4, mK, Nat.reduceEqDiff, if_true, if_false, ite_true, ite_false, true_and, Nat.reduceLT, reduceIte, reduceCtorEq, cl_0, cl_1, cl_2, cl_3, cl_4, cl_5, cl_6, cl_7, cl_8, cl_9, cl_10, cl_11, cl_12, cl_13, cl_14, cl_15, vl_0_5585, vl_1_5585, vl_2_5585, vl_3_5585, vl_4_5585, vl_5_5585, vl_6_5585, vl_0_7, vl_1_7, vl_2_7, vl_3_7, vl_4_7, vl_5_7, vl_6_7]
        rw [nI_clamp (by omega), hG (170 + 2 * j + 1) (by omega)]
        refine ⟨vp_in_nI (by omega) (by omega), fun cs => no (fun z => ?_), fun cs => s_leftOf hd hp (by omega) ⟨ov_oK, x_timesTold hd hB hG (by omega) ⟨fun ct => no (fun z => ?_), fun ct => b103 1 ?_⟩⟩⟩
        · rw [show 170 + 2 * j + 1 = 171 + 2 * j by omega] at cs
          exact Int32.not_le.mpr cs (ex.mp z).2.1
        · have l := left_G hB hp (e := chR G j) (by omega)
          rw [hG _ (by omega), hG _ (by omega), Int32.lt_iff_toInt_lt, l.1, nI_toInt (by have := toR_le (f := G) (h := chR G j) (nCR G); omega)] at ct
          have := (ex.mp z).2.2
          omega
        · have l := left_G hB hp (e := chR G j) (by omega)
          rw [hG _ (by omega), hG _ (by omega), Int32.lt_iff_toInt_lt, l.1, nI_toInt (by have := toR_le (f := G) (h := chR G j) (nCR G); omega)] at ct
          rw [show 170 + 2 * j + 1 = 171 + 2 * j by omega] at cs
          rw [if_pos (ex.mpr ⟨?_, Int32.not_lt.mp cs, by omega⟩)]
          by_cases z : (L && okCl G p j) = true
          · exact z
          · rw [if_neg z] at c1
            exact absurd rfl c1
    have e : (L && okCl G p 0) = L := by
      show (L && true) = L
      rw [Bool.and_true]
    rw [e] at z
    exact z
  refine ⟨ov_oK, s_lives hd hp (fun cl => ?_) (fun cd => ?_)⟩
  · simp (disch := decide) only [oi_gI, oi_gJ, oi_gP, oi_pI, oi_pZ, oi_pJ, oi_oK, oi_aI hd, oi_aZ hd, oi_aJ hd, oi_sI hd, oi_sZ hd, oi_sJ hd, mI_1, mI_2, mJ_1, mJ_2, mJ_3, mA_1, mA_2, mA_3, mA_4, mL_1, mL_2, mL_3, mL_4, mK, Nat.reduceEqDiff, if_true, if_false, ite_true, ite_false, true_and, Nat.reduceLT, reduceIte, reduceCtorEq, cl_0, cl_1, cl_2, cl_3, cl_4, cl_5, cl_6, cl_7, cl_8, cl_9, cl_10, cl_11, cl_12, cl_13, cl_14, cl_15, vl_0_5585, vl_1_5585, vl_2_5585, vl_3_5585, vl_4_5585, vl_5_5585, vl_6_5585, vl_0_7, vl_1_7, vl_2_7, vl_3_7, vl_4_7, vl_5_7, vl_6_7]
    rw [lit_nI 138, nIadd, nI_clamp (by omega), hG (138 + p) (by omega)]
    exact ⟨vp_in_nI (by omega) (by omega), main true (lv.mpr cl)⟩
  · simp (disch := decide) only [oi_gI, oi_gJ, oi_gP, oi_pI, oi_pZ, oi_pJ, oi_oK, oi_aI hd, oi_aZ hd, oi_aJ hd, oi_sI hd, oi_sZ hd, oi_sJ hd, mI_1, mI_2, mJ_1, mJ_2, mJ_3, mA_1, mA_2, mA_3, mA_4, mL_1, mL_2, mL_3, mL_4, mK, Nat.reduceEqDiff, if_true, if_false, ite_true, ite_false, true_and, Nat.reduceLT, reduceIte, reduceCtorEq, cl_0, cl_1, cl_2, cl_3, cl_4, cl_5, cl_6, cl_7, cl_8, cl_9, cl_10, cl_11, cl_12, cl_13, cl_14, cl_15, vl_0_5585, vl_1_5585, vl_2_5585, vl_3_5585, vl_4_5585, vl_5_5585, vl_6_5585, vl_0_7, vl_1_7, vl_2_7, vl_3_7, vl_4_7, vl_5_7, vl_6_7]
    rw [lit_nI 138, nIadd, nI_clamp (by omega), hG (138 + p) (by omega)]
    have lf : liveR G p = false := by
      cases e : liveR G p with
      | false => rfl
      | true => exact absurd (lv.mp e) cd
    exact ⟨vp_in_nI (by omega) (by omega), main false lf⟩
theorem x_whoCan (hd : mD o ad) (hB : rB G) (hG : ∀ i, i < 185 → M.2.2.1 3 i = G i) {q : Int32 → hS → Prop} (k : q (whoR G (nPR G)) (ov S o ad M)) : w_X12_whoCan q (ov S o ad M) o := by
  have b1 := rB_1 hB
  have e1 : G 1 = nI (nPR G) := by
    apply Int32.toInt_inj.mp
    have : iR G 1 = (G 1).toInt := rfl
    unfold nPR
    rw [nI_toInt (by omega)]; omega
  have hP : nPR G ≤ 8 := by unfold nPR; omega
  refine loop_m (σ := Nat) (fun t n => w_X12_whoCan_b4 q t (ov S o ad M) o (whoR G n) (nI n)) (fun n => n ≤ nPR G) (fun n => nPR G - n) ?_ 0 (Nat.zero_le _)
  rintro t n hn ih
  rw [w_X12_whoCan_b4]
  simp (disch := decide) only [oi_gI, oi_gJ, oi_gP, oi_pI, oi_pZ, oi_pJ, oi_oK, oi_aI hd, oi_aZ hd, oi_aJ hd, oi_sI hd, oi_sZ hd, oi_sJ hd, mI_1, mI_2, mJ_1, mJ_2, mJ_3, mA_1, mA_2, mA_3, mA_4, mL_1, mL_2, mL_3, mL_4, mK, Nat.reduceEqDiff, if_true, if_false, ite_true, ite_false, true_and, Nat.reduceLT, reduceIte, reduceCtorEq, cl_0, cl_1, cl_2, cl_3, cl_4, cl_5, cl_6, cl_7, cl_8, cl_9, cl_10, cl_11, cl_12, cl_13, cl_14, cl_15, vl_0_5585, vl_1_5585, vl_2_5585, vl_3_5585, vl_4_5585, vl_5_5585, vl_6_5585, vl_0_7, vl_1_7, vl_2_7, vl_3_7, vl_4_7, vl_5_7, vl_6_7]
  rw [hG 1 (by omega), e1, nI_leI (by omega) (by omega)]
  refine ⟨fun c => by rw [show n = nPR G by omega]; exact k, fun c => x_canHaveRung hd hB hG (by omega) ⟨fun c0 y ey y2 ey2 => ?_, fun c1 y ey y2 ey2 => ?_⟩⟩
  · rw [ey2, ey, nI_1, Int32.or_zero]
    have := ih (n + 1) (by omega) (by omega)
    have nc : ¬ canR G n = true := fun z => by rw [if_pos z] at c0; exact absurd c0 (by decide)
    rw [whoR, if_neg nc] at this
    exact this
  · rw [ey2, ey, nI_1]
    have := ih (n + 1) (by omega) (by omega)
    have nc : canR G n = true := by
      by_cases z : canR G n = true
      · exact z
      · rw [if_neg z] at c1; exact absurd rfl c1
    rw [whoR, if_pos nc] at this
    exact this
end RW3
