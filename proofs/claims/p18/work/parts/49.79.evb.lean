/-! LAYER 2, the reference: sums of orders (their values are left open) -/
section REF29
variable {S : hS} {o : Nat} {ad : Nat → Nat} {M : mS}
set_option maxHeartbeats 1000000 in
theorem s_rk95b (hd : mD o ad) {N : mS} {q : hS → Prop} {K : hS → Nat → Int32 → Int32 → Int32 → Prop} {opv argv : Int32} {d : Nat → Nat} {n k hi : Nat} (hn : n = d k) (hdb : ∀ k, d k ≤ 399) (hs : stepOk opv argv d k hi) (hk : k < hi) (hhi : hi ≤ 400) (hr : rg (N.2.2.1 3 0) 0 6) (hp : rg (N.2.2.1 3 1) 0 8) (hb : N.1 38 = 0)
    (hK : ∀ N' n' k', Fx [38] [] [] [37] N N' → k < k' → k' ≤ hi → n' = d k' → (N'.1 38 = 0 ∨ N'.1 38 = 1) → K (ov S o ad N') o (nI hi) (nI n') (nI k')) : w_X12_reckonAll_b95 q K (ov S o ad N) o (nI hi) (nI n) (nI k) opv argv := by
  have hn4 : n ≤ 399 := hn ▸ hdb k
  unfold w_X12_reckonAll_b95
  intro y ey
  rw [nI_1] at ey
  subst ey
  rcases hs with ⟨ho, e1⟩ | ⟨ho, h2, e1⟩ | ⟨rfl, h1, e1⟩ | ⟨ho, h1, e1, t, rfl, ht1, ht2, ht3⟩
  · -- a leaf
    have hw : ∀ x : Int64, (N.1 20 = 0 → x = if opv = 0 then argv.toInt64 else N.2.2.2 35 opv.toNatClampNeg) → w_X12_reckonAll_b232 q K (ov S o ad N) o (nI hi) (nI n) (nI (k + 1)) x (nI n) (ad 37) := by
      intro x hx
      exact s_rk232 hd (by omega) (hK _ (n + 1) (k + 1) ((Fx.l 37 _).le (by simp) (by simp) (by simp) (by simp)) (by omega) (by omega) (by omega) (Or.inl hb))
    have ho20 : ¬ (20 : Int32) ≤ opv := by rw [i32ge, i32lit 20 (by omega)]; have := ho.2; omega
    refine ⟨fun c => absurd c ho20, fun _ => ?_⟩
    obtain ⟨p, hp9, rfl, -⟩ := rg_nI (b := 9) ho (by omega) (by omega)
    unfold w_X12_reckonAll_b186
    simp (disch := decide) only [oi_gI, oi_gJ, oi_gP, oi_pI, oi_pZ, oi_pJ, oi_oK, oi_aI hd, oi_aZ hd, oi_aJ hd, oi_sI hd, oi_sZ hd, oi_sJ hd, mI_1, mI_2, mJ_1, mJ_2, mJ_3, mA_1, mA_2, mA_3, mA_4, mL_1, mL_2, mL_3, mL_4, mK, Nat.reduceEqDiff, if_true, if_false, ite_true, ite_false, true_and, Nat.reduceLT, reduceIte, reduceCtorEq, cl_0, cl_1, cl_2, cl_3, cl_4, cl_5, cl_6, cl_7, cl_8, cl_9, cl_10, cl_11, cl_12, cl_13, cl_14, cl_15, vl_0_5585, vl_1_5585, vl_2_5585, vl_3_5585, vl_4_5585, vl_5_5585, vl_6_5585, vl_0_7, vl_1_7, vl_2_7, vl_3_7, vl_4_7, vl_5_7, vl_6_7]
    refine ⟨fun c0 => ⟨fun co => ⟨fun c5 => ⟨fun c7 => ?_, fun c7 => ?_⟩, fun c5 => ⟨vp_in_nI (by omega) (by omega), hw _ (fun z => absurd z co)⟩⟩, fun co => ⟨vp_in_nI (by omega) (by omega), hw _ (fun _ => by rw [if_neg c0])⟩⟩, fun c0 => hw _ (fun _ => by rw [if_pos c0])⟩
    · refine s_isPerson hd (fun h1 h2 => ⟨fun _ => ?_, fun z => absurd z (by decide)⟩) (fun _ => ⟨fun z => absurd rfl z, fun _ => hw _ (fun z => absurd z co)⟩)
      have := hp.2
      obtain ⟨a, ha, rfl⟩ := rg_in 8 (by omega) h1 (by omega)
      simp (disch := decide) only [oi_gI, oi_gJ, oi_gP, oi_pI, oi_pZ, oi_pJ, oi_oK, oi_aI hd, oi_aZ hd, oi_aJ hd, oi_sI hd, oi_sZ hd, oi_sJ hd, mI_1, mI_2, mJ_1, mJ_2, mJ_3, mA_1, mA_2, mA_3, mA_4, mL_1, mL_2, mL_3, mL_4, mK, Nat.reduceEqDiff, if_true, if_false, ite_true, ite_false, true_and, Nat.reduceLT, reduceIte, reduceCtorEq, cl_0, cl_1, cl_2, cl_3, cl_4, cl_5, cl_6, cl_7, cl_8, cl_9, cl_10, cl_11, cl_12, cl_13, cl_14, cl_15, vl_0_5585, vl_1_5585, vl_2_5585, vl_3_5585, vl_4_5585, vl_5_5585, vl_6_5585, vl_0_7, vl_1_7, vl_2_7, vl_3_7, vl_4_7, vl_5_7, vl_6_7]
      refine ⟨fun _ => s_leftOfAll hd hr ha (fun x => hw _ (fun z => absurd z co)), fun _ => ?_⟩
      rw [lit_nI 14, nIadd]
      exact ⟨vp_in_nI (by omega) (by omega), hw _ (fun z => absurd z co)⟩
    · refine s_isHouse hd (fun h1 h2 => ⟨fun z => absurd z (by decide), fun _ => ?_⟩) (fun _ => ⟨fun _ => hw _ (fun z => absurd z co), fun z => absurd rfl z⟩)
      have := hr.2
      obtain ⟨a, ha, rfl⟩ := rg_in 6 (by omega) h1 (by omega)
      simp (disch := decide) only [oi_gI, oi_gJ, oi_gP, oi_pI, oi_pZ, oi_pJ, oi_oK, oi_aI hd, oi_aZ hd, oi_aJ hd, oi_sI hd, oi_sZ hd, oi_sJ hd, mI_1, mI_2, mJ_1, mJ_2, mJ_3, mA_1, mA_2, mA_3, mA_4, mL_1, mL_2, mL_3, mL_4, mK, Nat.reduceEqDiff, if_true, if_false, ite_true, ite_false, true_and, Nat.reduceLT, reduceIte, reduceCtorEq, cl_0, cl_1, cl_2, cl_3, cl_4, cl_5, cl_6, cl_7, cl_8, cl_9, cl_10, cl_11, cl_12, cl_13, cl_14, cl_15, vl_0_5585, vl_1_5585, vl_2_5585, vl_3_5585, vl_4_5585, vl_5_5585, vl_6_5585, vl_0_7, vl_1_7, vl_2_7, vl_3_7, vl_4_7, vl_5_7, vl_6_7]
      rw [lit_nI 8, nIadd]
      exact ⟨vp_in_nI (by omega) (by omega), hw _ (fun z => absurd z co)⟩
  · -- two values into one
    have c20 : (20 : Int32) ≤ opv := by rw [i32ge, i32lit 20 (by omega)]; exact ho.1
    have c28 : ¬ (28 : Int32) ≤ opv := by rw [i32ge, i32lit 28 (by omega)]; have := ho.2; omega
    refine ⟨fun _ => ⟨fun c => absurd c c28, fun _ y ey => ?_⟩, fun c => absurd c20 c⟩
    rw [nI_m1 (by omega)] at ey
    subst ey
    rw [nI_s1 (by omega)]
    simp (disch := decide) only [oi_gI, oi_gJ, oi_gP, oi_pI, oi_pZ, oi_pJ, oi_oK, oi_aI hd, oi_aZ hd, oi_aJ hd, oi_sI hd, oi_sZ hd, oi_sJ hd, mI_1, mI_2, mJ_1, mJ_2, mJ_3, mA_1, mA_2, mA_3, mA_4, mL_1, mL_2, mL_3, mL_4, mK, Nat.reduceEqDiff, if_true, if_false, ite_true, ite_false, true_and, Nat.reduceLT, reduceIte, reduceCtorEq, cl_0, cl_1, cl_2, cl_3, cl_4, cl_5, cl_6, cl_7, cl_8, cl_9, cl_10, cl_11, cl_12, cl_13, cl_14, cl_15, vl_0_5585, vl_1_5585, vl_2_5585, vl_3_5585, vl_4_5585, vl_5_5585, vl_6_5585, vl_0_7, vl_1_7, vl_2_7, vl_3_7, vl_4_7, vl_5_7, vl_6_7]
    rw [nI_clamp (by omega), nI_clamp (by omega)]
    have e2 : n - 1 - 1 = n - 2 := by omega
    rw [e2]
    refine ⟨vp_in_nI (by omega) (by omega), vp_in_nI (by omega) (by omega), s_reckon hd hb (fun N1 hF h38 => ?_)⟩
    simp (disch := decide) only [oi_gI, oi_gJ, oi_gP, oi_pI, oi_pZ, oi_pJ, oi_oK, oi_aI hd, oi_aZ hd, oi_aJ hd, oi_sI hd, oi_sZ hd, oi_sJ hd, mI_1, mI_2, mJ_1, mJ_2, mJ_3, mA_1, mA_2, mA_3, mA_4, mL_1, mL_2, mL_3, mL_4, mK, Nat.reduceEqDiff, if_true, if_false, ite_true, ite_false, true_and, Nat.reduceLT, reduceIte, reduceCtorEq, cl_0, cl_1, cl_2, cl_3, cl_4, cl_5, cl_6, cl_7, cl_8, cl_9, cl_10, cl_11, cl_12, cl_13, cl_14, cl_15, vl_0_5585, vl_1_5585, vl_2_5585, vl_3_5585, vl_4_5585, vl_5_5585, vl_6_5585, vl_0_7, vl_1_7, vl_2_7, vl_3_7, vl_4_7, vl_5_7, vl_6_7]
    rw [nI_clamp (by omega), updL_self]
    have hfin : ∀ b : Int32, (b = if rkB opv (N.2.2.2 37 (n - 1)) = 0 ∧ -1000000000 ≤ (rkV opv (N.2.2.2 37 (n - 2)) (N.2.2.2 37 (n - 1))).toInt ∧ (rkV opv (N.2.2.2 37 (n - 2)) (N.2.2.2 37 (n - 1))).toInt ≤ 1000000000 then 0 else 1) → K (ov S o ad (mI (mL N1 37 (vp_updL (N1.2.2.2 37) (n - 2) (rkV opv (N.2.2.2 37 (n - 2)) (N.2.2.2 37 (n - 1))))) 38 b)) o (nI hi) (nI (n - 1)) (nI (k + 1)) := by
      intro b hb2
      refine hK _ (n - 1) (k + 1) (((hF.tr (Fx.l 37 _)).tr (Fx.i 38 b)).le (by simp) (by simp) (by simp) (by simp)) (by omega) (by omega) (by omega) ?_
      rw [mI_1, if_pos rfl, hb2]
      split
      · exact Or.inl rfl
      · exact Or.inr rfl
    refine ⟨vp_in_nI (by omega) (by omega), ?_⟩
    unfold w_X12_reckonAll_b305 w_X12_reckonAll_b310 w_X12_reckonAll_b378
    simp (disch := decide) only [oi_gI, oi_gJ, oi_gP, oi_pI, oi_pZ, oi_pJ, oi_oK, oi_aI hd, oi_aZ hd, oi_aJ hd, oi_sI hd, oi_sZ hd, oi_sJ hd, mI_1, mI_2, mJ_1, mJ_2, mJ_3, mA_1, mA_2, mA_3, mA_4, mL_1, mL_2, mL_3, mL_4, mK, Nat.reduceEqDiff, if_true, if_false, ite_true, ite_false, true_and, Nat.reduceLT, reduceIte, reduceCtorEq, cl_0, cl_1, cl_2, cl_3, cl_4, cl_5, cl_6, cl_7, cl_8, cl_9, cl_10, cl_11, cl_12, cl_13, cl_14, cl_15, vl_0_5585, vl_1_5585, vl_2_5585, vl_3_5585, vl_4_5585, vl_5_5585, vl_6_5585, vl_0_7, vl_1_7, vl_2_7, vl_3_7, vl_4_7, vl_5_7, vl_6_7]
    rw [h38]
    refine ⟨fun c => ⟨by simp, hfin 1 (by rw [if_neg (fun z => c z.1)])⟩, fun c => ⟨vp_in_nI (by omega) (by omega), s_in (fun a b => ⟨fun _ => ?_, fun z => absurd z (by decide)⟩) (fun a => ⟨fun z => absurd rfl z, fun _ => ?_⟩)⟩⟩
    · simp (disch := decide) only [oi_gI, oi_gJ, oi_gP, oi_pI, oi_pZ, oi_pJ, oi_oK, oi_aI hd, oi_aZ hd, oi_aJ hd, oi_sI hd, oi_sZ hd, oi_sJ hd, mI_1, mI_2, mJ_1, mJ_2, mJ_3, mA_1, mA_2, mA_3, mA_4, mL_1, mL_2, mL_3, mL_4, mK, Nat.reduceEqDiff, if_true, if_false, ite_true, ite_false, true_and, Nat.reduceLT, reduceIte, reduceCtorEq, cl_0, cl_1, cl_2, cl_3, cl_4, cl_5, cl_6, cl_7, cl_8, cl_9, cl_10, cl_11, cl_12, cl_13, cl_14, cl_15, vl_0_5585, vl_1_5585, vl_2_5585, vl_3_5585, vl_4_5585, vl_5_5585, vl_6_5585, vl_0_7, vl_1_7, vl_2_7, vl_3_7, vl_4_7, vl_5_7, vl_6_7]
      exact ⟨by simp, hfin 0 (by rw [if_pos ⟨c, a, b⟩])⟩
    · simp (disch := decide) only [oi_gI, oi_gJ, oi_gP, oi_pI, oi_pZ, oi_pJ, oi_oK, oi_aI hd, oi_aZ hd, oi_aJ hd, oi_sI hd, oi_sZ hd, oi_sJ hd, mI_1, mI_2, mJ_1, mJ_2, mJ_3, mA_1, mA_2, mA_3, mA_4, mL_1, mL_2, mL_3, mL_4, mK, Nat.reduceEqDiff, if_true, if_false, ite_true, ite_false, true_and, Nat.reduceLT, reduceIte, reduceCtorEq, cl_0, cl_1, cl_2, cl_3, cl_4, cl_5, cl_6, cl_7, cl_8, cl_9, cl_10, cl_11, cl_12, cl_13, cl_14, cl_15, vl_0_5585, vl_1_5585, vl_2_5585, vl_3_5585, vl_4_5585, vl_5_5585, vl_6_5585, vl_0_7, vl_1_7, vl_2_7, vl_3_7, vl_4_7, vl_5_7, vl_6_7]
      exact ⟨by simp, hfin 1 (by rw [if_neg (fun z => a z.2)])⟩
  · -- not
    refine ⟨fun _ => ⟨fun _ => ⟨fun z => absurd rfl z, fun _ => ?_⟩, fun c => absurd (by decide) c⟩, fun c => absurd (by decide) c⟩
    unfold w_X12_reckonAll_b378
    simp (disch := decide) only [oi_gI, oi_gJ, oi_gP, oi_pI, oi_pZ, oi_pJ, oi_oK, oi_aI hd, oi_aZ hd, oi_aJ hd, oi_sI hd, oi_sZ hd, oi_sJ hd, mI_1, mI_2, mJ_1, mJ_2, mJ_3, mA_1, mA_2, mA_3, mA_4, mL_1, mL_2, mL_3, mL_4, mK, Nat.reduceEqDiff, if_true, if_false, ite_true, ite_false, true_and, Nat.reduceLT, reduceIte, reduceCtorEq, cl_0, cl_1, cl_2, cl_3, cl_4, cl_5, cl_6, cl_7, cl_8, cl_9, cl_10, cl_11, cl_12, cl_13, cl_14, cl_15, vl_0_5585, vl_1_5585, vl_2_5585, vl_3_5585, vl_4_5585, vl_5_5585, vl_6_5585, vl_0_7, vl_1_7, vl_2_7, vl_3_7, vl_4_7, vl_5_7, vl_6_7]
    rw [nI_s1 (by omega), nI_clamp (by omega)]
    exact ⟨vp_in_nI (by omega) (by omega), vp_in_nI (by omega) (by omega), hK _ n (k + 1) ((Fx.l 37 _).le (by simp) (by simp) (by simp) (by simp)) (by omega) (by omega) (by omega) (Or.inl hb)⟩
  · -- and, or
    have ht : t < 2 ^ 31 := by omega
    have h29 : 29 ≤ opv.toInt ∧ opv ≠ 28 := by rcases ho with rfl | rfl <;> exact ⟨by decide, by decide⟩
    have c20 : (20 : Int32) ≤ opv := by rw [i32ge, i32lit 20 (by omega)]; have := h29.1; omega
    have c28 : (28 : Int32) ≤ opv := by rw [i32ge, i32lit 28 (by omega)]; have := h29.1; omega
    refine ⟨fun _ => ⟨fun _ => ⟨fun _ => ?_, fun z => absurd z h29.2⟩, fun c => absurd c28 c⟩, fun c => absurd c20 c⟩
    have hfin : ∀ v : Int64, (v = if opv = 29 then 0 else 1) → w_X12_reckonAll_b364 q K (ov S o ad N) o (nI hi) (nI n) (nI (k + 1)) (nI t) v (N.2.2.2 37 (n - 1)) := by
      intro v hv
      unfold w_X12_reckonAll_b364 w_X12_reckonAll_b378
      simp only [lgc0]
      refine ⟨fun c y ey => ?_, fun c => ?_⟩
      · rw [ey, nI_m1 (by omega)]
        exact hK N (n - 1) (k + 1) Fx.rf' (by omega) (by omega) (by omega) (Or.inl hb)
      · exact hK N n t Fx.rf' ht1 ht2 (by omega) (Or.inl hb)
    simp (disch := decide) only [oi_gI, oi_gJ, oi_gP, oi_pI, oi_pZ, oi_pJ, oi_oK, oi_aI hd, oi_aZ hd, oi_aJ hd, oi_sI hd, oi_sZ hd, oi_sJ hd, mI_1, mI_2, mJ_1, mJ_2, mJ_3, mA_1, mA_2, mA_3, mA_4, mL_1, mL_2, mL_3, mL_4, mK, Nat.reduceEqDiff, if_true, if_false, ite_true, ite_false, true_and, Nat.reduceLT, reduceIte, reduceCtorEq, cl_0, cl_1, cl_2, cl_3, cl_4, cl_5, cl_6, cl_7, cl_8, cl_9, cl_10, cl_11, cl_12, cl_13, cl_14, cl_15, vl_0_5585, vl_1_5585, vl_2_5585, vl_3_5585, vl_4_5585, vl_5_5585, vl_6_5585, vl_0_7, vl_1_7, vl_2_7, vl_3_7, vl_4_7, vl_5_7, vl_6_7]
    rw [nI_s1 (by omega), nI_clamp (by omega)]
    exact ⟨vp_in_nI (by omega) (by omega), fun c => hfin _ (by rw [if_neg c]), fun c => hfin _ (by rw [if_pos c])⟩
theorem f_reckonAllb (hd : mD o ad) {q : hS → Prop} {lo hi : Nat} (hl : lo ≤ hi) (hhi : hi ≤ 400) (hc : codeOk (M.2.2.1 24) (M.2.2.1 25) lo hi) (h20 : ¬ M.1 20 = 0) (hr : rg (M.2.2.1 3 0) 0 6) (hp : rg (M.2.2.1 3 1) 0 8)
    (h : ∀ N, Fx [38] [39] [] [37] M N → (N.1 38 = 0 ∨ N.1 38 = 1) → q (ov S o ad N)) : w_X12_reckonAll q (ov S o ad M) o (nI lo) (nI hi) := by
  obtain ⟨d, d0, db, ds⟩ := hc
  unfold w_X12_reckonAll
  simp (disch := decide) only [oi_gI, oi_gJ, oi_gP, oi_pI, oi_pZ, oi_pJ, oi_oK, oi_aI hd, oi_aZ hd, oi_aJ hd, oi_sI hd, oi_sZ hd, oi_sJ hd, mI_1, mI_2, mJ_1, mJ_2, mJ_3, mA_1, mA_2, mA_3, mA_4, mL_1, mL_2, mL_3, mL_4, mK, Nat.reduceEqDiff, if_true, if_false, ite_true, ite_false, true_and, Nat.reduceLT, reduceIte, reduceCtorEq, cl_0, cl_1, cl_2, cl_3, cl_4, cl_5, cl_6, cl_7, cl_8, cl_9, cl_10, cl_11, cl_12, cl_13, cl_14, cl_15, vl_0_5585, vl_1_5585, vl_2_5585, vl_3_5585, vl_4_5585, vl_5_5585, vl_6_5585, vl_0_7, vl_1_7, vl_2_7, vl_3_7, vl_4_7, vl_5_7, vl_6_7]
  refine ⟨by simp, ?_⟩
  refine loop_m (σ := mS × Nat × Nat) (fun n s => w_X12_reckonAll_b10 q n (ov S o ad s.1) o (nI hi) (nI s.2.1) (nI s.2.2)) (fun s => Fx [38] [] [] [37] M s.1 ∧ s.2.1 = d s.2.2 ∧ s.2.2 ≤ hi ∧ lo ≤ s.2.2 ∧ (s.1.1 38 = 0 ∨ s.1.1 38 = 1)) (fun s => hi - s.2.2) ?_ (mI M 38 0, 0, lo) ⟨(Fx.i 38 0).le (by simp) (by simp) (by simp) (by simp), d0.symm, hl, Nat.le_refl _, Or.inl (by simp [mI_1])⟩
  rintro f ⟨N, n, k⟩ ⟨hF, hn, hk, hlk, h38⟩ ih
  dsimp only at hF hn hk hlk h38 ih ⊢
  have hn4 : n ≤ 399 := hn ▸ db k
  rw [w_X12_reckonAll_b10]
  have e20 : N.1 20 = M.1 20 := hF.1 20 (by simp)
  have er : N.2.2.1 = M.2.2.1 := funext fun j => hF.2.2.1 j (by simp)
  have hend : w_X12_reckonAll_b381 q (ov S o ad N) o (nI n) := by
    unfold w_X12_reckonAll_b381 w_X12_reckonAll_b396
    simp (disch := decide) only [oi_gI, oi_gJ, oi_gP, oi_pI, oi_pZ, oi_pJ, oi_oK, oi_aI hd, oi_aZ hd, oi_aJ hd, oi_sI hd, oi_sZ hd, oi_sJ hd, mI_1, mI_2, mJ_1, mJ_2, mJ_3, mA_1, mA_2, mA_3, mA_4, mL_1, mL_2, mL_3, mL_4, mK, Nat.reduceEqDiff, if_true, if_false, ite_true, ite_false, true_and, Nat.reduceLT, reduceIte, reduceCtorEq, cl_0, cl_1, cl_2, cl_3, cl_4, cl_5, cl_6, cl_7, cl_8, cl_9, cl_10, cl_11, cl_12, cl_13, cl_14, cl_15, vl_0_5585, vl_1_5585, vl_2_5585, vl_3_5585, vl_4_5585, vl_5_5585, vl_6_5585, vl_0_7, vl_1_7, vl_2_7, vl_3_7, vl_4_7, vl_5_7, vl_6_7]
    have hv : ∀ x : Int64, q (ov S o ad (mJ N 39 x)) := fun x => h _ ((hF.tr (Fx.j 39 x)).le (by simp) (by simp) (by simp) (by simp)) h38
    exact ⟨fun c => hv _, fun c => ⟨vp_in_iff.mpr (by decide), hv _⟩⟩
  simp (disch := decide) only [oi_gI, oi_gJ, oi_gP, oi_pI, oi_pZ, oi_pJ, oi_oK, oi_aI hd, oi_aZ hd, oi_aJ hd, oi_sI hd, oi_sZ hd, oi_sJ hd, mI_1, mI_2, mJ_1, mJ_2, mJ_3, mA_1, mA_2, mA_3, mA_4, mL_1, mL_2, mL_3, mL_4, mK, Nat.reduceEqDiff, if_true, if_false, ite_true, ite_false, true_and, Nat.reduceLT, reduceIte, reduceCtorEq, cl_0, cl_1, cl_2, cl_3, cl_4, cl_5, cl_6, cl_7, cl_8, cl_9, cl_10, cl_11, cl_12, cl_13, cl_14, cl_15, vl_0_5585, vl_1_5585, vl_2_5585, vl_3_5585, vl_4_5585, vl_5_5585, vl_6_5585, vl_0_7, vl_1_7, vl_2_7, vl_3_7, vl_4_7, vl_5_7, vl_6_7]
  rw [nI_leI (by omega) (by omega)]
  refine ⟨fun c => hend, fun c => ⟨fun c2 => hend, fun c2 => ?_⟩⟩
  have hstep : w_X12_reckonAll_b95 q (fun S v0 v2 v3 v4 => w_X12_reckonAll_b10 q f S v0 v2 v3 v4) (ov S o ad N) o (nI hi) (nI n) (nI k) (M.2.2.1 24 k) (M.2.2.1 25 k) :=
    s_rk95b hd (d := d) hn db (ds k hlk (by omega)) (by omega) hhi (by rw [er]; exact hr) (by rw [er]; exact hp) c2 (fun N' n' k' hF' h1 h2 h3 h4 => ih (N', n', k') ⟨(hF.tr hF').le (by simp) (by simp) (by simp) (by simp), h3, h2, by dsimp only; omega, h4⟩ (by dsimp only; omega))
  unfold w_X12_reckonAll_b57
  simp (disch := decide) only [oi_gI, oi_gJ, oi_gP, oi_pI, oi_pZ, oi_pJ, oi_oK, oi_aI hd, oi_aZ hd, oi_aJ hd, oi_sI hd, oi_sZ hd, oi_sJ hd, mI_1, mI_2, mJ_1, mJ_2, mJ_3, mA_1, mA_2, mA_3, mA_4, mL_1, mL_2, mL_3, mL_4, mK, Nat.reduceEqDiff, if_true, if_false, ite_true, ite_false, true_and, Nat.reduceLT, reduceIte, reduceCtorEq, cl_0, cl_1, cl_2, cl_3, cl_4, cl_5, cl_6, cl_7, cl_8, cl_9, cl_10, cl_11, cl_12, cl_13, cl_14, cl_15, vl_0_5585, vl_1_5585, vl_2_5585, vl_3_5585, vl_4_5585, vl_5_5585, vl_6_5585, vl_0_7, vl_1_7, vl_2_7, vl_3_7, vl_4_7, vl_5_7, vl_6_7]
  rw [e20, er]
  refine ⟨fun z => absurd z h20, fun _ => ?_⟩
  rw [nI_clamp (by omega)]
  exact ⟨vp_in_nI (by omega) (by omega), fun z => absurd z h20, fun _ => ⟨vp_in_nI (by omega) (by omega), hstep⟩⟩
end REF29
