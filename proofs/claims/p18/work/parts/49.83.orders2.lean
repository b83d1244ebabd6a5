/-! LAYER 2, the reference: orders(), as a whole -/
theorem mOk_bef {a b c d : List Nat} {M N mT : mS} (h : Fx a b c d M N) (hM : mOk mT M) (h9 : undOk (N.2.2.1 9) 16) (h10 : srtOk (N.2.2.1 10)) (ha : (8 ∉ a ∧ 13 ∉ a ∧ 20 ∉ a ∧ 59 ∉ a ∧ 60 ∉ a ∧ 11 ∉ a) ∧ (3 ∉ c ∧ 4 ∉ c ∧ 5 ∉ c ∧ 6 ∉ c ∧ 7 ∉ c ∧ 12 ∉ c)) : mOk mT N := by
  unfold mOk at *
  rw [h.1 8 ha.1.1, h.1 13 ha.1.2.1, h.1 20 ha.1.2.2.1, h.1 59 ha.1.2.2.2.1, h.1 60 ha.1.2.2.2.2.1, h.1 11 ha.1.2.2.2.2.2, h.2.2.1 3 ha.2.1, h.2.2.1 4 ha.2.2.1, h.2.2.1 5 ha.2.2.2.1, h.2.2.1 6 ha.2.2.2.2.1, h.2.2.1 7 ha.2.2.2.2.2.1, h.2.2.1 12 ha.2.2.2.2.2.2]
  exact ⟨hM.1, hM.2.1, hM.2.2.1, h9, hM.2.2.2.2.1, h10, hM.2.2.2.2.2.2⟩
theorem undOk_up {f : Nat → Int32} {n i : Nat} {v : Int32} (h : undOk f n) (hv : ∀ k, k < n → 121 * k = i → rg v 0 999) : undOk (upd f i v) n := fun k hk => by
  by_cases e : 121 * k = i
  · rw [e, upd_self]; exact hv k hk e
  · rw [upd_ne _ _ e]; exact h k hk
theorem srtOk_up {f : Nat → Int32} {i : Nat} {v : Int32} (h : srtOk f) (hv : rg v 0 3) : srtOk (upd f i v) := fun k hk => by
  by_cases e : k = i
  · subst e; rw [upd_self]; exact hv
  · rw [upd_ne _ _ e]; exact h k hk
section REF33
variable {S : hS} {o : Nat} {ad : Nat → Nat} {M : mS} {mT : mS}
theorem f_giveBack (hd : mD o ad) (hM : mOk mT M) {q : hS → Prop} {v : Int32} (hv : rg v 0 16) (h : ∀ N, mOk mT N → q (ov S o ad N)) : w_X12_giveBack q (ov S o ad M) o v := by
  refine ⟨ov_oK, f_putBack hd (k := 17) (by omega) (fun N hF h1 h2 => ?_)⟩
  have hr : rowOk (mT.2.2.1 3) (N.2.2.1 3) := by
    refine rowOk_year (f := M.2.2.1 3) (fun i hi h5 => h2 i ?_) ?_ hM.1
    · unfold rCon at hi; omega
    · have := h1 0 (by omega)
      rw [Nat.add_zero, Nat.add_zero] at this
      rw [this]
      exact hM.2.2.1 17 (by omega)
  have hN : mOk mT N := mOk_row hF hM hr (by simp)
  have k35 : ∀ u, undOk u 18 → ∃ m, w_X12_giveBack_b35 q m (ov S o ad (mA N 6 u)) o v 0 := by
    intro u hu
    have key := loop_m (σ := (Nat → Int32) × Nat) (fun m s => w_X12_giveBack_b35 q m (ov S o ad (mA (mA N 6 u) 7 s.1)) o v (nI s.2)) (fun s => srtOk s.1 ∧ s.2 ≤ 16) (fun s => 16 - s.2) ?_ ((mA N 6 u).2.2.1 7, 0) ⟨hN.2.2.2.2.1, by omega⟩
    · rw [mA_self] at key
      exact key
    rintro m ⟨w, i⟩ ⟨hw, hi⟩ ih
    dsimp only at hw hi ih ⊢
    rw [w_X12_giveBack_b35, lit_nI 16, nI_leI (by omega) (by omega)]
    refine ⟨fun _ => ?_, fun c => ?_⟩
    · simp (disch := decide) only [oi_gI, oi_gJ, oi_gP, oi_pI, oi_pZ, oi_pJ, oi_oK, oi_aI hd, oi_aZ hd, oi_aJ hd, oi_sI hd, oi_sZ hd, oi_sJ hd, mI_1, mI_2, mJ_1, mJ_2, mJ_3, mA_1, mA_2, mA_3, mA_4, mL_1, mL_2, mL_3, mL_4, mK, Nat.reduceEqDiff, if_true, if_false, ite_true, ite_false, true_and, Nat.reduceLT, reduceIte, reduceCtorEq, cl_0, cl_1, cl_2, cl_3, cl_4, cl_5, cl_6, cl_7, cl_8, cl_9, cl_10, cl_11, cl_12, cl_13, cl_14, cl_15, vl_0_5585, vl_1_5585, vl_2_5585, vl_3_5585, vl_4_5585, vl_5_5585, vl_6_5585, vl_0_7, vl_1_7, vl_2_7, vl_3_7, vl_4_7, vl_5_7, vl_6_7]
      exact h _ (mOk_und (((Fx.a (M := N) 6 u).tr (Fx.a 7 w)).tr (Fx.i 8 v)) hN (by simp [mI_1]; exact hv) (by simp [mI_2, mA_3]; exact hu) (by simp [mI_2, mA_3]; exact hw) hr (by simp))
    · simp (disch := decide) only [oi_gI, oi_gJ, oi_gP, oi_pI, oi_pZ, oi_pJ, oi_oK, oi_aI hd, oi_aZ hd, oi_aJ hd, oi_sI hd, oi_sZ hd, oi_sJ hd, mI_1, mI_2, mJ_1, mJ_2, mJ_3, mA_1, mA_2, mA_3, mA_4, mL_1, mL_2, mL_3, mL_4, mK, Nat.reduceEqDiff, if_true, if_false, ite_true, ite_false, true_and, Nat.reduceLT, reduceIte, reduceCtorEq, cl_0, cl_1, cl_2, cl_3, cl_4, cl_5, cl_6, cl_7, cl_8, cl_9, cl_10, cl_11, cl_12, cl_13, cl_14, cl_15, vl_0_5585, vl_1_5585, vl_2_5585, vl_3_5585, vl_4_5585, vl_5_5585, vl_6_5585, vl_0_7, vl_1_7, vl_2_7, vl_3_7, vl_4_7, vl_5_7, vl_6_7, mA_mA]
      rw [nI_clamp (by omega)]
      refine ⟨vp_in_nI (by omega) (by omega), vp_in_nI (by omega) (by omega), fun y ey => ?_⟩
      rw [ey, nI_1]
      exact ih (upd w i (N.2.2.1 10 i), i + 1) ⟨srtOk_up hw (hN.2.2.2.2.2.1 i (by omega)), by dsimp only; omega⟩ (by dsimp only; omega)
  have key := loop_m (σ := (Nat → Int32) × Nat) (fun m s => w_X12_giveBack_b8 q m (ov S o ad (mA N 6 s.1)) o v (nI s.2)) (fun s => undOk s.1 18 ∧ s.2 ≤ 1936) (fun s => 1936 - s.2) ?_ (N.2.2.1 6, 0) ⟨hN.2.2.1, by omega⟩
  · rw [mA_self] at key
    exact key
  rintro m ⟨u, i⟩ ⟨hu, hi⟩ ih
  dsimp only at hu hi ih ⊢
  rw [w_X12_giveBack_b8, lit_nI 1936, nI_leI (by omega) (by omega)]
  refine ⟨fun _ => k35 u hu, fun c => ?_⟩
  simp (disch := decide) only [oi_gI, oi_gJ, oi_gP, oi_pI, oi_pZ, oi_pJ, oi_oK, oi_aI hd, oi_aZ hd, oi_aJ hd, oi_sI hd, oi_sZ hd, oi_sJ hd, mI_1, mI_2, mJ_1, mJ_2, mJ_3, mA_1, mA_2, mA_3, mA_4, mL_1, mL_2, mL_3, mL_4, mK, Nat.reduceEqDiff, if_true, if_false, ite_true, ite_false, true_and, Nat.reduceLT, reduceIte, reduceCtorEq, cl_0, cl_1, cl_2, cl_3, cl_4, cl_5, cl_6, cl_7, cl_8, cl_9, cl_10, cl_11, cl_12, cl_13, cl_14, cl_15, vl_0_5585, vl_1_5585, vl_2_5585, vl_3_5585, vl_4_5585, vl_5_5585, vl_6_5585, vl_0_7, vl_1_7, vl_2_7, vl_3_7, vl_4_7, vl_5_7, vl_6_7, mA_mA]
  rw [nI_clamp (by omega)]
  refine ⟨vp_in_nI (by omega) (by omega), vp_in_nI (by omega) (by omega), fun y ey => ?_⟩
  rw [ey, nI_1]
  refine ih (upd u i (N.2.2.1 9 i), i + 1) ⟨undOk_up hu (fun k hk e => ?_), by dsimp only; omega⟩ (by dsimp only; omega)
  rw [← e]
  exact hN.2.2.2.1 k (by omega)
theorem f_or140 (hd : mD o ad) (hM : mOk mT M) {q : Int32 → hS → Prop} {n c : Nat} {v : Int32} (hv : rg v 0 16) (ho : odP M n c) (hc : c ≤ 400) (hn : n ≤ 12) (h21 : M.1 21 = nI n) (h53 : M.1 53 = 0) (h : ∀ r N, mOk mT N → q r (ov S o ad N)) : ∃ m, w_X12_orders_b140 q m (ov S o ad M) o v 0 := by
  refine loop_m (σ := mS × Nat × Nat) (fun m s => w_X12_orders_b140 q m (ov S o ad s.1) o v (nI s.2.1)) (fun s => mOk mT s.1 ∧ odP s.1 n c ∧ s.1.1 21 = nI n ∧ s.1.1 53 = nI s.2.2 ∧ s.2.2 ≤ 20 * s.2.1 ∧ s.2.1 ≤ n) (fun s => n - s.2.1) ?_ (M, 0, 0) ⟨hM, ho, h21, h53, by dsimp only; omega, by dsimp only; omega⟩
  rintro m ⟨N, k, dn⟩ ⟨hN, hoN, n21, n53, hdn, hk⟩ ih
  dsimp only at hN hoN n21 n53 hdn hk ih ⊢
  rw [w_X12_orders_b140]
  simp (disch := decide) only [oi_gI, oi_gJ, oi_gP, oi_pI, oi_pZ, oi_pJ, oi_oK, oi_aI hd, oi_aZ hd, oi_aJ hd, oi_sI hd, oi_sZ hd, oi_sJ hd, mI_1, mI_2, mJ_1, mJ_2, mJ_3, mA_1, mA_2, mA_3, mA_4, mL_1, mL_2, mL_3, mL_4, mK, Nat.reduceEqDiff, if_true, if_false, ite_true, ite_false, true_and, Nat.reduceLT, reduceIte, reduceCtorEq, cl_0, cl_1, cl_2, cl_3, cl_4, cl_5, cl_6, cl_7, cl_8, cl_9, cl_10, cl_11, cl_12, cl_13, cl_14, cl_15, vl_0_5585, vl_1_5585, vl_2_5585, vl_3_5585, vl_4_5585, vl_5_5585, vl_6_5585, vl_0_7, vl_1_7, vl_2_7, vl_3_7, vl_4_7, vl_5_7, vl_6_7]
  rw [n21, n53, nI_leI (by omega) (by omega)]
  refine ⟨fun _ => g_tell hd hN (by rw [nI_toInt (by omega)]; omega) (h _), fun c1 => ?_⟩
  obtain ⟨tm, htm, etm⟩ := rg_inR (b := 20) (hoN k (by omega)).2 (by omega) (by omega)
  refine loop_m (σ := mS × Nat × Nat) (fun m' s => w_X12_orders_b150 q (fun S v0 v1 v2 => w_X12_orders_b140 q m S v0 v1 v2) m' (ov S o ad s.1) o v (nI k) (nI s.2.1)) (fun s => mOk mT s.1 ∧ odP s.1 n c ∧ s.1.1 21 = nI n ∧ s.1.2.2.1 52 (10 * k + 9) = nI tm ∧ s.1.1 53 = nI s.2.2 ∧ s.2.2 ≤ 20 * k + s.2.1 ∧ s.2.1 ≤ tm) (fun s => tm - s.2.1) ?_ (N, 0, dn) ⟨hN, hoN, n21, etm, n53, by dsimp only; omega, by dsimp only; omega⟩
  rintro m' ⟨P, t, dp⟩ ⟨hP, hoP, p21, p52, p53, hdp, ht⟩ ih'
  dsimp only at hP hoP p21 p52 p53 hdp ht ih' ⊢
  rw [w_X12_orders_b150]
  simp (disch := decide) only [oi_gI, oi_gJ, oi_gP, oi_pI, oi_pZ, oi_pJ, oi_oK, oi_aI hd, oi_aZ hd, oi_aJ hd, oi_sI hd, oi_sZ hd, oi_sJ hd, mI_1, mI_2, mJ_1, mJ_2, mJ_3, mA_1, mA_2, mA_3, mA_4, mL_1, mL_2, mL_3, mL_4, mK, Nat.reduceEqDiff, if_true, if_false, ite_true, ite_false, true_and, Nat.reduceLT, reduceIte, reduceCtorEq, cl_0, cl_1, cl_2, cl_3, cl_4, cl_5, cl_6, cl_7, cl_8, cl_9, cl_10, cl_11, cl_12, cl_13, cl_14, cl_15, vl_0_5585, vl_1_5585, vl_2_5585, vl_3_5585, vl_4_5585, vl_5_5585, vl_6_5585, vl_0_7, vl_1_7, vl_2_7, vl_3_7, vl_4_7, vl_5_7, vl_6_7]
  rw [lit_nI 10, nImul, show nI (10 * k) + 9 = nI (10 * k + 9) from nIadd _ _, nI_clamp (by omega), p52, nI_leI (by omega) (by omega)]
  refine ⟨vp_in_nI (by omega) (by omega), fun c2 y ey => ?_, fun c2 => f_run hd hP hoP hc hn (by omega) p53 (fun r Q hQ hF hd2 => ?_)⟩
  · rw [ey, nI_1]
    exact ih (P, k + 1, dp) ⟨hP, hoP, p21, p53, by dsimp only; omega, by dsimp only; omega⟩ (by dsimp only; omega)
  · refine ⟨fun _ y ey => ?_, fun _ => ⟨ov_oK, f_giveBack hd hQ hv (fun R hR => ?_)⟩⟩
    · rw [ey, nI_1]
      have q21 := (hF.1 21 (by simp)).trans p21
      have q52 : Q.2.2.1 52 (10 * k + 9) = nI tm := by rw [hF.2.2.1 52 (by simp)]; exact p52
      rcases hd2 with e | e
      · exact ih' (Q, t + 1, dp) ⟨hQ, odP_rf hF hoP, q21, q52, e, by dsimp only; omega, by dsimp only; omega⟩ (by dsimp only; omega)
      · exact ih' (Q, t + 1, dp + 1) ⟨hQ, odP_rf hF hoP, q21, q52, e, by dsimp only; omega, by dsimp only; omega⟩ (by dsimp only; omega)
    · simp (disch := decide) only [oi_gI, oi_gJ, oi_gP, oi_pI, oi_pZ, oi_pJ, oi_oK, oi_aI hd, oi_aZ hd, oi_aJ hd, oi_sI hd, oi_sZ hd, oi_sJ hd, mI_1, mI_2, mJ_1, mJ_2, mJ_3, mA_1, mA_2, mA_3, mA_4, mL_1, mL_2, mL_3, mL_4, mK, Nat.reduceEqDiff, if_true, if_false, ite_true, ite_false, true_and, Nat.reduceLT, reduceIte, reduceCtorEq, cl_0, cl_1, cl_2, cl_3, cl_4, cl_5, cl_6, cl_7, cl_8, cl_9, cl_10, cl_11, cl_12, cl_13, cl_14, cl_15, vl_0_5585, vl_1_5585, vl_2_5585, vl_3_5585, vl_4_5585, vl_5_5585, vl_6_5585, vl_0_7, vl_1_7, vl_2_7, vl_3_7, vl_4_7, vl_5_7, vl_6_7]
      exact g_tell hd (mOk_i hR (by omega)) (by decide) (h _)
theorem f_or46 (hd : mD o ad) {M0 : mS} (hM0 : mOk mT M0) {q : Int32 → hS → Prop} {T f t c l n : Nat} (hF : Fx [0, 14, 15, 16, 18, 19, 20, 21, 23, 26, 29, 30, 55] [17] [24, 25, 27, 28, 52] [] M0 M) (hs : orS M T f t c l n) (h : ∀ r N, mOk (mI mT 13 0) N → q r (ov S o ad N)) : w_X12_orders_b46 q (ov S o ad M) o := by
  obtain ⟨hr, h21, hn, hp⟩ := hs
  have hc : c ≤ 400 := by have := tk_400 hr.1; have := hr.2.2.1; omega
  refine ⟨ov_oK, f_endText hd hr.1 (fun P hFP h20 h13 h19 => ?_)⟩
  have hFF := hF.tr hFP
  have hMP : mOk (mI mT 13 0) P := mOk_txt hFF hM0 (by rw [h13]; exact ⟨by decide, by decide⟩) h20 ⟨rfl, rfl, h13⟩ (by simp)
  have p21 : P.1 21 = nI n := (hFP.1 21 (by simp)).trans h21
  simp (disch := decide) only [oi_gI, oi_gJ, oi_gP, oi_pI, oi_pZ, oi_pJ, oi_oK, oi_aI hd, oi_aZ hd, oi_aJ hd, oi_sI hd, oi_sZ hd, oi_sJ hd, mI_1, mI_2, mJ_1, mJ_2, mJ_3, mA_1, mA_2, mA_3, mA_4, mL_1, mL_2, mL_3, mL_4, mK, Nat.reduceEqDiff, if_true, if_false, ite_true, ite_false, true_and, Nat.reduceLT, reduceIte, reduceCtorEq, cl_0, cl_1, cl_2, cl_3, cl_4, cl_5, cl_6, cl_7, cl_8, cl_9, cl_10, cl_11, cl_12, cl_13, cl_14, cl_15, vl_0_5585, vl_1_5585, vl_2_5585, vl_3_5585, vl_4_5585, vl_5_5585, vl_6_5585, vl_0_7, vl_1_7, vl_2_7, vl_3_7, vl_4_7, vl_5_7, vl_6_7]
  refine ⟨fun z => f_keepAll hd (k := 17) (by omega) (fun N hFN k1 k2 => ?_), fun _ => g_tell hd hMP (by decide) (h _)⟩
  have hoP : odP P n c := odP_low (hp (h19 z)) (hFP.2.2.1 52 (by simp)) (lowEq.fx hFP (by simp) (by simp)) (Nat.le_refl _)
  have hN : mOk (mI mT 13 0) N := by
    refine mOk_und hFN hMP ?_ ?_ ?_ ?_ (by simp)
    · rw [hFN.1 8 (by simp)]; exact hMP.2.2.2.2.2.2.1
    · refine undOk_keep hMP.2.2.1 ?_ k2
      have := k1 0 (by omega)
      rw [Nat.add_zero, Nat.add_zero] at this
      rw [this]; exact hMP.1.2.2.2.2.2.1
    · rw [hFN.2.2.1 7 (by simp)]; exact hMP.2.2.2.2.1
    · rw [hFN.2.2.1 3 (by simp)]; exact hMP.1
  have n21 : N.1 21 = nI n := (hFN.1 21 (by simp)).trans p21
  have hoN : odP N n c := odP_low hoP (hFN.2.2.1 52 (by simp)) (lowEq.fx hFN (by simp) (by simp)) (Nat.le_refl _)
  have hv : rg (N.1 8) 0 16 := hN.2.2.2.2.2.2.1
  have k104 : ∀ u, undOk u 16 → ∃ m, w_X12_orders_b104 q m (ov S o ad (mA N 9 u)) o (N.1 8) 0 := by
    intro u hu
    have key := loop_m (σ := (Nat → Int32) × Nat) (fun m s => w_X12_orders_b104 q m (ov S o ad (mA (mA N 9 u) 10 s.1)) o (N.1 8) (nI s.2)) (fun s => srtOk s.1 ∧ s.2 ≤ 16) (fun s => 16 - s.2) ?_ ((mA N 9 u).2.2.1 10, 0) ⟨hN.2.2.2.2.2.1, by omega⟩
    · rw [mA_self] at key
      exact key
    rintro m ⟨w, i⟩ ⟨hw, hi⟩ ih
    dsimp only at hw hi ih ⊢
    rw [w_X12_orders_b104, lit_nI 16, nI_leI (by omega) (by omega)]
    refine ⟨fun _ => ?_, fun c => ?_⟩
    · simp (disch := decide) only [oi_gI, oi_gJ, oi_gP, oi_pI, oi_pZ, oi_pJ, oi_oK, oi_aI hd, oi_aZ hd, oi_aJ hd, oi_sI hd, oi_sZ hd, oi_sJ hd, mI_1, mI_2, mJ_1, mJ_2, mJ_3, mA_1, mA_2, mA_3, mA_4, mL_1, mL_2, mL_3, mL_4, mK, Nat.reduceEqDiff, if_true, if_false, ite_true, ite_false, true_and, Nat.reduceLT, reduceIte, reduceCtorEq, cl_0, cl_1, cl_2, cl_3, cl_4, cl_5, cl_6, cl_7, cl_8, cl_9, cl_10, cl_11, cl_12, cl_13, cl_14, cl_15, vl_0_5585, vl_1_5585, vl_2_5585, vl_3_5585, vl_4_5585, vl_5_5585, vl_6_5585, vl_0_7, vl_1_7, vl_2_7, vl_3_7, vl_4_7, vl_5_7, vl_6_7]
      have F2 := (((Fx.a (M := N) 9 u).tr (Fx.a 10 w)).tr (Fx.i 53 0)).tr (Fx.i 54 (-1))
      exact f_or140 hd (mOk_bef F2 hN (by simp [mI_2, mA_3]; exact hu) (by simp [mI_2, mA_3]; exact hw) (by simp)) hv (odP_low hoN (F2.2.2.1 52 (by simp)) (lowEq.fx F2 (by simp) (by simp)) (Nat.le_refl _)) hc hn ((F2.1 21 (by simp)).trans n21) (by simp [mI_1]) h
    · simp (disch := decide) only [oi_gI, oi_gJ, oi_gP, oi_pI, oi_pZ, oi_pJ, oi_oK, oi_aI hd, oi_aZ hd, oi_aJ hd, oi_sI hd, oi_sZ hd, oi_sJ hd, mI_1, mI_2, mJ_1, mJ_2, mJ_3, mA_1, mA_2, mA_3, mA_4, mL_1, mL_2, mL_3, mL_4, mK, Nat.reduceEqDiff, if_true, if_false, ite_true, ite_false, true_and, Nat.reduceLT, reduceIte, reduceCtorEq, cl_0, cl_1, cl_2, cl_3, cl_4, cl_5, cl_6, cl_7, cl_8, cl_9, cl_10, cl_11, cl_12, cl_13, cl_14, cl_15, vl_0_5585, vl_1_5585, vl_2_5585, vl_3_5585, vl_4_5585, vl_5_5585, vl_6_5585, vl_0_7, vl_1_7, vl_2_7, vl_3_7, vl_4_7, vl_5_7, vl_6_7, mA_mA]
      rw [nI_clamp (by omega)]
      refine ⟨vp_in_nI (by omega) (by omega), vp_in_nI (by omega) (by omega), fun y ey => ?_⟩
      rw [ey, nI_1]
      exact ih (upd w i (N.2.2.1 7 i), i + 1) ⟨srtOk_up hw (hN.2.2.2.2.1 i (by omega)), by dsimp only; omega⟩ (by dsimp only; omega)
  simp (disch := decide) only [oi_gI, oi_gJ, oi_gP, oi_pI, oi_pZ, oi_pJ, oi_oK, oi_aI hd, oi_aZ hd, oi_aJ hd, oi_sI hd, oi_sZ hd, oi_sJ hd, mI_1, mI_2, mJ_1, mJ_2, mJ_3, mA_1, mA_2, mA_3, mA_4, mL_1, mL_2, mL_3, mL_4, mK, Nat.reduceEqDiff, if_true, if_false, ite_true, ite_false, true_and, Nat.reduceLT, reduceIte, reduceCtorEq, cl_0, cl_1, cl_2, cl_3, cl_4, cl_5, cl_6, cl_7, cl_8, cl_9, cl_10, cl_11, cl_12, cl_13, cl_14, cl_15, vl_0_5585, vl_1_5585, vl_2_5585, vl_3_5585, vl_4_5585, vl_5_5585, vl_6_5585, vl_0_7, vl_1_7, vl_2_7, vl_3_7, vl_4_7, vl_5_7, vl_6_7]
  have key := loop_m (σ := (Nat → Int32) × Nat) (fun m s => w_X12_orders_b77 q m (ov S o ad (mA N 9 s.1)) o (N.1 8) (nI s.2)) (fun s => undOk s.1 16 ∧ s.2 ≤ 1936) (fun s => 1936 - s.2) ?_ (N.2.2.1 9, 0) ⟨hN.2.2.2.1, by omega⟩
  · rw [mA_self] at key
    exact key
  rintro m ⟨u, i⟩ ⟨hu, hi⟩ ih
  dsimp only at hu hi ih ⊢
  rw [w_X12_orders_b77, lit_nI 1936, nI_leI (by omega) (by omega)]
  refine ⟨fun _ => k104 u hu, fun c => ?_⟩
  simp (disch := decide) only [oi_gI, oi_gJ, oi_gP, oi_pI, oi_pZ, oi_pJ, oi_oK, oi_aI hd, oi_aZ hd, oi_aJ hd, oi_sI hd, oi_sZ hd, oi_sJ hd, mI_1, mI_2, mJ_1, mJ_2, mJ_3, mA_1, mA_2, mA_3, mA_4, mL_1, mL_2, mL_3, mL_4, mK, Nat.reduceEqDiff, if_true, if_false, ite_true, ite_false, true_and, Nat.reduceLT, reduceIte, reduceCtorEq, cl_0, cl_1, cl_2, cl_3, cl_4, cl_5, cl_6, cl_7, cl_8, cl_9, cl_10, cl_11, cl_12, cl_13, cl_14, cl_15, vl_0_5585, vl_1_5585, vl_2_5585, vl_3_5585, vl_4_5585, vl_5_5585, vl_6_5585, vl_0_7, vl_1_7, vl_2_7, vl_3_7, vl_4_7, vl_5_7, vl_6_7, mA_mA]
  rw [nI_clamp (by omega)]
  refine ⟨vp_in_nI (by omega) (by omega), vp_in_nI (by omega) (by omega), fun y ey => ?_⟩
  rw [ey, nI_1]
  refine ih (upd u i (N.2.2.1 6 i), i + 1) ⟨undOk_up hu (fun k hk e => ?_), by dsimp only; omega⟩ (by dsimp only; omega)
  rw [← e]
  exact hN.2.2.1 k (by omega)
theorem p_orders (hd : mD o ad) (hM : mOk mT M) {q : Int32 → hS → Prop} (h : ∀ r N, mOk (mI mT 13 0) N → q r (ov S o ad N)) : w_X12_orders q (ov S o ad M) o := by
  obtain ⟨T, hT, eT⟩ := rg_inR (b := 400) hM.2.2.2.2.2.2.2.1 (by omega) (by omega)
  unfold w_X12_orders
  simp (disch := decide) only [oi_gI, oi_gJ, oi_gP, oi_pI, oi_pZ, oi_pJ, oi_oK, oi_aI hd, oi_aZ hd, oi_aJ hd, oi_sI hd, oi_sZ hd, oi_sJ hd, mI_1, mI_2, mJ_1, mJ_2, mJ_3, mA_1, mA_2, mA_3, mA_4, mL_1, mL_2, mL_3, mL_4, mK, Nat.reduceEqDiff, if_true, if_false, ite_true, ite_false, true_and, Nat.reduceLT, reduceIte, reduceCtorEq, cl_0, cl_1, cl_2, cl_3, cl_4, cl_5, cl_6, cl_7, cl_8, cl_9, cl_10, cl_11, cl_12, cl_13, cl_14, cl_15, vl_0_5585, vl_1_5585, vl_2_5585, vl_3_5585, vl_4_5585, vl_5_5585, vl_6_5585, vl_0_7, vl_1_7, vl_2_7, vl_3_7, vl_4_7, vl_5_7, vl_6_7]
  refine f_beginText hd (M := mI (mI M 0 0) 55 (-1)) (T := T) (Or.inr rfl) (by simp [mI_1, eT]) hT (fun N f t hF h19 h20 h21 hs => ⟨ov_oK, ?_⟩)
  have hF0 := ((Fx.i (M := M) 0 0).tr (Fx.i 55 (-1))).tr hF
  refine f_readOrder hd h19 (n := 0) ⟨hs, h21, by omega, fun _ j hj => by omega⟩ (fun P f1 t1 c1 l1 n1 hP hl1 hf1 => ?_)
  refine loop_m (σ := mS × Nat) (fun m s => w_X12_orders_b19 q m (ov S o ad s.1) o) (fun s => Fx [0, 14, 15, 16, 18, 19, 20, 21, 23, 26, 29, 30, 55] [17] [24, 25, 27, 28, 52] [] M s.1 ∧ ∃ t c l n, orS s.1 T s.2 t c l n) (fun s => 400 - s.2) ?_ (P, f1) ⟨(hF0.tr hP).le (by simp) (by simp) (by simp) (by simp), t1, c1, l1, n1, hl1⟩
  rintro m ⟨Q, f2⟩ ⟨hQ, t2, c2, l2, n2, hl2⟩ ih
  dsimp only at hQ hl2 ih ⊢
  have fin := f_or46 hd hM hQ hl2 h
  rw [w_X12_orders_b19]
  simp (disch := decide) only [oi_gI, oi_gJ, oi_gP, oi_pI, oi_pZ, oi_pJ, oi_oK, oi_aI hd, oi_aZ hd, oi_aJ hd, oi_sI hd, oi_sZ hd, oi_sJ hd, mI_1, mI_2, mJ_1, mJ_2, mJ_3, mA_1, mA_2, mA_3, mA_4, mL_1, mL_2, mL_3, mL_4, mK, Nat.reduceEqDiff, if_true, if_false, ite_true, ite_false, true_and, Nat.reduceLT, reduceIte, reduceCtorEq, cl_0, cl_1, cl_2, cl_3, cl_4, cl_5, cl_6, cl_7, cl_8, cl_9, cl_10, cl_11, cl_12, cl_13, cl_14, cl_15, vl_0_5585, vl_1_5585, vl_2_5585, vl_3_5585, vl_4_5585, vl_5_5585, vl_6_5585, vl_0_7, vl_1_7, vl_2_7, vl_3_7, vl_4_7, vl_5_7, vl_6_7]
  refine ⟨fun _ => fin, fun z => s_isSign hd (fun h16 => ⟨fun z => absurd z (by decide), fun _ => ⟨ov_oK, ?_⟩⟩) ⟨fun _ => fin, fun z => absurd rfl z⟩⟩
  obtain ⟨hs2, h212, hn2, hp2⟩ := hl2
  refine r_next hd hs2 h16 (fun R f3 t3 hR hs3 hf3 => ⟨ov_oK, f_readOrder hd ((hR.1 19 (by simp)).trans z) (n := n2) ⟨hs3, (hR.1 21 (by simp)).trans h212, hn2, fun _ => odP_low (hp2 z) (hR.2.2.1 52 (by simp)) (lowEq.fx hR (by simp) (by simp)) (Nat.le_refl _)⟩ (fun U f4 t4 c4 l4 n4 hU hl4 hf4 => ?_)⟩)
  have := tk_400 hl4.1.1
  exact ih (U, f4) ⟨((hQ.tr hR).tr hU).le (by simp) (by simp) (by simp) (by simp), t4, c4, l4, n4, hl4⟩ (by dsimp only; omega)
end REF33
