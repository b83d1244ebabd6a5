/-! ORDERS IN THE REFERENCE, EXACTLY: AS A CALL -/
section OP
variable {S : hS} {o : Nat} {ad : Nat → Nat} {M N P : mS} {mT : mS} {T T' : aS} {rs : Nat} {us : uL} {f g : Nat → Int32} {os : List pOr} {s s' : oS} {u : Nat}
theorem x_giveBack (hd : mD o ad) (hM : mOk mT M) {q : hS → Prop} {v : Int32} (hv : rg v 0 16) (h : ∀ N, mOk mT N → Fx [8] [] [3, 6, 7] [] M N → N.1 8 = v → (∀ i, i < 121 → N.2.2.1 3 (5 + i) = M.2.2.1 6 (2057 + i)) → (∀ j, (j < 5 ∨ 126 ≤ j) → N.2.2.1 3 j = M.2.2.1 3 j) → (∀ j, j < 1936 → N.2.2.1 6 j = M.2.2.1 9 j) → (∀ k, k < 16 → N.2.2.1 7 k = M.2.2.1 10 k) → q (ov S o ad N)) : w_X12_giveBack q (ov S o ad M) o v := by
  refine ⟨ov_oK, f_putBack hd (k := 17) (by omega) (fun N hF h1 h2 => ?_)⟩
  have hr : rowOk (mT.2.2.1 3) (N.2.2.1 3) := by
    refine rowOk_year (f := M.2.2.1 3) (fun i hi h5 => h2 i ?_) ?_ hM.1
    · unfold rCon at hi; omega
    · have := h1 0 (by omega)
      rw [Nat.add_zero, Nat.add_zero] at this
      rw [this]
      exact hM.2.2.1 17 (by omega)
  have hN : mOk mT N := mOk_row hF hM hr (by simp)
  have e9 : N.2.2.1 9 = M.2.2.1 9 := hF.2.2.1 9 (by simp)
  have e10 : N.2.2.1 10 = M.2.2.1 10 := hF.2.2.1 10 (by simp)
  have k35 : ∀ u, undOk u 18 → (∀ j, j < 1936 → u j = M.2.2.1 9 j) → ∃ m, w_X12_giveBack_b35 q m (ov S o ad (mA N 6 u)) o v 0 := by
    intro u hu hu9
    have key := loop_m (σ := (Nat → Int32) × Nat) (fun m s => w_X12_giveBack_b35 q m (ov S o ad (mA (mA N 6 u) 7 s.1)) o v (nI s.2)) (fun s => (srtOk s.1 ∧ ∀ k, k < s.2 → s.1 k = M.2.2.1 10 k) ∧ s.2 ≤ 16) (fun s => 16 - s.2) ?_ ((mA N 6 u).2.2.1 7, 0) ⟨⟨hN.2.2.2.2.1, fun k hk => absurd hk (Nat.not_lt_zero _)⟩, by omega⟩
    · rw [mA_self] at key
      exact key
    rintro m ⟨w, i⟩ ⟨⟨hw, hw2⟩, hi⟩ ih
    dsimp only at hw hw2 hi ih ⊢
    rw [w_X12_giveBack_b35, lit_nI 16, nI_leI (by omega) (by omega)]
    refine ⟨fun c => ?_, fun c => ?_⟩
    · simp (disch := decide) only [oi_gI, oi_gJ, oi_gP, oi_pI, oi_pZ, oi_pJ, oi_oK, oi_aI hd, oi_aZ hd, oi_aJ hd, oi_sI hd, oi_sZ hd, oi_sJ hd, mI_1, mI_2, mJ_1, mJ_2, mJ_3, mA_1, mA_2, mA_3, mA_4, mL_1, mL_2, mL_3, mL_4, mK, Nat.reduceEqDiff, if_true, if_false, ite_true, ite_false, true_and, Nat.reduceLT, reduceIte, reduceCtorEq, cl_0, cl_1, cl_2, cl_3, cl_4, cl_5, cl_6, cl_7, cl_8, cl_9, cl_10, cl_11, cl_12, cl_13, cl_14, cl_15, vl_0_5585, vl_1_5585, vl_2_5585, vl_3_5585, vl_4_5585, vl_5_5585, vl_6_5585, vl_0_7, vl_1_7, vl_2_7, vl_3_7, vl_4_7, vl_5_7, vl_6_7]
      refine h _ (mOk_und (((Fx.a (M := N) 6 u).tr (Fx.a 7 w)).tr (Fx.i 8 v)) hN (by simp [mI_1]; exact hv) (by simp [mI_2, mA_3]; exact hu) (by simp [mI_2, mA_3]; exact hw) hr (by simp)) ((((hF.tr (Fx.a 6 u)).tr (Fx.a 7 w)).tr (Fx.i 8 v)).le (by simp) (by simp) (by simp) (by simp)) (by simp [mI_1]) h1 h2 hu9 (fun k hk => hw2 k (by omega))
    · simp (disch := decide) only [oi_gI, oi_gJ, oi_gP, oi_pI, oi_pZ, oi_pJ, oi_oK, oi_aI hd, oi_aZ hd, oi_aJ hd, oi_sI hd, oi_sZ hd, oi_sJ hd, mI_1, mI_2, mJ_1, mJ_2, mJ_3, mA_1, mA_2, mA_3, mA_4, mL_1, mL_2, mL_3, mL_4, mK, Nat.reduceEqDiff, if_true, if_false, ite_true, ite_false, true_and, Nat.reduceLT, reduceIte, reduceCtorEq, cl_0, cl_1, cl_2, cl_3, cl_4, cl_5, cl_6, cl_7, cl_8, cl_9, cl_10, cl_11, cl_12, cl_13, cl_14, cl_15, vl_0_5585, vl_1_5585, vl_2_5585, vl_3_5585, vl_4_5585, vl_5_5585, vl_6_5585, vl_0_7, vl_1_7, vl_2_7, vl_3_7, vl_4_7, vl_5_7, vl_6_7, mA_mA]
      rw [nI_clamp (by omega)]
      refine ⟨vp_in_nI (by omega) (by omega), vp_in_nI (by omega) (by omega), fun y ey => ?_⟩
      rw [ey, nI_1]
      refine ih (upd w i (N.2.2.1 10 i), i + 1) ⟨⟨srtOk_up hw (hN.2.2.2.2.2.1 i (by omega)), fun k hk => ?_⟩, by dsimp only; omega⟩ (by dsimp only; omega)
      dsimp only at hk ⊢
      by_cases e : k = i
      · subst e; rw [upd_self, e10]
      · rw [upd_ne _ _ e]; exact hw2 k (by omega)
  have key := loop_m (σ := (Nat → Int32) × Nat) (fun m s => w_X12_giveBack_b8 q m (ov S o ad (mA N 6 s.1)) o v (nI s.2)) (fun s => (undOk s.1 18 ∧ ∀ j, j < s.2 → s.1 j = M.2.2.1 9 j) ∧ s.2 ≤ 1936) (fun s => 1936 - s.2) ?_ (N.2.2.1 6, 0) ⟨⟨hN.2.2.1, fun k hk => absurd hk (Nat.not_lt_zero _)⟩, by omega⟩
  · rw [mA_self] at key
    exact key
  rintro m ⟨u, i⟩ ⟨⟨hu, hu2⟩, hi⟩ ih
  dsimp only at hu hu2 hi ih ⊢
  rw [w_X12_giveBack_b8, lit_nI 1936, nI_leI (by omega) (by omega)]
  refine ⟨fun c => k35 u hu (fun j hj => hu2 j (by omega)), fun c => ?_⟩
  simp (disch := decide) only [oi_gI, oi_gJ, oi_gP, oi_pI, oi_pZ, oi_pJ, oi_oK, oi_aI hd, oi_aZ hd, oi_aJ hd, oi_sI hd, oi_sZ hd, oi_sJ hd, mI_1, mI_2, mJ_1, mJ_2, mJ_3, mA_1, mA_2, mA_3, mA_4, mL_1, mL_2, mL_3, mL_4, mK, Nat.reduceEqDiff, if_true, if_false, ite_true, ite_false, true_and, Nat.reduceLT, reduceIte, reduceCtorEq, cl_0, cl_1, cl_2, cl_3, cl_4, cl_5, cl_6, cl_7, cl_8, cl_9, cl_10, cl_11, cl_12, cl_13, cl_14, cl_15, vl_0_5585, vl_1_5585, vl_2_5585, vl_3_5585, vl_4_5585, vl_5_5585, vl_6_5585, vl_0_7, vl_1_7, vl_2_7, vl_3_7, vl_4_7, vl_5_7, vl_6_7, mA_mA]
  rw [nI_clamp (by omega)]
  refine ⟨vp_in_nI (by omega) (by omega), vp_in_nI (by omega) (by omega), fun y ey => ?_⟩
  rw [ey, nI_1]
  refine ih (upd u i (N.2.2.1 9 i), i + 1) ⟨⟨undOk_up hu (fun k hk e => ?_), fun k hk => ?_⟩, by dsimp only; omega⟩ (by dsimp only; omega)
  · rw [← e]
    exact hN.2.2.2.1 k (by omega)
  · dsimp only at hk ⊢
    by_cases e : k = i
    · subst e; rw [upd_self, e9]
    · rw [upd_ne _ _ e]; exact hu2 k (by omega)
theorem x_keepO (hd : mD o ad) (hN : mOk mT N) {q : Int32 → hS → Prop} {v : Int32} (h : ∀ P, mOk mT P → Fx [53, 54] [] [9, 10] [] N P → P.1 53 = 0 → P.1 54 = -1 → (∀ j, j < 1936 → P.2.2.1 9 j = N.2.2.1 6 j) → (∀ k, k < 16 → P.2.2.1 10 k = N.2.2.1 7 k) → ∃ m, w_X12_orders_b140 q m (ov S o ad P) o v 0) : ∃ m, w_X12_orders_b77 q m (ov S o ad N) o v 0 := by
  have k104 : ∀ u, undOk u 16 → (∀ j, j < 1936 → u j = N.2.2.1 6 j) → ∃ m, w_X12_orders_b104 q m (ov S o ad (mA N 9 u)) o v 0 := by
    intro u hu hu9
    have key := loop_m (σ := (Nat → Int32) × Nat) (fun m s => w_X12_orders_b104 q m (ov S o ad (mA (mA N 9 u) 10 s.1)) o v (nI s.2)) (fun s => (srtOk s.1 ∧ ∀ k, k < s.2 → s.1 k = N.2.2.1 7 k) ∧ s.2 ≤ 16) (fun s => 16 - s.2) ?_ ((mA N 9 u).2.2.1 10, 0) ⟨⟨hN.2.2.2.2.2.1, fun k hk => absurd hk (Nat.not_lt_zero _)⟩, by omega⟩
    · rw [mA_self] at key
      exact key
    rintro m ⟨w, i⟩ ⟨⟨hw, hw2⟩, hi⟩ ih
    dsimp only at hw hw2 hi ih ⊢
    rw [w_X12_orders_b104, lit_nI 16, nI_leI (by omega) (by omega)]
    refine ⟨fun c => ?_, fun c => ?_⟩
    · simp (disch := decide) only [oi_gI, oi_gJ, oi_gP, oi_pI, oi_pZ, oi_pJ, oi_oK, oi_aI hd, oi_aZ hd, oi_aJ hd, oi_sI hd, oi_sZ hd, oi_sJ hd, mI_1, mI_2, mJ_1, mJ_2, mJ_3, mA_1, mA_2, mA_3, mA_4, mL_1, mL_2, mL_3, mL_4, mK, Nat.reduceEqDiff, if_true, if_false, ite_true, ite_false, true_and, Nat.reduceLT, reduceIte, reduceCtorEq, cl_0, cl_1, cl_2, cl_3, cl_4, cl_5, cl_6, cl_7, cl_8, cl_9, cl_10, cl_11, cl_12, cl_13, cl_14, cl_15, vl_0_5585, vl_1_5585, vl_2_5585, vl_3_5585, vl_4_5585, vl_5_5585, vl_6_5585, vl_0_7, vl_1_7, vl_2_7, vl_3_7, vl_4_7, vl_5_7, vl_6_7]
      have F2 := (((Fx.a (M := N) 9 u).tr (Fx.a 10 w)).tr (Fx.i 53 0)).tr (Fx.i 54 (-1))
      exact h _ (mOk_bef F2 hN (by simp [mI_2, mA_3]; exact hu) (by simp [mI_2, mA_3]; exact hw) (by simp)) (F2.le (by simp) (by simp) (by simp) (by simp)) (by simp [mI_1]) (by simp [mI_1]) hu9 (fun k hk => hw2 k (by omega))
    · simp (disch := decide) only [oi_gI, oi_gJ, oi_gP, oi_pI, oi_pZ, oi_pJ, oi_oK, oi_aI hd, oi_aZ hd, oi_aJ hd, oi_sI hd, oi_sZ hd, oi_sJ hd, mI_1, mI_2, mJ_1, mJ_2, mJ_3, mA_1, mA_2, mA_3, mA_4, mL_1, mL_2, mL_3, mL_4, mK, Nat.reduceEqDiff, if_true, if_false, ite_true, ite_false, true_and, Nat.reduceLT, reduceIte, reduceCtorEq, cl_0, cl_1, cl_2, cl_3, cl_4, cl_5, cl_6, cl_7, cl_8, cl_9, cl_10, cl_11, cl_12, cl_13, cl_14, cl_15, vl_0_5585, vl_1_5585, vl_2_5585, vl_3_5585, vl_4_5585, vl_5_5585, vl_6_5585, vl_0_7, vl_1_7, vl_2_7, vl_3_7, vl_4_7, vl_5_7, vl_6_7, mA_mA]
      rw [nI_clamp (by omega)]
      refine ⟨vp_in_nI (by omega) (by omega), vp_in_nI (by omega) (by omega), fun y ey => ?_⟩
      rw [ey, nI_1]
      refine ih (upd w i (N.2.2.1 7 i), i + 1) ⟨⟨srtOk_up hw (hN.2.2.2.2.1 i (by omega)), fun k hk => ?_⟩, by dsimp only; omega⟩ (by dsimp only; omega)
      dsimp only at hk ⊢
      by_cases e : k = i
      · subst e; rw [upd_self]
      · rw [upd_ne _ _ e]; exact hw2 k (by omega)
  have key := loop_m (σ := (Nat → Int32) × Nat) (fun m s => w_X12_orders_b77 q m (ov S o ad (mA N 9 s.1)) o v (nI s.2)) (fun s => (undOk s.1 16 ∧ ∀ j, j < s.2 → s.1 j = N.2.2.1 6 j) ∧ s.2 ≤ 1936) (fun s => 1936 - s.2) ?_ (N.2.2.1 9, 0) ⟨⟨hN.2.2.2.1, fun k hk => absurd hk (Nat.not_lt_zero _)⟩, by omega⟩
  · rw [mA_self] at key
    exact key
  rintro m ⟨u, i⟩ ⟨⟨hu, hu2⟩, hi⟩ ih
  dsimp only at hu hu2 hi ih ⊢
  rw [w_X12_orders_b77, lit_nI 1936, nI_leI (by omega) (by omega)]
  refine ⟨fun c => k104 u hu (fun j hj => hu2 j (by omega)), fun c => ?_⟩
  simp (disch := decide) only [oi_gI, oi_gJ, oi_gP, oi_pI, oi_pZ, oi_pJ, oi_oK, oi_aI hd, oi_aZ hd, oi_aJ hd, oi_sI hd, oi_sZ hd, oi_sJ hd, mI_1, mI_2, mJ_1, mJ_2, mJ_3, mA_1, mA_2, mA_3, mA_4, mL_1, mL_2, mL_3, mL_4, mK, Nat.reduceEqDiff, if_true, if_false, ite_true, ite_false, true_and, Nat.reduceLT, reduceIte, reduceCtorEq, cl_0, cl_1, cl_2, cl_3, cl_4, cl_5, cl_6, cl_7, cl_8, cl_9, cl_10, cl_11, cl_12, cl_13, cl_14, cl_15, vl_0_5585, vl_1_5585, vl_2_5585, vl_3_5585, vl_4_5585, vl_5_5585, vl_6_5585, vl_0_7, vl_1_7, vl_2_7, vl_3_7, vl_4_7, vl_5_7, vl_6_7, mA_mA]
  rw [nI_clamp (by omega)]
  refine ⟨vp_in_nI (by omega) (by omega), vp_in_nI (by omega) (by omega), fun y ey => ?_⟩
  rw [ey, nI_1]
  refine ih (upd u i (N.2.2.1 6 i), i + 1) ⟨⟨undOk_up hu (fun k hk e => ?_), fun k hk => ?_⟩, by dsimp only; omega⟩ (by dsimp only; omega)
  · rw [← e]
    exact hN.2.2.1 k (by omega)
  · dsimp only at hk ⊢
    by_cases e : k = i
    · subst e; rw [upd_self]
    · rw [upd_ne _ _ e]; exact hu2 k (by omega)
/-- behind a text that was read -/
theorem RR.txt {a b c d : List Nat} {sc : Nat → Int32} (h : RR M rs T) (hF : Fx a b c d M N) (ha : 8 ∉ a ∧ 1 ∉ a ∧ 59 ∉ a ∧ 60 ∉ a ∧ 11 ∉ a) (hc : 2 ∉ c ∧ 3 ∉ c ∧ 4 ∉ c ∧ 5 ∉ c ∧ 6 ∉ c ∧ 7 ∉ c ∧ 12 ∉ c ∧ 58 ∉ c) (hd : 31 ∉ d ∧ 32 ∉ d ∧ 33 ∉ d ∧ 51 ∉ d) (e13 : N.1 13 = 0) (e0 : N.1 18 = sc 0) (e1 : N.1 55 = sc 1) (e2 : sc 2 = T.2.2.2.2.1 2) (e3 : sc 3 = T.2.2.2.2.1 3) (e4 : sc 4 = T.2.2.2.2.1 4) : RR N rs (T.1, T.2.1, T.2.2.1, (T.2.2.2.1.1, 0), sc, T.2.2.2.2.2) := by
  obtain ⟨h1, h2, h3, h4, h5, h6, h7, h8, h9⟩ := h
  obtain ⟨a8, a1, a59, a60, a11⟩ := ha
  obtain ⟨c2, c3, c4, c5, c6, c7, c12, c58⟩ := hc
  refine ⟨?_, ?_, ?_, ⟨?_, ?_, ?_, ?_⟩, ⟨e0, e1, ?_⟩, ?_, ?_, ?_, h9.fx hF hd⟩
  · rw [hF.2.2.1 3 c3]; exact h1
  · rw [hF.2.2.1 4 c4, hF.2.2.1 5 c5]; exact h2
  · unfold luM; rw [hF.1 8 a8, hF.2.2.1 6 c6, hF.2.2.1 7 c7, hF.2.2.1 3 c3]; exact h3
  · exact e13
  · exact Nat.zero_le _
  · rw [hF.2.2.1 12 c12]; exact h4.2.2.1
  · exact h4.2.2.2
  · rw [hF.1 1 a1]
    show M.1 1 = sc 2
    rw [e2]
    exact h5.2.2
  · rw [hF.2.2.1 2 c2]; exact h6
  · unfold drM
    show (N.1 59 = sc 3 ∨ (N.1 59 = -1 ∧ sc 3 = 0)) ∧ (N.1 60 = sc 4 ∨ (N.1 60 = -1 ∧ sc 4 = 0)) ∧ _
    rw [hF.1 59 a59, hF.1 60 a60, hF.2.2.1 58 c58, e3, e4]; exact h7
  · rw [hF.1 11 a11]; exact h8
theorem RR.s55 {z : Int32} (h : RR M rs T) : RR (mI M 55 z) rs (aSp z T) := by
  obtain ⟨h1, h2, h3, h4, h5, h6, h7, h8, h9⟩ := h
  refine ⟨h1, h2, h3, h4, ⟨?_, ?_, ?_⟩, h6, ?_, h8, h9⟩
  · show M.1 18 = upd T.2.2.2.2.1 1 z 0
    rw [upd_ne _ _ (by omega)]; exact h5.1
  · show z = upd T.2.2.2.2.1 1 z 1
    rw [upd_self]
  · show M.1 1 = upd T.2.2.2.2.1 1 z 2
    rw [upd_ne _ _ (by omega)]; exact h5.2.2
  · unfold drM
    show (M.1 59 = upd T.2.2.2.2.1 1 z 3 ∨ (M.1 59 = -1 ∧ upd T.2.2.2.2.1 1 z 3 = 0)) ∧ (M.1 60 = upd T.2.2.2.2.1 1 z 4 ∨ (M.1 60 = -1 ∧ upd T.2.2.2.2.1 1 z 4 = 0)) ∧ _
    rw [upd_ne _ _ (by omega), upd_ne _ _ (by omega)]; exact h7
end OP
