/-! LAYER 2, the reference: keeping, putting back, images -/
theorem upd_self (f : Nat → Int32) (k : Nat) (x : Int32) : upd f k x k = x := pk_us
theorem upd_ne (f : Nat → Int32) {k j : Nat} (x : Int32) (h : j ≠ k) : upd f k x j = f j := pk_un h
/-- the places of the row that something hangs on -/
def rCon (i : Nat) : Prop := i ≤ 5 ∨ (154 ≤ i ∧ i ≤ 161) ∨ (170 ≤ i ∧ i ≤ 180 ∧ i % 2 = 0) ∨ (185 ≤ i ∧ i < 5585) ∨ (162 ≤ i ∧ i ≤ 169)
theorem segOk_congr {op arg op' arg' : Nat → Int32} {x y : Int32} (h : ∀ k, k < 400 → op' k = op k ∧ arg' k = arg k) (hs : segOk op arg x y) : segOk op' arg' x y := by
  obtain ⟨lo, hi, h1, h2, h3, h4, d, h5, h6, h7⟩ := hs
  refine ⟨lo, hi, h1, h2, h3, h4, d, h5, h6, fun k hk hk2 => ?_⟩
  rw [(h k (by omega)).1, (h k (by omega)).2]
  exact h7 k hk hk2
theorem lawOk_congr {f g : Nat → Int32} {b : Nat} (hb : 185 ≤ b) (hb2 : b + 900 ≤ 5585) (h : ∀ i, 185 ≤ i → i < 5585 → g i = f i) (hl : lawOk f b) : lawOk g b := by
  unfold lawOk at *
  rw [h (b + 1) (by omega) (by omega)]
  refine ⟨hl.1, fun c hc => ?_⟩
  have hc12 : c < 12 := by
    have := hl.1.2
    omega
  rw [h (b + 2 + 8 * c + 3) (by omega) (by omega), h (b + 2 + 8 * c + 4) (by omega) (by omega), h (b + 2 + 8 * c + 5) (by omega) (by omega), h (b + 2 + 8 * c + 6) (by omega) (by omega)]
  have e : ∀ k, k < 400 → g (b + 98 + 2 * k) = f (b + 98 + 2 * k) ∧ g (b + 98 + 2 * k + 1) = f (b + 98 + 2 * k + 1) := fun k hk => ⟨h _ (by omega) (by omega), h _ (by omega) (by omega)⟩
  exact ⟨segOk_congr e (hl.2 c hc).1, segOk_congr e (hl.2 c hc).2⟩
theorem rowOk_congr {mU f g : Nat → Int32} (h : ∀ i, rCon i → g i = f i) (hf : rowOk mU f) : rowOk mU g := by
  unfold rowOk at *
  obtain ⟨h0, h1, h2, h3, h4, h5, h6, h7, h8, h9⟩ := hf
  rw [h 0 (Or.inl (by omega)), h 1 (Or.inl (by omega)), h 2 (Or.inl (by omega)), h 3 (Or.inl (by omega)), h 4 (Or.inl (by omega)), h 5 (Or.inl (by omega))]
  refine ⟨h0, h1, h2, h3, h4, h5, fun k hk => ?_, fun k hk => ?_, fun i hi => ?_, fun i hi => ?_⟩
  · rw [h (154 + k) (Or.inr (Or.inl (by omega)))]; exact h6 k hk
  · rw [h (170 + 2 * k) (Or.inr (Or.inr (Or.inl (by omega))))]; exact h7 k hk
  · have := h3.2
    exact lawOk_congr (by omega) (by omega) (fun i hi hi2 => h i (Or.inr (Or.inr (Or.inr (Or.inl ⟨hi, hi2⟩))))) (h8 i hi)
  · rw [h i (by unfold rTk at hi; unfold rCon; omega)]; exact h9 i hi
theorem rowOk_self {mU f : Nat → Int32} (h : rowOk mU f) : rowOk f f := ⟨h.1, h.2.1, h.2.2.1, h.2.2.2.1, h.2.2.2.2.1, h.2.2.2.2.2.1, h.2.2.2.2.2.2.1, h.2.2.2.2.2.2.2.1, h.2.2.2.2.2.2.2.2.1, fun _ _ => rfl⟩
theorem rowOk_to {mU f : Nat → Int32} (h : rowOk mU f) {u : Nat → Int32} (hu : ∀ i, rTk i → f i = u i) : rowOk u f := ⟨h.1, h.2.1, h.2.2.1, h.2.2.2.1, h.2.2.2.2.1, h.2.2.2.2.2.1, h.2.2.2.2.2.2.1, h.2.2.2.2.2.2.2.1, h.2.2.2.2.2.2.2.2.1, hu⟩
theorem rowOk_free {mU f : Nat → Int32} {i : Nat} {v : Int32} (hi : ¬ rCon i) (hf : rowOk mU f) : rowOk mU (upd f i v) := rowOk_congr (fun j hj => upd_ne f v (fun e => hi (e ▸ hj))) hf
/-- the row but for its year -/
theorem rowOk_year {mU f g : Nat → Int32} (h : ∀ i, rCon i → i ≠ 5 → g i = f i) (h5 : rg (g 5) 0 999) (hf : rowOk mU f) : rowOk mU g := by
  have h1 : rowOk mU (upd f 5 (g 5)) := by
    unfold rowOk at *
    obtain ⟨h0, h1, h2, h3, h4, h5', h6, h7, h8, h9⟩ := hf
    rw [upd_ne f _ (show 0 ≠ 5 by omega), upd_ne f _ (show 1 ≠ 5 by omega), upd_ne f _ (show 2 ≠ 5 by omega), upd_ne f _ (show 3 ≠ 5 by omega), upd_ne f _ (show 4 ≠ 5 by omega), upd_self]
    refine ⟨h0, h1, h2, h3, h4, h5, fun k hk => ?_, fun k hk => ?_, fun i hi => ?_, fun i hi => ?_⟩
    · rw [upd_ne f _ (by omega)]; exact h6 k hk
    · rw [upd_ne f _ (by omega)]; exact h7 k hk
    · have := h3.2
      exact lawOk_congr (by omega) (by omega) (fun i hi _ => upd_ne f _ (by omega)) (h8 i hi)
    · rw [upd_ne f _ (by unfold rTk at hi; omega)]; exact h9 i hi
  refine rowOk_congr (fun i hi => ?_) h1
  by_cases e : i = 5
  · subst e; rw [upd_self]
  · rw [upd_ne f _ e]; exact h i hi e
section REF4
variable {S : hS} {o : Nat} {ad : Nat → Nat} {M : mS} {mT : mS}
theorem s_keepAll (hd : mD o ad) {q : hS → Prop} {k : Nat} (hk : k < 18) (h : ∀ f : Nat → Int32, (∀ i, i < 121 → f (121 * k + i) = M.2.2.1 3 (5 + i)) → (∀ j, (j < 121 * k ∨ 121 * k + 121 ≤ j) → f j = M.2.2.1 6 j) → q (ov S o ad (mA M 6 f))) : w_X12_keepAll q (ov S o ad M) o (nI k) := by
  have key := loop_m (σ := (Nat → Int32) × Nat) (fun n s => w_X12_keepAll_b2 q n (ov S o ad (mA M 6 s.1)) o (nI k) (nI s.2)) (fun s => s.2 ≤ 121 ∧ (∀ i, i < s.2 → s.1 (121 * k + i) = M.2.2.1 3 (5 + i)) ∧ ∀ j, (j < 121 * k ∨ 121 * k + s.2 ≤ j) → s.1 j = M.2.2.1 6 j) (fun s => 121 - s.2) ?_ (M.2.2.1 6, 0) ⟨Nat.zero_le _, fun i hi => absurd hi (Nat.not_lt_zero i), fun _ _ => rfl⟩
  · rw [mA_self] at key
    exact key
  rintro n ⟨f, i⟩ ⟨hi, h1, h2⟩ ih
  dsimp only at hi h1 h2 ih ⊢
  rw [w_X12_keepAll_b2]
  refine ⟨fun c => ?_, fun c => ?_⟩
  · have : i = 121 := by
      have := (nI_leI (a := 121) (b := i) (by omega) (by omega)).mp c
      omega
    subst this
    exact h f h1 h2
  · have c : i < 121 := by
      rw [lit_nI 121, nI_not_le (by omega) (by omega)] at c
      exact c
    simp (disch := decide) only [oi_gI, oi_gJ, oi_gP, oi_pI, oi_pZ, oi_pJ, oi_oK, oi_aI hd, oi_aZ hd, oi_aJ hd, oi_sI hd, oi_sZ hd, oi_sJ hd, mI_1, mI_2, mJ_1, mJ_2, mJ_3, mA_1, mA_2, mA_3, mA_4, mL_1, mL_2, mL_3, mL_4, mK, Nat.reduceEqDiff, if_true, if_false, ite_true, ite_false, true_and, Nat.reduceLT, reduceIte, reduceCtorEq, mA_mA]
    rw [lit_nI 5, lit_nI 121, nImul, nIadd, nIadd, nI_clamp (by omega), nI_clamp (by omega)]
    refine ⟨vp_in_nI (by omega) (by omega), vp_in_nI (by omega) (by omega), eq_imp ?_⟩
    rw [nI_1]
    refine ih (upd f (121 * k + i) (M.2.2.1 3 (5 + i)), i + 1) ⟨by show i + 1 ≤ 121; omega, fun t ht => ?_, fun j hj => ?_⟩ (by show 121 - (i + 1) < 121 - i; omega)
    · dsimp only at ht ⊢
      by_cases e : t = i
      · subst e; rw [upd_self]
      · rw [upd_ne f _ (by omega)]; exact h1 t (by omega)
    · dsimp only at hj ⊢
      rw [upd_ne f _ (by omega)]
      exact h2 j (by omega)
theorem s_putBack (hd : mD o ad) {q : hS → Prop} {k : Nat} (hk : k < 18) (h : ∀ f : Nat → Int32, (∀ i, i < 121 → f (5 + i) = M.2.2.1 6 (121 * k + i)) → (∀ j, (j < 5 ∨ 126 ≤ j) → f j = M.2.2.1 3 j) → q (ov S o ad (mA M 3 f))) : w_X12_putBack q (ov S o ad M) o (nI k) := by
  have key := loop_m (σ := (Nat → Int32) × Nat) (fun n s => w_X12_putBack_b2 q n (ov S o ad (mA M 3 s.1)) o (nI k) (nI s.2)) (fun s => s.2 ≤ 121 ∧ (∀ i, i < s.2 → s.1 (5 + i) = M.2.2.1 6 (121 * k + i)) ∧ ∀ j, (j < 5 ∨ 5 + s.2 ≤ j) → s.1 j = M.2.2.1 3 j) (fun s => 121 - s.2) ?_ (M.2.2.1 3, 0) ⟨Nat.zero_le _, fun i hi => absurd hi (Nat.not_lt_zero i), fun _ _ => rfl⟩
  · rw [mA_self] at key
    exact key
  rintro n ⟨f, i⟩ ⟨hi, h1, h2⟩ ih
  dsimp only at hi h1 h2 ih ⊢
  rw [w_X12_putBack_b2]
  refine ⟨fun c => ?_, fun c => ?_⟩
  · have : i = 121 := by
      have := (nI_leI (a := 121) (b := i) (by omega) (by omega)).mp c
      omega
    subst this
    exact h f h1 (fun j hj => h2 j (by omega))
  · have c : i < 121 := by
      rw [lit_nI 121, nI_not_le (by omega) (by omega)] at c
      exact c
    simp (disch := decide) only [oi_gI, oi_gJ, oi_gP, oi_pI, oi_pZ, oi_pJ, oi_oK, oi_aI hd, oi_aZ hd, oi_aJ hd, oi_sI hd, oi_sZ hd, oi_sJ hd, mI_1, mI_2, mJ_1, mJ_2, mJ_3, mA_1, mA_2, mA_3, mA_4, mL_1, mL_2, mL_3, mL_4, mK, Nat.reduceEqDiff, if_true, if_false, ite_true, ite_false, true_and, Nat.reduceLT, reduceIte, reduceCtorEq, mA_mA]
    rw [lit_nI 5, lit_nI 121, nImul, nIadd, nIadd, nI_clamp (by omega), nI_clamp (by omega)]
    refine ⟨vp_in_nI (by omega) (by omega), vp_in_nI (by omega) (by omega), eq_imp ?_⟩
    rw [nI_1]
    refine ih (upd f (5 + i) (M.2.2.1 6 (121 * k + i)), i + 1) ⟨by show i + 1 ≤ 121; omega, fun t ht => ?_, fun j hj => ?_⟩ (by show 121 - (i + 1) < 121 - i; omega)
    · dsimp only at ht ⊢
      by_cases e : t = i
      · subst e; rw [upd_self]
      · rw [upd_ne f _ (by omega)]; exact h1 t (by omega)
    · dsimp only at hj ⊢
      rw [upd_ne f _ (by omega)]
      exact h2 j (by omega)
theorem s_settled (hd : mD o ad) {q : Int32 → hS → Prop} {v : Int32} (hv : -6 ≤ v.toInt) (h : ∀ (x : Int32) (f : Nat → Int32) (u : Int32), (u = 0 ∨ u = M.1 8) → q v (ov S o ad (mA (mI (mI M 8 u) 1 x) 2 f))) : w_X12_settled q (ov S o ad M) o v := by
  unfold w_X12_settled
  constructor
  · intro c
    unfold w_X12_settled_b13
    simp (disch := decide) only [oi_gI, oi_gJ, oi_gP, oi_pI, oi_pZ, oi_pJ, oi_oK, oi_aI hd, oi_aZ hd, oi_aJ hd, oi_sI hd, oi_sZ hd, oi_sJ hd, mI_1, mI_2, mJ_1, mJ_2, mJ_3, mA_1, mA_2, mA_3, mA_4, mL_1, mL_2, mL_3, mL_4, mK, Nat.reduceEqDiff, if_true, if_false, ite_true, ite_false, true_and, Nat.reduceLT, reduceIte, reduceCtorEq]
    exact s_tell hd hv (fun f => h _ f 0 (Or.inl rfl))
  · intro c
    simp (disch := decide) only [oi_gI, oi_gJ, oi_gP, oi_pI, oi_pZ, oi_pJ, oi_oK, oi_aI hd, oi_aZ hd, oi_aJ hd, oi_sI hd, oi_sZ hd, oi_sJ hd, mI_1, mI_2, mJ_1, mJ_2, mJ_3, mA_1, mA_2, mA_3, mA_4, mL_1, mL_2, mL_3, mL_4, mK, Nat.reduceEqDiff, if_true, if_false, ite_true, ite_false, true_and, Nat.reduceLT, reduceIte, reduceCtorEq]
    unfold w_X12_settled_b13
    simp (disch := decide) only [oi_gI, oi_gJ, oi_gP, oi_pI, oi_pZ, oi_pJ, oi_oK, oi_aI hd, oi_aZ hd, oi_aJ hd, oi_sI hd, oi_sZ hd, oi_sJ hd, mI_1, mI_2, mJ_1, mJ_2, mJ_3, mA_1, mA_2, mA_3, mA_4, mL_1, mL_2, mL_3, mL_4, mK, Nat.reduceEqDiff, if_true, if_false, ite_true, ite_false, true_and, Nat.reduceLT, reduceIte, reduceCtorEq]
    exact s_tell hd hv (fun f => h _ f _ (Or.inr rfl))
end REF4
