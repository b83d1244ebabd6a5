/-! AN EXCHANGE: the search finds what the masks tell -/
def piX (n : Nat) (f : Nat → Nat) (k : Nat) : Nat := if f k = n then k else f k
def mkQ (n : Nat) (f : Nat → Nat) : Nat → Nat
  | 0 => 0
  | k + 1 => mkQ n f k ||| 2 ^ piX n f k
def cntP (n : Nat) (f : Nat → Nat) : Nat → Nat
  | 0 => 0
  | k + 1 => cntP n f k + if f k = n then 0 else 1
def RXs (F : Nat → Int32) (n : Nat) (f : Nat → Nat) (k : Nat) : Prop := ∀ i, i < k → f i ≤ n ∧ (f i ≠ n → alG F n f i (f i) = true)
/-- all that give are different -/
def IXs (n : Nat) (f : Nat → Nat) (k : Nat) : Prop := cnA (mkQ n f k) = k
theorem mk_set : ∀ m, m < 256 → ∀ t, t < 8 → m.testBit t = true → m ||| 2 ^ t = m := by decide +kernel
theorem bit_or {m t j : Nat} : (m ||| 2 ^ t).testBit j = true ↔ m.testBit j = true ∨ t = j := by
  rw [Nat.testBit_or, Bool.or_eq_true, Nat.testBit_two_pow, decide_eq_true_eq]
theorem bit_no {m t : Nat} (h : ¬ m.testBit t = true) : m.testBit t = false := by
  cases z : m.testBit t with
  | true => exact absurd z h
  | false => rfl
section XI
variable {F : Nat → Int32} {n : Nat} {f g : Nat → Nat}
theorem piX_lt (h : RXs F n f n) {i : Nat} (hi : i < n) : piX n f i < n := by
  have := (h i hi).1
  unfold piX
  split <;> omega
theorem RXs.le {k k' : Nat} (h : RXs F n f k) (hk : k' ≤ k) : RXs F n f k' := fun i hi => h i (by omega)
theorem piX_l {k : Nat} (h : RXs F n f k) (hk : k ≤ n) {i : Nat} (hi : i < k) : piX n f i < n := by
  have := (h i hi).1
  unfold piX
  split <;> omega
theorem mkQ_lt : ∀ k, k ≤ n → RXs F n f k → mkQ n f k < 2 ^ n
  | 0, _, _ => Nat.pow_pos (by omega)
  | k + 1, hk, h => by
    rw [mkQ]
    exact mk_lt (mkQ_lt k (by omega) (h.le (by omega))) (piX_l h hk (by omega))
theorem mkQ_bit {t : Nat} : ∀ k, (mkQ n f k).testBit t = true ↔ ∃ i, i < k ∧ piX n f i = t
  | 0 => ⟨fun z => (by rw [mkQ, Nat.zero_testBit] at z; cases z), fun ⟨i, hi, _⟩ => absurd hi (Nat.not_lt_zero _)⟩
  | k + 1 => by
    rw [mkQ, bit_or, mkQ_bit k]
    constructor
    · rintro (⟨i, h1, h2⟩ | z)
      · exact ⟨i, by omega, h2⟩
      · exact ⟨k, by omega, z⟩
    · rintro ⟨i, h1, h2⟩
      by_cases c : i = k
      · rw [c] at h2
        exact Or.inr h2
      · exact Or.inl ⟨i, by omega, h2⟩
theorem mkQ_cn (hn : n ≤ 8) : ∀ k, k ≤ n → RXs F n f k → cnA (mkQ n f k) ≤ k
  | 0, _, _ => by
    rw [mkQ, show cnA 0 = 0 by decide]
    exact Nat.le_refl _
  | k + 1, hk, h => by
    have ih := mkQ_cn hn k (by omega) (h.le (by omega))
    have p2 := pw_256 n (by omega)
    have l1 := mkQ_lt k (by omega) (h.le (by omega))
    have l2 := piX_l h hk (i := k) (by omega)
    rw [mkQ]
    by_cases c : (mkQ n f k).testBit (piX n f k) = true
    · rw [mk_set _ (by omega) _ (by omega) c]
      omega
    · have := mk_cn _ (by omega) _ (by omega) (bit_no c)
      omega
theorem IXs_s (hn : n ≤ 8) {k : Nat} (hk : k + 1 ≤ n) (h : RXs F n f (k + 1)) : IXs n f (k + 1) ↔ IXs n f k ∧ (mkQ n f k).testBit (piX n f k) = false := by
  have p2 := pw_256 n (by omega)
  have ih := mkQ_cn hn k (by omega) (h.le (by omega))
  have l1 := mkQ_lt k (by omega) (h.le (by omega))
  have l2 := piX_l h hk (i := k) (by omega)
  unfold IXs
  rw [mkQ]
  by_cases c : (mkQ n f k).testBit (piX n f k) = true
  · rw [mk_set _ (by omega) _ (by omega) c, c]
    exact ⟨fun z => by omega, fun z => absurd z.2 (by decide)⟩
  · have := mk_cn _ (by omega) _ (by omega) (bit_no c)
    rw [bit_no c]
    exact ⟨fun z => ⟨by omega, rfl⟩, fun z => by omega⟩
theorem IXs_le (hn : n ≤ 8) {k : Nat} : ∀ d, k + d ≤ n → RXs F n f (k + d) → IXs n f (k + d) → IXs n f k
  | 0, _, _, h => h
  | d + 1, hk, hr, h => by
    have := (IXs_s hn (k := k + d) hk hr).mp h
    exact IXs_le hn d (by omega) (hr.le (by omega)) this.1
theorem IXs_ne (hn : n ≤ 8) {k : Nat} (hk : k ≤ n) (hr : RXs F n f k) (h : IXs n f k) {i j : Nat} (hij : i < j) (hj : j < k) : piX n f i ≠ piX n f j := by
  have h1 : IXs n f (j + 1) := IXs_le hn (k := j + 1) (k - (j + 1)) (by omega) (by rw [show j + 1 + (k - (j + 1)) = k by omega]; exact hr) (by rw [show j + 1 + (k - (j + 1)) = k by omega]; exact h)
  have h2 := ((IXs_s hn (k := j) (by omega) (hr.le (by omega))).mp h1).2
  intro e
  have : (mkQ n f j).testBit (piX n f j) = true := (mkQ_bit j).mpr ⟨i, hij, e⟩
  rw [h2] at this
  cases this
-- rows at their end
theorem gt_bit {t : Nat} : ∀ p, (gtM n f p).testBit t = true ↔ t < p ∧ f t ≠ n
  | 0 => ⟨fun z => (by rw [gtM, Nat.zero_testBit] at z; cases z), fun z => absurd z.1 (Nat.not_lt_zero _)⟩
  | p + 1 => by
    have ih := gt_bit (t := t) p
    rw [gtM]
    by_cases c : f p = n
    · rw [if_pos c, ih]
      refine ⟨fun z => ⟨by omega, z.2⟩, fun z => ⟨?_, z.2⟩⟩
      by_cases e : t = p
      · rw [e] at z
        exact absurd c z.2
      · omega
    · rw [if_neg c, bit_or, ih]
      constructor
      · rintro (z | z)
        · exact ⟨by omega, z.2⟩
        · rw [← z]
          exact ⟨by omega, c⟩
      · intro z
        by_cases e : t = p
        · exact Or.inr e.symm
        · exact Or.inl ⟨by omega, z.2⟩
theorem gv_bit {t : Nat} : ∀ p, (gvM n f p).testBit t = true ↔ ∃ i, i < p ∧ f i = t ∧ f i ≠ n
  | 0 => ⟨fun z => (by rw [gvM, Nat.zero_testBit] at z; cases z), fun ⟨i, hi, _⟩ => absurd hi (Nat.not_lt_zero _)⟩
  | p + 1 => by
    have ih := gv_bit (t := t) p
    rw [gvM]
    by_cases c : f p = n
    · rw [if_pos c, ih]
      refine ⟨fun ⟨i, h1, h2⟩ => ⟨i, by omega, h2⟩, fun ⟨i, h1, h2, h3⟩ => ⟨i, ?_, h2, h3⟩⟩
      by_cases e : i = p
      · rw [e] at h3
        exact absurd c h3
      · omega
    · rw [if_neg c, bit_or, ih]
      constructor
      · rintro (⟨i, h1, h2⟩ | z)
        · exact ⟨i, by omega, h2⟩
        · exact ⟨p, by omega, z, c⟩
      · rintro ⟨i, h1, h2, h3⟩
        by_cases e : i = p
        · rw [e] at h2
          exact Or.inr h2
        · exact Or.inl ⟨i, by omega, h2, h3⟩
theorem al_no {k t : Nat} (h : alG F n f k t = true) : edF F k t = true ∧ t ≠ k ∧ 0 ≤ iR F (154 + t) ∧ (∀ i, i < k → f i ≠ t) ∧ ¬ (t < k ∧ f t = n) := by
  unfold alG at h
  simp only [Bool.and_eq_true, decide_eq_true_eq, Bool.not_eq_true', Bool.and_eq_false_iff, decide_eq_false_iff_not] at h
  obtain ⟨⟨⟨⟨a, b⟩, c⟩, d⟩, e⟩ := h
  exact ⟨a, b, c, (noN_iff k).mp d, fun z => e.elim (fun y => y z.1) (fun y => y z.2)⟩
theorem al_yes {k t : Nat} (a : edF F k t = true) (b : t ≠ k) (c : 0 ≤ iR F (154 + t)) (d : ∀ i, i < k → f i ≠ t) (e : ¬ (t < k ∧ f t = n)) : alG F n f k t = true := by
  unfold alG
  simp only [Bool.and_eq_true, decide_eq_true_eq, Bool.not_eq_true', Bool.and_eq_false_iff, decide_eq_false_iff_not]
  refine ⟨⟨⟨⟨a, b⟩, c⟩, (noN_iff k).mpr d⟩, ?_⟩
  by_cases z : t < k
  · exact Or.inr (fun y => e ⟨z, y⟩)
  · exact Or.inl z
theorem lf_IXs (hn : n ≤ 8) (h : RXs F n f n) : gvM n f n = gtM n f n ↔ IXs n f n := by
  have p2 := pw_256 n (by omega)
  constructor
  · intro e
    have st : ∀ k, k ≤ n → IXs n f k := by
      intro k
      induction k with
      | zero => intro _; exact (show cnA 0 = 0 by decide)
      | succ k ih =>
        intro hk
        refine (IXs_s hn hk (h.le hk)).mpr ⟨ih (by omega), bit_no (fun z => ?_)⟩
        obtain ⟨i, hi, ei⟩ := (mkQ_bit k).mp z
        by_cases ck : f k = n
        · have ek : piX n f k = k := if_pos ck
          rw [ek] at ei
          by_cases ci : f i = n
          · have : piX n f i = i := if_pos ci
            omega
          · have e2 : piX n f i = f i := if_neg ci
            have b1 : (gvM n f n).testBit k = true := (gv_bit n).mpr ⟨i, by omega, by rw [← e2]; exact ei, ci⟩
            rw [e] at b1
            exact ((gt_bit n).mp b1).2 ck
        · have ek : piX n f k = f k := if_neg ck
          have al := al_no ((h k (by omega)).2 ck)
          rw [ek] at ei
          by_cases ci : f i = n
          · have e2 : piX n f i = i := if_pos ci
            exact al.2.2.2.2 ⟨by omega, by rw [← ei, e2]; exact ci⟩
          · have e2 : piX n f i = f i := if_neg ci
            exact al.2.2.2.1 i hi (by rw [← e2]; exact ei)
    exact st n (Nat.le_refl _)
  · intro hi
    have full : mkQ n f n = 2 ^ n - 1 := ((mk_full n (by omega)).2 _ (by have := mkQ_lt n (Nat.le_refl _) h; omega) (mkQ_lt n (Nat.le_refl _) h)).2 hi
    have sur : ∀ t, t < n → ∃ i, i < n ∧ piX n f i = t := fun t ht => by
      rw [← mkQ_bit n, full, Nat.testBit_two_pow_sub_one, decide_eq_true_eq]
      exact ht
    have inj : ∀ i j, i < n → j < n → piX n f i = piX n f j → i = j := fun i j h1 h2 e => by
      by_cases c : i < j
      · exact absurd e (IXs_ne hn (Nat.le_refl _) h hi c h2)
      · by_cases c2 : j < i
        · exact absurd e.symm (IXs_ne hn (Nat.le_refl _) h hi c2 h1)
        · omega
    apply Nat.eq_of_testBit_eq
    intro t
    have : (gvM n f n).testBit t = true ↔ (gtM n f n).testBit t = true := by
      rw [gv_bit, gt_bit]
      constructor
      · rintro ⟨i, h1, h2, h3⟩
        have e2 : piX n f i = t := by
          have : piX n f i = f i := if_neg h3
          rw [this, h2]
        have lt : t < n := by
          rw [← e2]
          exact piX_lt h h1
        refine ⟨lt, fun z => ?_⟩
        have e3 : piX n f t = t := if_pos z
        have := inj i t h1 lt (by rw [e2, e3])
        rw [this] at h3
        exact h3 z
      · rintro ⟨h1, h2⟩
        obtain ⟨i, i1, i2⟩ := sur t h1
        by_cases ci : f i = n
        · have : piX n f i = i := if_pos ci
          rw [this] at i2
          rw [i2] at ci
          exact absurd ci h2
        · have : piX n f i = f i := if_neg ci
          exact ⟨i, i1, by rw [← this]; exact i2, ci⟩
    cases a : (gvM n f n).testBit t with
    | true => exact (this.mp a).symm
    | false =>
      cases b : (gtM n f n).testBit t with
      | false => rfl
      | true =>
        rw [this.mpr b] at a
        cases a
theorem gt_cn (hn : n ≤ 8) : ∀ p, p ≤ n → cnA (gtM n f p) = cntP n f p ∧ gtM n f p < 2 ^ n
  | 0, _ => ⟨(show cnA 0 = 0 by decide), Nat.pow_pos (by omega)⟩
  | p + 1, hp => by
    obtain ⟨i1, i2⟩ := gt_cn hn p (by omega)
    have p2 := pw_256 n (by omega)
    rw [gtM, cntP]
    by_cases c : f p = n
    · rw [if_pos c, if_pos c]
      exact ⟨by omega, i2⟩
    · rw [if_neg c, if_neg c]
      have nb : (gtM n f p).testBit p = false := bit_no (fun z => by have := ((gt_bit p).mp z).1; omega)
      have := mk_cn _ (by omega) p (by omega) nb
      exact ⟨by omega, mk_lt i2 (by omega)⟩
theorem lvX_e (hn : n ≤ 8) (h : RXs F n f n) : (IXs n f n → lvX n f = (cntP n f n : Int)) ∧ (¬ IXs n f n → lvX n f = -1) := by
  have e := lf_IXs hn h
  have c := (gt_cn (f := f) hn n (Nat.le_refl _)).1
  unfold lvX
  refine ⟨fun z => ?_, fun z => ?_⟩
  · rw [if_pos (e.mpr z), c]
  · rw [if_neg (fun y => z (e.mp y))]
end XI
