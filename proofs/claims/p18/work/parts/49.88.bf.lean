/-! the cheapest ways to one place, by relaxing: numbers alone -/
section BF
variable (n to : Nat) (b : Nat → Nat → Bool) (wt : Nat → Nat → Nat)
def bfc (D : Nat → Nat) (p o : Nat) : Nat := if D o = 100000000 ∨ b p o = false then 100000000 else min 100000000 (wt p o + D o)
def rlx (D : Nat → Nat) (p : Nat) : Nat → Nat
  | 0 => D p
  | j + 1 => min (rlx D p j) (bfc b wt D p j)
def dk : Nat → Nat → Nat
  | 0, p => if p = to then 0 else 100000000
  | k + 1, p => if p = to then 0 else rlx b wt (dk k) p n
end BF
section BFT
variable {n to : Nat} {b : Nat → Nat → Bool} {wt : Nat → Nat → Nat}
theorem bfc_mono {D D' : Nat → Nat} {p o : Nat} (h : D o ≤ D' o) (hF : D' o ≤ 100000000) : bfc b wt D p o ≤ bfc b wt D' p o := by
  unfold bfc
  by_cases hb : b p o = false
  · rw [if_pos (Or.inr hb), if_pos (Or.inr hb)]; omega
  · by_cases h1 : D' o = 100000000
    · rw [if_pos (Or.inl h1)]
      split <;> omega
    · rw [if_neg (fun z => by rcases z with z | z; omega; exact hb z), if_neg (fun z => by rcases z with z | z; exact h1 z; exact hb z)]
      omega
theorem bfc_le {D : Nat → Nat} {p o : Nat} : bfc b wt D p o ≤ 100000000 := by
  unfold bfc
  split <;> omega
theorem rlx_le {D : Nat → Nat} {p : Nat} : ∀ j, rlx b wt D p j ≤ D p
  | 0 => Nat.le_refl _
  | j + 1 => by have := rlx_le (D := D) (p := p) j; rw [rlx]; omega
theorem rlx_by {D : Nat → Nat} {p : Nat} : ∀ j i, i < j → rlx b wt D p j ≤ bfc b wt D p i
  | 0, i, h => by omega
  | j + 1, i, h => by
    rw [rlx]
    by_cases e : i = j
    · subst e; omega
    · have := rlx_by (D := D) (p := p) j i (by omega); omega
theorem rlx_or {D : Nat → Nat} {p : Nat} : ∀ j, rlx b wt D p j = D p ∨ ∃ i, i < j ∧ rlx b wt D p j = bfc b wt D p i
  | 0 => Or.inl rfl
  | j + 1 => by
    rw [rlx]
    by_cases c : rlx b wt D p j ≤ bfc b wt D p j
    · rw [Nat.min_eq_left c]
      rcases rlx_or (D := D) (p := p) j with e | ⟨i, h1, h2⟩
      · exact Or.inl e
      · exact Or.inr ⟨i, by omega, h2⟩
    · rw [Nat.min_eq_right (by omega)]
      exact Or.inr ⟨j, by omega, rfl⟩
theorem dk_to (k : Nat) : dk n to b wt k to = 0 := by cases k <;> rw [dk, if_pos rfl]
theorem dk_F : ∀ k p, dk n to b wt k p ≤ 100000000
  | 0, p => by rw [dk]; split <;> omega
  | k + 1, p => by
    rw [dk]
    split
    · omega
    · have := rlx_le (b := b) (wt := wt) (D := dk n to b wt k) (p := p) n
      have := dk_F k p
      omega
theorem dk_s (k p : Nat) : dk n to b wt (k + 1) p ≤ dk n to b wt k p := by
  by_cases c : p = to
  · subst c; rw [dk_to, dk_to]; omega
  · rw [dk, if_neg c]; exact rlx_le n
theorem dk_le {i p : Nat} : ∀ d, dk n to b wt (i + d) p ≤ dk n to b wt i p
  | 0 => Nat.le_refl _
  | d + 1 => Nat.le_trans (dk_s (i + d) p) (dk_le d)
/-- who gets cheaper at step k + 2 does so by one who did at step k + 1 -/
theorem dk_prev {k p : Nat} (hw : ∀ p o, 1 ≤ wt p o) (h : dk n to b wt (k + 2) p < dk n to b wt (k + 1) p) : ∃ o, o < n ∧ dk n to b wt (k + 1) o < dk n to b wt k o ∧ dk n to b wt (k + 1) o < dk n to b wt (k + 2) p := by
  have hp : p ≠ to := fun e => by subst e; rw [dk_to, dk_to] at h; omega
  have e2 : dk n to b wt (k + 2) p = rlx b wt (dk n to b wt (k + 1)) p n := by rw [dk, if_neg hp]
  rcases rlx_or (b := b) (wt := wt) (D := dk n to b wt (k + 1)) (p := p) n with e | ⟨o, ho, e⟩
  · omega
  · have hF := dk_F (n := n) (to := to) (b := b) (wt := wt) (k + 1) p
    have hlt : bfc b wt (dk n to b wt (k + 1)) p o < 100000000 := by omega
    have hval : bfc b wt (dk n to b wt (k + 1)) p o = wt p o + dk n to b wt (k + 1) o := by
      unfold bfc at hlt ⊢
      split at hlt
      · omega
      · rename_i c
        rw [if_neg c]; omega
    have := hw p o
    refine ⟨o, ho, ?_, by omega⟩
    refine Classical.byContradiction (fun z => ?_)
    have heq : dk n to b wt (k + 1) o = dk n to b wt k o := by
      have := dk_s (n := n) (to := to) (b := b) (wt := wt) k o; omega
    have h1 : dk n to b wt (k + 1) p ≤ bfc b wt (dk n to b wt k) p o := by
      rw [dk, if_neg hp]; exact rlx_by n o ho
    have h2 : bfc b wt (dk n to b wt k) p o = bfc b wt (dk n to b wt (k + 1)) p o := by unfold bfc; rw [heq]
    omega
theorem dk_row {k p : Nat} (hw : ∀ p o, 1 ≤ wt p o) (hp : p < n) (h : dk n to b wt (k + 1) p < dk n to b wt k p) : ∃ f : Nat → Nat, f k = p ∧ (∀ i, i ≤ k → f i < n) ∧ ∀ i, i < k → dk n to b wt (i + 1) (f i) < dk n to b wt (i + 2) (f (i + 1)) := by
  induction k generalizing p with
  | zero => exact ⟨fun _ => p, rfl, fun _ _ => hp, fun i hi => by omega⟩
  | succ k ih =>
    obtain ⟨o, h1, h2, h3⟩ := dk_prev hw h
    obtain ⟨f, f1, f2, f3⟩ := ih h1 h2
    refine ⟨fun i => if i = k + 1 then p else f i, if_pos rfl, fun i hi => ?_, fun i hi => ?_⟩
    · dsimp only
      split
      · exact hp
      · exact f2 i (by omega)
    · dsimp only
      by_cases e : i = k
      · subst e
        rw [if_neg (by omega), if_pos rfl, f1]; exact h3
      · rw [if_neg (by omega), if_neg (by omega)]; exact f3 i (by omega)
theorem dk_stop {k p : Nat} (hw : ∀ p o, 1 ≤ wt p o) (hp : p < n) (hk : n ≤ k) : dk n to b wt (k + 1) p = dk n to b wt k p := by
  refine Classical.byContradiction (fun z => ?_)
  have hlt : dk n to b wt (k + 1) p < dk n to b wt k p := by
    have := dk_s (n := n) (to := to) (b := b) (wt := wt) k p; omega
  obtain ⟨f, f1, f2, f3⟩ := dk_row hw hp hlt
  have inc : ∀ i d, i + d ≤ k → d ≠ 0 → dk n to b wt (i + 1) (f i) < dk n to b wt (i + d + 1) (f (i + d)) := by
    intro i d
    induction d with
    | zero => intro _ h; exact absurd rfl h
    | succ d ih =>
      intro hd _
      have s := f3 (i + d) (by omega)
      rw [show i + (d + 1) = i + d + 1 by omega]
      by_cases e : d = 0
      · subst e; exact s
      · have := ih (by omega) e; exact Nat.lt_trans this s
  have : k + 1 ≤ n := by
    refine pig n (k + 1) (fun i => (f i : Int)) (fun i hi => ⟨by omega, by have := f2 i (by omega); omega⟩) (fun i j hij hj e => ?_)
    have e : f i = f j := by omega
    have h1 := inc i (j - i) (by omega) (by omega)
    rw [show i + (j - i) = j by omega, ← e] at h1
    have h2 := dk_le (n := n) (to := to) (b := b) (wt := wt) (i := i + 1) (p := f i) (j - i)
    rw [show i + 1 + (j - i) = j + 1 by omega] at h2
    omega
  omega
/-- in the end nothing is cheaper still -/
theorem dk_st {p o : Nat} (hw : ∀ p o, 1 ≤ wt p o) (hp : p < n) (ho : o < n) (hpt : p ≠ to) : dk n to b wt n p ≤ bfc b wt (dk n to b wt n) p o := by
  rw [← dk_stop hw hp (Nat.le_refl n), dk, if_neg hpt]
  exact rlx_by n o ho
theorem dk_has : ∀ k p, p ≠ to → dk n to b wt k p < 100000000 → ∃ o, o < n ∧ bfc b wt (dk n to b wt k) p o ≤ dk n to b wt k p
  | 0, p, hp, h => by rw [dk, if_neg hp] at h; omega
  | k + 1, p, hp, h => by
    have e : dk n to b wt (k + 1) p = rlx b wt (dk n to b wt k) p n := by rw [dk, if_neg hp]
    have mo : ∀ o, bfc b wt (dk n to b wt (k + 1)) p o ≤ bfc b wt (dk n to b wt k) p o := fun o => bfc_mono (dk_s k o) (dk_F k o)
    rcases rlx_or (b := b) (wt := wt) (D := dk n to b wt k) (p := p) n with e1 | ⟨o, ho, e1⟩
    · obtain ⟨o, ho, h2⟩ := dk_has k p hp (by omega)
      exact ⟨o, ho, by have := mo o; omega⟩
    · exact ⟨o, ho, by have := mo o; omega⟩
end BFT
