/-! THE CHEAPEST CHAIN, ON PAPER: prices weigh 16 or 100, the chain is the same -/
def cnN (P : Nat → Bool) : Nat → Nat
  | 0 => 0
  | n + 1 => cnN P n + if P n = true then 1 else 0
section CHP
variable {P Q : Nat → Bool} {n to : Nat} {b : Nat → Nat → Bool} {wt c : Nat → Nat → Nat}
theorem cnN_le : ∀ n, cnN P n ≤ n
  | 0 => Nat.le_refl _
  | n + 1 => by
    have := cnN_le n
    rw [cnN]
    split <;> omega
theorem cnN_mono (h : ∀ x, P x = true → Q x = true) : ∀ n, cnN P n ≤ cnN Q n
  | 0 => Nat.le_refl _
  | n + 1 => by
    have := cnN_mono h n
    rw [cnN, cnN]
    by_cases p : P n = true
    · rw [if_pos p, if_pos (h n p)]
      omega
    · rw [if_neg p]
      omega
theorem cnN_lt {o : Nat} (h : ∀ x, P x = true → Q x = true) (hq : Q o = true) (hp : ¬ P o = true) : ∀ n, o < n → cnN P n + 1 ≤ cnN Q n
  | 0, ho => absurd ho (Nat.not_lt_zero _)
  | n + 1, ho => by
    rw [cnN, cnN]
    by_cases e : o = n
    · have := cnN_mono h n
      rw [← e, if_pos hq, if_neg hp, e]
      omega
    · have := cnN_lt h hq hp n (by omega)
      by_cases p : P n = true
      · rw [if_pos p, if_pos (h n p)]
        omega
      · rw [if_neg p]
        omega
theorem cnN_out {o : Nat} (hp : ¬ P o = true) : ∀ n, o < n → cnN P n + 1 ≤ n
  | 0, ho => absurd ho (Nat.not_lt_zero _)
  | n + 1, ho => by
    rw [cnN]
    by_cases e : o = n
    · have := cnN_le (P := P) n
      rw [← e, if_neg hp, e]
      omega
    · have := cnN_out hp n (by omega)
      split <;> omega
/-- costs that stand still -/
def fxD (n to : Nat) (b : Nat → Nat → Bool) (wt : Nat → Nat → Nat) (D : Nat → Nat) : Prop := D to = 0 ∧ (∀ p, D p ≤ 100000000) ∧ (∀ p o, p < n → o < n → p ≠ to → D p ≤ bfc b wt D p o) ∧ ∀ p, p < n → p ≠ to → D p < 100000000 → ∃ o, o < n ∧ b p o = true ∧ D o < 100000000 ∧ D p = wt p o + D o
theorem fxD_dk (hw : ∀ p o, 1 ≤ wt p o) : fxD n to b wt (dk n to b wt n) := by
  refine ⟨dk_to n, dk_F n, fun p o hp ho hpt => dk_st hw hp ho hpt, fun p hp hpt hF => ?_⟩
  obtain ⟨o, ho, h⟩ := dk_has (n := n) (to := to) (b := b) (wt := wt) n p hpt hF
  have st := dk_st (n := n) (to := to) (b := b) (wt := wt) hw hp ho hpt
  have e : bfc b wt (dk n to b wt n) p o = dk n to b wt n p := by omega
  unfold bfc at e
  split at e
  · omega
  · rename_i nc
    refine ⟨o, ho, ?_, ?_, by omega⟩
    · cases z : b p o with
      | true => rfl
      | false => exact absurd (Or.inr z) nc
    · have := dk_F (n := n) (to := to) (b := b) (wt := wt) n o
      have : dk n to b wt n o ≠ 100000000 := fun z => nc (Or.inl z)
      omega
theorem fxD_le {D E : Nat → Nat} (hw : ∀ p o, 1 ≤ wt p o) (hD : fxD n to b wt D) (hE : fxD n to b wt E) : ∀ m p, p < n → D p ≤ m → E p ≤ D p
  | m, p, hp, hm => by
    by_cases pt : p = to
    · rw [pt, hD.1, hE.1]
      exact Nat.le_refl _
    · by_cases f : D p < 100000000
      · obtain ⟨o, ho, hb, hf, e⟩ := hD.2.2.2 p hp pt f
        have w1 := hw p o
        have ih := fxD_le hw hD hE (m - 1) o ho (by omega)
        have st := hE.2.2.1 p o hp ho pt
        unfold bfc at st
        rw [if_neg (fun z => by
          rcases z with z | z
          · omega
          · rw [hb] at z; cases z)] at st
        omega
      · have := hE.2.1 p
        omega
termination_by m p hp hm => D p
decreasing_by omega
theorem fxD_eq {D E : Nat → Nat} (hw : ∀ p o, 1 ≤ wt p o) (hD : fxD n to b wt D) (hE : fxD n to b wt E) {p : Nat} (hp : p < n) : D p = E p := by
  have h1 := fxD_le hw hD hE (D p) p hp (Nat.le_refl _)
  have h2 := fxD_le hw hE hD (E p) p hp (Nat.le_refl _)
  omega
/-- the steps of a cheapest chain are few -/
theorem fxD_cnt {D : Nat → Nat} (hn : n ≤ 8) (hD : fxD n to b (fun p o => 100 * c p o + 1) D) : ∀ p, p < n → D p < 100000000 → D p % 100 ≤ cnN (fun x => decide (D x < D p)) n
  | p, hp, hf => by
    by_cases pt : p = to
    · rw [pt, hD.1]
      exact Nat.zero_le _
    · obtain ⟨o, ho, hb, hfo, e⟩ := hD.2.2.2 p hp pt hf
      have lt : D o < D p := by
        have e : D p = 100 * c p o + 1 + D o := e
        omega
      have ih := fxD_cnt hn hD o ho hfo
      have c1 := cnN_lt (P := fun x => decide (D x < D o)) (Q := fun x => decide (D x < D p)) (o := o) (fun x hx => by
        rw [decide_eq_true_eq] at hx ⊢
        omega) (by rw [decide_eq_true_eq]; exact lt) (by rw [decide_eq_true_eq]; omega) n ho
      have c2 := cnN_le (P := fun x => decide (D x < D p)) n
      have e : D p = 100 * c p o + 1 + D o := e
      omega
termination_by p hp hf => D p
decreasing_by omega
theorem fxD_7 {D : Nat → Nat} (hn : n ≤ 8) (hD : fxD n to b (fun p o => 100 * c p o + 1) D) {p : Nat} (hp : p < n) (hf : D p < 100000000) : D p % 100 + 1 ≤ n := by
  have h1 := fxD_cnt hn hD p hp hf
  have h2 := cnN_out (P := fun x => decide (D x < D p)) (o := p) (by rw [decide_eq_true_eq]; omega) n hp
  omega
theorem fxD_b {D : Nat → Nat} (hc : ∀ p o, c p o ≤ 999) (hn : n ≤ 8) (hD : fxD n to b (fun p o => 100 * c p o + 1) D) : ∀ p, p < n → D p < 100000000 → D p ≤ 99901 * (D p % 100)
  | p, hp, hf => by
    by_cases pt : p = to
    · rw [pt, hD.1]
      exact Nat.zero_le _
    · obtain ⟨o, ho, hb, hfo, e⟩ := hD.2.2.2 p hp pt hf
      have e : D p = 100 * c p o + 1 + D o := e
      have ih := fxD_b hc hn hD o ho hfo
      have h7 := fxD_7 hn hD ho hfo
      have := hc p o
      have em : D p % 100 = D o % 100 + 1 := by omega
      rw [em]
      omega
termination_by p hp hf => D p
decreasing_by omega
/-- weighed by 16 -/
def d16 (D : Nat → Nat) (p : Nat) : Nat := if D p = 100000000 then 100000000 else 16 * (D p / 100) + D p % 100
theorem fxD_16 {D : Nat → Nat} (hc : ∀ p o, c p o ≤ 999) (hn : n ≤ 8) (hto : to < n) (hD : fxD n to b (fun p o => 100 * c p o + 1) D) : fxD n to b (fun p o => 16 * c p o + 1) (fun p => if p < n then d16 D p else 100000000) := by
  have s : ∀ p, p < n → D p < 100000000 → D p % 100 ≤ 7 := fun p hp hf => by
    have := fxD_7 hn hD hp hf
    omega
  obtain ⟨E, eE⟩ : ∃ E : Nat → Nat, E = fun p => if p < n then d16 D p else 100000000 := ⟨_, rfl⟩
  rw [← eE]
  have dd : ∀ p, p < n → D p < 100000000 → E p = 16 * (D p / 100) + D p % 100 := fun p hp hf => by
    rw [eE]
    dsimp only
    rw [if_pos hp]
    unfold d16
    rw [if_neg (by omega)]
  have df : ∀ p, p < n → ¬ D p < 100000000 → E p = 100000000 := fun p hp hf => by
    have := hD.2.1 p
    rw [eE]
    dsimp only
    rw [if_pos hp]
    unfold d16
    rw [if_pos (by omega)]
  refine ⟨?_, fun p => ?_, fun p o hp ho hpt => ?_, fun p hp hpt hf => ?_⟩
  · rw [dd to hto (by rw [hD.1]; omega), hD.1]
  · rw [eE]
    dsimp only
    split
    · unfold d16
      have := hD.2.1 p
      split <;> omega
    · omega
  · have st := hD.2.2.1 p o hp ho hpt
    unfold bfc at st ⊢
    by_cases fo : D o < 100000000
    · have eo := dd o ho fo
      cases hb : b p o with
      | false =>
        rw [if_pos (Or.inr rfl)]
        by_cases fp : D p < 100000000
        · have ep := dd p hp fp
          omega
        · have ep := df p hp fp
          omega
      | true =>
        have so := s o ho fo
        rw [hb] at st
        rw [if_neg (fun z => by
          rcases z with z | z
          · omega
          · cases z)] at st
        rw [if_neg (fun z => by
          rcases z with z | z
          · omega
          · cases z)]
        have st : D p ≤ min 100000000 (100 * c p o + 1 + D o) := st
        show E p ≤ min 100000000 (16 * c p o + 1 + E o)
        have bo := fxD_b hc hn hD o ho fo
        have co := hc p o
        by_cases fp : D p < 100000000
        · have sp := s p hp fp
          have ep := dd p hp fp
          omega
        · have ep := df p hp fp
          have := hD.2.1 p
          omega
    · have eo := df o ho fo
      rw [if_pos (Or.inl eo)]
      by_cases fp : D p < 100000000
      · have ep := dd p hp fp
        omega
      · have ep := df p hp fp
        omega
  · have fp : D p < 100000000 := Decidable.of_not_not (fun z => by rw [df p hp z] at hf; omega)
    obtain ⟨o, ho, hb, hfo, e⟩ := hD.2.2.2 p hp hpt fp
    have e : D p = 100 * c p o + 1 + D o := e
    have so := s o ho hfo
    have sp := s p hp fp
    have ep := dd p hp fp
    have eo := dd o ho hfo
    refine ⟨o, ho, hb, ?_, ?_⟩
    · omega
    · show E p = 16 * c p o + 1 + E o
      omega
end CHP
