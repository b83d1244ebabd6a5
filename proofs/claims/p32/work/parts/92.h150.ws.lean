/-! WHO IT CAN HAVE BEEN, ON PAPER -/
/-- how many steps lie between two places -/
def stE (a b : Int32) : Int32 := (if 0 ≤ ((a - a / 5 * 5) - (b - b / 5 * 5)) then ((a - a / 5 * 5) - (b - b / 5 * 5)) else 0 - ((a - a / 5 * 5) - (b - b / 5 * 5))) + (if 0 ≤ ((a / 5) - (b / 5)) then ((a / 5) - (b / 5)) else 0 - ((a / 5) - (b / 5)))
def nCR (f : Nat → Int32) : Nat := (iR f 2).toNat
/-- the house of a clue -/
def chR (f : Nat → Int32) (k : Nat) : Nat := (iR f (170 + 2 * k)).toNat
/-- where one is ahead of a clue -/
def wplR (f : Nat → Int32) (p k : Nat) : Int32 := if k = 0 then f (138 + p) else f (126 + chR f (k - 1))
def okWk (f : Nat → Int32) (p : Nat) : Nat → Bool
  | 0 => true
  | k + 1 => okWk f p k && decide (stE (wplR f p k) (f (126 + chR f k)) ≤ f (171 + 2 * k))
/-- how many of the first n clues name the house -/
def toR (f : Nat → Int32) (h : Nat) : Nat → Nat
  | 0 => 0
  | k + 1 => if chR f k = h then toR f h k + 1 else toR f h k
def okTd (f : Nat → Int32) (p : Nat) : Nat → Bool
  | 0 => true
  | k + 1 => okTd f p k && decide ((toR f (chR f k) (nCR f) : Int) ≤ leftR f p (chR f k))
def canR (f : Nat → Int32) (p : Nat) : Bool := liveR f p && okWk f p (nCR f) && okTd f p (nCR f)
def whoR (f : Nat → Int32) : Nat → Int32
  | 0 => 0
  | n + 1 => if canR f n = true then whoR f n ||| ((1 : Int32) <<< (nI n &&& 31)) else whoR f n
/-- the clues name houses that there are -/
def cluF (f : Nat → Int32) : Prop := ∀ k : Nat, (k : Int) < iR f 2 → iR f (170 + 2 * k) < iR f 0
def cluB (T : aS) : Prop := cluF T.1.1 ∧ ∀ k, k < 2 → ∀ t, T.2.1 k = some t → cluF t.1
theorem okTd_iff {f : Nat → Int32} {p : Nat} : ∀ n, okTd f p n = true ↔ ∀ k, k < n → (toR f (chR f k) (nCR f) : Int) ≤ leftR f p (chR f k)
  | 0 => ⟨fun _ k hk => absurd hk (Nat.not_lt_zero _), fun _ => rfl⟩
  | n + 1 => by
    rw [okTd, Bool.and_eq_true, decide_eq_true_eq, okTd_iff n]
    refine ⟨fun ⟨h1, h2⟩ k hk => ?_, fun h => ⟨fun k hk => h k (by omega), h n (by omega)⟩⟩
    by_cases c : k = n
    · rw [c]; exact h2
    · exact h1 k (by omega)
theorem okWk_iff {f : Nat → Int32} {p : Nat} : ∀ n, okWk f p n = true ↔ ∀ k, k < n → stE (wplR f p k) (f (126 + chR f k)) ≤ f (171 + 2 * k)
  | 0 => ⟨fun _ k hk => absurd hk (Nat.not_lt_zero _), fun _ => rfl⟩
  | n + 1 => by
    rw [okWk, Bool.and_eq_true, decide_eq_true_eq, okWk_iff n]
    refine ⟨fun ⟨h1, h2⟩ k hk => ?_, fun h => ⟨fun k hk => h k (by omega), h n (by omega)⟩⟩
    by_cases c : k = n
    · rw [c]; exact h2
    · exact h1 k (by omega)
theorem toR_0 {f : Nat → Int32} {h : Nat} : ∀ n, (∀ k, k < n → chR f k ≠ h) → toR f h n = 0
  | 0, _ => rfl
  | n + 1, hn => by rw [toR, if_neg (hn n (by omega))]; exact toR_0 n (fun k hk => hn k (by omega))
theorem toR_le {f : Nat → Int32} {h : Nat} : ∀ n, toR f h n ≤ n
  | 0 => Nat.le_refl _
  | n + 1 => by
    have := toR_le (f := f) (h := h) n
    rw [toR]
    split <;> omega
/-- the class asks every house, the reference those that are told -/
theorem okTd_all {f : Nat → Int32} {p : Nat} (hB : rB f) (hc : cluF f) (hp : p < 8) : okTd f p (nCR f) = true ↔ ∀ h : Nat, (h : Int) < iR f 0 → (toR f h (nCR f) : Int) ≤ leftR f p h := by
  have b0 := rB_0 hB
  rw [okTd_iff]
  constructor
  · intro H h hh
    by_cases c : ∃ k, k < nCR f ∧ chR f k = h
    · obtain ⟨k, k1, k2⟩ := c
      rw [← k2]
      exact H k k1
    · rw [toR_0 _ (fun k hk e => c ⟨k, hk, e⟩)]
      have u := hB.2.2.2.2.1 (6 * p + h) (by omega)
      unfold leftR
      rw [show 30 + 6 * p + h = 30 + (6 * p + h) by omega, show 78 + 6 * p + h = 78 + (6 * p + h) by omega]
      omega
  · intro H k hk
    refine H (chR f k) ?_
    have := hc k (by unfold nCR at hk; omega)
    have b := hB.1 (170 + 2 * k) (by
      have b2 := hB.1 2 (by omega)
      rw [show rHi 2 = 6 by decide] at b2
      unfold nCR at hk
      omega)
    have lo : rLo (170 + 2 * k) = 0 := by unfold rLo; rw [if_neg (by omega)]
    rw [lo] at b
    unfold chR
    omega
theorem x_stepsOf {q : Int32 → hS → Prop} {T : hS} {a b : Int32} (h : q (stE a b) T) : w_X12_stepsOf q T a b := by
  have ng : ∀ x : Int32, 0 - x = -x := fun x => by rw [Int32.zero_sub]
  unfold stE at h
  intro y7 e7 y15 e15
  rw [← e7, ← e15, ng, ng] at h
  refine ⟨fun c => ?_, fun c => ?_⟩
  · rw [if_pos c] at h
    refine ⟨fun d => ?_, fun d => ?_⟩
    · rw [if_pos d] at h; exact h
    · rw [if_neg d] at h; exact h
  · rw [if_neg c] at h
    refine ⟨fun d => ?_, fun d => ?_⟩
    · rw [if_pos d] at h; exact h
    · rw [if_neg d] at h; exact h
