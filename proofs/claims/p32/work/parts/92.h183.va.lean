/-! A ROUND OF VISITS, ON PAPER -/
def dN (a b : Int32) : Nat := (stE a b).toInt.toNat
theorem dN_all : ∀ a, a < 25 → ∀ b, b < 25 → stE (nI a) (nI b) = nI (dN (nI a) (nI b)) ∧ dN (nI a) (nI b) ≤ 8 := by decide +kernel
abbrev vtS : Type := Nat × Nat × (Nat → Nat)
/-- the longest, of alike ones that of the fewest steps, the first -/
def bvU (k v : Nat) (f : Nat → Nat) (st : vtS) : vtS := if st.1 < k ∨ (k = st.1 ∧ v < st.2.1) then (k, v, f) else st
def frV (F : Nat → Int32) (p : Nat) (f : Nat → Nat) (k : Nat) : Int32 := if k = 0 then F (138 + p) else F (126 + f (k - 1))
def nxV (F : Nat → Int32) (p : Nat) (f : Nat → Nat) (k v h : Nat) : Nat := v + dN (frV F p f k) (F (126 + h))
def okVi (F : Nat → Int32) (p n : Nat) (f : Nat → Nat) (k v h : Nat) : Bool := noN f h k && decide (1 ≤ leftR F p h) && decide (nxV F p f k v h ≤ n)
/-- d visits more at most, behind k of them -/
def viS (F : Nat → Int32) (p n : Nat) : Nat → Nat → (Nat → Nat) → Nat → vtS → vtS
  | 0, _, _, _, st => st
  | d + 1, k, f, v, st => fldX (fun h st => if okVi F p n f k v h = true then viS F p n d (k + 1) (upN f k h) (nxV F p f k v h) (bvU (k + 1) (nxV F p f k v h) (upN f k h) st) else st) 0 (nHR F) st
section VA
variable {F : Nat → Int32} {p n : Nat} {f g : Nat → Nat}
theorem fldX_s {σ : Type} {g : Nat → σ → σ} : ∀ c t st, fldX g t (c + 1) st = g (t + c) (fldX g t c st)
  | 0, t, st => rfl
  | c + 1, t, st => by
    have ih := fldX_s (g := g) c (t + 1) (g t st)
    rw [fldX, ih, fldX, show t + 1 + c = t + (c + 1) by omega]
theorem pl_b (hB : rB F) {j : Nat} (hj : j < 6) : ∃ w, w < 25 ∧ F (126 + j) = nI w := by
  have b := hB.1 (126 + j) (by omega)
  rw [show rLo (126 + j) = 0 by unfold rLo; rw [if_neg (by omega)], show rHi (126 + j) = 24 by unfold rHi; rw [if_neg (by omega), if_neg (by omega), if_neg (by omega), if_neg (by omega), if_neg (by omega), if_neg (by omega), if_neg (by omega), if_neg (by omega), if_neg (by omega), if_neg (by omega), if_neg (by omega), if_pos (by omega)]] at b
  obtain ⟨w, hw, e⟩ := pIx 25 (by omega) (show 0 ≤ (F (126 + j)).toInt from b.1) (show (F (126 + j)).toInt < 25 by have : (F (126 + j)).toInt ≤ 24 := b.2; omega)
  exact ⟨w, hw, e⟩
theorem ho_b (hB : rB F) {j : Nat} (hj : j < 8) : ∃ w, w < 25 ∧ F (138 + j) = nI w := by
  have b := hB.1 (138 + j) (by omega)
  rw [show rLo (138 + j) = 0 by unfold rLo; rw [if_neg (by omega)], show rHi (138 + j) = 24 by unfold rHi; rw [if_neg (by omega), if_neg (by omega), if_neg (by omega), if_neg (by omega), if_neg (by omega), if_neg (by omega), if_neg (by omega), if_neg (by omega), if_neg (by omega), if_neg (by omega), if_neg (by omega), if_neg (by omega), if_neg (by omega), if_pos (by omega)]] at b
  obtain ⟨w, hw, e⟩ := pIx 25 (by omega) (show 0 ≤ (F (138 + j)).toInt from b.1) (show (F (138 + j)).toInt < 25 by have : (F (138 + j)).toInt ≤ 24 := b.2; omega)
  exact ⟨w, hw, e⟩
theorem fr_b (hB : rB F) (hp : p < 8) {k : Nat} (hf : ∀ i, i < k → f i < 6) : ∃ w, w < 25 ∧ frV F p f k = nI w := by
  unfold frV
  by_cases c : k = 0
  · rw [if_pos c]
    exact ho_b hB hp
  · rw [if_neg c]
    exact pl_b hB (hf (k - 1) (by omega))
theorem st_e (hB : rB F) (hp : p < 8) {k h : Nat} (hf : ∀ i, i < k → f i < 6) (hh : h < 6) : stE (frV F p f k) (F (126 + h)) = nI (dN (frV F p f k) (F (126 + h))) ∧ dN (frV F p f k) (F (126 + h)) ≤ 8 := by
  obtain ⟨w, w1, w2⟩ := fr_b hB hp hf
  obtain ⟨u, u1, u2⟩ := pl_b hB hh
  rw [w2, u2]
  exact dN_all w w1 u u1
theorem okVi_iff {k v h : Nat} : okVi F p n f k v h = true ↔ (∀ i, i < k → f i ≠ h) ∧ 1 ≤ leftR F p h ∧ nxV F p f k v h ≤ n := by
  unfold okVi
  rw [Bool.and_eq_true, Bool.and_eq_true, decide_eq_true_eq, decide_eq_true_eq, noN_iff]
  exact ⟨fun ⟨⟨a, b⟩, c⟩ => ⟨a, b, c⟩, fun ⟨a, b, c⟩ => ⟨⟨a, b⟩, c⟩⟩
/-- bounds that a search keeps -/
def bdV (n : Nat) (st : vtS) : Prop := st.1 ≤ 6 ∧ st.2.1 ≤ n ∧ ∀ i, i < st.1 → st.2.2 i < 6
theorem bdV_u {k v : Nat} {st : vtS} (h : bdV n st) (hk : k ≤ 6) (hv : v ≤ n) (hf : ∀ i, i < k → f i < 6) : bdV n (bvU k v f st) := by
  unfold bvU
  split
  · exact ⟨hk, hv, hf⟩
  · exact h
theorem bdV_fld {g : Nat → vtS → vtS} (hg : ∀ t st, bdV n st → bdV n (g t st)) : ∀ c t st, bdV n st → bdV n (fldX g t c st)
  | 0, _, _, h => h
  | c + 1, t, st, h => bdV_fld hg c (t + 1) (g t st) (hg t st h)
end VA
