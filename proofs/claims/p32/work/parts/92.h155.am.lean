/-! THE FEWEST RIGHTS STRUCK OUT, ON PAPER -/
/-- the rights that are left where s is struck out -/
def reN (f : Nat → Int32) (h s : Nat) : Nat → Int
  | 0 => 0
  | p + 1 => reN f h s p + if dB (nI s) p = 1 then 0 else iR f (30 + 6 * p + h)
def gdA (f : Nat → Int32) (h s : Nat) : Bool := decide (reN f h s (nPR f) ≤ iR f (132 + h))
def cnA (s : Nat) : Nat := onesN (nI s) 8
/-- the best of those below m -/
def amR (f : Nat → Int32) (h : Nat) : Nat → Option Nat
  | 0 => none
  | m + 1 => if gdA f h m = true then (match amR f h m with
    | none => some m
    | some t => if cnA m < cnA t then some m else some t) else amR f h m
/-- s is the best of those from a on, below b -/
def isA (f : Nat → Int32) (h a b s : Nat) : Prop := (a ≤ s ∧ s < b ∧ gdA f h s = true) ∧ ∀ t, a ≤ t → t < b → gdA f h t = true → cnA s < cnA t ∨ (cnA s = cnA t ∧ s ≤ t)
theorem isA_uniq {f : Nat → Int32} {h a b s t : Nat} (hs : isA f h a b s) (ht : isA f h a b t) : s = t := by
  have h1 := hs.2 t ht.1.1 ht.1.2.1 ht.1.2.2
  have h2 := ht.2 s hs.1.1 hs.1.2.1 hs.1.2.2
  omega
theorem amR_is {f : Nat → Int32} {h : Nat} : ∀ m, (amR f h m = none → ∀ t, t < m → ¬ gdA f h t = true) ∧ ∀ s, amR f h m = some s → isA f h 0 m s
  | 0 => ⟨fun _ t ht => absurd ht (Nat.not_lt_zero _), fun s e => by cases e⟩
  | m + 1 => by
    obtain ⟨i1, i2⟩ := amR_is (f := f) (h := h) m
    rw [amR]
    by_cases c : gdA f h m = true
    · rw [if_pos c]
      cases e : amR f h m with
      | none =>
        refine ⟨fun z => (by cases z), fun s z => ?_⟩
        cases z
        refine ⟨⟨Nat.zero_le _, by omega, c⟩, fun t _ ht g => ?_⟩
        by_cases et : t = m
        · subst et; exact Or.inr ⟨rfl, Nat.le_refl _⟩
        · exact absurd g (i1 e t (by omega))
      | some u =>
        have hu := i2 u e
        dsimp only
        by_cases cc : cnA m < cnA u
        · rw [if_pos cc]
          refine ⟨fun z => (by cases z), fun s z => ?_⟩
          cases z
          refine ⟨⟨Nat.zero_le _, by omega, c⟩, fun t _ ht g => ?_⟩
          by_cases et : t = m
          · subst et; exact Or.inr ⟨rfl, Nat.le_refl _⟩
          · have := hu.2 t (Nat.zero_le _) (by omega) g
            omega
        · rw [if_neg cc]
          refine ⟨fun z => (by cases z), fun s z => ?_⟩
          cases z
          refine ⟨⟨Nat.zero_le _, by have := hu.1.2.1; omega, hu.1.2.2⟩, fun t _ ht g => ?_⟩
          by_cases et : t = m
          · subst et
            have := hu.1.2.1
            omega
          · exact hu.2 t (Nat.zero_le _) (by omega) g
    · rw [if_neg c]
      refine ⟨fun z t ht => ?_, fun s z => ?_⟩
      · by_cases et : t = m
        · subst et; exact c
        · exact i1 z t (by omega)
      · obtain ⟨⟨j1, j2, j3⟩, j4⟩ := i2 s z
        refine ⟨⟨j1, by omega, j3⟩, fun t _ ht g => ?_⟩
        by_cases et : t = m
        · subst et; exact absurd g c
        · exact j4 t (Nat.zero_le _) (by omega) g
/-- the class looks downwards -/
theorem isA_dn {f : Nat → Int32} {h a b s : Nat} (hs : isA f h (a + 1) b s) : (gdA f h a = true ∧ cnA a ≤ cnA s → isA f h a b a) ∧ (¬ (gdA f h a = true ∧ cnA a ≤ cnA s) → isA f h a b s) := by
  obtain ⟨⟨j1, j2, j3⟩, j4⟩ := hs
  refine ⟨fun c => ⟨⟨Nat.le_refl _, by omega, c.1⟩, fun t t1 t2 g => ?_⟩, fun c => ⟨⟨by omega, j2, j3⟩, fun t t1 t2 g => ?_⟩⟩
  · by_cases e : t = a
    · subst e; exact Or.inr ⟨rfl, Nat.le_refl _⟩
    · have := j4 t (by omega) t2 g
      omega
  · by_cases e : t = a
    · subst e
      have : ¬ cnA t ≤ cnA s := fun z => c ⟨g, z⟩
      omega
    · exact j4 t (by omega) t2 g
theorem full_b : ∀ n, n < 9 → ∀ p, p < n → dB (nI (2 ^ n - 1)) p = 1 := by decide +kernel
theorem reN_full {f : Nat → Int32} {h n : Nat} (hn : n < 9) : ∀ p, p ≤ n → reN f h (2 ^ n - 1) p = 0
  | 0, _ => rfl
  | p + 1, hp => by
    rw [reN, if_pos (full_b n hn p (by omega)), reN_full hn p (by omega)]
    rfl
theorem cn_bit : ∀ m, m < 256 → (fun v0 : Int32 => (fun y47 : Int32 => y47 &&& 63) ((fun y40 : Int32 => y40 + (UInt32.toInt32 (Int32.toUInt32 y40 >>> (Int32.toUInt32 16 &&& Int32.toUInt32 31)))) ((fun y33 : Int32 => y33 + (UInt32.toInt32 (Int32.toUInt32 y33 >>> (Int32.toUInt32 8 &&& Int32.toUInt32 31)))) ((fun y23 : Int32 => (y23 + (UInt32.toInt32 (Int32.toUInt32 y23 >>> (Int32.toUInt32 4 &&& Int32.toUInt32 31)))) &&& 252645135) ((fun y9 : Int32 => (y9 &&& 858993459) + ((UInt32.toInt32 (Int32.toUInt32 y9 >>> (Int32.toUInt32 2 &&& Int32.toUInt32 31))) &&& 858993459)) (v0 - ((UInt32.toInt32 (Int32.toUInt32 v0 >>> (Int32.toUInt32 1 &&& Int32.toUInt32 31))) &&& 1431655765))))))) (nI m) = nI (cnA m) := by decide +kernel
theorem x_bitCount {q : Int32 → hS → Prop} {X : hS} {m : Nat} (hm : m < 256) (k : q (nI (cnA m)) X) : w_J6_bitCount_0f7a4 q X (nI m) := by
  intro y9 e9 y23 e23 y33 e33 y40 e40 y47 e47
  have := cn_bit m hm
  dsimp only at this
  rw [← e9, ← e23, ← e33, ← e40, ← e47] at this
  rw [this]
  exact k
