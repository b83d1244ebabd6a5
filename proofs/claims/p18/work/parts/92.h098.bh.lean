/-! THE WORDS IN THE REFERENCE; WHAT ITS LAW TELLS -/
theorem jN_32i {x : Int32} : Int32.toInt64 x = jN x.toInt := jN_of (i64toInt x)
theorem setV_env {f : Nat → Int32} {z : Nat → Int64} {p y t : Int32} {h : Nat} (hB : rB f) (hp : p = -1 ∨ ∃ n : Nat, n < 8 ∧ p = nI n) (hh : h < 6) (hy : -10 ≤ y.toInt ∧ y.toInt ≤ 10000) (ht : -1 ≤ t.toInt ∧ t.toInt ≤ 8) : ∀ w, 1 ≤ w → w ≤ 9 → setV f z p h y t w = jN (envL f p.toInt h y.toInt t.toInt (w - 1)) ∧ -1000000000 ≤ envL f p.toInt h y.toInt t.toInt (w - 1) ∧ envL f p.toInt h y.toInt t.toInt (w - 1) ≤ 1000000000 := by
  have m1 : (-1 : Int32).toInt = -1 := by decide
  have e1 : (-1 : Int64) = jN (-1) := rfl
  have pn : ∀ n : Nat, n < 8 → ¬ nI n = -1 := fun n hn => nI_nm (by omega)
  intro w w1 w9
  have g := fun i (hi : i < 185) => rB_g hB hi
  have : w = 1 ∨ w = 2 ∨ w = 3 ∨ w = 4 ∨ w = 5 ∨ w = 6 ∨ w = 7 ∨ w = 8 ∨ w = 9 := by omega
  rcases this with rfl | rfl | rfl | rfl | rfl | rfl | rfl | rfl | rfl
  · refine ⟨jN_32i, ?_⟩
    show -1000000000 ≤ p.toInt ∧ p.toInt ≤ 1000000000
    rcases hp with z1 | ⟨n, hn, z1⟩
    · rw [z1, m1]; omega
    · rw [z1, nI_toInt (by omega)]; omega
  · show (if p = -1 then (-1 : Int64) else (f (146 + p.toNatClampNeg)).toInt64) = jN (if p.toInt < 0 then -1 else iR f (146 + p.toInt.toNat)) ∧ -1000000000 ≤ (if p.toInt < 0 then -1 else iR f (146 + p.toInt.toNat)) ∧ (if p.toInt < 0 then -1 else iR f (146 + p.toInt.toNat)) ≤ 1000000000
    rcases hp with z1 | ⟨n, hn, z1⟩
    · rw [if_pos z1, z1, m1, if_pos (by decide)]
      exact ⟨e1, by decide, by decide⟩
    · rw [z1, if_neg (pn n hn), nI_toInt (by omega), nI_clamp (by omega), if_neg (by omega), Int.toNat_natCast]
      have := g (146 + n) (by omega)
      exact ⟨jN_32i, by omega, by omega⟩
  · show (if p = -1 then (-1 : Int64) else (f (14 + p.toNatClampNeg)).toInt64) = jN (if p.toInt < 0 then -1 else iR f (14 + p.toInt.toNat)) ∧ -1000000000 ≤ (if p.toInt < 0 then -1 else iR f (14 + p.toInt.toNat)) ∧ (if p.toInt < 0 then -1 else iR f (14 + p.toInt.toNat)) ≤ 1000000000
    rcases hp with z1 | ⟨n, hn, z1⟩
    · rw [if_pos z1, z1, m1, if_pos (by decide)]
      exact ⟨e1, by decide, by decide⟩
    · rw [z1, if_neg (pn n hn), nI_toInt (by omega), nI_clamp (by omega), if_neg (by omega), Int.toNat_natCast]
      have := g (14 + n) (by omega)
      exact ⟨jN_32i, by omega, by omega⟩
  · show (nI h).toInt64 = jN (h : Int) ∧ -1000000000 ≤ (h : Int) ∧ (h : Int) ≤ 1000000000
    exact ⟨jN_nI (by omega), by omega, by omega⟩
  · have := g (8 + h) (by omega)
    exact ⟨jN_32i, by show -1000000000 ≤ iR f (8 + h); omega, by show iR f (8 + h) ≤ 1000000000; omega⟩
  · show (if p = -1 then (-1 : Int64) else (f (30 + 6 * p.toNatClampNeg + h) - f (78 + 6 * p.toNatClampNeg + h)).toInt64) = jN (if p.toInt < 0 then -1 else iR f (30 + 6 * p.toInt.toNat + h) - iR f (78 + 6 * p.toInt.toNat + h)) ∧ -1000000000 ≤ (if p.toInt < 0 then -1 else iR f (30 + 6 * p.toInt.toNat + h) - iR f (78 + 6 * p.toInt.toNat + h)) ∧ (if p.toInt < 0 then -1 else iR f (30 + 6 * p.toInt.toNat + h) - iR f (78 + 6 * p.toInt.toNat + h)) ≤ 1000000000
    rcases hp with z1 | ⟨n, hn, z1⟩
    · rw [if_pos z1, z1, m1, if_pos (by decide)]
      exact ⟨e1, by decide, by decide⟩
    · rw [z1, if_neg (pn n hn), nI_toInt (by omega), nI_clamp (by omega), if_neg (by omega), Int.toNat_natCast]
      have r1 := g (30 + 6 * n + h) (by omega)
      have r2 := g (78 + 6 * n + h) (by omega)
      refine ⟨?_, by omega, by omega⟩
      rw [jN_32i, fb_subI (by rw [iR_i, iR_i]; omega) (by rw [iR_i, iR_i]; omega)]
      rfl
  · exact ⟨jN_32i, by show -1000000000 ≤ y.toInt; omega, by show y.toInt ≤ 1000000000; omega⟩
  · exact ⟨jN_32i, by show -1000000000 ≤ t.toInt; omega, by show t.toInt ≤ 1000000000; omega⟩
  · have := g 7 (by omega)
    exact ⟨jN_32i, by show -1000000000 ≤ iR f 7; omega, by show iR f 7 ≤ 1000000000; omega⟩
/-- a law of the row stands for its clauses -/
def lawS (f : Nat → Int32) (L : Nat → List pCl) : Prop := ∀ i : Nat, (i : Int) < iR f 3 → lwR f (185 + 900 * i) (L i) ∧ okL (L i) ∧ okB2 (L i)
theorem tellV_eq {f : Nat → Int32} {z : Nat → Int64} {L : Nat → List pCl} {p y t : Int32} {head h : Nat} {w : Int64} (hB : rB f) (hok : ∀ i : Nat, (i : Int) < iR f 3 → lawOk f (185 + 900 * i)) (hL : lawS f L) (hh : head < 5) (hp : p = -1 ∨ ∃ n : Nat, n < 8 ∧ p = nI n) (h6 : h < 6) (hy : -10 ≤ y.toInt ∧ y.toInt ≤ 10000) (ht : -1 ≤ t.toInt ∧ t.toInt ≤ 8) : tellV f z (nI head) p h y t w = (match tellL (csF f L) head (envL f p.toInt h y.toInt t.toInt) with
  | none => w
  | some v => jN v) := by
  have r4 := hB.1 4 (by omega)
  rw [show rLo 4 = -1 by decide, show rHi 4 = 5 by decide] at r4
  have r43 := hB.2.1
  unfold tellV csF
  by_cases c : f 4 = -1
  · rw [if_pos c, if_pos (by unfold iR; rw [c]; decide)]
    rfl
  · have c4 : ¬ iR f 4 < 0 := fun q => c (by
      apply Int32.toInt_inj.mp
      have e : iR f 4 = (f 4).toInt := rfl
      rw [show (-1 : Int32).toInt = -1 by decide]
      omega)
    rw [if_neg c, if_neg c4]
    obtain ⟨n, en⟩ : ∃ n, n = (iR f 4).toNat := ⟨_, rfl⟩
    have f4 : f 4 = nI n := by
      apply Int32.toInt_inj.mp
      rw [nI_toInt (by omega), iR_i]
      omega
    rw [f4, nI_clamp (by omega), ← en]
    obtain ⟨a1, a2, a3⟩ := hL n (by omega)
    have l12 : (L n).length ≤ 12 := by have := a2.1.1; rw [List.length_map] at this; exact this
    rw [a1.1, nI_clamp (by omega)]
    exact tell_eq (hok n (by omega)) a1 a2 a3 (setV_env hB hp h6 hy ht) hh _ (Nat.le_refl _)
