/-! AN EXCHANGE, ON PAPER: who gives is a mask -/
theorem mk_or : ∀ m, m < 256 → ∀ t, t < 8 → nI m ||| ((1 : Int32) <<< (nI t &&& 31)) = nI (m ||| 2 ^ t) := by decide +kernel
theorem mk_bit : ∀ m, m < 256 → ∀ t, t < 8 → (dB (nI m) t = 1 ↔ m.testBit t = true) := by decide +kernel
theorem mk_cn : ∀ m, m < 256 → ∀ t, t < 8 → m.testBit t = false → cnA (m ||| 2 ^ t) = cnA m + 1 ∧ m < m ||| 2 ^ t := by decide +kernel
theorem mk_full : ∀ n, n < 9 → cnA (2 ^ n - 1) = n ∧ ∀ m, m < 256 → m < 2 ^ n → cnA m ≤ n ∧ (cnA m = n → m = 2 ^ n - 1) := by decide +kernel
theorem mk_lt {m t n : Nat} (hm : m < 2 ^ n) (ht : t < n) : m ||| 2 ^ t < 2 ^ n := Nat.or_lt_two_pow hm (Nat.pow_lt_pow_right (by omega) ht)
def mxI (g : Nat → Int) : Nat → Int
  | 0 => -1
  | m + 1 => if mxI g m < g m then g m else mxI g m
/-- the most, if t gives to k -/
def opX (ed : Nat → Nat → Bool) (r : Nat → Int) (k m t : Nat) : Int := if m.testBit t = true then -1 else if r (m ||| 2 ^ t) = -1 ∨ k = t then r (m ||| 2 ^ t) else if ed k t = true then r (m ||| 2 ^ t) + 1 else -1
/-- the most that d people behind can get -/
def mvX (n : Nat) (ed : Nat → Nat → Bool) : Nat → Nat → Int
  | 0, _ => 0
  | d + 1, m => mxI (opX ed (mvX n ed d) (n - (d + 1)) m) n
def MX (n : Nat) (ed : Nat → Nat → Bool) (m : Nat) : Int := mvX n ed (n - cnA m) m
section XM
variable {n : Nat} {ed : Nat → Nat → Bool} {g h : Nat → Int}
theorem mxI_le {B : Int} (hB : -1 ≤ B) : ∀ m, (∀ j, j < m → g j ≤ B) → mxI g m ≤ B
  | 0, _ => hB
  | m + 1, h => by
    have := mxI_le hB m (fun j hj => h j (by omega))
    have := h m (by omega)
    rw [mxI]
    split <;> omega
theorem mxI_lo : ∀ m, -1 ≤ mxI g m
  | 0 => Int.le_refl _
  | m + 1 => by
    have := mxI_lo m
    rw [mxI]
    split <;> omega
theorem mxI_ge : ∀ m j, j < m → g j ≤ mxI g m
  | 0, j, hj => absurd hj (Nat.not_lt_zero _)
  | m + 1, j, hj => by
    rw [mxI]
    by_cases e : j = m
    · rw [e]
      split <;> omega
    · have := mxI_ge m j (by omega)
      split <;> omega
theorem mxI_at : ∀ m, mxI g m = -1 ∨ ∃ j, j < m ∧ g j = mxI g m
  | 0 => Or.inl rfl
  | m + 1 => by
    rw [mxI]
    split
    · exact Or.inr ⟨m, by omega, rfl⟩
    · rcases mxI_at m with z | ⟨j, h1, h2⟩
      · exact Or.inl z
      · exact Or.inr ⟨j, by omega, h2⟩
theorem mxI_cg : ∀ m, (∀ j, j < m → g j = h j) → mxI g m = mxI h m
  | 0, _ => rfl
  | m + 1, e => by
    rw [mxI, mxI, mxI_cg m (fun j hj => e j (by omega)), e m (by omega)]
theorem opX_b {r : Nat → Int} {k m t : Nat} {B : Int} (hB : 0 ≤ B) (h : -1 ≤ r (m ||| 2 ^ t) ∧ r (m ||| 2 ^ t) ≤ B) : -1 ≤ opX ed r k m t ∧ opX ed r k m t ≤ B + 1 := by
  unfold opX
  split
  · omega
  · split
    · omega
    · split <;> omega
theorem mvX_b : ∀ d m, -1 ≤ mvX n ed d m ∧ mvX n ed d m ≤ d
  | 0, m => by
    rw [mvX]
    omega
  | d + 1, m => by
    rw [mvX]
    refine ⟨mxI_lo _, mxI_le (by omega) _ (fun j _ => ?_)⟩
    have ih := mvX_b d (m ||| 2 ^ j)
    have := (opX_b (ed := ed) (k := n - (d + 1)) (m := m) (t := j) (B := d) (by omega) ih).2
    omega
theorem MX_b (m : Nat) : -1 ≤ MX n ed m ∧ MX n ed m ≤ n := by
  have := mvX_b (n := n) (ed := ed) (n - cnA m) m
  unfold MX
  omega
theorem MX_full (hn : n ≤ 8) : MX n ed (2 ^ n - 1) = 0 := by
  unfold MX
  rw [(mk_full n (by omega)).1, Nat.sub_self, mvX]
/-- what those behind get, by who gives to the next -/
theorem MX_s (hn : n ≤ 8) {m : Nat} (hm : m < 2 ^ n) (hf : m ≠ 2 ^ n - 1) : MX n ed m = mxI (opX ed (MX n ed) (cnA m) m) n := by
  have p2 := pw_256 n (by omega)
  have f := (mk_full n (by omega)).2 m (by omega) hm
  have lt : cnA m < n := by
    have : cnA m ≠ n := fun z => hf (f.2 z)
    omega
  have e : MX n ed m = mvX n ed (n - cnA m) m := rfl
  rw [e, show n - cnA m = (n - cnA m - 1) + 1 by omega, mvX, show n - (n - cnA m - 1 + 1) = cnA m by omega]
  refine mxI_cg n (fun t ht => ?_)
  unfold opX
  by_cases c : m.testBit t = true
  · rw [if_pos c, if_pos c]
  · have c' : m.testBit t = false := by
      cases z : m.testBit t with
      | true => exact absurd z c
      | false => rfl
    have cn := mk_cn m (by omega) t (by omega) c'
    have em : MX n ed (m ||| 2 ^ t) = mvX n ed (n - cnA m - 1) (m ||| 2 ^ t) := by
      unfold MX
      rw [cn.1, show n - (cnA m + 1) = n - cnA m - 1 by omega]
    rw [em]
/-- who gives to the next: the first of the best, last the next himself -/
def pkX (n : Nat) (ed : Nat → Nat → Bool) (k m : Nat) : Nat := let t := lsN (fun t => decide (t ≠ k) && decide (opX ed (MX n ed) k m t = MX n ed m)) n; if t < n then t else k
def mkX (n : Nat) (ed : Nat → Nat → Bool) : Nat → Nat
  | 0 => 0
  | k + 1 => mkX n ed k ||| 2 ^ pkX n ed k (mkX n ed k)
def gvX (n : Nat) (ed : Nat → Nat → Bool) (k : Nat) : Nat := if pkX n ed k (mkX n ed k) = k then 100 else pkX n ed k (mkX n ed k)
end XM
section XN
variable {n : Nat} {ed : Nat → Nat → Bool}
theorem mk_lo : ∀ p, p < 8 → (2 ^ p - 1).testBit p = false ∧ (2 ^ p - 1) ||| 2 ^ p = 2 ^ (p + 1) - 1 ∧ cnA (2 ^ p - 1) = p := by decide +kernel
theorem MX_lo (hn : n ≤ 8) : ∀ d p, n - p = d → p ≤ n → 0 ≤ MX n ed (2 ^ p - 1)
  | 0, p, h, hp => by
    have : p = n := by omega
    rw [this, MX_full hn]
    exact Int.le_refl _
  | d + 1, p, h, hp => by
    have ih := MX_lo hn d (p + 1) (by omega) (by omega)
    obtain ⟨l1, l2, l3⟩ := mk_lo p (by omega)
    have lt : 2 ^ p < 2 ^ n := Nat.pow_lt_pow_right (by omega) (by omega)
    have p1 : 0 < 2 ^ p := Nat.pow_pos (by omega)
    rw [MX_s hn (by omega) (by omega), l3]
    have ge := mxI_ge (g := opX ed (MX n ed) p (2 ^ p - 1)) n p (by omega)
    have e : opX ed (MX n ed) p (2 ^ p - 1) p = MX n ed (2 ^ (p + 1) - 1) := by
      unfold opX
      rw [l1, if_neg (by decide), if_pos (Or.inr rfl), l2]
    omega
theorem MX_0 (hn : n ≤ 8) : 0 ≤ MX n ed 0 := MX_lo hn n 0 (by omega) (by omega)
/-- the one picked is one of the best -/
theorem pk_sp (hn : n ≤ 8) {m : Nat} (hm : m < 2 ^ n) (hf : m ≠ 2 ^ n - 1) (h0 : 0 ≤ MX n ed m) : pkX n ed (cnA m) m < n ∧ m.testBit (pkX n ed (cnA m) m) = false ∧ opX ed (MX n ed) (cnA m) m (pkX n ed (cnA m) m) = MX n ed m ∧ 0 ≤ MX n ed (m ||| 2 ^ pkX n ed (cnA m) m) := by
  have p2 := pw_256 n (by omega)
  have f := (mk_full n (by omega)).2 m (by omega) hm
  have kn : cnA m < n := by
    have : cnA m ≠ n := fun z => hf (f.2 z)
    omega
  have ms := MX_s (ed := ed) hn hm hf
  have at' : pkX n ed (cnA m) m < n ∧ opX ed (MX n ed) (cnA m) m (pkX n ed (cnA m) m) = MX n ed m := by
    obtain ⟨l1, l2, l3⟩ := lsN_sp (P := fun t => decide (t ≠ cnA m) && decide (opX ed (MX n ed) (cnA m) m t = MX n ed m)) n
    obtain ⟨j, j1, j2⟩ : ∃ j, j < n ∧ opX ed (MX n ed) (cnA m) m j = MX n ed m := by
      rcases mxI_at (g := opX ed (MX n ed) (cnA m) m) n with z | ⟨j, j1, j2⟩
      · rw [← ms] at z
        omega
      · exact ⟨j, j1, by rw [ms]; exact j2⟩
    unfold pkX
    dsimp only
    by_cases c : lsN (fun t => decide (t ≠ cnA m) && decide (opX ed (MX n ed) (cnA m) m t = MX n ed m)) n < n
    · rw [if_pos c]
      refine ⟨c, ?_⟩
      by_cases ex : ∃ i, i ≤ n ∧ (decide (i ≠ cnA m) && decide (opX ed (MX n ed) (cnA m) m i = MX n ed m)) = true
      · obtain ⟨i, i1, i2⟩ := ex
        have := l3 i i1 i2
        rw [Bool.and_eq_true, decide_eq_true_eq, decide_eq_true_eq] at this
        exact this.2
      · exfalso
        have e : lsN (fun t => decide (t ≠ cnA m) && decide (opX ed (MX n ed) (cnA m) m t = MX n ed m)) n = n := by
          refine lsN_is (Nat.le_refl _) (fun z => absurd z (Nat.lt_irrefl _)) (fun i hi => ?_)
          cases z : (decide (i ≠ cnA m) && decide (opX ed (MX n ed) (cnA m) m i = MX n ed m)) with
          | false => rfl
          | true => exact absurd ⟨i, by omega, z⟩ ex
        omega
    · rw [if_neg c]
      refine ⟨kn, ?_⟩
      by_cases e : j = cnA m
      · rw [← e]
        rw [← e] at j2
        exact j2
      · exfalso
        have q := l2 j (by omega)
        rw [Bool.and_eq_false_iff] at q
        rcases q with z | z
        · exact of_decide_eq_false z e
        · exact of_decide_eq_false z j2
  refine ⟨at'.1, ?_, at'.2, ?_⟩
  · cases z : m.testBit (pkX n ed (cnA m) m) with
    | false => rfl
    | true =>
      have e := at'.2
      unfold opX at e
      rw [if_pos z] at e
      omega
  · have e := at'.2
    have b := MX_b (n := n) (ed := ed) (m ||| 2 ^ pkX n ed (cnA m) m)
    unfold opX at e
    split at e
    · omega
    · split at e
      · omega
      · split at e <;> omega
theorem mkX_sp (hn : n ≤ 8) : ∀ p, p ≤ n → mkX n ed p < 2 ^ n ∧ cnA (mkX n ed p) = p ∧ 0 ≤ MX n ed (mkX n ed p)
  | 0, _ => ⟨(pw_256 n (by omega)).1, (show cnA 0 = 0 by decide), MX_0 hn⟩
  | p + 1, hp => by
    obtain ⟨i1, i2, i3⟩ := mkX_sp hn p (by omega)
    have p2 := pw_256 n (by omega)
    have nf : mkX n ed p ≠ 2 ^ n - 1 := fun z => by
      have := (mk_full n (by omega)).1
      rw [← z] at this
      omega
    obtain ⟨k1, k2, k3, k4⟩ := pk_sp (ed := ed) hn i1 nf i3
    rw [i2] at k1 k2 k3 k4
    have cn := mk_cn (mkX n ed p) (by omega) (pkX n ed p (mkX n ed p)) (by omega) k2
    rw [mkX]
    exact ⟨mk_lt i1 k1, by omega, k4⟩
end XN
