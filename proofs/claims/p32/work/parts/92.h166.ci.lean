/-! THE CHEAPEST CHAIN: who sells on, on paper -/
def w1C (K : Nat) (c : Nat → Nat → Nat) (p o : Nat) : Nat := K * c p o + 1
def dR (n to : Nat) (b : Nat → Nat → Bool) (c : Nat → Nat → Nat) : Nat → Nat := dk n to b (w1C 100 c) n
def nxR (n : Nat) (b : Nat → Nat → Bool) (c : Nat → Nat → Nat) (D : Nat → Nat) (x : Nat) : Nat := lsN (fun o => decide (rwv b (w1C 100 c) D x o = D x)) n
def sqR (n : Nat) (b : Nat → Nat → Bool) (c : Nat → Nat → Nat) (D : Nat → Nat) (fr : Nat) : Nat → Nat
  | 0 => fr
  | k + 1 => nxR n b c D (sqR n b c D fr k)
section CI
variable {n to : Nat} {b : Nat → Nat → Bool} {c : Nat → Nat → Nat} {D : Nat → Nat}
theorem w1C_1 {K : Nat} (p o : Nat) : 1 ≤ w1C K c p o := by
  unfold w1C
  omega
theorem dR_fx : fxD n to b (w1C 100 c) (dR n to b c) := fxD_dk w1C_1
theorem nx_sp (hn : n ≤ 8) (hD : fxD n to b (w1C 100 c) D) {x : Nat} (hx : x < n) (hxt : x ≠ to) (hf : D x < 100000000) : nxR n b c D x < n ∧ D (nxR n b c D x) < 100000000 ∧ D x % 100 = D (nxR n b c D x) % 100 + 1 ∧ rwv b (w1C 100 c) D x (nxR n b c D x) = D x ∧ ∀ m, m < nxR n b c D x → rwv b (w1C 100 c) D x m ≠ D x := by
  obtain ⟨l1, l2, l3⟩ := lsN_sp (P := fun o => decide (rwv b (w1C 100 c) D x o = D x)) n
  have en : lsN (fun o => decide (rwv b (w1C 100 c) D x o = D x)) n = nxR n b c D x := rfl
  rw [en] at l1 l2 l3
  obtain ⟨o, ho, hb, hfo, e⟩ := hD.2.2.2 x hx hxt hf
  have ro : rwv b (w1C 100 c) D x o = D x := by
    unfold rwv
    rw [if_neg (fun z => by
      rcases z with z | z
      · omega
      · rw [hb] at z; cases z)]
    exact e.symm
  have r1 : rwv b (w1C 100 c) D x (nxR n b c D x) = D x := of_decide_eq_true (l3 o (by omega) (by rw [decide_eq_true_eq]; exact ro))
  have r2 : ∀ m, m < nxR n b c D x → rwv b (w1C 100 c) D x m ≠ D x := fun m hm z => by
    have := l2 m hm
    exact absurd z (of_decide_eq_false this)
  have hlt : nxR n b c D x < n := by
    by_cases z : nxR n b c D x ≤ o
    · omega
    · exact absurd ro (r2 o (by omega))
  have e2 : D (nxR n b c D x) < 100000000 ∧ D x = 100 * c x (nxR n b c D x) + 1 + D (nxR n b c D x) := by
    have r := r1
    unfold rwv w1C at r
    have := hD.2.1 (nxR n b c D x)
    split at r
    · omega
    · rename_i z
      exact ⟨by
        have : D (nxR n b c D x) ≠ 100000000 := fun y => z (Or.inl y)
        omega, r.symm⟩
  have h7 := fxD_7 (c := c) hn hD hlt e2.1
  exact ⟨hlt, e2.1, by omega, r1, r2⟩
theorem sq_0 (hD : fxD n to b (w1C 100 c) D) (hn : n ≤ 8) {x : Nat} (hx : x < n) (hf : D x < 100000000) : D x % 100 = 0 ↔ x = to := by
  constructor
  · intro z
    by_cases e : x = to
    · exact e
    · have := (nx_sp hn hD hx e hf).2.2.1
      omega
  · intro z
    rw [z, hD.1]
theorem sq_sp (hn : n ≤ 8) (hD : fxD n to b (w1C 100 c) D) {fr : Nat} (hx : fr < n) (hf : D fr < 100000000) : ∀ k, k ≤ D fr % 100 → sqR n b c D fr k < n ∧ D (sqR n b c D fr k) < 100000000 ∧ D (sqR n b c D fr k) % 100 + k = D fr % 100
  | 0, _ => ⟨hx, hf, rfl⟩
  | k + 1, hk => by
    obtain ⟨i1, i2, i3⟩ := sq_sp hn hD hx hf k (by omega)
    have nt : sqR n b c D fr k ≠ to := fun z => by
      have := (sq_0 hD hn i1 i2).mpr z
      omega
    obtain ⟨j1, j2, j3, _, _⟩ := nx_sp hn hD i1 nt i2
    rw [sqR]
    exact ⟨j1, j2, by omega⟩
theorem sq_to (hn : n ≤ 8) (hD : fxD n to b (w1C 100 c) D) {fr : Nat} (hx : fr < n) (hf : D fr < 100000000) {k : Nat} (hk : k ≤ D fr % 100) : sqR n b c D fr k = to ↔ k = D fr % 100 := by
  obtain ⟨i1, i2, i3⟩ := sq_sp hn hD hx hf k hk
  rw [← sq_0 hD hn i1 i2]
  omega
theorem rwv_16 (hn : n ≤ 8) (hD : fxD n to b (w1C 100 c) D) {x o : Nat} (hx : x < n) (hf : D x < 100000000) (ho : o < n) : rwv b (w1C 16 c) (d16 D) x o = d16 D x ↔ rwv b (w1C 100 c) D x o = D x := by
  have nx := fxD_7 (c := c) hn hD hx hf
  have ex : d16 D x = 16 * (D x / 100) + D x % 100 := by
    unfold d16
    rw [if_neg (by omega)]
  by_cases fo : D o < 100000000
  · have no := fxD_7 (c := c) hn hD ho fo
    have eo : d16 D o = 16 * (D o / 100) + D o % 100 := by
      unfold d16
      rw [if_neg (by omega)]
    unfold rwv w1C
    cases hb : b x o with
    | false =>
      rw [if_pos (Or.inr rfl), if_pos (Or.inr rfl)]
      omega
    | true =>
      rw [if_neg (fun z => by
        rcases z with z | z
        · omega
        · cases z), if_neg (fun z => by
        rcases z with z | z
        · omega
        · cases z)]
      omega
  · have := hD.2.1 o
    have eo : d16 D o = 100000000 := by
      unfold d16
      rw [if_pos (by omega)]
    unfold rwv
    rw [if_pos (Or.inl eo), if_pos (Or.inl (by omega))]
    omega
/-- what the class reckons with 16 -/
theorem dk_16 (hc : ∀ p o, c p o ≤ 999) (hn : n ≤ 8) (hto : to < n) {p : Nat} (hp : p < n) : dk n to b (w1C 16 c) n p = d16 (dR n to b c) p := by
  have h1 := fxD_16 hc hn hto (dR_fx (n := n) (to := to) (b := b) (c := c))
  have h2 : fxD n to b (w1C 16 c) (dk n to b (w1C 16 c) n) := fxD_dk w1C_1
  have := fxD_eq (w1C_1 (c := c) (K := 16)) h2 h1 hp
  rw [if_pos hp] at this
  exact this
theorem dk_cg {b' : Nat → Nat → Bool} {w w' : Nat → Nat → Nat} (hb : ∀ p o, p < n → o < n → b' p o = b p o) (hw : ∀ p o, p < n → o < n → w' p o = w p o) : ∀ k p, p < n → dk n to b' w' k p = dk n to b w k p
  | 0, p, hp => by rw [dk, dk]
  | k + 1, p, hp => by
    have ih := dk_cg hb hw k
    have rl : ∀ j, j ≤ n → rlx b' w' (dk n to b' w' k) p j = rlx b w (dk n to b w k) p j := by
      intro j
      induction j with
      | zero => intro _; exact ih p hp
      | succ j ihj =>
        intro hj
        rw [rlx, rlx, ihj (by omega)]
        unfold bfc
        rw [ih j (by omega), hb p j hp (by omega), hw p j hp (by omega)]
    rw [dk, dk, rl n (Nat.le_refl _)]
end CI
