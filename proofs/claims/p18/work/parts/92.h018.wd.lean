/-! WORDS AS NUMBERS, ON PAPER: letters by 32 -/
def wF (g : Nat → Nat) : Nat → Nat
  | 0 => 0
  | n + 1 => wF g n * 32 + (g n - 96)
def wL (s : List Nat) : Nat := wF (fun i => s.getD i 0) s.length
theorem wF_inj {g h : Nat → Nat} : ∀ n m : Nat, (∀ i, i < n → 97 ≤ g i ∧ g i ≤ 122) → (∀ i, i < m → 97 ≤ h i ∧ h i ≤ 122) → wF g n = wF h m → n = m ∧ ∀ i, i < n → g i = h i
  | 0, 0, _, _, _ => ⟨rfl, fun i hi => by omega⟩
  | 0, m + 1, _, h2, e => by
    have := h2 m (by omega)
    rw [wF, wF] at e
    omega
  | n + 1, 0, h1, _, e => by
    have := h1 n (by omega)
    rw [wF, wF] at e
    omega
  | n + 1, m + 1, h1, h2, e => by
    have a1 := h1 n (by omega)
    have a2 := h2 m (by omega)
    rw [wF, wF] at e
    obtain ⟨r1, r2⟩ := wF_inj n m (fun i hi => h1 i (by omega)) (fun i hi => h2 i (by omega)) (by omega)
    refine ⟨by omega, fun i hi => ?_⟩
    by_cases c : i = n
    · subst c
      subst r1
      omega
    · exact r2 i (by omega)
theorem wF_congr {g h : Nat → Nat} : ∀ n : Nat, (∀ i, i < n → g i = h i) → wF g n = wF h n
  | 0, _ => rfl
  | n + 1, e => by rw [wF, wF, wF_congr n (fun i hi => e i (by omega)), e n (by omega)]
theorem wF_lt {g : Nat → Nat} : ∀ n : Nat, (∀ i, i < n → g i ≤ 122) → wF g n < 32 ^ n
  | 0, _ => by show 0 < 1; omega
  | n + 1, h => by
    have := wF_lt n (fun i hi => h i (by omega))
    have := h n (by omega)
    rw [wF, Nat.pow_succ]
    omega
theorem wF_10 {g : Nat → Nat} {n : Nat} (h : ∀ i, i < n → g i ≤ 122) (hn : n ≤ 10) : wF g n < 1125899906842624 :=
  Nat.lt_of_lt_of_le (wF_lt n h) (Nat.le_trans (Nat.pow_le_pow_right (by decide) hn) (by decide))
/-- a word's number as the reference has it: none beyond ten letters -/
def wV (G : pG) (f n : Nat) : Int := if n ≤ 10 then (wF (fun i => G.1 (f + i)) n : Nat) else -1
/-- what the reference has of a token -/
def wth (G : pG) (p : Nat) : Int := if tK G p = 1 then wV G (tS G p) (tE G p - tS G p) else if tK G p = 2 then (rV G p : Nat) else if tK G p = 3 then (G.1 (tS G p) : Nat) else 0
def ltr (s : List Nat) : Bool := decide (s.length ≤ 10) && s.all (fun c => decide (97 ≤ c ∧ c ≤ 122))
section WD
variable {G : pG} {p : Nat}
theorem tK_1 (h : tK G p = 1) : isLn (G.1 (tS G p)) = true := by
  unfold tK at h
  split at h
  · omega
  · split at h
    · rename_i z; exact z
    · split at h <;> omega
theorem tK_2 (h : tK G p = 2) : isDn (G.1 (tS G p)) = true := by
  unfold tK at h
  split at h
  · omega
  · split at h
    · omega
    · split at h
      · rename_i z; exact z
      · omega
theorem tE_1 (h : tK G p = 1) : tE G p = ru isLn G (tS G p) := by
  unfold tE
  rw [if_neg (by omega), if_pos h]
theorem tE_2 (h : tK G p = 2) : tE G p = ru isDn G (tS G p) := by
  unfold tE
  rw [if_neg (by omega), if_neg (by omega), if_pos h]
theorem tE_3 (h : tK G p = 3) : tE G p = tS G p + 1 := by
  unfold tE
  rw [if_neg (by omega), if_neg (by omega), if_neg (by omega)]
theorem tE_0 (h : tK G p = 0) : tE G p = tS G p := by
  unfold tE
  rw [if_pos h]
theorem tk_ltr (h : tK G p = 1) {j : Nat} (h1 : tS G p ≤ j) (h2 : j < tE G p) : 97 ≤ G.1 j ∧ G.1 j ≤ 122 := by
  rw [tE_1 h] at h2
  have := ru_in h1 h2
  unfold isLn at this
  exact of_decide_eq_true this
theorem isWd_w {s : List Nat} (hs : ltr s = true) (h : tK G p = 1) : wth G p = (wL s : Nat) ↔ isWd G p s = true := by
  unfold ltr at hs
  rw [Bool.and_eq_true, decide_eq_true_eq, List.all_eq_true] at hs
  obtain ⟨s1, s2⟩ := hs
  have s3 : ∀ i, i < s.length → 97 ≤ s.getD i 0 ∧ s.getD i 0 ≤ 122 := fun i hi => by
    have := s2 s[i] (List.getElem_mem hi)
    rw [decide_eq_true_eq] at this
    rw [List.getD_eq_getElem?_getD, List.getElem?_eq_getElem hi]
    exact this
  have t1 := tE_gt (G := G) (p := p) (by omega)
  have g1 : ∀ i, i < tE G p - tS G p → 97 ≤ G.1 (tS G p + i) ∧ G.1 (tS G p + i) ≤ 122 := fun i hi => tk_ltr h (by omega) (by omega)
  unfold wth wV
  rw [if_pos h]
  constructor
  · intro e
    split at e
    · rename_i c
      obtain ⟨a1, a2⟩ := wF_inj _ _ g1 s3 (Int.ofNat.inj e)
      unfold isWd
      exact decide_eq_true ⟨h, a1, fun i hi => a2 i (by omega)⟩
    · omega
  · intro e
    unfold isWd at e
    obtain ⟨-, a1, a2⟩ := of_decide_eq_true e
    rw [if_pos (by omega), a1]
    unfold wL
    rw [wF_congr (h := fun i => s.getD i 0) s.length (fun i hi => a2 i hi)]
theorem isSg_w {c : Nat} (h : tK G p = 3) : wth G p = (c : Nat) ↔ isSg G p c = true := by
  unfold wth
  rw [if_neg (by omega), if_neg (by omega), if_pos h]
  unfold isSg
  rw [decide_eq_true_eq]
  constructor
  · intro e; exact ⟨h, by omega⟩
  · intro e; rw [e.2]
theorem rNum_le : ∀ (n j v : Nat), (∀ i, i < n → isDn (G.1 (j + i)) = true) → v ≤ 10000009 → rNum G n j v ≤ 10000009
  | 0, _, _, _, h => h
  | n + 1, j, v, hd, h => by
    rw [rNum]
    have := hd 0 (by omega)
    unfold isDn at this
    have := of_decide_eq_true this
    refine rNum_le n (j + 1) _ (fun i hi => by rw [show j + 1 + i = j + (i + 1) by omega]; exact hd (i + 1) (by omega)) ?_
    split
    · exact h
    · have e : G.1 (j + 0) = G.1 j := rfl
      omega
theorem wth_le (hb : ∀ i, G.1 i < 256) : -1 ≤ wth G p ∧ wth G p < 1125899906842624 := by
  unfold wth wV
  split
  · rename_i h
    split
    · have := wF_10 (g := fun i => G.1 (tS G p + i)) (n := tE G p - tS G p) (fun i hi => (tk_ltr h (by omega) (by omega)).2) (by omega)
      omega
    · omega
  · split
    · rename_i h
      have := rNum_le (G := G) (tE G p - tS G p) (tS G p) 0 (fun i hi => by rw [tE_2 h] at hi; exact ru_in (p := tS G p) (by omega) (by omega)) (by omega)
      unfold rV
      omega
    · split
      · have := hb (tS G p)
        omega
      · omega
end WD
