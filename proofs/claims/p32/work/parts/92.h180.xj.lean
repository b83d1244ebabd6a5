/-! AN EXCHANGE: the first of the best -/
def eqU (n : Nat) (x y : xS) : Prop := x.1 = y.1 ∧ ∀ p, p < n → x.2 p = y.2 p
def mgX (st : xS) (v : Int) (w : Nat → Nat) : xS := if st.1 < v then (v, w) else st
/-- what all those from n - d on bring -/
def cplX (n : Nat) (ed : Nat → Nat → Bool) : Nat → (Nat → Nat) → Nat → Nat
  | 0, f => f
  | d + 1, f => cplX n ed d (upN f (n - (d + 1)) (if pkX n ed (n - (d + 1)) (mkQ n f (n - (d + 1))) = n - (d + 1) then n else pkX n ed (n - (d + 1)) (mkQ n f (n - (d + 1)))))
def VXs (n : Nat) (ed : Nat → Nat → Bool) (f : Nat → Nat) (k : Nat) : Int := if cnA (mkQ n f k) = k ∧ 0 ≤ MX n ed (mkQ n f k) then cntP n f k + MX n ed (mkQ n f k) else -1
section XJ
variable {n : Nat} {ed : Nat → Nat → Bool} {F : Nat → Int32} {f g : Nat → Nat}
theorem mgX_lo {st : xS} {v : Int} {w : Nat → Nat} (h : -1 ≤ st.1) : -1 ≤ (mgX st v w).1 := by
  unfold mgX
  split
  · dsimp only; omega
  · exact h
/-- a fold that keeps the first of the best -/
theorem fld_first {g : Nat → xS → xS} {v : Nat → Int} {w : Nat → Nat → Nat} : ∀ c t st, -1 ≤ st.1 → (∀ u st, t ≤ u → u < t + c → -1 ≤ st.1 → eqU n (g u st) (mgX st (v u) (w u))) → (eqU n (fldX g t c st) st ∧ ∀ u, t ≤ u → u < t + c → v u ≤ st.1) ∨ ∃ u, t ≤ u ∧ u < t + c ∧ st.1 < v u ∧ eqU n (fldX g t c st) (v u, w u) ∧ (∀ u', t ≤ u' → u' < t + c → v u' ≤ v u) ∧ ∀ u', t ≤ u' → u' < u → v u' < v u
  | 0, t, st, _, _ => Or.inl ⟨⟨rfl, fun _ _ => rfl⟩, fun u h1 h2 => by omega⟩
  | c + 1, t, st, hs, hg => by
    have h0 := hg t st (Nat.le_refl _) (by omega) hs
    have l0 : -1 ≤ (g t st).1 := by
      rw [h0.1]
      exact mgX_lo hs
    rw [fldX]
    have ih := fld_first (g := g) (v := v) (w := w) c (t + 1) (g t st) l0 (fun u s h1 h2 h3 => hg u s (by omega) (by omega) h3)
    by_cases cc : st.1 < v t
    · have e : mgX st (v t) (w t) = (v t, w t) := if_pos cc
      rw [e] at h0
      have e1 : (g t st).1 = v t := h0.1
      rcases ih with ⟨⟨i1, i2⟩, i3⟩ | ⟨u, u1, u2, u3, ⟨u4, u5⟩, u6, u7⟩
      · refine Or.inr ⟨t, Nat.le_refl _, by omega, cc, ⟨i1.trans h0.1, fun p hp => (i2 p hp).trans (h0.2 p hp)⟩, fun u' h1 h2 => ?_, fun u' h1 h2 => by omega⟩
        by_cases eu : u' = t
        · rw [eu]; exact Int.le_refl _
        · have := i3 u' (by omega) (by omega)
          omega
      · refine Or.inr ⟨u, by omega, by omega, by omega, ⟨u4, u5⟩, fun u' h1 h2 => ?_, fun u' h1 h2 => ?_⟩
        · by_cases eu : u' = t
          · rw [eu]; omega
          · exact u6 u' (by omega) (by omega)
        · by_cases eu : u' = t
          · rw [eu]; omega
          · exact u7 u' (by omega) h2
    · have e : mgX st (v t) (w t) = st := if_neg cc
      rw [e] at h0
      have e1 : (g t st).1 = st.1 := h0.1
      rcases ih with ⟨⟨i1, i2⟩, i3⟩ | ⟨u, u1, u2, u3, ⟨u4, u5⟩, u6, u7⟩
      · refine Or.inl ⟨⟨i1.trans h0.1, fun p hp => (i2 p hp).trans (h0.2 p hp)⟩, fun u h1 h2 => ?_⟩
        by_cases eu : u = t
        · rw [eu]; omega
        · have := i3 u (by omega) (by omega)
          omega
      · refine Or.inr ⟨u, by omega, by omega, by omega, ⟨u4, u5⟩, fun u' h1 h2 => ?_, fun u' h1 h2 => ?_⟩
        · by_cases eu : u' = t
          · rw [eu]; omega
          · exact u6 u' (by omega) (by omega)
        · by_cases eu : u' = t
          · rw [eu]; omega
          · exact u7 u' (by omega) h2
/-- who wants nothing and gives can't be asked for -/
theorem MX_nw (hn : n ≤ 8) {wt : Nat → Prop} (hw : ∀ k t, ed k t = true → wt k) : ∀ d m t, n - cnA m = d → m < 2 ^ n → 0 ≤ MX n ed m → t < n → cnA m ≤ t → m.testBit t = true → wt t
  | d, m, t, hd, hm, h0, ht, hc, hb => by
    have p2 := pw_256 n (by omega)
    have nf : m ≠ 2 ^ n - 1 := fun z => by
      have := (mk_full n (by omega)).1
      rw [← z] at this
      omega
    have ms := MX_s (ed := ed) hn hm nf
    rcases mxI_at (g := opX ed (MX n ed) (cnA m) m) n with z | ⟨j, j1, j2⟩
    · rw [← ms] at z
      omega
    · rw [← ms] at j2
      have nb : m.testBit j = false := bit_no (fun z => by
        unfold opX at j2
        rw [if_pos z] at j2
        omega)
      have b := MX_b (n := n) (ed := ed) (m ||| 2 ^ j)
      have cn := mk_cn m (by omega) j (by omega) nb
      have r0 : 0 ≤ MX n ed (m ||| 2 ^ j) := by
        unfold opX at j2
        rw [nb, if_neg (by decide)] at j2
        split at j2
        · omega
        · split at j2 <;> omega
      by_cases c : cnA m = t
      · have jt : t ≠ j := fun e => by
          rw [e, nb] at hb
          cases hb
        unfold opX at j2
        rw [nb, if_neg (by decide), if_neg (fun z => by omega)] at j2
        by_cases e : ed (cnA m) j = true
        · rw [← c]
          exact hw _ _ e
        · rw [if_neg e] at j2
          omega
      · exact MX_nw hn hw (n - cnA (m ||| 2 ^ j)) (m ||| 2 ^ j) t rfl (mk_lt hm j1) r0 ht (by omega) (bit_or.mpr (Or.inl hb))
termination_by d m t hd => d
decreasing_by omega
theorem pk_fst {k m t : Nat} (ht : t < n) (hk : t ≠ k) (h : opX ed (MX n ed) k m t = MX n ed m) : pkX n ed k m ≠ k ∧ pkX n ed k m ≤ t := by
  obtain ⟨l1, l2, l3⟩ := lsN_sp (P := fun t => decide (t ≠ k) && decide (opX ed (MX n ed) k m t = MX n ed m)) n
  have pt : (decide (t ≠ k) && decide (opX ed (MX n ed) k m t = MX n ed m)) = true := by
    rw [Bool.and_eq_true, decide_eq_true_eq, decide_eq_true_eq]
    exact ⟨hk, h⟩
  have le : lsN (fun t => decide (t ≠ k) && decide (opX ed (MX n ed) k m t = MX n ed m)) n ≤ t := by
    by_cases z : t < lsN (fun t => decide (t ≠ k) && decide (opX ed (MX n ed) k m t = MX n ed m)) n
    · have := l2 t z
      rw [pt] at this
      cases this
    · omega
  have q := l3 t (by omega) pt
  rw [Bool.and_eq_true, decide_eq_true_eq] at q
  unfold pkX
  dsimp only
  rw [if_pos (by omega)]
  exact ⟨q.1, le⟩
theorem mkQ_cg : ∀ k, (∀ i, i < k → g i = f i) → mkQ n g k = mkQ n f k ∧ cntP n g k = cntP n f k
  | 0, _ => ⟨rfl, rfl⟩
  | k + 1, h => by
    obtain ⟨i1, i2⟩ := mkQ_cg k (fun i hi => h i (by omega))
    rw [mkQ, mkQ, cntP, cntP, i1, i2]
    unfold piX
    rw [h k (by omega)]
    exact ⟨rfl, rfl⟩
theorem mkQ_up {k t : Nat} : mkQ n (upN f k t) (k + 1) = mkQ n f k ||| 2 ^ (if t = n then k else t) ∧ cntP n (upN f k t) (k + 1) = cntP n f k + if t = n then 0 else 1 := by
  obtain ⟨i1, i2⟩ := mkQ_cg (n := n) (f := f) (g := upN f k t) k (fun i hi => if_neg (by omega))
  have e : upN f k t k = t := if_pos rfl
  rw [mkQ, cntP, i1, i2]
  unfold piX
  rw [e]
  exact ⟨rfl, rfl⟩
theorem al_cg {k t : Nat} (h : ∀ i, i < k → g i = f i) : alG F n f k t = true → alG F n g k t = true := by
  intro z
  obtain ⟨a, b, c, d, e⟩ := al_no z
  refine al_yes a b c (fun i hi => by rw [h i hi]; exact d i hi) (fun y => e ⟨y.1, ?_⟩)
  rw [← h t y.1]
  exact y.2
theorem RXs_up {k t : Nat} (h : RXs F n f k) (ht : t ≤ n) (ha : alX F n f k t = true) : RXs F n (upN f k t) (k + 1) := by
  intro i hi
  by_cases c : i = k
  · have e : upN f k t i = t := if_pos c
    rw [e, c]
    refine ⟨ht, fun z => al_cg (fun j hj => if_neg (by omega)) ?_⟩
    rcases alX_iff.mp ha with y | y
    · exact absurd y z
    · exact y
  · have e : upN f k t i = f i := if_neg c
    rw [e]
    obtain ⟨h1, h2⟩ := h i (by omega)
    exact ⟨h1, fun z => al_cg (fun j hj => if_neg (by omega)) (h2 z)⟩
end XJ
