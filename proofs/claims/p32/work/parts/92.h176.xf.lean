/-! AN EXCHANGE, THE REFERENCE'S SEARCH, ON PAPER -/
def tr0 (k : Nat) (f : Nat → Nat) : Nat → Nat := fun i => if i < k then f i else 0
def upN (f : Nat → Nat) (k t : Nat) : Nat → Nat := fun i => if i = k then t else f i
def fldX {σ : Type} (g : Nat → σ → σ) : Nat → Nat → σ → σ
  | _, 0, st => st
  | t, c + 1, st => fldX g (t + 1) c (g t st)
abbrev xS : Type := Int × (Nat → Nat)
def lfX (lv : (Nat → Nat) → Int) (f : Nat → Nat) (st : xS) : xS := if st.1 < lv f then (lv f, f) else st
/-- all ways for those from n - d on -/
def dfX (n : Nat) (al : (Nat → Nat) → Nat → Nat → Bool) (lv : (Nat → Nat) → Int) : Nat → (Nat → Nat) → xS → xS
  | 0, f, st => lfX lv f st
  | d + 1, f, st => fldX (fun t st => if al f (n - (d + 1)) t = true then dfX n al lv d (upN f (n - (d + 1)) t) st else st) 0 (n + 1) st
section XF
variable {n : Nat} {al : (Nat → Nat) → Nat → Nat → Bool} {lv : (Nat → Nat) → Int}
/-- what is left at place k, from t on -/
def cuX (n : Nat) (al : (Nat → Nat) → Nat → Nat → Bool) (lv : (Nat → Nat) → Int) (k : Nat) (f : Nat → Nat) (t : Nat) (st : xS) : xS := fldX (fun t st => if al (tr0 k f) k t = true then dfX n al lv (n - k - 1) (upN (tr0 k f) k t) st else st) t (n + 1 - t) st
/-- what is left below place k -/
def baX (n : Nat) (al : (Nat → Nat) → Nat → Nat → Bool) (lv : (Nat → Nat) → Int) : Nat → (Nat → Nat) → xS → xS
  | 0, _, st => st
  | k + 1, f, st => baX n al lv k f (cuX n al lv k f (f k + 1) st)
def fiX (n : Nat) (al : (Nat → Nat) → Nat → Nat → Bool) (lv : (Nat → Nat) → Int) : xS := dfX n al lv n (fun _ => 0) (-1, fun _ => 0)
theorem tr0_cg {k : Nat} {f g : Nat → Nat} (h : ∀ i, i < k → g i = f i) : tr0 k g = tr0 k f := by
  funext i
  unfold tr0
  by_cases c : i < k
  · rw [if_pos c, if_pos c, h i c]
  · rw [if_neg c, if_neg c]
theorem tr0_up {k t : Nat} {f : Nat → Nat} : tr0 (k + 1) (upN f k t) = upN (tr0 k f) k t := by
  funext i
  unfold tr0 upN
  dsimp only
  by_cases c : i = k
  · rw [if_pos (by omega), if_pos c, if_pos c]
  · rw [if_neg c, if_neg c]
    by_cases c2 : i < k
    · rw [if_pos (by omega), if_pos c2]
    · rw [if_neg (by omega), if_neg c2]
theorem cuX_cg {k t : Nat} {f g : Nat → Nat} {st : xS} (h : ∀ i, i < k → g i = f i) : cuX n al lv k g t st = cuX n al lv k f t st := by
  unfold cuX
  rw [tr0_cg h]
theorem baX_cg : ∀ k {f g : Nat → Nat} {st : xS}, (∀ i, i < k → g i = f i) → baX n al lv k g st = baX n al lv k f st
  | 0, _, _, _, _ => rfl
  | k + 1, f, g, st, h => by
    rw [baX, baX, h k (by omega), cuX_cg (fun i hi => h i (by omega)), baX_cg k (fun i hi => h i (by omega))]
theorem cuX_end {k : Nat} {f : Nat → Nat} {st : xS} : cuX n al lv k f (n + 1) st = st := by
  unfold cuX
  rw [Nat.sub_self, fldX]
theorem cuX_no {k t : Nat} {f : Nat → Nat} {st : xS} (ht : t ≤ n) (h : ¬ al (tr0 k f) k t = true) : cuX n al lv k f t st = cuX n al lv k f (t + 1) st := by
  unfold cuX
  rw [show n + 1 - t = (n + 1 - (t + 1)) + 1 by omega, fldX, if_neg h]
theorem cuX_yes {k t : Nat} {f : Nat → Nat} {st : xS} (ht : t ≤ n) (h : al (tr0 k f) k t = true) : cuX n al lv k f t st = cuX n al lv k f (t + 1) (dfX n al lv (n - k - 1) (upN (tr0 k f) k t) st) := by
  unfold cuX
  rw [show n + 1 - t = (n + 1 - (t + 1)) + 1 by omega, fldX, if_pos h]
/-- a step deeper -/
theorem cuX_in {k : Nat} {f : Nat → Nat} {st : xS} (hk : k < n) : dfX n al lv (n - k) (tr0 k f) st = cuX n al lv k f 0 st := by
  unfold cuX
  rw [show n - k = (n - k - 1) + 1 by omega, dfX, show n - (n - k - 1 + 1) = k by omega]
  rfl
theorem fiX_0 (h : 0 < n) {f : Nat → Nat} : fiX n al lv = cuX n al lv 0 f 0 (-1, fun _ => 0) := by
  have := cuX_in (n := n) (al := al) (lv := lv) (k := 0) (f := f) (st := (-1, fun _ => 0)) h
  rw [← this]
  unfold fiX
  rw [show tr0 0 f = fun _ => 0 from funext (fun i => if_neg (Nat.not_lt_zero i))]
  rfl
/-- where the search is: at place k, t is next; or at the end of a row -/
def atX (n : Nat) (al : (Nat → Nat) → Nat → Nat → Bool) (lv : (Nat → Nat) → Int) (k : Nat) (f : Nat → Nat) (t : Nat) (st : xS) : Prop := (k < n ∧ t ≤ n + 1 ∧ baX n al lv k f (cuX n al lv k f t st) = fiX n al lv) ∨ (k = n ∧ t = 0 ∧ baX n al lv n f (lfX lv (tr0 n f) st) = fiX n al lv)
theorem atX_no {k t : Nat} {f : Nat → Nat} {st : xS} (hk : k < n) (h : atX n al lv k f t st) (ht : t ≤ n) (ha : ¬ al (tr0 k f) k t = true) : atX n al lv k f (t + 1) st := by
  rcases h with ⟨h1, h2, h3⟩ | ⟨h1, _, _⟩
  · exact Or.inl ⟨h1, by omega, by rw [← cuX_no ht ha]; exact h3⟩
  · omega
theorem atX_in {k t : Nat} {f : Nat → Nat} {st : xS} (hk : k < n) (h : atX n al lv k f t st) (ht : t ≤ n) (ha : al (tr0 k f) k t = true) : atX n al lv (k + 1) (upN f k t) 0 st := by
  rcases h with ⟨h1, h2, h3⟩ | ⟨h1, _, _⟩
  · rw [cuX_yes ht ha] at h3
    have ub : ∀ i, i < k → upN f k t i = f i := fun i hi => if_neg (by omega)
    have e : ∀ s, baX n al lv (k + 1) (upN f k t) s = baX n al lv k f (cuX n al lv k f (t + 1) s) := by
      intro s
      rw [baX, show upN f k t k = t from if_pos rfl, cuX_cg ub, baX_cg k ub]
    by_cases c : k + 1 < n
    · refine Or.inl ⟨c, by omega, ?_⟩
      rw [e, ← cuX_in c, tr0_up, show n - (k + 1) = n - k - 1 by omega]
      exact h3
    · have en : k + 1 = n := by omega
      refine Or.inr ⟨en, rfl, ?_⟩
      have h3 : baX n al lv k f (cuX n al lv k f (t + 1) (dfX n al lv (n - k - 1) (upN (tr0 k f) k t) st)) = fiX n al lv := h3
      rw [show n - k - 1 = 0 by omega, dfX, ← tr0_up, ← e] at h3
      rw [← h3, en]
  · omega
theorem atX_out {k : Nat} {f : Nat → Nat} {st : xS} (h : atX n al lv (k + 1) f (n + 1) st) (hk : k + 1 < n) : atX n al lv k f (f k + 1) st ∨ n < f k := by
  rcases h with ⟨h1, h2, h3⟩ | ⟨h1, _, _⟩
  · rw [cuX_end, baX] at h3
    by_cases c : f k ≤ n
    · exact Or.inl (Or.inl ⟨by omega, by omega, h3⟩)
    · exact Or.inr (by omega)
  · omega
theorem atX_lf {k : Nat} {f : Nat → Nat} {st : xS} (h : atX n al lv (k + 1) f 0 st) (hk : k + 1 = n) (hf : f k ≤ n) : atX n al lv k f (f k + 1) (lfX lv (tr0 n f) st) := by
  rcases h with ⟨h1, h2, h3⟩ | ⟨h1, _, h3⟩
  · omega
  · rw [← hk, baX] at h3
    subst hk
    exact Or.inl ⟨by omega, by omega, h3⟩
theorem atX_fin {f : Nat → Nat} {st : xS} (hn : 0 < n) (h : atX n al lv 0 f (n + 1) st) : st = fiX n al lv := by
  rcases h with ⟨h1, h2, h3⟩ | ⟨h1, _, _⟩
  · rw [cuX_end, baX] at h3
    exact h3
  · omega
theorem atX_l0 {f : Nat → Nat} {st : xS} (hn : n = 0) (h : atX n al lv 0 f 0 st) : lfX lv (tr0 n f) st = fiX n al lv := by
  rcases h with ⟨h1, h2, h3⟩ | ⟨h1, _, h3⟩
  · omega
  · subst hn
    exact h3
theorem atX_st (f : Nat → Nat) : atX n al lv 0 f 0 (-1, fun _ => 0) := by
  by_cases c : n = 0
  · subst c
    refine Or.inr ⟨rfl, rfl, ?_⟩
    unfold fiX
    rw [dfX, baX, show tr0 0 f = fun _ => 0 from funext (fun i => if_neg (Nat.not_lt_zero i))]
  · exact Or.inl ⟨by omega, by omega, (fiX_0 (by omega)).symm⟩
end XF
