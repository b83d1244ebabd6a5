/-! A ROUND OF VISITS, THE REFERENCE'S SEARCH, ON PAPER -/
/-- one house at place k -/
def stV (F : Nat → Int32) (p n k : Nat) (f : Nat → Nat) (v h : Nat) (st : vtS) : vtS := if okVi F p n f k v h = true then viS F p n (5 - k) (k + 1) (upN f k h) (nxV F p f k v h) (bvU (k + 1) (nxV F p f k v h) (upN f k h) st) else st
/-- what is left at place k, from t on -/
def cuV (F : Nat → Int32) (p n k : Nat) (f : Nat → Nat) (v t : Nat) (st : vtS) : vtS := fldX (stV F p n k (tr0 k f) v) t (nHR F - t) st
/-- what is left below -/
def baV (F : Nat → Int32) (p n : Nat) : Nat → (Nat → Nat) → (Nat → Nat) → vtS → vtS
  | 0, _, _, st => st
  | k + 1, f, g, st => baV F p n k f g (cuV F p n k f (g k) (f k + 1) st)
def atV (F : Nat → Int32) (p n k : Nat) (f g : Nat → Nat) (t : Nat) (st : vtS) : Prop := t ≤ nHR F ∧ baV F p n k f g (cuV F p n k f (g k) t st) = vfV F p n
section VD
variable {F : Nat → Int32} {p n k t : Nat} {f g f' g' : Nat → Nat} {st : vtS}
theorem cuV_cg {v : Nat} (h : ∀ i, i < k → f' i = f i) : cuV F p n k f' v t st = cuV F p n k f v t st := by
  unfold cuV
  rw [tr0_cg h]
theorem baV_cg : ∀ k {st : vtS}, (∀ i, i < k → f' i = f i) → (∀ i, i < k → g' i = g i) → baV F p n k f' g' st = baV F p n k f g st
  | 0, _, _, _ => rfl
  | k + 1, st, h, hg => by
    rw [baV, baV, h k (by omega), hg k (by omega), cuV_cg (fun i hi => h i (by omega)), baV_cg k (fun i hi => h i (by omega)) (fun i hi => hg i (by omega))]
theorem cuV_end {v : Nat} : cuV F p n k f v (nHR F) st = st := by
  unfold cuV
  rw [Nat.sub_self, fldX]
theorem cuV_s {v : Nat} (ht : t < nHR F) : cuV F p n k f v t st = cuV F p n k f v (t + 1) (stV F p n k (tr0 k f) v t st) := by
  unfold cuV
  rw [show nHR F - t = (nHR F - (t + 1)) + 1 by omega, fldX]
theorem tr0_fr : frV F p (tr0 k f) k = frV F p f k := by
  unfold frV
  by_cases c : k = 0
  · rw [if_pos c, if_pos c]
  · rw [if_neg c, if_neg c]
    unfold tr0
    rw [if_pos (by omega)]
theorem tr0_nx {v h : Nat} : nxV F p (tr0 k f) k v h = nxV F p f k v h := by
  unfold nxV
  rw [tr0_fr]
theorem tr0_ok {v h : Nat} : okVi F p n (tr0 k f) k v h = true ↔ okVi F p n f k v h = true := by
  rw [okVi_iff, okVi_iff, tr0_nx]
  have e : (∀ i, i < k → tr0 k f i ≠ h) ↔ ∀ i, i < k → f i ≠ h := by
    constructor
    · intro z i hi
      have := z i hi
      unfold tr0 at this
      rw [if_pos hi] at this
      exact this
    · intro z i hi
      unfold tr0
      rw [if_pos hi]
      exact z i hi
  rw [e]
theorem atV_no (h : atV F p n k f g t st) (ht : t < nHR F) (hn : ¬ okVi F p n f k (g k) t = true) : atV F p n k f g (t + 1) st := by
  refine ⟨by omega, ?_⟩
  have := h.2
  rw [cuV_s ht] at this
  unfold stV at this
  rw [if_neg (fun z => hn (tr0_ok.mp z))] at this
  exact this
/-- at place 6 nothing is new -/
theorem six (hH : nHR F ≤ 6) (hf : ∀ i, i < 6 → f i < nHR F) (hne : ∀ i j, i < j → j < 6 → f i ≠ f j) {h v : Nat} (hh : h < nHR F) : ¬ okVi F p n f 6 v h = true := by
  intro z
  have nw := (okVi_iff.mp z).1
  have := pig (nHR F) 7 (fun i => ((if i < 6 then f i else h : Nat) : Int)) (fun i hi => by
    by_cases c : i < 6
    · rw [if_pos c]
      have := hf i c
      omega
    · rw [if_neg c]
      omega) (fun i j hij hj e => by
    rw [if_pos (by omega)] at e
    by_cases c : j < 6
    · rw [if_pos c] at e
      exact hne i j hij c (by omega)
    · rw [if_neg c] at e
      exact nw i (by omega) (by omega))
  omega
theorem fld_no {G : Nat → vtS → vtS} : ∀ c t st, (∀ u st, t ≤ u → u < t + c → G u st = st) → fldX G t c st = st
  | 0, _, _, _ => rfl
  | c + 1, t, st, h => by
    rw [fldX, h t st (Nat.le_refl _) (by omega), fld_no c (t + 1) st (fun u s h1 h2 => h u s (by omega) (by omega))]
theorem atV_in (hH : nHR F ≤ 6) (h : atV F p n k f g t st) (ht : t < nHR F) (hk : k < 6) (hf : ∀ i, i < k → f i < nHR F) (hne : ∀ i j, i < j → j < k → f i ≠ f j) (ho : okVi F p n f k (g k) t = true) : atV F p n (k + 1) (upN f k t) (upN g (k + 1) (nxV F p f k (g k) t)) 0 (bvU (k + 1) (nxV F p f k (g k) t) (upN (tr0 k f) k t) st) := by
  refine ⟨Nat.zero_le _, ?_⟩
  have hh := h.2
  rw [cuV_s ht] at hh
  unfold stV at hh
  rw [if_pos (tr0_ok.mpr ho), tr0_nx] at hh
  have ub : ∀ i, i < k → upN f k t i = f i := fun i hi => if_neg (by omega)
  have ug : ∀ i, i < k → upN g (k + 1) (nxV F p f k (g k) t) i = g i := fun i hi => if_neg (by omega)
  rw [baV, show upN f k t k = t from if_pos rfl, show upN g (k + 1) (nxV F p f k (g k) t) k = g k from if_neg (by omega), show upN g (k + 1) (nxV F p f k (g k) t) (k + 1) = nxV F p f k (g k) t from if_pos rfl, cuV_cg ub, baV_cg k ub ug]
  have e : cuV F p n (k + 1) (upN f k t) (nxV F p f k (g k) t) 0 (bvU (k + 1) (nxV F p f k (g k) t) (upN (tr0 k f) k t) st) = viS F p n (5 - k) (k + 1) (upN (tr0 k f) k t) (nxV F p f k (g k) t) (bvU (k + 1) (nxV F p f k (g k) t) (upN (tr0 k f) k t) st) := by
    unfold cuV
    rw [tr0_up, Nat.sub_zero]
    by_cases c : k = 5
    · subst c
      rw [show 5 - 5 = 0 by omega, viS]
      refine fld_no _ _ _ (fun u s _ hu => ?_)
      unfold stV
      refine if_neg (six hH (fun i hi => ?_) (fun i j hij hj => ?_) (by omega))
      · unfold upN tr0
        by_cases c2 : i = 5
        · rw [if_pos c2]; exact ht
        · rw [if_neg c2, if_pos (by omega)]; exact hf i (by omega)
      · have nw := (okVi_iff.mp ho).1
        unfold upN tr0
        rw [if_neg (by omega), if_pos (by omega)]
        by_cases c2 : j = 5
        · rw [if_pos c2]; exact nw i (by omega)
        · rw [if_neg c2, if_pos (by omega)]; exact hne i j hij (by omega)
    · rw [show 5 - k = (5 - (k + 1)) + 1 by omega, viS]
      rfl
  rw [e]
  exact hh
theorem atV_out (h : atV F p n (k + 1) f g (nHR F) st) (hf : f k < nHR F) : atV F p n k f g (f k + 1) st := by
  refine ⟨by omega, ?_⟩
  have hh := h.2
  rw [cuV_end, baV] at hh
  exact hh
theorem atV_fin (h : atV F p n 0 f g (nHR F) st) : st = vfV F p n := by
  have hh := h.2
  rw [cuV_end, baV] at hh
  exact hh
theorem atV_st (hg : g 0 = 0) : atV F p n 0 f g 0 (0, 0, fun _ => 0) := by
  refine ⟨Nat.zero_le _, ?_⟩
  rw [baV, hg]
  unfold cuV vfV
  rw [viS, Nat.sub_zero, show tr0 0 f = fun _ => 0 from funext (fun i => if_neg (Nat.not_lt_zero i))]
  rfl
end VD
