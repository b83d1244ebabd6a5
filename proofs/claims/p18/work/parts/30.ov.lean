/-! LAYER 2, the reference: its one object and its rows as a value M laid over a map -/
/-- ints, longs, rows of ints (and of booleans), rows of longs, each by the number of its field -/
abbrev mS : Type := (Nat → Int32) × (Nat → Int64) × (Nat → Nat → Int32) × (Nat → Nat → Int64)
/-- what a field holds: 0 an int, 1 a long, 2 a row of ints, 3 a row of longs, 4 a row of booleans; and the row's length -/
def mK : Nat → Nat × Nat
  | 2 => (2, 7) | 3 => (2, 5585) | 4 => (2, 11170) | 5 => (4, 2) | 6 => (2, 2178) | 7 => (2, 16) | 9 => (2, 1936) | 10 => (2, 16) | 12 => (2, 400)
  | 17 => (1, 0) | 22 => (2, 96) | 24 => (2, 400) | 25 => (2, 400) | 27 => (2, 400) | 28 => (2, 400) | 31 => (3, 9) | 32 => (3, 7) | 33 => (3, 5)
  | 35 => (3, 13) | 36 => (3, 13) | 37 => (3, 400) | 39 => (1, 0) | 40 => (1, 0) | 41 => (2, 7) | 42 => (2, 7) | 43 => (2, 6) | 45 => (2, 9) | 46 => (2, 8) | 47 => (2, 8)
  | 48 => (2, 189) | 49 => (2, 8) | 50 => (3, 22) | 51 => (3, 4) | 52 => (2, 120) | 57 => (1, 0) | 58 => (2, 48) | _ => (0, 0)
def mIx : List Nat := [2, 3, 4, 5, 6, 7, 9, 10, 12, 22, 24, 25, 27, 28, 31, 32, 33, 35, 36, 37, 41, 42, 43, 45, 46, 47, 48, 49, 50, 51, 52, 58]
def mF (ad : Nat → Nat) (M : mS) (k : Nat) : Value := match (mK k).1 with
  | 0 => .int (M.1 k)
  | 1 => .long (M.2.1 k)
  | _ => .ref (ad k)
def mFs (ad : Nat → Nat) (M : mS) : List Value := (List.range 61).map (mF ad M)
def mC (M : mS) (k : Nat) : hE := match (mK k).1 with
  | 3 => .inl (1, (mK k).2, .inr (.inl (M.2.2.2 k)))
  | 4 => .inl (2, (mK k).2, .inl (M.2.2.1 k))
  | _ => .inl (0, (mK k).2, .inl (M.2.2.1 k))
def ov (S : hS) (o : Nat) (ad : Nat → Nat) (M : mS) : hS := fun a => if a = o then some (.inr (12, mFs ad M)) else match mIx.find? (fun k => ad k == a) with
  | some k => some (mC M k)
  | none => S a
def mI (M : mS) (k : Nat) (x : Int32) : mS := (fun j => if j = k then x else M.1 j, M.2)
def mJ (M : mS) (k : Nat) (x : Int64) : mS := (M.1, fun j => if j = k then x else M.2.1 j, M.2.2)
def mA (M : mS) (k : Nat) (f : Nat → Int32) : mS := (M.1, M.2.1, fun j => if j = k then f else M.2.2.1 j, M.2.2.2)
def mL (M : mS) (k : Nat) (f : Nat → Int64) : mS := (M.1, M.2.1, M.2.2.1, fun j => if j = k then f else M.2.2.2 j)
/-- the addresses are apart -/
def mD (o : Nat) (ad : Nat → Nat) : Prop := (∀ k ∈ mIx, ad k ≠ o) ∧ ∀ j ∈ mIx, ∀ k ∈ mIx, ad j = ad k → j = k
theorem mfind {o : Nat} {ad : Nat → Nat} (hd : mD o ad) {k : Nat} (hk : k ∈ mIx) : mIx.find? (fun j => ad j == ad k) = some k := by
  cases h : mIx.find? (fun j => ad j == ad k) with
  | none =>
    have := List.find?_eq_none.mp h k hk
    simp at this
  | some j =>
    have h1 := List.find?_some h
    have h2 := List.mem_of_find?_eq_some h
    rw [hd.2 j h2 k hk (by simpa using h1)]
section OV
variable {S : hS} {o : Nat} {ad : Nat → Nat} {M : mS}
theorem ov_o : ov S o ad M o = some (.inr (12, mFs ad M)) := if_pos rfl
theorem ov_a (hd : mD o ad) {k : Nat} (hk : k ∈ mIx) : ov S o ad M (ad k) = some (mC M k) := by
  rw [ov, if_neg (hd.1 k hk), mfind hd hk]
theorem ov_out {a : Nat} (h : a ≠ o) (h2 : ∀ k ∈ mIx, a ≠ ad k) : ov S o ad M a = S a := by
  rw [ov, if_neg h]
  have : mIx.find? (fun k => ad k == a) = none := List.find?_eq_none.mpr (fun k hk => by simpa using fun e => h2 k hk e.symm)
  rw [this]
theorem mFs_get (k : Nat) (hk : k < 61) : (mFs ad M)[k]? = some (mF ad M k) := by
  rw [mFs, List.getElem?_map, List.getElem?_range hk]
  rfl
theorem mFs_len : (mFs ad M).length = 61 := by rw [mFs, List.length_map, List.length_range]
theorem mFs_set {M' : mS} {k : Nat} {v : Value} (hk : k < 61) (h1 : mF ad M' k = v) (h2 : ∀ j, j ≠ k → mF ad M' j = mF ad M j) : (mFs ad M).set k v = mFs ad M' := by
  apply List.ext_getElem?
  intro j
  by_cases hj : j = k
  · subst hj
    rw [List.getElem?_set_self (by rw [mFs_len]; exact hk), mFs_get j hk, h1]
  · rw [List.getElem?_set_ne (Ne.symm hj)]
    by_cases hl : j < 61
    · rw [mFs_get j hl, mFs_get j hl, h2 j hj]
    · rw [List.getElem?_eq_none (by rw [mFs_len]; omega), List.getElem?_eq_none (by rw [mFs_len]; omega)]
theorem ov_seto {M' : mS} (h1 : ∀ k ∈ mIx, mC M' k = mC M k) : hset (ov S o ad M) o (.inr (12, mFs ad M')) = ov S o ad M' := by
  funext a
  by_cases ha : a = o
  · subst ha
    rw [hset_self, ov_o]
  · rw [hset_ne _ _ ha, ov, ov, if_neg ha, if_neg ha]
    cases h : mIx.find? (fun k => ad k == a) with
    | none => rfl
    | some k =>
      have := h1 k (List.mem_of_find?_eq_some h)
      show some (mC M k) = some (mC M' k)
      rw [this]
theorem ov_seta (hd : mD o ad) {M' : mS} {k : Nat} (hk : k ∈ mIx) (h0 : mFs ad M' = mFs ad M) (h1 : ∀ j ∈ mIx, j ≠ k → mC M' j = mC M j) : hset (ov S o ad M) (ad k) (mC M' k) = ov S o ad M' := by
  funext a
  by_cases ha : a = ad k
  · subst ha
    rw [hset_self, ov_a hd hk]
  · rw [hset_ne _ _ ha, ov, ov]
    by_cases hao : a = o
    · rw [if_pos hao, if_pos hao, h0]
    · rw [if_neg hao, if_neg hao]
      cases h : mIx.find? (fun k => ad k == a) with
      | none => rfl
      | some j =>
        have hj : j ≠ k := by
          rintro rfl
          have := List.find?_some h
          exact ha (by simpa using (beq_iff_eq.mp this).symm)
        show some (mC M j) = some (mC M' j)
        rw [h1 j (List.mem_of_find?_eq_some h) hj]
/-! reads and writes -/
theorem ov_gI (k : Nat) {P : Int32 → Prop} (hk : k < 61 ∧ (mK k).1 = 0) (h : P (M.1 k)) : gI (ov S o ad M) o 12 k P :=
  ⟨_, _, ov_o, (mFs_get k hk.1).trans (by rw [mF, hk.2]; rfl), h⟩
theorem ov_gJ (k : Nat) {P : Int64 → Prop} (hk : k < 61 ∧ (mK k).1 = 1) (h : P (M.2.1 k)) : gJ (ov S o ad M) o 12 k P :=
  ⟨_, _, ov_o, (mFs_get k hk.1).trans (by rw [mF, hk.2]; rfl), h⟩
theorem ov_gP (k : Nat) {P : Nat → Prop} (hk : k < 61 ∧ 2 ≤ (mK k).1) (h : P (ad k)) : gP (ov S o ad M) o 12 k P := by
  refine ⟨_, _, ov_o, (mFs_get k hk.1).trans ?_, h⟩
  unfold mF
  split
  · omega
  · omega
  · rfl
theorem ov_pI (k : Nat) {x : Int32} {P : hS → Prop} (hk : k < 61 ∧ (mK k).1 = 0) (h : P (ov S o ad (mI M k x))) : pI (ov S o ad M) o 12 k x P := by
  refine ⟨_, ov_o, by rw [mFs_len]; exact hk.1, ?_⟩
  rw [mFs_set (M' := mI M k x) hk.1 (by rw [mF, hk.2]; simp [mI]) (fun j hj => by unfold mF; simp [mI, hj]), ov_seto (fun k _ => by unfold mC; rfl)]
  exact h
theorem ov_pZ (k : Nat) {x : Int32} {P : hS → Prop} (hk : k < 61 ∧ (mK k).1 = 0) (hx : x = 0 ∨ x = 1) (h : P (ov S o ad (mI M k x))) : pZ (ov S o ad M) o 12 k x P := ⟨hx, ov_pI k hk h⟩
theorem ov_pJ (k : Nat) {x : Int64} {P : hS → Prop} (hk : k < 61 ∧ (mK k).1 = 1) (h : P (ov S o ad (mJ M k x))) : pJ (ov S o ad M) o 12 k x P := by
  refine ⟨_, ov_o, by rw [mFs_len]; exact hk.1, ?_⟩
  rw [mFs_set (M' := mJ M k x) hk.1 (by rw [mF, hk.2]; simp [mJ]) (fun j hj => by unfold mF; simp [mJ, hj]), ov_seto (fun k _ => by unfold mC; rfl)]
  exact h
theorem ov_oK : oK (ov S o ad M) o 12 := ⟨_, ov_o⟩
theorem ov_aI (hd : mD o ad) (k : Nat) {i : Int32} {P : Int32 → Prop} (hk : k ∈ mIx ∧ (mK k).1 = 2) (hi : vp_in i (mK k).2) (h : P (M.2.2.1 k i.toNatClampNeg)) : aI (ov S o ad M) (ad k) i P :=
  ⟨_, _, (ov_a hd hk.1).trans (by rw [mC, hk.2]; rfl), hi, h⟩
theorem ov_aZ (hd : mD o ad) (k : Nat) {i : Int32} {P : Int32 → Prop} (hk : k ∈ mIx ∧ (mK k).1 = 4) (hi : vp_in i (mK k).2) (h : P (M.2.2.1 k i.toNatClampNeg)) : aZ (ov S o ad M) (ad k) i P :=
  ⟨_, _, (ov_a hd hk.1).trans (by rw [mC, hk.2]; rfl), hi, h⟩
theorem ov_aJ (hd : mD o ad) (k : Nat) {i : Int32} {P : Int64 → Prop} (hk : k ∈ mIx ∧ (mK k).1 = 3) (hi : vp_in i (mK k).2) (h : P (M.2.2.2 k i.toNatClampNeg)) : aJ (ov S o ad M) (ad k) i P :=
  ⟨_, _, (ov_a hd hk.1).trans (by rw [mC, hk.2]; rfl), hi, h⟩
theorem mFs_A (k : Nat) (f : Nat → Int32) : mFs ad (mA M k f) = mFs ad M := rfl
theorem mFs_L (k : Nat) (f : Nat → Int64) : mFs ad (mL M k f) = mFs ad M := rfl
theorem mC_A {k j : Nat} (f : Nat → Int32) (h : j ≠ k) : mC (mA M k f) j = mC M j := by unfold mC; simp [mA, h]
theorem mC_L {k j : Nat} (f : Nat → Int64) (h : j ≠ k) : mC (mL M k f) j = mC M j := by unfold mC; simp [mL, h]
theorem ov_sI (hd : mD o ad) (k : Nat) {i x : Int32} {P : hS → Prop} (hk : k ∈ mIx ∧ (mK k).1 = 2) (hi : vp_in i (mK k).2) (h : P (ov S o ad (mA M k (upd (M.2.2.1 k) i.toNatClampNeg x)))) : sI (ov S o ad M) (ad k) i x P := by
  refine ⟨_, _, (ov_a hd hk.1).trans (by rw [mC, hk.2]; rfl), hi, ?_⟩
  have e : (Sum.inl (0, (mK k).2, Sum.inl (upd (M.2.2.1 k) i.toNatClampNeg x)) : hE) = mC (mA M k (upd (M.2.2.1 k) i.toNatClampNeg x)) k := by
    rw [mC, hk.2]; simp [mA]
  rw [e, ov_seta hd hk.1 (mFs_A k _) (fun j _ hj => mC_A _ hj)]
  exact h
theorem ov_sZ (hd : mD o ad) (k : Nat) {i x : Int32} {P : hS → Prop} (hk : k ∈ mIx ∧ (mK k).1 = 4) (hi : vp_in i (mK k).2) (h : P (ov S o ad (mA M k (upd (M.2.2.1 k) i.toNatClampNeg (vp_nar .boolean x))))) : sZ (ov S o ad M) (ad k) i x P := by
  refine ⟨_, _, (ov_a hd hk.1).trans (by rw [mC, hk.2]; rfl), hi, ?_⟩
  have e : (Sum.inl (2, (mK k).2, Sum.inl (upd (M.2.2.1 k) i.toNatClampNeg (vp_nar .boolean x))) : hE) = mC (mA M k (upd (M.2.2.1 k) i.toNatClampNeg (vp_nar .boolean x))) k := by
    rw [mC, hk.2]; simp [mA]
  rw [e, ov_seta hd hk.1 (mFs_A k _) (fun j _ hj => mC_A _ hj)]
  exact h
theorem ov_sJ (hd : mD o ad) (k : Nat) {i : Int32} {x : Int64} {P : hS → Prop} (hk : k ∈ mIx ∧ (mK k).1 = 3) (hi : vp_in i (mK k).2) (h : P (ov S o ad (mL M k (vp_updL (M.2.2.2 k) i.toNatClampNeg x)))) : sJ (ov S o ad M) (ad k) i x P := by
  refine ⟨_, _, (ov_a hd hk.1).trans (by rw [mC, hk.2]; rfl), hi, ?_⟩
  have e : (Sum.inl (1, (mK k).2, Sum.inr (Sum.inl (vp_updL (M.2.2.2 k) i.toNatClampNeg x))) : hE) = mC (mL M k (vp_updL (M.2.2.2 k) i.toNatClampNeg x)) k := by
    rw [mC, hk.2]; simp [mL]
  rw [e, ov_seta hd hk.1 (mFs_L k _) (fun j _ hj => mC_L _ hj)]
  exact h
end OV
