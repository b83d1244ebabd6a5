/-! THE CLASS'S READING AS A VALUE: 0 the reader, 1 the tape, 2 the text, 3 the tape's bytes, 4 .. 7 kinds, times, marks, steps -/
abbrev vR : Type := Nat → Nat → Int32
def rC (ad : Nat → Nat) (V : vR) : Nat → hE
  | 0 => .inr (5, [.ref (ad 2), .ref (ad 1), .int (V 0 2), .int (V 0 3)])
  | 1 => .inr (9, [.ref (ad 3), .int (V 1 1), .int (V 1 2), .int (V 1 3), .int (V 1 4), .int (V 1 5)])
  | 2 => .inr (10, [.int (V 2 0), .int (V 2 1), .int (V 2 2), .ref (ad 4), .ref (ad 5), .ref (ad 6), .ref (ad 7)])
  | 3 => .inl (0, 400, .inl (V 3))
  | 4 => .inl (0, 12, .inl (V 4))
  | 5 => .inl (0, 12, .inl (V 5))
  | 6 => .inl (0, 60, .inl (V 6))
  | _ => .inl (0, 400, .inl (V 7))
def rN (k : Nat) : Nat := if k = 4 ∨ k = 5 then 12 else if k = 6 then 60 else 400
theorem rN_3 : rN 3 = 400 := rfl
theorem rN_4 : rN 4 = 12 := rfl
theorem rN_5 : rN 5 = 12 := rfl
theorem rN_6 : rN 6 = 60 := rfl
theorem rN_7 : rN 7 = 400 := rfl
def rv (S : hS) (ad : Nat → Nat) (V : vR) : hS := fun a => match (List.range 8).find? (fun k => ad k == a) with
  | some k => some (rC ad V k)
  | none => S a
def rD (ad : Nat → Nat) : Prop := ∀ j k, j < 8 → k < 8 → ad j = ad k → j = k
def vS (V : vR) (k j : Nat) (x : Int32) : vR := fun k' => if k' = k then upd (V k) j x else V k'
theorem vS_at {V : vR} {k j : Nat} {x : Int32} {k' j' : Nat} : vS V k j x k' j' = if k' = k then (if j' = j then x else V k j') else V k' j' := by
  unfold vS
  split
  · rfl
  · rfl
theorem vS_ar {V : vR} {k j : Nat} {x : Int32} {k' : Nat} : vS V k j x k' = if k' = k then upd (V k) j x else V k' := rfl
theorem vS_self {V : vR} {k j : Nat} {x : Int32} : vS V k j x k j = x := by rw [vS_at, if_pos rfl, if_pos rfl]
theorem vS_o {V : vR} {k j j' : Nat} {x : Int32} (h : j' ≠ j) : vS V k j x k j' = V k j' := by rw [vS_at, if_pos rfl, if_neg h]
theorem rfind {ad : Nat → Nat} (hd : rD ad) {k : Nat} (hk : k < 8) : (List.range 8).find? (fun j => ad j == ad k) = some k := by
  cases h : (List.range 8).find? (fun j => ad j == ad k) with
  | none =>
    have := List.find?_eq_none.mp h k (List.mem_range.mpr hk)
    simp at this
  | some j =>
    have h1 := List.find?_some h
    have h2 := List.mem_range.mp (List.mem_of_find?_eq_some h)
    rw [hd j k h2 hk (by simpa using h1)]
section RV
variable {S : hS} {ad : Nat → Nat} {V : vR}
theorem rv_at (hd : rD ad) {k : Nat} (hk : k < 8) : rv S ad V (ad k) = some (rC ad V k) := by
  unfold rv
  rw [rfind hd hk]
theorem rv_out {a : Nat} (h : ∀ k, k < 8 → a ≠ ad k) : rv S ad V a = S a := by
  unfold rv
  rw [List.find?_eq_none.mpr (fun k hk => by
    have := h k (List.mem_range.mp hk)
    simpa using fun e => this e.symm)]
theorem rv_set (hd : rD ad) {V' : vR} {k : Nat} (hk : k < 8) (h : ∀ j, j < 8 → j ≠ k → rC ad V' j = rC ad V j) : hset (rv S ad V) (ad k) (rC ad V' k) = rv S ad V' := by
  funext b
  by_cases hb : b = ad k
  · subst hb
    rw [hset_self, rv_at hd hk]
  · rw [hset_ne _ _ hb]
    unfold rv
    cases e : (List.range 8).find? (fun k => ad k == b) with
    | none => rfl
    | some j =>
      have h1 := List.find?_some e
      have h2 := List.mem_range.mp (List.mem_of_find?_eq_some e)
      show some (rC ad V j) = some (rC ad V' j)
      rw [h j h2 (fun z => hb (by subst z; exact (beq_iff_eq.mp h1).symm))]
theorem rC_ne {k i j : Nat} {x : Int32} (hj : j < 8) (h : j ≠ k) : rC ad (vS V k i x) j = rC ad V j := by
  have : j = 0 ∨ j = 1 ∨ j = 2 ∨ j = 3 ∨ j = 4 ∨ j = 5 ∨ j = 6 ∨ j = 7 := by omega
  rcases this with rfl | rfl | rfl | rfl | rfl | rfl | rfl | rfl <;> simp only [rC, vS_at, vS_ar, if_neg h]
theorem rv_0 (hd : rD ad) : rv S ad V (ad 0) = some (.inr (5, [.ref (ad 2), .ref (ad 1), .int (V 0 2), .int (V 0 3)])) := rv_at hd (by decide)
theorem rv_1 (hd : rD ad) : rv S ad V (ad 1) = some (.inr (9, [.ref (ad 3), .int (V 1 1), .int (V 1 2), .int (V 1 3), .int (V 1 4), .int (V 1 5)])) := rv_at hd (by decide)
theorem rv_2 (hd : rD ad) : rv S ad V (ad 2) = some (.inr (10, [.int (V 2 0), .int (V 2 1), .int (V 2 2), .ref (ad 4), .ref (ad 5), .ref (ad 6), .ref (ad 7)])) := rv_at hd (by decide)
theorem rv_a (hd : rD ad) {k : Nat} (hk : 3 ≤ k ∧ k < 8) : rv S ad V (ad k) = some (.inl (0, rN k, .inl (V k))) := by
  rw [rv_at hd hk.2]
  have : k = 3 ∨ k = 4 ∨ k = 5 ∨ k = 6 ∨ k = 7 := by omega
  rcases this with rfl | rfl | rfl | rfl | rfl <;> rfl
theorem ri_gI0 (hd : rD ad) {j : Nat} {P : Int32 → Prop} (hj : j = 2 ∨ j = 3) : gI (rv S ad V) (ad 0) 5 j P ↔ P (V 0 j) := by
  constructor
  · rintro ⟨fs, x, h1, h2, h3⟩
    rw [rv_0 hd] at h1
    cases h1
    rcases hj with rfl | rfl <;> (cases h2; exact h3)
  · intro h
    refine ⟨_, _, rv_0 hd, ?_, h⟩
    rcases hj with rfl | rfl <;> rfl
theorem ri_gI1 (hd : rD ad) {j : Nat} {P : Int32 → Prop} (hj : 1 ≤ j ∧ j ≤ 5) : gI (rv S ad V) (ad 1) 9 j P ↔ P (V 1 j) := by
  have hj : j = 1 ∨ j = 2 ∨ j = 3 ∨ j = 4 ∨ j = 5 := by omega
  constructor
  · rintro ⟨fs, x, h1, h2, h3⟩
    rw [rv_1 hd] at h1
    cases h1
    rcases hj with rfl | rfl | rfl | rfl | rfl <;> (cases h2; exact h3)
  · intro h
    refine ⟨_, _, rv_1 hd, ?_, h⟩
    rcases hj with rfl | rfl | rfl | rfl | rfl <;> rfl
theorem ri_gI2 (hd : rD ad) {j : Nat} {P : Int32 → Prop} (hj : j ≤ 2) : gI (rv S ad V) (ad 2) 10 j P ↔ P (V 2 j) := by
  have hj : j = 0 ∨ j = 1 ∨ j = 2 := by omega
  constructor
  · rintro ⟨fs, x, h1, h2, h3⟩
    rw [rv_2 hd] at h1
    cases h1
    rcases hj with rfl | rfl | rfl <;> (cases h2; exact h3)
  · intro h
    refine ⟨_, _, rv_2 hd, ?_, h⟩
    rcases hj with rfl | rfl | rfl <;> rfl
theorem ri_gP00 (hd : rD ad) {P : Nat → Prop} : gP (rv S ad V) (ad 0) 5 0 P ↔ P (ad 2) := by
  constructor
  · rintro ⟨fs, x, h1, h2, h3⟩
    rw [rv_0 hd] at h1
    cases h1
    cases h2
    exact h3
  · exact fun h => ⟨_, _, rv_0 hd, rfl, h⟩
theorem ri_gP01 (hd : rD ad) {P : Nat → Prop} : gP (rv S ad V) (ad 0) 5 1 P ↔ P (ad 1) := by
  constructor
  · rintro ⟨fs, x, h1, h2, h3⟩
    rw [rv_0 hd] at h1
    cases h1
    cases h2
    exact h3
  · exact fun h => ⟨_, _, rv_0 hd, rfl, h⟩
theorem ri_gP10 (hd : rD ad) {P : Nat → Prop} : gP (rv S ad V) (ad 1) 9 0 P ↔ P (ad 3) := by
  constructor
  · rintro ⟨fs, x, h1, h2, h3⟩
    rw [rv_1 hd] at h1
    cases h1
    cases h2
    exact h3
  · exact fun h => ⟨_, _, rv_1 hd, rfl, h⟩
theorem ri_gP23 (hd : rD ad) {P : Nat → Prop} : gP (rv S ad V) (ad 2) 10 3 P ↔ P (ad 4) := by
  constructor
  · rintro ⟨fs, x, h1, h2, h3⟩
    rw [rv_2 hd] at h1
    cases h1
    cases h2
    exact h3
  · exact fun h => ⟨_, _, rv_2 hd, rfl, h⟩
theorem ri_gP24 (hd : rD ad) {P : Nat → Prop} : gP (rv S ad V) (ad 2) 10 4 P ↔ P (ad 5) := by
  constructor
  · rintro ⟨fs, x, h1, h2, h3⟩
    rw [rv_2 hd] at h1
    cases h1
    cases h2
    exact h3
  · exact fun h => ⟨_, _, rv_2 hd, rfl, h⟩
theorem ri_gP25 (hd : rD ad) {P : Nat → Prop} : gP (rv S ad V) (ad 2) 10 5 P ↔ P (ad 6) := by
  constructor
  · rintro ⟨fs, x, h1, h2, h3⟩
    rw [rv_2 hd] at h1
    cases h1
    cases h2
    exact h3
  · exact fun h => ⟨_, _, rv_2 hd, rfl, h⟩
theorem ri_gP26 (hd : rD ad) {P : Nat → Prop} : gP (rv S ad V) (ad 2) 10 6 P ↔ P (ad 7) := by
  constructor
  · rintro ⟨fs, x, h1, h2, h3⟩
    rw [rv_2 hd] at h1
    cases h1
    cases h2
    exact h3
  · exact fun h => ⟨_, _, rv_2 hd, rfl, h⟩
theorem ri_pI0 (hd : rD ad) {j : Nat} {x : Int32} {P : hS → Prop} (hj : j = 2 ∨ j = 3) : pI (rv S ad V) (ad 0) 5 j x P ↔ P (rv S ad (vS V 0 j x)) := by
  have key := rv_set (S := S) (V := V) (V' := vS V 0 j x) hd (k := 0) (by decide) (fun j h1 h2 => rC_ne h1 h2)
  constructor
  · rintro ⟨fs, h1, h2, h3⟩
    rw [rv_0 hd] at h1
    cases h1
    rcases hj with rfl | rfl <;> (rw [← key]; exact h3)
  · intro h
    refine ⟨_, rv_0 hd, by simp only [List.length_cons, List.length_nil]; omega, ?_⟩
    rcases hj with rfl | rfl <;> (rw [← key] at h; exact h)
theorem ri_pZ0 (hd : rD ad) {j : Nat} {x : Int32} {P : hS → Prop} (hj : j = 2 ∨ j = 3) : pZ (rv S ad V) (ad 0) 5 j x P ↔ (x = 0 ∨ x = 1) ∧ P (rv S ad (vS V 0 j x)) := by
  rw [pZ, ri_pI0 hd hj]
theorem ri_pI1 (hd : rD ad) {j : Nat} {x : Int32} {P : hS → Prop} (hj : 1 ≤ j ∧ j ≤ 5) : pI (rv S ad V) (ad 1) 9 j x P ↔ P (rv S ad (vS V 1 j x)) := by
  have key := rv_set (S := S) (V := V) (V' := vS V 1 j x) hd (k := 1) (by decide) (fun j h1 h2 => rC_ne h1 h2)
  have hj2 : j = 1 ∨ j = 2 ∨ j = 3 ∨ j = 4 ∨ j = 5 := by omega
  constructor
  · rintro ⟨fs, h1, h2, h3⟩
    rw [rv_1 hd] at h1
    cases h1
    rcases hj2 with rfl | rfl | rfl | rfl | rfl <;> (rw [← key]; exact h3)
  · intro h
    refine ⟨_, rv_1 hd, by simp only [List.length_cons, List.length_nil]; omega, ?_⟩
    rcases hj2 with rfl | rfl | rfl | rfl | rfl <;> (rw [← key] at h; exact h)
theorem ri_pI2 (hd : rD ad) {j : Nat} {x : Int32} {P : hS → Prop} (hj : j ≤ 2) : pI (rv S ad V) (ad 2) 10 j x P ↔ P (rv S ad (vS V 2 j x)) := by
  have key := rv_set (S := S) (V := V) (V' := vS V 2 j x) hd (k := 2) (by decide) (fun j h1 h2 => rC_ne h1 h2)
  have hj2 : j = 0 ∨ j = 1 ∨ j = 2 := by omega
  constructor
  · rintro ⟨fs, h1, h2, h3⟩
    rw [rv_2 hd] at h1
    cases h1
    rcases hj2 with rfl | rfl | rfl <;> (rw [← key]; exact h3)
  · intro h
    refine ⟨_, rv_2 hd, by simp only [List.length_cons, List.length_nil]; omega, ?_⟩
    rcases hj2 with rfl | rfl | rfl <;> (rw [← key] at h; exact h)
theorem ri_oK0 (hd : rD ad) : oK (rv S ad V) (ad 0) 5 ↔ True := iff_true_intro ⟨_, rv_0 hd⟩
theorem ri_oK1 (hd : rD ad) : oK (rv S ad V) (ad 1) 9 ↔ True := iff_true_intro ⟨_, rv_1 hd⟩
theorem ri_oK2 (hd : rD ad) : oK (rv S ad V) (ad 2) 10 ↔ True := iff_true_intro ⟨_, rv_2 hd⟩
theorem ri_aI (hd : rD ad) {k : Nat} {i : Int32} {P : Int32 → Prop} (hk : 3 ≤ k ∧ k < 8) : aI (rv S ad V) (ad k) i P ↔ vp_in i (rN k) ∧ P (V k i.toNatClampNeg) := by
  constructor
  · rintro ⟨n, f, h1, h2, h3⟩
    rw [rv_a hd hk] at h1
    cases h1
    exact ⟨h2, h3⟩
  · exact fun h => ⟨_, _, rv_a hd hk, h.1, h.2⟩
theorem ri_sI (hd : rD ad) {k : Nat} {i x : Int32} {P : hS → Prop} (hk : 3 ≤ k ∧ k < 8) : sI (rv S ad V) (ad k) i x P ↔ vp_in i (rN k) ∧ P (rv S ad (vS V k i.toNatClampNeg x)) := by
  have key := rv_set (S := S) (V := V) (V' := vS V k i.toNatClampNeg x) hd hk.2 (fun j h1 h2 => rC_ne h1 h2)
  have e : rC ad (vS V k i.toNatClampNeg x) k = .inl (0, rN k, .inl (upd (V k) i.toNatClampNeg x)) := by
    have : k = 3 ∨ k = 4 ∨ k = 5 ∨ k = 6 ∨ k = 7 := by omega
    rcases this with rfl | rfl | rfl | rfl | rfl <;> simp [rC, vS_ar, rN]
  rw [e] at key
  constructor
  · rintro ⟨n, f, h1, h2, h3⟩
    rw [rv_a hd hk] at h1
    cases h1
    rw [key] at h3
    exact ⟨h2, h3⟩
  · exact fun h => ⟨_, _, rv_a hd hk, h.1, by rw [key]; exact h.2⟩
theorem ri_aN (hd : rD ad) {k : Nat} {P : Int32 → Prop} (hk : 3 ≤ k ∧ k < 8) : aN (rv S ad V) (ad k) P ↔ P (nI (rN k)) := by
  constructor
  · rintro ⟨kd, x, h1, h2, h3⟩
    rw [rv_a hd hk] at h1
    cases h1
    exact h3
  · exact fun h => ⟨_, _, rv_a hd hk, by decide, h⟩
end RV
