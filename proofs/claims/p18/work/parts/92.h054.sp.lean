/-! THE RULES ON A ROW. f: the row's places below 185; cs: the clauses of the law in force -/
def iR (f : Nat → Int32) (i : Nat) : Int := (f i).toInt
def rHi (i : Nat) : Int := if i = 0 then 6 else if i = 1 then 8 else if i < 4 then 6 else if i = 4 then 5 else if i = 5 then 999 else if i = 6 then 10 else if i = 7 then 9 else if i < 14 then 99 else if i < 22 then 999 else if i < 30 then 1 else if i < 126 then 99 else if i < 132 then 24 else if i < 138 then 99 else if i < 146 then 24 else if i < 154 then 99 else if i < 162 then 5 else if i < 170 then 255 else if i < 182 then 99 else 0
def rLo (i : Nat) : Int := if i = 4 ∨ (154 ≤ i ∧ i < 162) then -1 else 0
/-- a row's bounds -/
def rB (f : Nat → Int32) : Prop := (∀ i, i < 185 → rLo i ≤ iR f i ∧ iR f i ≤ rHi i) ∧ iR f 4 < iR f 3 ∧ (∀ k, k < 6 → iR f (170 + 2 * k) ≤ 5) ∧ (∀ p, p < 8 → iR f (154 + p) < 6) ∧ (∀ j, j < 48 → iR f (78 + j) ≤ iR f (30 + j)) ∧ ∀ p, p < 8 → dB (f (162 + p)) p ≠ 1
def envL (f : Nat → Int32) (p : Int) (h : Nat) (y t : Int) : Nat → Int := fun w => if w = 0 then p else if w = 1 then (if p < 0 then -1 else iR f (146 + p.toNat)) else if w = 2 then (if p < 0 then -1 else iR f (14 + p.toNat)) else if w = 3 then (h : Int) else if w = 4 then iR f (8 + h) else if w = 5 then (if p < 0 then -1 else iR f (30 + 6 * p.toNat + h) - iR f (78 + 6 * p.toNat + h)) else if w = 6 then y else if w = 7 then t else iR f 7
/-- what a clause of head k tells, if it holds -/
def holdC (c : pCl) (k : Nat) (e : Nat → Int) : Option Int := if c.1 = k ∧ wgV c.2.2 e = some 1 then wgV c.2.1 e else none
def clA (cs : List pCl) (n : Nat) : pCl := cs.getD n (0, none, none)
/-- the last of the first n clauses that tells -/
def lastN (cs : List pCl) (k : Nat) (e : Nat → Int) : Nat → Option Int
  | 0 => none
  | n + 1 => match holdC (clA cs n) k e with
    | some v => some v
    | none => lastN cs k e n
def tellL (cs : List pCl) (k : Nat) (e : Nat → Int) : Option Int := lastN cs k e cs.length
def clI (v lo hi : Int) : Int := if v < lo then lo else if hi < v then hi else v
def hasK (cs : List pCl) (k : Nat) : Bool := cs.any (fun c => decide (c.1 = k))
def wthK (k : Nat) : Nat := if k = 0 then 1 else if k = 1 then 5 else 10
def mstK (k : Nat) : Nat := if k = 0 then 20 else if k = 1 then 999 else 99
def toldL (cs : List pCl) (k : Nat) (e : Nat → Int) : Int := clI ((tellL cs k e).getD (wthK k)) 0 (mstK k)
def tiresR (f : Nat → Int32) (cs : List pCl) (p h : Nat) : Int := toldL cs 0 (envL f p h (iR f 5) (-1))
def costsR (f : Nat → Int32) (cs : List pCl) (p o h : Nat) : Int := toldL cs 1 (envL f p h (iR f 5) o)
def worthR (f : Nat → Int32) (cs : List pCl) (h : Nat) (y : Int) : Int := toldL cs 2 (envL f (-1) h y (-1))
def opensR (f : Nat → Int32) (cs : List pCl) (p h : Nat) : Bool := if hasK cs 3 = true then (tellL cs 3 (envL f p h (iR f 5) (-1))).isSome else decide (iR f (8 + h) < 10)
def barredR (f : Nat → Int32) (cs : List pCl) (p o h : Nat) : Bool := (tellL cs 4 (envL f p h (iR f 5) o)).isSome
/-- clauses that run on both sides -/
def okL (cs : List pCl) : Prop := okT 9 (cs.map lwX) ∧ (∀ c ∈ cs, c.1 < 5 ∧ pOk lwW 9 c.2.1 ∧ pOk lwW 9 c.2.2 ∧ (c.2.1 = none ↔ 3 ≤ c.1)) ∧ ∀ c ∈ cs, ∀ t, c.2.2 = some t → (∀ e v, t.2.2 e = some v → v = 0 ∨ v = 1) ∧ ∀ n, 1 ≤ (t.2.1 n).length
theorem okL_nil : okL [] := ⟨⟨by simp, by simp [xAll], fun x hx => by simp [xAll] at hx, fun c hc => (by simp at hc)⟩, fun c hc => (by cases hc), fun c hc => (by cases hc)⟩
theorem clA_at {cs : List pCl} {n : Nat} (h : n < cs.length) : clA cs n = cs[n] := by
  unfold clA
  rw [List.getD_eq_getElem?_getD, List.getElem?_eq_getElem h]
  rfl
theorem clA_map {cs : List pCl} {n : Nat} (h : n < cs.length) (h' : n < (cs.map lwX).length) : (cs.map lwX)[n] = lwX (clA cs n) := by
  rw [List.getElem_map, clA_at h]
theorem clA_mem {cs : List pCl} {n : Nat} (h : n < cs.length) : clA cs n ∈ cs := by
  rw [clA_at h]
  exact List.getElem_mem h
/-- opens, bars: whether one of the first n holds -/
theorem lastN_some {cs : List pCl} (hc : ∀ c ∈ cs, c.2.1 = none ↔ 3 ≤ c.1) {k : Nat} (hk : 3 ≤ k) {e : Nat → Int} : ∀ n, n ≤ cs.length → ((lastN cs k e n).isSome = true ↔ ∃ j, j < n ∧ (clA cs j).1 = k ∧ wgV (clA cs j).2.2 e = some 1)
  | 0, _ => by
    constructor
    · intro z; cases z
    · rintro ⟨j, hj, -⟩; omega
  | n + 1, hn => by
    have ih := lastN_some hc hk (e := e) n (by omega)
    have hm := hc _ (clA_mem (cs := cs) (n := n) (by omega))
    rw [lastN]
    by_cases c : (clA cs n).1 = k ∧ wgV (clA cs n).2.2 e = some 1
    · have e1 : holdC (clA cs n) k e = some 1 := by
        unfold holdC
        rw [if_pos c, hm.mpr (by omega)]
        rfl
      rw [e1]
      exact ⟨fun _ => ⟨n, by omega, c⟩, fun _ => rfl⟩
    · have e1 : holdC (clA cs n) k e = none := if_neg c
      rw [e1]
      dsimp only
      rw [ih]
      constructor
      · rintro ⟨j, hj, z⟩; exact ⟨j, by omega, z⟩
      · rintro ⟨j, hj, z⟩
        by_cases ej : j = n
        · subst ej; exact absurd z c
        · exact ⟨j, by omega, z⟩
