/-! READING TEXTS, ON PAPER. The tape: its bytes and how many; a place p: where the look for the next token begins -/
abbrev pG : Type := (Nat → Nat) × Nat
def isLn (c : Nat) : Bool := decide (97 ≤ c ∧ c ≤ 122)
def isDn (c : Nat) : Bool := decide (48 ≤ c ∧ c ≤ 57)
def isBn (c : Nat) : Bool := decide (c = 32)
def runTo (P : Nat → Bool) (G : pG) : Nat → Nat → Nat
  | 0, p => p
  | n + 1, p => if p < G.2 ∧ P (G.1 p) = true then runTo P G n (p + 1) else p
/-- the first place from p on, below the end, where P isn't so -/
def ru (P : Nat → Bool) (G : pG) (p : Nat) : Nat := runTo P G (G.2 - p) p
theorem ru_go {P : Nat → Bool} {G : pG} {p : Nat} (h : p < G.2) (hP : P (G.1 p) = true) : ru P G p = ru P G (p + 1) := by
  unfold ru
  rw [show G.2 - p = (G.2 - (p + 1)) + 1 by omega]
  show (if p < G.2 ∧ P (G.1 p) = true then runTo P G (G.2 - (p + 1)) (p + 1) else p) = _
  rw [if_pos ⟨h, hP⟩]
theorem ru_end {P : Nat → Bool} {G : pG} {p : Nat} (h : G.2 ≤ p) : ru P G p = p := by
  unfold ru
  rw [show G.2 - p = 0 by omega]
  rfl
theorem ru_no {P : Nat → Bool} {G : pG} {p : Nat} (hP : ¬ P (G.1 p) = true) : ru P G p = p := by
  unfold ru
  cases G.2 - p with
  | zero => rfl
  | succ n =>
    show (if p < G.2 ∧ P (G.1 p) = true then runTo P G n (p + 1) else p) = p
    rw [if_neg (fun z => hP z.2)]
theorem ru_ge {P : Nat → Bool} {G : pG} : ∀ (n p : Nat), p ≤ runTo P G n p
  | 0, p => Nat.le_refl p
  | n + 1, p => by
    rw [runTo]
    split
    · have := ru_ge (P := P) (G := G) n (p + 1)
      omega
    · exact Nat.le_refl p
theorem le_ru {P : Nat → Bool} {G : pG} {p : Nat} : p ≤ ru P G p := ru_ge _ _
theorem runTo_le {P : Nat → Bool} {G : pG} : ∀ (n p : Nat), p ≤ G.2 → runTo P G n p ≤ G.2
  | 0, p, h => h
  | n + 1, p, h => by
    rw [runTo]
    split
    · rename_i c
      exact runTo_le n (p + 1) (by omega)
    · exact h
theorem ru_le {P : Nat → Bool} {G : pG} {p : Nat} (h : p ≤ G.2) : ru P G p ≤ G.2 := runTo_le _ _ h
theorem runTo_in {P : Nat → Bool} {G : pG} : ∀ (n p j : Nat), p ≤ j → j < runTo P G n p → P (G.1 j) = true
  | 0, p, j, h1, h2 => by rw [runTo] at h2; omega
  | n + 1, p, j, h1, h2 => by
    rw [runTo] at h2
    split at h2
    · rename_i c
      by_cases e : j = p
      · rw [e]; exact c.2
      · exact runTo_in n (p + 1) j (by omega) h2
    · omega
theorem ru_in {P : Nat → Bool} {G : pG} {p j : Nat} (h1 : p ≤ j) (h2 : j < ru P G p) : P (G.1 j) = true := runTo_in _ _ j h1 h2
theorem runTo_at {P : Nat → Bool} {G : pG} : ∀ (n p : Nat), G.2 ≤ p + n → runTo P G n p < G.2 → ¬ P (G.1 (runTo P G n p)) = true
  | 0, p, h, h2 => by rw [runTo] at h2; omega
  | n + 1, p, h, h2 => by
    rw [runTo] at h2 ⊢
    split
    · rename_i c
      rw [if_pos c] at h2
      exact runTo_at n (p + 1) (by omega) h2
    · rename_i c
      rw [if_neg c] at h2
      exact fun z => c ⟨h2, z⟩
theorem ru_at {P : Nat → Bool} {G : pG} {p : Nat} (h : ru P G p < G.2) : ¬ P (G.1 (ru P G p)) = true := runTo_at _ _ (by omega) h
/-! tokens: where the one begins, its kind (0 the end, 1 letters, 2 digits, 3 a sign), where it stops -/
def tS (G : pG) (p : Nat) : Nat := ru isBn G p
def tK (G : pG) (p : Nat) : Nat := if G.2 ≤ tS G p then 0 else if isLn (G.1 (tS G p)) = true then 1 else if isDn (G.1 (tS G p)) = true then 2 else 3
def tE (G : pG) (p : Nat) : Nat := if tK G p = 0 then tS G p else if tK G p = 1 then ru isLn G (tS G p) else if tK G p = 2 then ru isDn G (tS G p) else tS G p + 1
theorem tK_4 (G : pG) (p : Nat) : tK G p < 4 := by
  unfold tK
  split
  · omega
  · split
    · omega
    · split <;> omega
theorem tS_ge (G : pG) (p : Nat) : p ≤ tS G p := le_ru
theorem tS_le {G : pG} {p : Nat} (h : p ≤ G.2) : tS G p ≤ G.2 := ru_le h
theorem tK_lt {G : pG} {p : Nat} (h : tK G p ≠ 0) : tS G p < G.2 := by
  unfold tK at h
  split at h
  · exact absurd rfl h
  · omega
theorem tE_gt {G : pG} {p : Nat} (h : tK G p ≠ 0) : tS G p < tE G p := by
  have h2 := tK_lt h
  unfold tE
  rw [if_neg h]
  split
  · rename_i c
    have hl : isLn (G.1 (tS G p)) = true := by
      unfold tK at c
      rw [if_neg (by omega)] at c
      split at c
      · rename_i z; exact z
      · split at c <;> omega
    rw [ru_go h2 hl]
    have := le_ru (P := isLn) (G := G) (p := tS G p + 1)
    omega
  · split
    · rename_i c1 c
      have hl : isDn (G.1 (tS G p)) = true := by
        unfold tK at c
        rw [if_neg (by omega)] at c
        split at c
        · omega
        · split at c
          · rename_i z; exact z
          · omega
      rw [ru_go h2 hl]
      have := le_ru (P := isDn) (G := G) (p := tS G p + 1)
      omega
    · omega
theorem tE_le {G : pG} {p : Nat} (h : p ≤ G.2) : tE G p ≤ G.2 := by
  unfold tE
  split
  · exact tS_le h
  · split
    · exact ru_le (tS_le h)
    · split
      · exact ru_le (tS_le h)
      · rename_i c _ _
        have := tK_lt c
        omega
/-- a number as the class reads it: it stays at 10000 -/
def cNum (G : pG) : Nat → Nat → Nat → Nat
  | 0, _, v => v
  | n + 1, j, v => cNum G n (j + 1) (min (v * 10 + (G.1 j - 48)) 10000)
/-- as the reference does -/
def rNum (G : pG) : Nat → Nat → Nat → Nat
  | 0, _, v => v
  | n + 1, j, v => rNum G n (j + 1) (if 1000000 < v then v else v * 10 + (G.1 j - 48))
def nV (G : pG) (p : Nat) : Nat := cNum G (tE G p - tS G p) (tS G p) 0
def rV (G : pG) (p : Nat) : Nat := rNum G (tE G p - tS G p) (tS G p) 0
theorem num_rel {G : pG} : ∀ (n j c r : Nat), ((c = r ∧ c ≤ 1000) ∨ (1000 < c ∧ 1000 < r)) → ((cNum G n j c = rNum G n j r ∧ cNum G n j c ≤ 1000) ∨ (1000 < cNum G n j c ∧ 1000 < rNum G n j r))
  | 0, _, c, r, h => h
  | n + 1, j, c, r, h => by
    rw [cNum, rNum]
    refine num_rel n (j + 1) _ _ ?_
    rcases h with ⟨rfl, h⟩ | ⟨h1, h2⟩
    · rw [if_neg (by omega)]
      by_cases z : c * 10 + (G.1 j - 48) ≤ 1000
      · left; omega
      · right; omega
    · right
      split <;> omega
theorem nV_rV (G : pG) (p : Nat) : (nV G p = rV G p ∧ nV G p ≤ 1000) ∨ (1000 < nV G p ∧ 1000 < rV G p) := num_rel _ _ _ _ (Or.inl ⟨rfl, by omega⟩)
/-- a token's own questions -/
def isSg (G : pG) (p c : Nat) : Bool := decide (tK G p = 3 ∧ G.1 (tS G p) = c)
def isWd (G : pG) (p : Nat) (s : List Nat) : Bool := decide (tK G p = 1 ∧ tE G p - tS G p = s.length ∧ ∀ i, i < s.length → G.1 (tS G p + i) = s.getD i 0)
def isNm (G : pG) (p lo hi : Nat) : Bool := decide (tK G p = 2 ∧ lo ≤ nV G p ∧ nV G p ≤ hi)
/-! what is read: a place and the count of parts; what was made of it, if it could be: the class's code, the reference's (by where they begin), the meaning -/
abbrev pC : Type := Nat → List (Nat × Nat)
abbrev pD : Type := (Nat → Int) → Option Int
abbrev pA : Type := pC × pC × pD
abbrev pR : Type := (Nat × Nat) × Option pA
def ckD (v : Int) : Option Int := if v > 1000000000 ∨ v < -1000000000 then none else some v
/-- operations by the class's numbers: 2 + 3 - 4 * 5 / 6 % 7 < 8 > 9 = -/
def opD (o : Nat) (x y : Int) : Option Int :=
  if o = 2 then ckD (x + y) else if o = 3 then ckD (x - y) else if o = 4 then ckD (x * y) else if o = 5 then (if y = 0 then none else ckD (x.tdiv y)) else if o = 6 then (if y = 0 then none else ckD (x.tmod y)) else if o = 7 then some (if x < y then 1 else 0) else if o = 8 then some (if y < x then 1 else 0) else some (if x = y then 1 else 0)
/-- the reference's number of an operation -/
def rOp (o : Nat) : Nat := o + 18
def pTwo (o : Nat) (a b : pA) : pA := (fun n => a.1 n ++ b.1 (n + (a.1 n).length) ++ [(o, 0)], fun n => a.2.1 n ++ b.2.1 (n + (a.2.1 n).length) ++ [(rOp o, 0)], fun e => match a.2.2 e with
  | none => none
  | some x => match b.2.2 e with
    | none => none
    | some y => opD o x y)
/-- "or" (s 1), "and" (s 0) -/
def pJmp (s : Nat) (a b : pA) : pA := (fun n => a.1 n ++ [(12 - s, n + (a.1 n).length + 1 + (b.1 (n + (a.1 n).length + 1)).length)] ++ b.1 (n + (a.1 n).length + 1), fun n => a.2.1 n ++ [(29 + s, n + (a.2.1 n).length + 1 + (b.2.1 (n + (a.2.1 n).length + 1)).length)] ++ b.2.1 (n + (a.2.1 n).length + 1), fun e => match a.2.2 e with
  | none => none
  | some x => if x = s then some x else b.2.2 e)
/-- "not" c times -/
def pNot (c : Nat) (a : pA) : pA := (fun n => if c % 2 = 1 then a.1 n ++ [(10, 0)] else a.1 n, fun n => a.2.1 n ++ List.replicate c (28, 0), fun e => match a.2.2 e with
  | none => none
  | some x => if c % 2 = 1 then some (1 - x) else some x)
def pNum (v : Nat) : pA := (fun _ => [(0, v)], fun _ => [(0, v)], fun _ => some v)
/-- a word: w the class's number of it; what the reference puts for it -/
def pWrd (w ro ra : Nat) : pA := (fun _ => [(1, w)], fun _ => [(ro, ra)], fun e => some (e w))
section PP
variable (G : pG)
def addOp (p : Nat) : Option Nat := if isSg G p 43 = true then some 2 else if isSg G p 45 = true then some 3 else none
def mulOp (p : Nat) : Option Nat := if isSg G p 42 = true then some 4 else if isSg G p 47 = true then some 5 else if isSg G p 37 = true then some 6 else none
def cmpOp (p : Nat) : Option Nat := if isSg G p 60 = true then some 7 else if isSg G p 62 = true then some 8 else if isSg G p 61 = true then some 9 else none
/-- a row of subs with operations between -/
def rowL (op : Nat → Option Nat) (sub : Nat → Nat → pR) (cb : Nat → pA → pA → pA) : Nat → Nat → Nat → pA → pR
  | 0, p, k, a => ((p, k), some a)
  | n + 1, p, k, a => match op p with
    | none => ((p, k), some a)
    | some o => match sub (tE G p) k with
      | (q, none) => (q, none)
      | (q, some b) => rowL op sub cb n q.1 q.2 (cb o a b)
def rowP (op : Nat → Option Nat) (sub : Nat → Nat → pR) (cb : Nat → pA → pA → pA) (p k : Nat) : pR := match sub p k with
  | (q, none) => (q, none)
  | (q, some a) => rowL G op sub cb 400 q.1 q.2 a
/-- the words of a law, of orders: bytes, the class's number, the reference's; whether a number is due behind it, and the most that it can be -/
def lwW : List (List Nat × Nat × Nat × Option Nat) := [([112, 101, 114, 115, 111, 110], 0, 1, none), ([97, 103, 101], 1, 2, none), ([112, 117, 114, 115, 101], 2, 3, none), ([104, 111, 117, 115, 101], 3, 4, none), ([119, 101, 97, 114, 121], 4, 5, none), ([108, 101, 102, 116], 5, 6, none), ([121, 101, 97, 114], 6, 7, none), ([116, 111], 7, 8, none), ([109, 111, 111, 100], 8, 9, none)]
def orW : List (List Nat × Nat × Nat × Option Nat) := [([121, 101, 97, 114], 0, 1, none), ([100, 111, 110, 101], 1, 2, none), ([108, 97, 116, 101, 115, 116], 2, 3, none), ([108, 105, 118, 105, 110, 103], 3, 4, none), ([112, 117, 114, 115, 101], 4, 5, some 7), ([108, 101, 102, 116], 12, 6, some 7), ([119, 101, 97, 114, 121], 20, 7, some 5)]
def fndW (W : List (List Nat × Nat × Nat × Option Nat)) (p : Nat) : Option (List Nat × Nat × Nat × Option Nat) := W.find? (fun w => isWd G p w.1)
def prF (W : List (List Nat × Nat × Nat × Option Nat)) (inner : Option (Nat → Nat → pR)) (p k : Nat) : pR :=
  if isSg G p 91 = true then match inner with
    | none => ((p, k), none)
    | some s => match s (tE G p) k with
      | (q, none) => (q, none)
      | (q, some a) => if isSg G q.1 93 = true then ((tE G q.1, q.2), some a) else (q, none)
  else if 50 ≤ k then ((p, k), none)
  else if isNm G p 0 1000 = true then ((tE G p, k + 1), some (pNum (nV G p)))
  else match fndW G W p with
    | none => ((p, k + 1), none)
    | some w => match w.2.2.2 with
      | none => ((tE G p, k + 1), some (pWrd w.2.1 w.2.2.1 0))
      | some mx => if isNm G (tE G p) 0 mx = true then ((tE G (tE G p), k + 1), some (pWrd (w.2.1 + nV G (tE G p)) w.2.2.1 (nV G (tE G p)))) else ((tE G p, k + 1), none)
def prSum (fac : Nat → Nat → pR) : Nat → Nat → pR := rowP G (addOp G) (rowP G (mulOp G) fac pTwo) pTwo
/-- sums by how many brackets may still be opened -/
def prS (W : List (List Nat × Nat × Nat × Option Nat)) : Nat → Nat → Nat → pR
  | 0 => prSum G (prF G W none)
  | e + 1 => prSum G (prF G W (some (prS W e)))
def nots : Nat → Nat → Nat → Nat × Nat
  | 0, p, c => (p, c)
  | n + 1, p, c => if isWd G p [110, 111, 116] = true then nots n (tE G p) (c + 1) else (p, c)
def prCmp (sum : Nat → Nat → pR) (p k : Nat) : pR := match sum p k with
  | (q, none) => (q, none)
  | (q, some a) => match cmpOp G q.1 with
    | none => (q, none)
    | some o => match sum (tE G q.1) q.2 with
      | (q2, none) => (q2, none)
      | (q2, some b) => (q2, some (pTwo o a b))
def prPn (tst : Option (Nat → Nat → pR)) (sum : Nat → Nat → pR) (p k : Nat) : pR :=
  if isSg G p 40 = true then (match tst with
    | none => ((p, k), none)
    | some t => match t (tE G p) k with
      | (q, none) => (q, none)
      | (q, some a) => if isSg G q.1 41 = true then ((tE G q.1, q.2), some a) else (q, none)) else prCmp G sum p k
def prPl (tst : Option (Nat → Nat → pR)) (sum : Nat → Nat → pR) (p k : Nat) : pR := match prPn G tst sum (nots G 400 p 0).1 k with
  | (q, none) => (q, none)
  | (q, some a) => (q, some (pNot (nots G 400 p 0).2 a))
def andOp (p : Nat) : Option Nat := if isWd G p [97, 110, 100] = true then some 0 else none
def orOp (p : Nat) : Option Nat := if isWd G p [111, 114] = true then some 1 else none
def prTst (pl : Nat → Nat → pR) : Nat → Nat → pR := rowP G (orOp G) (rowP G (andOp G) pl pJmp) pJmp
def prT (W : List (List Nat × Nat × Nat × Option Nat)) : Nat → Nat → Nat → pR
  | 0 => prTst G (prPl G none (prS G W 0))
  | e + 1 => prTst G (prPl G (some (prT W e)) (prS G W (e + 1)))
end PP
