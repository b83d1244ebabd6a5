/-! WHOLE TEXTS, ON PAPER. A clause of a law: its head, its sum, its test -/
abbrev pCl : Type := Nat × Option pA × Option pA
/-- the heads' bytes: tires costs worth opens bars -/
def hdW : List (List Nat × Nat) := [([116, 105, 114, 101, 115], 0), ([99, 111, 115, 116, 115], 1), ([119, 111, 114, 116, 104], 2), ([111, 112, 101, 110, 115], 3), ([98, 97, 114, 115], 4)]
/-- the acts' bytes: ring sell die pass -/
def acW : List (List Nat × Nat) := [([114, 105, 110, 103], 0), ([115, 101, 108, 108], 1), ([100, 105, 101], 2), ([112, 97, 115, 115], 3)]
def whW (G : pG) (W : List (List Nat × Nat)) (p : Nat) : Option Nat := (W.find? (fun w => isWd G p w.1)).map (·.2)
abbrev oR : Type := (Nat × Nat) × Option (Option pA)
def opt (r : pR) : oR := match r with
  | (q, none) => (q, none)
  | (q, some a) => (q, some (some a))
def wIf : List Nat := [105, 102]
section TX
variable (G : pG)
/-- "if" and a test, if "if" stands there -/
def prIf (W : List (List Nat × Nat × Nat × Option Nat)) (p k : Nat) : oR := if isWd G p wIf = true then opt (prT G W 8 (tE G p) k) else ((p, k), some none)
/-- a law's clause behind its sum -/
def lwT (h : Nat) (sm : oR) : (Nat × Nat) × Option pCl := match sm with
  | (q, none) => (q, none)
  | (q, some s) => match prIf G lwW q.1 q.2 with
    | (r, none) => (r, none)
    | (r, some t) => (r, some (h, s, t))
def prLaw (p k : Nat) : (Nat × Nat) × Option pCl := match whW G hdW p with
  | none => ((p, k), none)
  | some h => lwT G h (if h < 3 then opt (prS G lwW 8 (tE G p) k) else ((tE G p, k), some none))
/-- clauses with ";" between, n at most -/
def prTx {α : Type} (cl : Nat → Nat → (Nat × Nat) × Option α) : Nat → Nat → Nat → List α → (Nat × Nat) × Option (List α)
  | 0, p, k, _ => ((p, k), none)
  | n + 1, p, k, acc => match cl p k with
    | (q, none) => (q, none)
    | (q, some c) => if tK G q.1 = 0 then (q, some (acc ++ [c])) else if isSg G q.1 59 = true then prTx cl n (tE G q.1) q.2 (acc ++ [c]) else (q, none)
def lawTx : (Nat × Nat) × Option (List pCl) := prTx G (prLaw G) 12 0 0 []
/-- a clause of orders: its act, three sums, how often, its test -/
abbrev pOr : Type := Nat × (Option pA × Option pA × Option pA) × Nat × Option pA
/-- a word, then a sum -/
def prNx (w : List Nat) (p k : Nat) : oR := if isWd G p w = true then opt (prS G orW 8 (tE G p) k) else ((p, k), none)
def wTimes : List Nat := [116, 105, 109, 101, 115]
def prTm (p k : Nat) : (Nat × Nat) × Option Nat := if isWd G p wTimes = true then (if isNm G (tE G p) 1 20 = true then ((tE G (tE G p), k), some (nV G (tE G p))) else ((tE G p, k), none)) else ((p, k), some 1)
def prOrd (p k : Nat) : (Nat × Nat) × Option pOr := match whW G acW p with
  | none => ((p, k), none)
  | some h => match (if h < 3 then opt (prS G orW 8 (tE G p) k) else ((tE G p, k), some none) : oR) with
    | (q, none) => (q, none)
    | (q, some s0) => match (if h = 0 then prNx G [97, 116] q.1 q.2 else if h = 1 then prNx G [116, 111] q.1 q.2 else (q, some none) : oR) with
      | (q, none) => (q, none)
      | (q, some s1) => match (if h = 1 then prNx G [111, 102] q.1 q.2 else (q, some none) : oR) with
        | (q, none) => (q, none)
        | (q, some s2) => match prTm G q.1 q.2 with
          | (q, none) => (q, none)
          | (q, some n) => match prIf G orW q.1 q.2 with
            | (r, none) => (r, none)
            | (r, some t) => (r, some (h, (s0, s1, s2), n, t))
def ordTx : (Nat × Nat) × Option (List pOr) := prTx G (prOrd G) 12 0 0 []
end TX
/-- the code of what may be missing, from n on: the class's, the reference's -/
def oC (a : Option pA) (n : Nat) : List (Nat × Nat) := match a with
  | none => []
  | some a => a.1 n
def oR' (a : Option pA) (n : Nat) : List (Nat × Nat) := match a with
  | none => []
  | some a => a.2.1 n
/-- a clause's code as the reference has it -/
def rCl (c : pCl) (n : Nat) : List (Nat × Nat) := oR' c.2.1 n ++ oR' c.2.2 (n + (oR' c.2.1 n).length)
def rAll : List pCl → Nat → List (Nat × Nat)
  | [], _ => []
  | c :: cs, n => rCl c n ++ rAll cs (n + (rCl c n).length)
theorem rAll_app : ∀ (cs : List pCl) (c : pCl) (n : Nat), rAll (cs ++ [c]) n = rAll cs n ++ rCl c (n + (rAll cs n).length)
  | [], c, n => by simp [rAll]
  | d :: cs, c, n => by
    show rCl d n ++ rAll (cs ++ [c]) _ = rCl d n ++ rAll cs _ ++ _
    rw [rAll_app cs c, List.append_assoc]
    congr 2
    simp [rAll, Nat.add_assoc]
/-- where the parts of its clauses lie: from, middle, to -/
def rMk : List pCl → Nat → List (Nat × Nat × Nat × Nat)
  | [], _ => []
  | c :: cs, n => (c.1, n, n + (oR' c.2.1 n).length, n + (rCl c n).length) :: rMk cs (n + (rCl c n).length)
theorem rMk_app : ∀ (cs : List pCl) (c : pCl) (n : Nat), rMk (cs ++ [c]) n = rMk cs n ++ [(c.1, n + (rAll cs n).length, n + (rAll cs n).length + (oR' c.2.1 (n + (rAll cs n).length)).length, n + (rAll cs n).length + (rCl c (n + (rAll cs n).length)).length)]
  | [], c, n => by simp [rMk, rAll]
  | d :: cs, c, n => by
    show _ :: rMk (cs ++ [c]) _ = _ :: rMk cs _ ++ _
    rw [rMk_app cs c]
    simp [rAll, Nat.add_assoc]
theorem rMk_len : ∀ (cs : List pCl) (n : Nat), (rMk cs n).length = cs.length
  | [], _ => rfl
  | c :: cs, n => by
    show (rMk cs _).length + 1 = cs.length + 1
    rw [rMk_len cs]
