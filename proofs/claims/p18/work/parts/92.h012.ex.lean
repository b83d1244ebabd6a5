/-! RUNNING WHAT WAS READ, ON PAPER. none: it can't go on; some none: broken; the pile's top is its first -/
abbrev xR : Type := Option (Option (List Int))
/-- the class's steps; wl: how many words there are -/
def cSt (code : Nat → Nat × Nat) (e : Nat → Int) (wl hi : Nat) (go : Nat → List Int → xR) (k : Nat) (st : List Int) : xR := if hi ≤ k then some (some st) else
    if (code k).1 ≤ 1 then (if 51 ≤ st.length ∨ ((code k).1 = 1 ∧ wl ≤ (code k).2) then some none else go (k + 1) ((if (code k).1 = 0 then ((code k).2 : Int) else e (code k).2) :: st))
    else match st with
      | [] => none
      | x :: st1 => if (code k).1 = 10 then go (k + 1) ((1 - x) :: st1)
        else if 11 ≤ (code k).1 then (if x = (if (code k).1 = 11 then 1 else 0) then go (max (k + 1) (code k).2) (x :: st1) else go (k + 1) st1)
        else match st1 with
          | [] => none
          | y :: st2 => match opD (code k).1 y x with
            | none => some none
            | some v => go (k + 1) (v :: st2)
def cEx (code : Nat → Nat × Nat) (e : Nat → Int) (wl hi : Nat) : Nat → Nat → List Int → xR
  | 0 => fun _ st => some (some st)
  | n + 1 => cSt code e wl hi (cEx code e wl hi n)
/-- the reference's -/
def rSt (code : Nat → Nat × Nat) (e : Nat → Nat → Int) (hi : Nat) (go : Nat → List Int → xR) (k : Nat) (st : List Int) : xR := if hi ≤ k then some (some st) else
    if (code k).1 < 20 then go (k + 1) (e (code k).1 (code k).2 :: st)
    else match st with
      | [] => none
      | x :: st1 => if (code k).1 = 28 then go (k + 1) ((1 - x) :: st1)
        else if 29 ≤ (code k).1 then (if x = (if (code k).1 = 29 then 0 else 1) then go (max (k + 1) (code k).2) (x :: st1) else go (k + 1) st1)
        else match st1 with
          | [] => none
          | y :: st2 => match opD ((code k).1 - 18) y x with
            | none => some none
            | some v => go (k + 1) (v :: st2)
def rEx (code : Nat → Nat × Nat) (e : Nat → Nat → Int) (hi : Nat) : Nat → Nat → List Int → xR
  | 0 => fun _ st => some (some st)
  | n + 1 => rSt code e hi (rEx code e hi n)
theorem cEx_s {code : Nat → Nat × Nat} {e : Nat → Int} {wl hi n k : Nat} {st : List Int} : cEx code e wl hi (n + 1) k st = cSt code e wl hi (cEx code e wl hi n) k st := rfl
theorem rEx_s {code : Nat → Nat × Nat} {e : Nat → Nat → Int} {hi n k : Nat} {st : List Int} : rEx code e hi (n + 1) k st = rSt code e hi (rEx code e hi n) k st := rfl
theorem cSt_congr {code : Nat → Nat × Nat} {e : Nat → Int} {wl hi : Nat} {go go' : Nat → List Int → xR} {k : Nat} {st : List Int} (ih : k < hi → ∀ k' st, k < k' → go k' st = go' k' st) : cSt code e wl hi go k st = cSt code e wl hi go' k st := by
  by_cases c : hi ≤ k
  · unfold cSt
    rw [if_pos c, if_pos c]
  · have ih := ih (by omega)
    have h1 : ∀ st, go (k + 1) st = go' (k + 1) st := fun st => ih _ _ (by omega)
    have h2 : ∀ st, go (max (k + 1) (code k).2) st = go' (max (k + 1) (code k).2) st := fun st => ih _ _ (by omega)
    unfold cSt
    simp only [h1, h2]
theorem rSt_congr {code : Nat → Nat × Nat} {e : Nat → Nat → Int} {hi : Nat} {go go' : Nat → List Int → xR} {k : Nat} {st : List Int} (ih : k < hi → ∀ k' st, k < k' → go k' st = go' k' st) : rSt code e hi go k st = rSt code e hi go' k st := by
  by_cases c : hi ≤ k
  · unfold rSt
    rw [if_pos c, if_pos c]
  · have ih := ih (by omega)
    have h1 : ∀ st, go (k + 1) st = go' (k + 1) st := fun st => ih _ _ (by omega)
    have h2 : ∀ st, go (max (k + 1) (code k).2) st = go' (max (k + 1) (code k).2) st := fun st => ih _ _ (by omega)
    unfold rSt
    simp only [h1, h2]
theorem cEx_hi {code : Nat → Nat × Nat} {e : Nat → Int} {wl hi : Nat} : ∀ (n k : Nat) (st : List Int), hi ≤ k → cEx code e wl hi n k st = some (some st)
  | 0, _, _, _ => rfl
  | n + 1, k, st, h => by
    rw [cEx_s]
    unfold cSt
    rw [if_pos h]
theorem cEx_fuel {code : Nat → Nat × Nat} {e : Nat → Int} {wl hi : Nat} : ∀ (n m k : Nat) (st : List Int), hi ≤ k + n → hi ≤ k + m → cEx code e wl hi n k st = cEx code e wl hi m k st
  | 0, m, k, st, h, _ => by rw [cEx_hi m k st (by omega)]; rfl
  | n + 1, 0, k, st, _, h => by rw [cEx_hi (n + 1) k st (by omega)]; rfl
  | n + 1, m + 1, k, st, h1, h2 => by
    rw [cEx_s, cEx_s]
    exact cSt_congr (fun _ k' st hk => cEx_fuel n m k' st (by omega) (by omega))
theorem rEx_hi {code : Nat → Nat × Nat} {e : Nat → Nat → Int} {hi : Nat} : ∀ (n k : Nat) (st : List Int), hi ≤ k → rEx code e hi n k st = some (some st)
  | 0, _, _, _ => rfl
  | n + 1, k, st, h => by
    rw [rEx_s]
    unfold rSt
    rw [if_pos h]
theorem rEx_fuel {code : Nat → Nat × Nat} {e : Nat → Nat → Int} {hi : Nat} : ∀ (n m k : Nat) (st : List Int), hi ≤ k + n → hi ≤ k + m → rEx code e hi n k st = rEx code e hi m k st
  | 0, m, k, st, h, _ => by rw [rEx_hi m k st (by omega)]; rfl
  | n + 1, 0, k, st, _, h => by rw [rEx_hi (n + 1) k st (by omega)]; rfl
  | n + 1, m + 1, k, st, h1, h2 => by
    rw [rEx_s, rEx_s]
    exact rSt_congr (fun _ k' st hk => rEx_fuel n m k' st (by omega) (by omega))
/-- the run from k with enough before it -/
def cRn (code : Nat → Nat × Nat) (e : Nat → Int) (wl hi k : Nat) (st : List Int) : xR := cEx code e wl hi (hi - k) k st
def rRn (code : Nat → Nat × Nat) (e : Nat → Nat → Int) (hi k : Nat) (st : List Int) : xR := rEx code e hi (hi - k) k st
def codeAt (code : Nat → Nat × Nat) (n : Nat) (l : List (Nat × Nat)) : Prop := ∀ i, (h : i < l.length) → code (n + i) = l[i]
theorem codeAt.l {code : Nat → Nat × Nat} {n : Nat} {l l' : List (Nat × Nat)} (h : codeAt code n (l ++ l')) : codeAt code n l := fun i hi => by
  rw [h i (by rw [List.length_append]; omega), List.getElem_append_left hi]
theorem codeAt.r {code : Nat → Nat × Nat} {n : Nat} {l l' : List (Nat × Nat)} (h : codeAt code n (l ++ l')) : codeAt code (n + l.length) l' := fun i hi => by
  rw [Nat.add_assoc, h (l.length + i) (by rw [List.length_append]; omega), List.getElem_append_right (by omega)]
  congr 1
  omega
theorem codeAt.one {code : Nat → Nat × Nat} {n : Nat} {x : Nat × Nat} (h : codeAt code n [x]) : code n = x := h 0 (by simp)
section EX
variable {code : Nat → Nat × Nat} {e : Nat → Int} {eR : Nat → Nat → Int} {wl hi k n : Nat} {st : List Int}
theorem cRn_leaf (hk : k < hi) (h0 : (code k).1 ≤ 1) (hs : st.length < 51) (hw : (code k).1 = 1 → (code k).2 < wl) : cRn code e wl hi k st = cRn code e wl hi (k + 1) ((if (code k).1 = 0 then ((code k).2 : Int) else e (code k).2) :: st) := by
  unfold cRn
  rw [show hi - k = (hi - (k + 1)) + 1 by omega, cEx_s]
  unfold cSt
  rw [if_neg (by omega), if_pos h0, if_neg (fun z => z.elim (fun z => by omega) (fun z => by have := hw z.1; omega))]
theorem cRn_not {x : Int} (hk : k < hi) (h0 : (code k).1 = 10) : cRn code e wl hi k (x :: st) = cRn code e wl hi (k + 1) ((1 - x) :: st) := by
  unfold cRn
  rw [show hi - k = (hi - (k + 1)) + 1 by omega, cEx_s]
  unfold cSt
  rw [if_neg (by omega), if_neg (by omega)]
  dsimp only
  rw [if_pos h0]
theorem cRn_op {x y : Int} (hk : k < hi) (h0 : 2 ≤ (code k).1 ∧ (code k).1 < 10) : cRn code e wl hi k (x :: y :: st) = match opD (code k).1 y x with
    | none => some none
    | some v => cRn code e wl hi (k + 1) (v :: st) := by
  unfold cRn
  rw [show hi - k = (hi - (k + 1)) + 1 by omega, cEx_s]
  unfold cSt
  rw [if_neg (by omega), if_neg (by omega)]
  dsimp only
  rw [if_neg (by omega), if_neg (by omega)]
theorem cRn_skip {x : Int} (hk : k < hi) (h0 : (code k).1 = 11 ∨ (code k).1 = 12) (ht : k < (code k).2) : cRn code e wl hi k (x :: st) = if x = (if (code k).1 = 11 then 1 else 0) then cRn code e wl hi (code k).2 (x :: st) else cRn code e wl hi (k + 1) st := by
  unfold cRn
  rw [show hi - k = (hi - (k + 1)) + 1 by omega, cEx_s]
  unfold cSt
  rw [if_neg (by omega), if_neg (by omega)]
  dsimp only
  rw [if_neg (by omega), if_pos (by omega), show max (k + 1) (code k).2 = (code k).2 by omega]
  rw [cEx_fuel (hi - (k + 1)) (hi - (code k).2) _ _ (by omega) (by omega)]
theorem rRn_leaf (hk : k < hi) (h0 : (code k).1 < 20) : rRn code eR hi k st = rRn code eR hi (k + 1) (eR (code k).1 (code k).2 :: st) := by
  unfold rRn
  rw [show hi - k = (hi - (k + 1)) + 1 by omega, rEx_s]
  unfold rSt
  rw [if_neg (by omega), if_pos h0]
theorem rRn_not {x : Int} (hk : k < hi) (h0 : (code k).1 = 28) : rRn code eR hi k (x :: st) = rRn code eR hi (k + 1) ((1 - x) :: st) := by
  unfold rRn
  rw [show hi - k = (hi - (k + 1)) + 1 by omega, rEx_s]
  unfold rSt
  rw [if_neg (by omega), if_neg (by omega)]
  dsimp only
  rw [if_pos h0]
theorem rRn_op {x y : Int} (hk : k < hi) (h0 : 20 ≤ (code k).1 ∧ (code k).1 < 28) : rRn code eR hi k (x :: y :: st) = match opD ((code k).1 - 18) y x with
    | none => some none
    | some v => rRn code eR hi (k + 1) (v :: st) := by
  unfold rRn
  rw [show hi - k = (hi - (k + 1)) + 1 by omega, rEx_s]
  unfold rSt
  rw [if_neg (by omega), if_neg (by omega)]
  dsimp only
  rw [if_neg (by omega), if_neg (by omega)]
theorem rRn_skip {x : Int} (hk : k < hi) (h0 : (code k).1 = 29 ∨ (code k).1 = 30) (ht : k < (code k).2) : rRn code eR hi k (x :: st) = if x = (if (code k).1 = 29 then 0 else 1) then rRn code eR hi (code k).2 (x :: st) else rRn code eR hi (k + 1) st := by
  unfold rRn
  rw [show hi - k = (hi - (k + 1)) + 1 by omega, rEx_s]
  unfold rSt
  rw [if_neg (by omega), if_neg (by omega)]
  dsimp only
  rw [if_neg (by omega), if_pos (by omega), show max (k + 1) (code k).2 = (code k).2 by omega]
  rw [rEx_fuel (hi - (k + 1)) (hi - (code k).2) _ _ (by omega) (by omega)]
end EX
/-- what was made runs as it means: the class's with l leaves, the reference's -/
def cOk (wl l : Nat) (a : pA) : Prop := ∀ (code : Nat → Nat × Nat) (n hi : Nat) (e : Nat → Int) (st : List Int), codeAt code n (a.1 n) → n + (a.1 n).length ≤ hi → st.length + l ≤ 51 → cRn code e wl hi n st = match a.2.2 e with
  | none => some none
  | some v => cRn code e wl hi (n + (a.1 n).length) (v :: st)
/-- the words' values are alike -/
def lnk (W : List (List Nat × Nat × Nat × Option Nat)) (e : Nat → Int) (eR : Nat → Nat → Int) : Prop := (∀ v, eR 0 v = v) ∧ ∀ w ∈ W, (∀ mx, w.2.2.2 = some mx → ∀ v, v ≤ mx → eR w.2.2.1 v = e (w.2.1 + v)) ∧ (w.2.2.2 = none → eR w.2.2.1 0 = e w.2.1)
def rOk (W : List (List Nat × Nat × Nat × Option Nat)) (a : pA) : Prop := ∀ (code : Nat → Nat × Nat) (n hi : Nat) (e : Nat → Int) (eR : Nat → Nat → Int) (st : List Int), lnk W e eR → codeAt code n (a.2.1 n) → n + (a.2.1 n).length ≤ hi → rRn code eR hi n st = match a.2.2 e with
  | none => some none
  | some v => rRn code eR hi (n + (a.2.1 n).length) (v :: st)
theorem cOk_two {wl l l' o : Nat} {a b : pA} (ho : 2 ≤ o ∧ o < 10) (ha : cOk wl l a) (hb : cOk wl l' b) (hl : 1 ≤ l) : cOk wl (l + l') (pTwo o a b) := by
  intro code n hi e st hc hn hs
  have c1 := hc.l.l
  have c2 := hc.l.r
  have c3 := hc.r.one
  have len : ((pTwo o a b).1 n).length = (a.1 n).length + (b.1 (n + (a.1 n).length)).length + 1 := by simp [pTwo]; omega
  rw [len] at hn ⊢
  rw [List.length_append, ← Nat.add_assoc] at c3
  rw [ha code n hi e st c1 (by omega) (by omega)]
  show _ = match (match a.2.2 e with
    | none => none
    | some x => match b.2.2 e with
      | none => none
      | some y => opD o x y) with
    | none => some none
    | some v => cRn code e wl hi _ (v :: st)
  cases a.2.2 e with
  | none => rfl
  | some x =>
    dsimp only
    rw [hb code _ hi e (x :: st) c2 (by omega) (by rw [List.length_cons]; omega)]
    cases b.2.2 e with
    | none => rfl
    | some y =>
      dsimp only
      rw [cRn_op (by omega) (by rw [c3]; exact ho), c3]
      dsimp only
      cases opD o x y with
      | none => rfl
      | some v =>
        dsimp only
        rw [show n + (a.1 n).length + (b.1 (n + (a.1 n).length)).length + 1 = n + ((a.1 n).length + (b.1 (n + (a.1 n).length)).length + 1) by omega]
theorem rOk_two {W : List (List Nat × Nat × Nat × Option Nat)} {o : Nat} {a b : pA} (ho : 2 ≤ o ∧ o < 10) (ha : rOk W a) (hb : rOk W b) : rOk W (pTwo o a b) := by
  intro code n hi e eR st hW hc hn
  have c1 := hc.l.l
  have c2 := hc.l.r
  have c3 := hc.r.one
  have len : ((pTwo o a b).2.1 n).length = (a.2.1 n).length + (b.2.1 (n + (a.2.1 n).length)).length + 1 := by simp [pTwo]; omega
  rw [len] at hn ⊢
  rw [List.length_append, ← Nat.add_assoc] at c3
  rw [ha code n hi e eR st hW c1 (by omega)]
  show _ = match (match a.2.2 e with
    | none => none
    | some x => match b.2.2 e with
      | none => none
      | some y => opD o x y) with
    | none => some none
    | some v => rRn code eR hi _ (v :: st)
  cases a.2.2 e with
  | none => rfl
  | some x =>
    dsimp only
    rw [hb code _ hi e eR (x :: st) hW c2 (by omega)]
    cases b.2.2 e with
    | none => rfl
    | some y =>
      dsimp only
      rw [rRn_op (by omega) (by rw [c3]; unfold rOp; dsimp only; omega), c3]
      unfold rOp
      dsimp only
      rw [show o + 18 - 18 = o by omega]
      cases opD o x y with
      | none => rfl
      | some v =>
        dsimp only
        rw [show n + (a.2.1 n).length + (b.2.1 (n + (a.2.1 n).length)).length + 1 = n + ((a.2.1 n).length + (b.2.1 (n + (a.2.1 n).length)).length + 1) by omega]
theorem cOk_jmp {wl l l' s : Nat} {a b : pA} (hs : s < 2) (ha : cOk wl l a) (hb : cOk wl l' b) : cOk wl (l + l') (pJmp s a b) := by
  intro code n hi e st hc hn hst
  have c1 := hc.l.l
  have c2 := hc.l.r.one
  have c3 := hc.r
  have len : ((pJmp s a b).1 n).length = (a.1 n).length + 1 + (b.1 (n + (a.1 n).length + 1)).length := by simp [pJmp]; omega
  rw [len] at hn ⊢
  rw [List.length_append, ← Nat.add_assoc, List.length_singleton] at c3
  rw [ha code n hi e st c1 (by omega) (by omega)]
  show _ = match (match a.2.2 e with
    | none => none
    | some x => if x = s then some x else b.2.2 e) with
    | none => some none
    | some v => cRn code e wl hi _ (v :: st)
  cases a.2.2 e with
  | none => rfl
  | some x =>
    dsimp only
    have hs2 : s = 0 ∨ s = 1 := by omega
    rw [cRn_skip (by omega) (by rw [c2]; dsimp only; omega) (by rw [c2]; dsimp only; omega), c2]
    dsimp only
    have ee : (if 12 - s = 11 then (1 : Int) else 0) = (s : Int) := by
      rcases hs2 with rfl | rfl
      · rfl
      · rfl
    rw [ee]
    by_cases c : x = s
    · rw [if_pos c, if_pos c]
      dsimp only
      rw [show n + (a.1 n).length + 1 + (b.1 (n + (a.1 n).length + 1)).length = n + ((a.1 n).length + 1 + (b.1 (n + (a.1 n).length + 1)).length) by omega]
    · rw [if_neg c, if_neg c, hb code _ hi e st c3 (by omega) (by omega)]
      cases b.2.2 e with
      | none => rfl
      | some y =>
        dsimp only
        rw [show n + (a.1 n).length + 1 + (b.1 (n + (a.1 n).length + 1)).length = n + ((a.1 n).length + 1 + (b.1 (n + (a.1 n).length + 1)).length) by omega]
theorem rOk_jmp {W : List (List Nat × Nat × Nat × Option Nat)} {s : Nat} {a b : pA} (hs : s < 2) (ha : rOk W a) (hb : rOk W b) : rOk W (pJmp s a b) := by
  intro code n hi e eR st hW hc hn
  have c1 := hc.l.l
  have c2 := hc.l.r.one
  have c3 := hc.r
  have len : ((pJmp s a b).2.1 n).length = (a.2.1 n).length + 1 + (b.2.1 (n + (a.2.1 n).length + 1)).length := by simp [pJmp]; omega
  rw [len] at hn ⊢
  rw [List.length_append, ← Nat.add_assoc, List.length_singleton] at c3
  rw [ha code n hi e eR st hW c1 (by omega)]
  show _ = match (match a.2.2 e with
    | none => none
    | some x => if x = s then some x else b.2.2 e) with
    | none => some none
    | some v => rRn code eR hi _ (v :: st)
  cases a.2.2 e with
  | none => rfl
  | some x =>
    dsimp only
    have hs2 : s = 0 ∨ s = 1 := by omega
    rw [rRn_skip (by omega) (by rw [c2]; dsimp only; omega) (by rw [c2]; dsimp only; omega), c2]
    dsimp only
    have ee : (if 29 + s = 29 then (0 : Int) else 1) = (s : Int) := by
      rcases hs2 with rfl | rfl
      · rfl
      · rfl
    rw [ee]
    by_cases c : x = s
    · rw [if_pos c, if_pos c]
      dsimp only
      rw [show n + (a.2.1 n).length + 1 + (b.2.1 (n + (a.2.1 n).length + 1)).length = n + ((a.2.1 n).length + 1 + (b.2.1 (n + (a.2.1 n).length + 1)).length) by omega]
    · rw [if_neg c, if_neg c, hb code _ hi e eR st hW c3 (by omega)]
      cases b.2.2 e with
      | none => rfl
      | some y =>
        dsimp only
        rw [show n + (a.2.1 n).length + 1 + (b.2.1 (n + (a.2.1 n).length + 1)).length = n + ((a.2.1 n).length + 1 + (b.2.1 (n + (a.2.1 n).length + 1)).length) by omega]
theorem cOk_not {wl l c : Nat} {a : pA} (ha : cOk wl l a) : cOk wl l (pNot c a) := by
  intro code n hi e st hc hn hst
  by_cases z : c % 2 = 1
  · have e1 : (pNot c a).1 n = a.1 n ++ [(10, 0)] := if_pos z
    have e2 : (pNot c a).2.2 e = match a.2.2 e with
      | none => none
      | some x => some (1 - x) := by
      show (match a.2.2 e with
        | none => none
        | some x => if c % 2 = 1 then some (1 - x) else some x) = _
      cases a.2.2 e with
      | none => rfl
      | some x => dsimp only; rw [if_pos z]
    rw [e1] at hc hn ⊢
    rw [e2]
    rw [List.length_append] at hn ⊢
    have c2 := hc.r.one
    rw [ha code n hi e st hc.l (by omega) hst]
    cases a.2.2 e with
    | none => rfl
    | some x =>
      dsimp only
      rw [cRn_not (by simp at hn; omega) (by rw [c2])]
      rfl
  · have e1 : (pNot c a).1 n = a.1 n := if_neg z
    have e2 : (pNot c a).2.2 e = a.2.2 e := by
      show (match a.2.2 e with
        | none => none
        | some x => if c % 2 = 1 then some (1 - x) else some x) = _
      cases a.2.2 e with
      | none => rfl
      | some x => dsimp only; rw [if_neg z]
    rw [e1] at hc hn ⊢
    rw [e2]
    exact ha code n hi e st hc hn hst
theorem rRn_nots {code : Nat → Nat × Nat} {eR : Nat → Nat → Int} {hi : Nat} {st : List Int} : ∀ (c n : Nat) (x : Int), codeAt code n (List.replicate c (28, 0)) → n + c ≤ hi → rRn code eR hi n (x :: st) = rRn code eR hi (n + c) ((if c % 2 = 1 then 1 - x else x) :: st)
  | 0, n, x, _, _ => rfl
  | c + 1, n, x, h, hn => by
    have h0 : code n = (28, 0) := by
      have := h 0 (by simp)
      simpa using this
    have h1 : codeAt code (n + 1) (List.replicate c (28, 0)) := fun i hi => by
      have := h (i + 1) (by simp at hi ⊢; omega)
      rw [show n + 1 + i = n + (i + 1) by omega, this]
      simp
    rw [rRn_not (by omega) (by rw [h0]), rRn_nots c (n + 1) (1 - x) h1 (by omega), show n + 1 + c = n + (c + 1) by omega]
    by_cases z : c % 2 = 1
    · rw [if_pos z, if_neg (by omega), show (1 : Int) - (1 - x) = x by omega]
    · rw [if_neg z, if_pos (by omega)]
theorem rOk_not {W : List (List Nat × Nat × Nat × Option Nat)} {c : Nat} {a : pA} (ha : rOk W a) : rOk W (pNot c a) := by
  intro code n hi e eR st hW hc hn
  have e1 : (pNot c a).2.1 n = a.2.1 n ++ List.replicate c (28, 0) := rfl
  rw [e1] at hc hn ⊢
  rw [List.length_append, List.length_replicate] at hn ⊢
  rw [ha code n hi e eR st hW hc.l (by omega)]
  show _ = match (match a.2.2 e with
    | none => none
    | some x => if c % 2 = 1 then some (1 - x) else some x) with
    | none => some none
    | some v => rRn code eR hi _ (v :: st)
  cases a.2.2 e with
  | none => rfl
  | some x =>
    dsimp only
    rw [rRn_nots c _ x hc.r (by omega), Nat.add_assoc]
    by_cases z : c % 2 = 1
    · rw [if_pos z, if_pos z]
    · rw [if_neg z, if_neg z]
theorem cOk_num {wl v : Nat} : cOk wl 1 (pNum v) := by
  intro code n hi e st hc hn hst
  have c0 := codeAt.one (x := (0, v)) hc
  have hn : n + 1 ≤ hi := hn
  rw [cRn_leaf (by omega) (by rw [c0]; dsimp only; omega) (by omega) (by rw [c0]; intro z; cases z), c0]
  rfl
theorem rOk_num {W : List (List Nat × Nat × Nat × Option Nat)} {v : Nat} : rOk W (pNum v) := by
  intro code n hi e eR st hW hc hn
  have c0 := codeAt.one (x := (0, v)) hc
  have hn : n + 1 ≤ hi := hn
  rw [rRn_leaf (by omega) (by rw [c0]; dsimp only; omega), c0]
  dsimp only
  rw [hW.1]
  rfl
theorem cOk_wd {wl w ro ra : Nat} (hw : w < wl) : cOk wl 1 (pWrd w ro ra) := by
  intro code n hi e st hc hn hst
  have c0 := codeAt.one (x := (1, w)) hc
  have hn : n + 1 ≤ hi := hn
  rw [cRn_leaf (by omega) (by rw [c0]; dsimp only; omega) (by omega) (by rw [c0]; intro _; exact hw), c0]
  rfl
theorem rOk_wd {W : List (List Nat × Nat × Nat × Option Nat)} {w ro ra : Nat} (hr : ro < 20) (h : ∀ e eR, lnk W e eR → eR ro ra = e w) : rOk W (pWrd w ro ra) := by
  intro code n hi e eR st hW hc hn
  have c0 := codeAt.one (x := (ro, ra)) hc
  have hn : n + 1 ≤ hi := hn
  rw [rRn_leaf (by omega) (by rw [c0]; exact hr), c0]
  dsimp only
  rw [h e eR hW]
  rfl
