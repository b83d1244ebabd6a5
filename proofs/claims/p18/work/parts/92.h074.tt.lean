/-! A TEST COMES TO 0 OR 1 -/
def Tst (a : pA) : Prop := (∀ e v, a.2.2 e = some v → v = 0 ∨ v = 1) ∧ ∀ n, 1 ≤ (a.2.1 n).length
section TT
variable {G : pG} {W : List (List Nat × Nat × Nat × Option Nat)}
theorem rowL_P {P : pA → Prop} {op : Nat → Option Nat} {sub : Nat → Nat → pR} {cb : Nat → pA → pA → pA} (hs : ∀ p k q a, sub p k = (q, some a) → P a) (hc : ∀ o a b, P a → P b → P (cb o a b)) : ∀ (n p k : Nat) (a : pA), P a → ∀ q b, rowL G op sub cb n p k a = (q, some b) → P b
  | 0, p, k, a, ha, q, b, e => by
    rw [rowL] at e
    cases e
    exact ha
  | n + 1, p, k, a, ha, q, b, e => by
    rw [rowL] at e
    cases eo : op p with
    | none => rw [eo] at e; cases e; exact ha
    | some o =>
      rw [eo] at e
      dsimp only at e
      cases es : sub (tE G p) k with
      | mk q2 c =>
        rw [es] at e
        cases c with
        | none => cases e
        | some c => exact rowL_P hs hc n q2.1 q2.2 _ (hc o a c ha (hs _ _ _ _ es)) q b e
theorem rowP_P {P : pA → Prop} {op : Nat → Option Nat} {sub : Nat → Nat → pR} {cb : Nat → pA → pA → pA} (hs : ∀ p k q a, sub p k = (q, some a) → P a) (hc : ∀ o a b, P a → P b → P (cb o a b)) : ∀ (p k : Nat) q b, rowP G op sub cb p k = (q, some b) → P b := by
  intro p k q b e
  unfold rowP at e
  cases es : sub p k with
  | mk q2 c =>
    rw [es] at e
    cases c with
    | none => cases e
    | some c => exact rowL_P hs hc 400 q2.1 q2.2 c (hs _ _ _ _ es) q b e
theorem T_jmp {s : Nat} {a b : pA} (ha : Tst a) (hb : Tst b) : Tst (pJmp s a b) := by
  refine ⟨fun e v h => ?_, fun n => ?_⟩
  · have h' : (match a.2.2 e with
      | none => none
      | some x => if x = s then some x else b.2.2 e) = some v := h
    cases ea : a.2.2 e with
    | none => rw [ea] at h'; cases h'
    | some x =>
      rw [ea] at h'
      dsimp only at h'
      split at h'
      · cases h'
        exact ha.1 e v ea
      · exact hb.1 e v h'
  · show 1 ≤ (a.2.1 n ++ [_] ++ b.2.1 _).length
    simp only [List.length_append, List.length_singleton]
    omega
theorem T_not {c : Nat} {a : pA} (ha : Tst a) : Tst (pNot c a) := by
  refine ⟨fun e v h => ?_, fun n => ?_⟩
  · have h' : (match a.2.2 e with
      | none => none
      | some x => if c % 2 = 1 then some (1 - x) else some x) = some v := h
    cases ea : a.2.2 e with
    | none => rw [ea] at h'; cases h'
    | some x =>
      rw [ea] at h'
      dsimp only at h'
      have hx := ha.1 e x ea
      split at h'
      · cases h'
        omega
      · cases h'
        exact hx
  · show 1 ≤ (a.2.1 n ++ List.replicate c (28, 0)).length
    have := ha.2 n
    rw [List.length_append]
    omega
theorem T_cmp {sum : Nat → Nat → pR} {p k : Nat} {q : Nat × Nat} {a : pA} (e : prCmp G sum p k = (q, some a)) : Tst a := by
  unfold prCmp at e
  cases e1 : sum p k with
  | mk q1 x =>
    rw [e1] at e
    cases x with
    | none => cases e
    | some x =>
      dsimp only at e
      cases eo : cmpOp G q1.1 with
      | none => rw [eo] at e; cases e
      | some o =>
        rw [eo] at e
        dsimp only at e
        cases e2 : sum (tE G q1.1) q1.2 with
        | mk q2 y =>
          rw [e2] at e
          cases y with
          | none => cases e
          | some y =>
            cases e
            have o789 : o = 7 ∨ o = 8 ∨ o = 9 := by
              unfold cmpOp at eo
              split at eo
              · cases eo; exact Or.inl rfl
              split at eo
              · cases eo; exact Or.inr (Or.inl rfl)
              split at eo
              · cases eo; exact Or.inr (Or.inr rfl)
              · cases eo
            refine ⟨fun e v h => ?_, fun n => ?_⟩
            · have h' : (match x.2.2 e with
                | none => none
                | some x' => match y.2.2 e with
                  | none => none
                  | some y' => opD o x' y') = some v := h
              cases ex : x.2.2 e with
              | none => rw [ex] at h'; cases h'
              | some x' =>
                rw [ex] at h'
                dsimp only at h'
                cases ey : y.2.2 e with
                | none => rw [ey] at h'; cases h'
                | some y' =>
                  rw [ey] at h'
                  dsimp only at h'
                  rcases o789 with rfl | rfl | rfl
                  · have h2 : some (if x' < y' then (1 : Int) else 0) = some v := h'
                    split at h2 <;> cases h2 <;> omega
                  · have h2 : some (if y' < x' then (1 : Int) else 0) = some v := h'
                    split at h2 <;> cases h2 <;> omega
                  · have h2 : some (if x' = y' then (1 : Int) else 0) = some v := h'
                    split at h2 <;> cases h2 <;> omega
            · show 1 ≤ (x.2.1 n ++ y.2.1 _ ++ [_]).length
              simp only [List.length_append, List.length_singleton]
              omega
theorem T_pl {tst : Option (Nat → Nat → pR)} {sum : Nat → Nat → pR} (ht : ∀ t, tst = some t → ∀ p k q a, t p k = (q, some a) → Tst a) {p k : Nat} {q : Nat × Nat} {a : pA} (e : prPl G tst sum p k = (q, some a)) : Tst a := by
  have pn : ∀ p k q a, prPn G tst sum p k = (q, some a) → Tst a := by
    intro p k q a e
    unfold prPn at e
    split at e
    · cases et : tst with
      | none => rw [et] at e; cases e
      | some t =>
        rw [et] at e
        dsimp only at e
        cases e1 : t (tE G p) k with
        | mk q1 x =>
          rw [e1] at e
          cases x with
          | none => cases e
          | some x =>
            dsimp only at e
            split at e
            · cases e
              exact ht t et _ _ _ _ e1
            · cases e
    · exact T_cmp e
  unfold prPl at e
  cases e1 : prPn G tst sum (nots G 400 p 0).1 k with
  | mk q1 x =>
    rw [e1] at e
    cases x with
    | none => cases e
    | some x =>
      cases e
      exact T_not (pn _ _ _ _ e1)
theorem T_tst {pl : Nat → Nat → pR} (h : ∀ p k q a, pl p k = (q, some a) → Tst a) : ∀ p k q a, prTst G pl p k = (q, some a) → Tst a := fun p k q a e => rowP_P (P := Tst) (fun p k q a e => rowP_P (P := Tst) h (fun o a b => T_jmp) p k q a e) (fun o a b => T_jmp) p k q a e
theorem T_prT : ∀ (n p k : Nat) q a, prT G W n p k = (q, some a) → Tst a
  | 0, p, k, q, a, e => T_tst (fun p k q a e => T_pl (fun t ht => by cases ht) e) p k q a e
  | n + 1, p, k, q, a, e => T_tst (fun p k q a e => T_pl (fun t ht => by cases ht; exact fun p k q a e => T_prT n p k q a e) e) p k q a e
theorem T_opt {r : pR} (h : ∀ a, r.2 = some a → Tst a) {q : Nat × Nat} {s : Option pA} (e : opt r = (q, some s)) : ∀ a, s = some a → Tst a := by
  intro a ha
  obtain ⟨q0, x⟩ := r
  cases x with
  | none => cases e
  | some x =>
    cases e
    exact h a ha
theorem T_if {p k : Nat} {q : Nat × Nat} {t : Option pA} (e : prIf G W p k = (q, some t)) : ∀ a, t = some a → Tst a := by
  unfold prIf at e
  split at e
  · refine T_opt (fun a ha => T_prT (G := G) (W := W) 8 (tE G p) k (prT G W 8 (tE G p) k).1 a ?_) e
    rw [← ha]
  · cases e
    intro a ha
    cases ha
theorem prTx_ok' {α : Type} {cl : Nat → Nat → (Nat × Nat) × Option α} {P : α → Prop} (hc : ∀ p k r c, cl p k = (r, some c) → P c) : ∀ (n p k : Nat) (acc : List α), (∀ c ∈ acc, P c) → ∀ r cs, prTx G cl n p k acc = (r, some cs) → ∀ c ∈ cs, P c
  | 0, p, k, acc, _, r, cs, e => by cases e
  | n + 1, p, k, acc, ha, r, cs, e => by
    rw [prTx] at e
    cases ec : cl p k with
    | mk q c =>
      rw [ec] at e
      cases c with
      | none => cases e
      | some c =>
        have h1 := hc p k q c ec
        have ha' : ∀ d ∈ acc ++ [c], P d := fun d hd => (List.mem_append.mp hd).elim (ha d) (fun z => by rw [List.mem_singleton.mp z]; exact h1)
        dsimp only at e
        split at e
        · cases e
          exact ha'
        · split at e
          · exact prTx_ok' hc n (tE G q.1) q.2 (acc ++ [c]) ha' r cs e
          · cases e
/-- the tests of a law, of orders -/
theorem T_law {p k : Nat} {r : Nat × Nat} {c : pCl} (e : prLaw G p k = (r, some c)) : ∀ a, c.2.2 = some a → Tst a := by
  unfold prLaw at e
  split at e
  · cases e
  · rename_i h hw
    generalize (if h < 3 then opt (prS G lwW 8 (tE G p) k) else ((tE G p, k), some none) : oR) = z at e
    obtain ⟨q, s⟩ := z
    cases s with
    | none => cases e
    | some s =>
      rw [lwT] at e
      cases ei : prIf G lwW q.1 q.2 with
      | mk r2 t =>
        rw [ei] at e
        cases t with
        | none => cases e
        | some t =>
          cases e
          exact T_if ei
theorem lawTx_T {r : Nat × Nat} {cs : List pCl} (e : lawTx G = (r, some cs)) : ∀ c ∈ cs, ∀ a, c.2.2 = some a → Tst a :=
  (prTx_ok' (P := fun c : pCl => ∀ a, c.2.2 = some a → Tst a) (fun p k r c e => T_law e) 12 0 0 [] (fun c hc => by cases hc) r cs e)
theorem prOrd_ok {p k : Nat} (hk : k ≤ 50) {r : Nat × Nat} {o : pOr} (e : prOrd G p k = (r, some o)) : r.2 ≤ 50 ∧ o.1 < 4 ∧ pOk orW 26 o.2.1.1 ∧ pOk orW 26 o.2.1.2.1 ∧ pOk orW 26 o.2.1.2.2 ∧ 1 ≤ o.2.2.1 ∧ o.2.2.1 ≤ 20 ∧ pOk orW 26 o.2.2.2 ∧ ∀ a, o.2.2.2 = some a → Tst a := by
  have no : ∀ a, pOk orW 26 a → pOk orW 26 a := fun _ h => h
  have nn : pOk orW 26 none := fun b hb => by cases hb
  unfold prOrd at e
  split at e
  · cases e
  · rename_i h hw
    have h4 : h < 4 := by
      unfold whW at hw
      cases e2 : acW.find? (fun w => isWd G p w.1) with
      | none => rw [e2] at hw; cases hw
      | some w =>
        rw [e2] at hw
        cases hw
        have hm := List.mem_of_find?_eq_some e2
        obtain ⟨j, hj, rfl⟩ := List.mem_iff_getElem.mp hm
        have l5 : acW.length = 4 := rfl
        have hh : ∀ j, (h : j < acW.length) → (acW[j]).2 = j := by decide
        have := hh j hj
        show (acW[j]).2 < 4
        omega
    have s0 : ∀ q s, (if h < 3 then opt (prS G orW 8 (tE G p) k) else ((tE G p, k), some none) : oR) = (q, some s) → q.2 ≤ 50 ∧ pOk orW 26 s := by
      intro q s z
      split at z
      · exact opt_ok (gd_pOk (gd_prS okW_ord 8 _ _) hk) z
      · cases z
        exact ⟨hk, nn⟩
    generalize (if h < 3 then opt (prS G orW 8 (tE G p) k) else ((tE G p, k), some none) : oR) = z0 at e s0
    obtain ⟨q0, a0⟩ := z0
    cases a0 with
    | none => cases e
    | some a0 =>
      dsimp only at e
      have f0 := s0 q0 a0 rfl
      have s1 : ∀ q s, (if h = 0 then prNx G [97, 116] q0.1 q0.2 else if h = 1 then prNx G [116, 111] q0.1 q0.2 else (q0, some none) : oR) = (q, some s) → q.2 ≤ 50 ∧ pOk orW 26 s := by
        intro q s z
        split at z
        · exact prNx_ok f0.1 z
        · split at z
          · exact prNx_ok f0.1 z
          · cases z
            exact ⟨f0.1, nn⟩
      generalize (if h = 0 then prNx G [97, 116] q0.1 q0.2 else if h = 1 then prNx G [116, 111] q0.1 q0.2 else (q0, some none) : oR) = z1 at e s1
      obtain ⟨q1, a1⟩ := z1
      cases a1 with
      | none => cases e
      | some a1 =>
        dsimp only at e
        have f1 := s1 q1 a1 rfl
        have s2 : ∀ q s, (if h = 1 then prNx G [111, 102] q1.1 q1.2 else (q1, some none) : oR) = (q, some s) → q.2 ≤ 50 ∧ pOk orW 26 s := by
          intro q s z
          split at z
          · exact prNx_ok f1.1 z
          · cases z
            exact ⟨f1.1, nn⟩
        generalize (if h = 1 then prNx G [111, 102] q1.1 q1.2 else (q1, some none) : oR) = z2 at e s2
        obtain ⟨q2, a2⟩ := z2
        cases a2 with
        | none => cases e
        | some a2 =>
          dsimp only at e
          have f2 := s2 q2 a2 rfl
          cases et : prTm G q2.1 q2.2 with
          | mk q3 n =>
            rw [et] at e
            cases n with
            | none => cases e
            | some n =>
              dsimp only at e
              have f3 := prTm_ok f2.1 et
              cases ei : prIf G orW q3.1 q3.2 with
              | mk q4 t =>
                rw [ei] at e
                cases t with
                | none => cases e
                | some t =>
                  cases e
                  have f4 := prIf_ok okW_ord f3.1 ei
                  exact ⟨f4.1, h4, f0.2, f1.2, f2.2, f3.2.1, f3.2.2, f4.2, T_if ei⟩
/-- a clause of orders that runs -/
def okOr (o : pOr) : Prop := o.1 < 4 ∧ pOk orW 26 o.2.1.1 ∧ pOk orW 26 o.2.1.2.1 ∧ pOk orW 26 o.2.1.2.2 ∧ 1 ≤ o.2.2.1 ∧ o.2.2.1 ≤ 20 ∧ pOk orW 26 o.2.2.2 ∧ ∀ a, o.2.2.2 = some a → Tst a
theorem ordTx_ok {r : Nat × Nat} {os : List pOr} (e : ordTx G = (r, some os)) : (∀ o ∈ os, okOr o) ∧ os.length ≤ 12 :=
  prTx_ok (P := okOr) (fun p k hk r c e => ⟨(prOrd_ok hk e).1, (prOrd_ok hk e).2⟩) 12 0 0 [] (by omega) (fun c hc => by cases hc) r os e
end TT
