/-! WHAT STANDS IN A CODE OF THE REFERENCE'S IS SMALL -/
def Bd (a : pA) : Prop := ∀ n x, x ∈ a.2.1 n → x.1 ≤ 30 ∧ x.2 ≤ n + (a.2.1 n).length + 1000
section BD
variable {G : pG} {W : List (List Nat × Nat × Nat × Option Nat)}
theorem rowL_Q {P : pA → Prop} {op : Nat → Option Nat} {sub : Nat → Nat → pR} {cb : Nat → pA → pA → pA} (hs : ∀ p k q a, sub p k = (q, some a) → P a) (hc : ∀ p o a b, op p = some o → P a → P b → P (cb o a b)) : ∀ (n p k : Nat) (a : pA), P a → ∀ q b, rowL G op sub cb n p k a = (q, some b) → P b
  | 0, p, k, a, ha, q, b, e => by
    rw [rowL] at e
    cases e
    exact ha
  | n + 1, p, k, a, ha, q, b, e => by
    rw [rowL] at e
    cases eo : op p with
    | none => rw [eo] at e; cases e; exact ha
    | some o =>
      rw [eo] at e
      dsimp only at e
      cases es : sub (tE G p) k with
      | mk q2 c =>
        rw [es] at e
        cases c with
        | none => cases e
        | some c => exact rowL_Q hs hc n q2.1 q2.2 _ (hc p o a c eo ha (hs _ _ _ _ es)) q b e
theorem rowP_Q {P : pA → Prop} {op : Nat → Option Nat} {sub : Nat → Nat → pR} {cb : Nat → pA → pA → pA} (hs : ∀ p k q a, sub p k = (q, some a) → P a) (hc : ∀ p o a b, op p = some o → P a → P b → P (cb o a b)) : ∀ (p k : Nat) q b, rowP G op sub cb p k = (q, some b) → P b := by
  intro p k q b e
  unfold rowP at e
  cases es : sub p k with
  | mk q2 c =>
    rw [es] at e
    cases c with
    | none => cases e
    | some c => exact rowL_Q hs hc 400 q2.1 q2.2 c (hs _ _ _ _ es) q b e
theorem B_two {o : Nat} {a b : pA} (ho : o ≤ 12) (ha : Bd a) (hb : Bd b) : Bd (pTwo o a b) := by
  intro n x hx
  have hx' : x ∈ a.2.1 n ++ b.2.1 (n + (a.2.1 n).length) ++ [(rOp o, 0)] := hx
  have hl : ((pTwo o a b).2.1 n).length = (a.2.1 n).length + (b.2.1 (n + (a.2.1 n).length)).length + 1 := by
    show (a.2.1 n ++ b.2.1 (n + (a.2.1 n).length) ++ [(rOp o, 0)]).length = _
    simp only [List.length_append, List.length_singleton]
  rw [hl]
  rcases List.mem_append.mp hx' with z | z
  · rcases List.mem_append.mp z with z | z
    · have := ha n x z; omega
    · have := hb _ x z; omega
  · rw [List.mem_singleton] at z
    rw [z]
    unfold rOp
    dsimp only
    omega
theorem B_jmp {s : Nat} {a b : pA} (hs : s ≤ 1) (ha : Bd a) (hb : Bd b) : Bd (pJmp s a b) := by
  intro n x hx
  have hx' : x ∈ a.2.1 n ++ [(29 + s, n + (a.2.1 n).length + 1 + (b.2.1 (n + (a.2.1 n).length + 1)).length)] ++ b.2.1 (n + (a.2.1 n).length + 1) := hx
  have hl : ((pJmp s a b).2.1 n).length = (a.2.1 n).length + 1 + (b.2.1 (n + (a.2.1 n).length + 1)).length := by
    show (a.2.1 n ++ [(29 + s, n + (a.2.1 n).length + 1 + (b.2.1 (n + (a.2.1 n).length + 1)).length)] ++ b.2.1 (n + (a.2.1 n).length + 1)).length = _
    simp only [List.length_append, List.length_singleton]
  rw [hl]
  rcases List.mem_append.mp hx' with z | z
  · rcases List.mem_append.mp z with z | z
    · have := ha n x z; omega
    · rw [List.mem_singleton] at z
      rw [z]
      dsimp only
      omega
  · have := hb _ x z; omega
theorem B_not {c : Nat} {a : pA} (ha : Bd a) : Bd (pNot c a) := by
  intro n x hx
  have hx' : x ∈ a.2.1 n ++ List.replicate c (28, 0) := hx
  have hl : ((pNot c a).2.1 n).length = (a.2.1 n).length + c := by
    show (a.2.1 n ++ List.replicate c (28, 0)).length = _
    rw [List.length_append, List.length_replicate]
  rw [hl]
  rcases List.mem_append.mp hx' with z | z
  · have := ha n x z; omega
  · rw [(List.mem_replicate.mp z).2]
    dsimp only
    omega
/-- the words' numbers are small -/
def okB (W : List (List Nat × Nat × Nat × Option Nat)) : Prop := ∀ w ∈ W, w.2.2.1 ≤ 30 ∧ ∀ mx, w.2.2.2 = some mx → mx ≤ 1000
theorem okB_law : okB lwW := by
  unfold okB
  intro w hw
  have h1 : ∀ w ∈ lwW, w.2.2.1 ≤ 30 ∧ w.2.2.2 = none := by decide
  exact ⟨(h1 w hw).1, fun mx hm => by rw [(h1 w hw).2] at hm; cases hm⟩
theorem okB_ord : okB orW := by
  intro w hw
  have h1 : ∀ w ∈ orW, w.2.2.1 ≤ 30 ∧ (w.2.2.2 = none ∨ w.2.2.2 = some 7 ∨ w.2.2.2 = some 5) := by decide
  refine ⟨(h1 w hw).1, fun mx hm => ?_⟩
  rcases (h1 w hw).2 with z | z | z <;> rw [z] at hm <;> cases hm <;> omega
theorem B_one {x : Nat × Nat} {c : pC} {m : pD} (h : x.1 ≤ 30 ∧ x.2 ≤ 1000) : Bd (c, (fun _ => [x]), m) := by
  intro n y hy
  have hy' : y ∈ [x] := hy
  rw [List.mem_singleton] at hy'
  rw [hy']
  omega
theorem B_F (hW : okB W) {inner : Option (Nat → Nat → pR)} (hi : ∀ s, inner = some s → ∀ p k q a, s p k = (q, some a) → Bd a) : ∀ p k q a, prF G W inner p k = (q, some a) → Bd a := by
  intro p k q a e
  unfold prF at e
  split at e
  · cases ei : inner with
    | none => rw [ei] at e; cases e
    | some s =>
      rw [ei] at e
      dsimp only at e
      cases es : s (tE G p) k with
      | mk q1 c =>
        rw [es] at e
        cases c with
        | none => cases e
        | some c =>
          dsimp only at e
          split at e
          · cases e
            exact hi s ei _ _ _ _ es
          · cases e
  split at e
  · cases e
  split at e
  · rename_i hn
    cases e
    have := isNm_k hn
    exact B_one ⟨by dsimp only; omega, by dsimp only; omega⟩
  · cases ew : fndW G W p with
    | none => rw [ew] at e; cases e
    | some w =>
      rw [ew] at e
      dsimp only at e
      have hm : w ∈ W := List.mem_of_find?_eq_some ew
      obtain ⟨h1, h2⟩ := hW w hm
      cases em : w.2.2.2 with
      | none =>
        rw [em] at e
        cases e
        exact B_one ⟨h1, by dsimp only; omega⟩
      | some mx =>
        rw [em] at e
        dsimp only at e
        split at e
        · rename_i hn
          cases e
          have := isNm_k hn
          have := h2 mx em
          exact B_one ⟨h1, by dsimp only; omega⟩
        · cases e
theorem B_sum {fac : Nat → Nat → pR} (h : ∀ p k q a, fac p k = (q, some a) → Bd a) : ∀ p k q a, prSum G fac p k = (q, some a) → Bd a := fun p k q a e =>
  rowP_Q (P := Bd) (fun p k q a e => rowP_Q (P := Bd) h (fun p o a b ho => B_two (by
      unfold mulOp at ho
      split at ho
      · cases ho; omega
      split at ho
      · cases ho; omega
      split at ho
      · cases ho; omega
      · cases ho)) p k q a e) (fun p o a b ho => B_two (by
      unfold addOp at ho
      split at ho
      · cases ho; omega
      split at ho
      · cases ho; omega
      · cases ho)) p k q a e
theorem B_prS (hW : okB W) : ∀ (n p k : Nat) q a, prS G W n p k = (q, some a) → Bd a
  | 0, p, k, q, a, e => B_sum (B_F hW (fun s hs => by cases hs)) p k q a e
  | n + 1, p, k, q, a, e => B_sum (B_F hW (fun s hs => by cases hs; exact fun p k q a e => B_prS hW n p k q a e)) p k q a e
theorem B_cmp (hW : okB W) {sum : Nat → Nat → pR} (hs : ∀ p k q a, sum p k = (q, some a) → Bd a) {p k : Nat} {q : Nat × Nat} {a : pA} (e : prCmp G sum p k = (q, some a)) : Bd a := by
  unfold prCmp at e
  cases e1 : sum p k with
  | mk q1 x =>
    rw [e1] at e
    cases x with
    | none => cases e
    | some x =>
      dsimp only at e
      cases eo : cmpOp G q1.1 with
      | none => rw [eo] at e; cases e
      | some o =>
        rw [eo] at e
        dsimp only at e
        cases e2 : sum (tE G q1.1) q1.2 with
        | mk q2 y =>
          rw [e2] at e
          cases y with
          | none => cases e
          | some y =>
            cases e
            refine B_two ?_ (hs _ _ _ _ e1) (hs _ _ _ _ e2)
            unfold cmpOp at eo
            split at eo
            · cases eo; omega
            split at eo
            · cases eo; omega
            split at eo
            · cases eo; omega
            · cases eo
theorem B_pl (hW : okB W) {tst : Option (Nat → Nat → pR)} {sum : Nat → Nat → pR} (ht : ∀ t, tst = some t → ∀ p k q a, t p k = (q, some a) → Bd a) (hs : ∀ p k q a, sum p k = (q, some a) → Bd a) {p k : Nat} {q : Nat × Nat} {a : pA} (e : prPl G tst sum p k = (q, some a)) : Bd a := by
  have pn : ∀ p k q a, prPn G tst sum p k = (q, some a) → Bd a := by
    intro p k q a e
    unfold prPn at e
    split at e
    · cases et : tst with
      | none => rw [et] at e; cases e
      | some t =>
        rw [et] at e
        dsimp only at e
        cases e1 : t (tE G p) k with
        | mk q1 x =>
          rw [e1] at e
          cases x with
          | none => cases e
          | some x =>
            dsimp only at e
            split at e
            · cases e
              exact ht t et _ _ _ _ e1
            · cases e
    · exact B_cmp hW hs e
  unfold prPl at e
  cases e1 : prPn G tst sum (nots G 400 p 0).1 k with
  | mk q1 x =>
    rw [e1] at e
    cases x with
    | none => cases e
    | some x =>
      cases e
      exact B_not (pn _ _ _ _ e1)
theorem B_tst {pl : Nat → Nat → pR} (h : ∀ p k q a, pl p k = (q, some a) → Bd a) : ∀ p k q a, prTst G pl p k = (q, some a) → Bd a := fun p k q a e =>
  rowP_Q (P := Bd) (fun p k q a e => rowP_Q (P := Bd) h (fun p o a b ho => B_jmp (by
    unfold andOp at ho
    split at ho
    · cases ho; omega
    · cases ho)) p k q a e) (fun p o a b ho => B_jmp (by
    unfold orOp at ho
    split at ho
    · cases ho; omega
    · cases ho)) p k q a e
theorem B_prT (hW : okB W) : ∀ (n p k : Nat) q a, prT G W n p k = (q, some a) → Bd a
  | 0, p, k, q, a, e => B_tst (fun p k q a e => B_pl hW (fun t ht => by cases ht) (fun p k q a e => B_prS hW 0 p k q a e) e) p k q a e
  | n + 1, p, k, q, a, e => B_tst (fun p k q a e => B_pl hW (fun t ht => by cases ht; exact fun p k q a e => B_prT hW n p k q a e) (fun p k q a e => B_prS hW (n + 1) p k q a e) e) p k q a e
end BD
