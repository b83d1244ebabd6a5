/-! A PART'S CODE IN THE REFERENCE GOES FROM AN EMPTY PILE TO ONE -/
def stp (x : Nat × Nat) (d : Nat → Nat) (n i hi : Nat) : Prop := (x.1 ≤ 9 ∧ d (i + 1) = d i + 1) ∨ ((20 ≤ x.1 ∧ x.1 ≤ 27) ∧ 2 ≤ d i ∧ d (i + 1) + 1 = d i) ∨ (x.1 = 28 ∧ 1 ≤ d i ∧ d (i + 1) = d i) ∨ ((x.1 = 29 ∨ x.1 = 30) ∧ 1 ≤ d i ∧ d (i + 1) + 1 = d i ∧ ∃ t, x.2 = n + t ∧ i < t ∧ t ≤ hi ∧ d t = d i)
def DpL (l : List (Nat × Nat)) (n : Nat) : Prop := ∃ d : Nat → Nat, d 0 = 0 ∧ d l.length = 1 ∧ ∀ i x, l[i]? = some x → stp x d n i l.length
def Dp (a : pA) : Prop := ∀ n, DpL (a.2.1 n) n
theorem stp_mv {x : Nat × Nat} {d d' : Nat → Nat} {n n' i i' hi hi' c : Nat} (h : stp x d n i hi) (hd : ∀ t, i ≤ t → t ≤ hi → d' (i' + (t - i)) = d t + c) (hi1 : i + 1 ≤ hi) (hn : n' + i' = n + i) (hh : i' + (hi - i) ≤ hi') : stp x d' n' i' hi' := by
  have e0 := hd i (Nat.le_refl _) (by omega)
  have e1 := hd (i + 1) (by omega) hi1
  rw [Nat.sub_self, Nat.add_zero] at e0
  rw [show i' + (i + 1 - i) = i' + 1 by omega] at e1
  rcases h with ⟨h1, h2⟩ | ⟨h1, h2, h3⟩ | ⟨h1, h2, h3⟩ | ⟨h1, h2, h3, t, h4, h5, h6, h7⟩
  · exact Or.inl ⟨h1, by omega⟩
  · exact Or.inr (Or.inl ⟨h1, by omega, by omega⟩)
  · exact Or.inr (Or.inr (Or.inl ⟨h1, by omega, by omega⟩))
  · have := hd t (by omega) h6
    exact Or.inr (Or.inr (Or.inr ⟨h1, by omega, by omega, i' + (t - i), by omega, by omega, by omega, by omega⟩))
theorem lt_of_get {l : List (Nat × Nat)} {i : Nat} {x : Nat × Nat} (h : l[i]? = some x) : i < l.length := by
  by_cases c : i < l.length
  · exact c
  · rw [List.getElem?_eq_none (by omega)] at h; cases h
theorem D_two {o : Nat} {a b : pA} (ho : 2 ≤ o ∧ o ≤ 9) (ha : Dp a) (hb : Dp b) : Dp (pTwo o a b) := by
  intro n
  obtain ⟨da, a0, a1, a2⟩ := ha n
  obtain ⟨db, b0, b1, b2⟩ := hb (n + (a.2.1 n).length)
  show DpL (a.2.1 n ++ b.2.1 (n + (a.2.1 n).length) ++ [(rOp o, 0)]) n
  generalize a.2.1 n = la at *
  generalize b.2.1 (n + la.length) = lb at *
  have hl : (la ++ lb ++ [(rOp o, 0)]).length = la.length + lb.length + 1 := by simp only [List.length_append, List.length_singleton]
  unfold DpL
  rw [hl]
  refine ⟨fun i => if i < la.length then da i else if i ≤ la.length + lb.length then 1 + db (i - la.length) else 1, ?_, ?_, fun i x hx => ?_⟩
  · dsimp only
    by_cases c : 0 < la.length
    · rw [if_pos c, a0]
    · have : la.length = 0 := by omega
      rw [this] at a1
      omega
  · dsimp only
    rw [if_neg (by omega), if_neg (by omega)]
  · have hi := lt_of_get hx
    rw [hl] at hi
    by_cases c : i < la.length
    · rw [List.getElem?_append_left (by rw [List.length_append]; omega), List.getElem?_append_left c] at hx
      refine stp_mv (c := 0) (a2 i x hx) (fun t t1 t2 => ?_) c rfl (by omega)
      try dsimp only
      rw [show i + (t - i) = t by omega]
      by_cases ct : t < la.length
      · rw [if_pos ct]; rfl
      · rw [if_neg ct, if_pos (by omega), show t = la.length by omega, Nat.sub_self, b0, a1]
    · by_cases c2 : i < la.length + lb.length
      · rw [List.getElem?_append_left (by rw [List.length_append]; omega), List.getElem?_append_right (by omega)] at hx
        refine stp_mv (c := 1) (b2 (i - la.length) x hx) (fun t t1 t2 => ?_) (by omega) (by omega) (by omega)
        try dsimp only
        rw [if_neg (by omega), if_pos (by omega), show i + (t - (i - la.length)) - la.length = t by omega, Nat.add_comm]
      · have ei : i = la.length + lb.length := by omega
        rw [ei, List.getElem?_append_right (by rw [List.length_append]; omega), List.length_append, Nat.sub_self] at hx
        cases hx
        refine Or.inr (Or.inl ⟨by unfold rOp; dsimp only; omega, ?_, ?_⟩)
        · dsimp only
          rw [ei, if_neg (by omega), if_pos (by omega), show la.length + lb.length - la.length = lb.length by omega, b1]
          omega
        · dsimp only
          rw [ei, if_neg (by omega), if_neg (by omega), if_neg (by omega), if_pos (by omega), show la.length + lb.length - la.length = lb.length by omega, b1]
theorem D_jmp {s : Nat} {a b : pA} (hs : s ≤ 1) (ha : Dp a) (hb : Dp b) : Dp (pJmp s a b) := by
  intro n
  obtain ⟨da, a0, a1, a2⟩ := ha n
  obtain ⟨db, b0, b1, b2⟩ := hb (n + (a.2.1 n).length + 1)
  show DpL (a.2.1 n ++ [(29 + s, n + (a.2.1 n).length + 1 + (b.2.1 (n + (a.2.1 n).length + 1)).length)] ++ b.2.1 (n + (a.2.1 n).length + 1)) n
  generalize a.2.1 n = la at *
  generalize b.2.1 (n + la.length + 1) = lb at *
  have hl : (la ++ [(29 + s, n + la.length + 1 + lb.length)] ++ lb).length = la.length + 1 + lb.length := by simp only [List.length_append, List.length_singleton]
  unfold DpL
  rw [hl]
  have l1 : (la ++ [(29 + s, n + la.length + 1 + lb.length)]).length = la.length + 1 := by rw [List.length_append, List.length_singleton]
  refine ⟨fun i => if i ≤ la.length then da i else db (i - la.length - 1), ?_, ?_, fun i x hx => ?_⟩
  · dsimp only
    rw [if_pos (by omega), a0]
  · dsimp only
    rw [if_neg (by omega), show la.length + 1 + lb.length - la.length - 1 = lb.length by omega, b1]
  · have hi := lt_of_get hx
    rw [hl] at hi
    by_cases c : i < la.length
    · rw [List.getElem?_append_left (by omega), List.getElem?_append_left c] at hx
      refine stp_mv (c := 0) (a2 i x hx) (fun t t1 t2 => ?_) c rfl (by omega)
      try dsimp only
      rw [show i + (t - i) = t by omega, if_pos (by omega)]
      rfl
    · by_cases c2 : i = la.length
      · rw [c2, List.getElem?_append_left (by omega), List.getElem?_append_right (by omega), Nat.sub_self] at hx
        cases hx
        refine Or.inr (Or.inr (Or.inr ⟨by dsimp only; omega, ?_, ?_, la.length + 1 + lb.length, by dsimp only; omega, by omega, by omega, ?_⟩))
        · dsimp only
          rw [c2, if_pos (Nat.le_refl _), a1]
          omega
        · dsimp only
          rw [c2, if_pos (Nat.le_refl _), if_neg (by omega), show la.length + 1 - la.length - 1 = 0 by omega, b0, a1]
        · dsimp only
          rw [c2, if_pos (Nat.le_refl _), if_neg (by omega), show la.length + 1 + lb.length - la.length - 1 = lb.length by omega, b1, a1]
      · rw [List.getElem?_append_right (by omega), l1] at hx
        refine stp_mv (c := 0) (b2 (i - (la.length + 1)) x hx) (fun t t1 t2 => ?_) (by omega) (by omega) (by omega)
        try dsimp only
        rw [if_neg (by omega), show i + (t - (i - (la.length + 1))) - la.length - 1 = t by omega]
        rfl
theorem D_not {c : Nat} {a : pA} (ha : Dp a) : Dp (pNot c a) := by
  intro n
  obtain ⟨da, a0, a1, a2⟩ := ha n
  show DpL (a.2.1 n ++ List.replicate c (28, 0)) n
  generalize a.2.1 n = la at *
  have hl : (la ++ List.replicate c (28, 0)).length = la.length + c := by rw [List.length_append, List.length_replicate]
  unfold DpL
  rw [hl]
  refine ⟨fun i => if i ≤ la.length then da i else 1, ?_, ?_, fun i x hx => ?_⟩
  · dsimp only
    rw [if_pos (by omega), a0]
  · dsimp only
    by_cases c0 : la.length + c ≤ la.length
    · rw [if_pos c0, show la.length + c = la.length by omega, a1]
    · rw [if_neg c0]
  · have hi := lt_of_get hx
    rw [hl] at hi
    by_cases c1 : i < la.length
    · rw [List.getElem?_append_left c1] at hx
      refine stp_mv (c := 0) (a2 i x hx) (fun t t1 t2 => ?_) c1 rfl (by omega)
      try dsimp only
      rw [show i + (t - i) = t by omega, if_pos (by omega)]
      rfl
    · rw [List.getElem?_append_right (by omega), List.getElem?_replicate, if_pos (by omega)] at hx
      cases hx
      have one : ∀ j, la.length ≤ j → (fun i => if i ≤ la.length then da i else 1) j = 1 := by
        intro j hj
        try dsimp only
        by_cases z : j ≤ la.length
        · rw [if_pos z, show j = la.length by omega, a1]
        · rw [if_neg z]
      refine Or.inr (Or.inr (Or.inl ⟨rfl, ?_, ?_⟩))
      · rw [one i (by omega)]; exact Nat.le_refl _
      · rw [one i (by omega), one (i + 1) (by omega)]
theorem D_one {x : Nat × Nat} {c : pC} {m : pD} (h : x.1 ≤ 9) : Dp (c, (fun _ => [x]), m) := by
  intro n
  refine ⟨fun i => i, rfl, rfl, fun i y hy => ?_⟩
  have hi : i < 1 := lt_of_get hy
  have e : i = 0 := by omega
  subst e
  cases hy
  exact Or.inl ⟨h, rfl⟩
/-! what holds of leaves and goes through the operations holds of what is read -/
def clo (P : pA → Prop) : Prop := (∀ o a b, 2 ≤ o → o ≤ 9 → P a → P b → P (pTwo o a b)) ∧ (∀ s a b, s ≤ 1 → P a → P b → P (pJmp s a b)) ∧ (∀ c a, P a → P (pNot c a)) ∧ (∀ v, P (pNum v)) ∧ ∀ w ro ra, ro ≤ 9 → P (pWrd w ro ra)
theorem clo_D : clo Dp := ⟨fun _ _ _ h1 h2 => D_two ⟨h1, h2⟩, fun _ _ _ => D_jmp, fun _ _ => D_not, fun _ => D_one (Nat.zero_le _), fun _ _ _ h => D_one h⟩
section DPQ
variable {G : pG} {W : List (List Nat × Nat × Nat × Option Nat)} {P : pA → Prop}
def okC (W : List (List Nat × Nat × Nat × Option Nat)) : Prop := ∀ w ∈ W, w.2.2.1 ≤ 9
theorem okC_law : okC lwW := by unfold okC; decide
theorem okC_ord : okC orW := by unfold okC; decide
theorem Q_F (hP : clo P) (hW : okC W) {inner : Option (Nat → Nat → pR)} (hi : ∀ s, inner = some s → ∀ p k q a, s p k = (q, some a) → P a) : ∀ p k q a, prF G W inner p k = (q, some a) → P a := by
  intro p k q a e
  unfold prF at e
  split at e
  · cases ei : inner with
    | none => rw [ei] at e; cases e
    | some s =>
      rw [ei] at e
      dsimp only at e
      cases es : s (tE G p) k with
      | mk q1 c =>
        rw [es] at e
        cases c with
        | none => cases e
        | some c =>
          dsimp only at e
          split at e
          · cases e
            exact hi s ei _ _ _ _ es
          · cases e
  split at e
  · cases e
  split at e
  · cases e
    exact hP.2.2.2.1 _
  · cases ew : fndW G W p with
    | none => rw [ew] at e; cases e
    | some w =>
      rw [ew] at e
      dsimp only at e
      have h1 := hW w (List.mem_of_find?_eq_some ew)
      cases em : w.2.2.2 with
      | none =>
        rw [em] at e
        cases e
        exact hP.2.2.2.2 _ _ _ h1
      | some mx =>
        rw [em] at e
        dsimp only at e
        split at e
        · cases e
          exact hP.2.2.2.2 _ _ _ h1
        · cases e
theorem Q_sum (hP : clo P) {fac : Nat → Nat → pR} (h : ∀ p k q a, fac p k = (q, some a) → P a) : ∀ p k q a, prSum G fac p k = (q, some a) → P a := fun p k q a e =>
  rowP_Q (P := P) (fun p k q a e => rowP_Q (P := P) h (fun p o a b ho => hP.1 _ _ _ (by
      unfold mulOp at ho
      split at ho
      · cases ho; omega
      split at ho
      · cases ho; omega
      split at ho
      · cases ho; omega
      · cases ho) (by
      unfold mulOp at ho
      split at ho
      · cases ho; omega
      split at ho
      · cases ho; omega
      split at ho
      · cases ho; omega
      · cases ho)) p k q a e) (fun p o a b ho => hP.1 _ _ _ (by
      unfold addOp at ho
      split at ho
      · cases ho; omega
      split at ho
      · cases ho; omega
      · cases ho) (by
      unfold addOp at ho
      split at ho
      · cases ho; omega
      split at ho
      · cases ho; omega
      · cases ho)) p k q a e
theorem Q_prS (hP : clo P) (hW : okC W) : ∀ (n p k : Nat) q a, prS G W n p k = (q, some a) → P a
  | 0, p, k, q, a, e => Q_sum hP (Q_F hP hW (fun s hs => by cases hs)) p k q a e
  | n + 1, p, k, q, a, e => Q_sum hP (Q_F hP hW (fun s hs => by cases hs; exact fun p k q a e => Q_prS hP hW n p k q a e)) p k q a e
theorem Q_cmp (hP : clo P) {sum : Nat → Nat → pR} (hs : ∀ p k q a, sum p k = (q, some a) → P a) {p k : Nat} {q : Nat × Nat} {a : pA} (e : prCmp G sum p k = (q, some a)) : P a := by
  unfold prCmp at e
  cases e1 : sum p k with
  | mk q1 x =>
    rw [e1] at e
    cases x with
    | none => cases e
    | some x =>
      dsimp only at e
      cases eo : cmpOp G q1.1 with
      | none => rw [eo] at e; cases e
      | some o =>
        rw [eo] at e
        dsimp only at e
        cases e2 : sum (tE G q1.1) q1.2 with
        | mk q2 y =>
          rw [e2] at e
          cases y with
          | none => cases e
          | some y =>
            cases e
            have : 2 ≤ o ∧ o ≤ 9 := by
              unfold cmpOp at eo
              split at eo
              · cases eo; omega
              split at eo
              · cases eo; omega
              split at eo
              · cases eo; omega
              · cases eo
            exact hP.1 _ _ _ this.1 this.2 (hs _ _ _ _ e1) (hs _ _ _ _ e2)
theorem Q_pl (hP : clo P) {tst : Option (Nat → Nat → pR)} {sum : Nat → Nat → pR} (ht : ∀ t, tst = some t → ∀ p k q a, t p k = (q, some a) → P a) (hs : ∀ p k q a, sum p k = (q, some a) → P a) {p k : Nat} {q : Nat × Nat} {a : pA} (e : prPl G tst sum p k = (q, some a)) : P a := by
  have pn : ∀ p k q a, prPn G tst sum p k = (q, some a) → P a := by
    intro p k q a e
    unfold prPn at e
    split at e
    · cases et : tst with
      | none => rw [et] at e; cases e
      | some t =>
        rw [et] at e
        dsimp only at e
        cases e1 : t (tE G p) k with
        | mk q1 x =>
          rw [e1] at e
          cases x with
          | none => cases e
          | some x =>
            dsimp only at e
            split at e
            · cases e
              exact ht t et _ _ _ _ e1
            · cases e
    · exact Q_cmp hP hs e
  unfold prPl at e
  cases e1 : prPn G tst sum (nots G 400 p 0).1 k with
  | mk q1 x =>
    rw [e1] at e
    cases x with
    | none => cases e
    | some x =>
      cases e
      exact hP.2.2.1 _ _ (pn _ _ _ _ e1)
theorem Q_tst (hP : clo P) {pl : Nat → Nat → pR} (h : ∀ p k q a, pl p k = (q, some a) → P a) : ∀ p k q a, prTst G pl p k = (q, some a) → P a := fun p k q a e =>
  rowP_Q (P := P) (fun p k q a e => rowP_Q (P := P) h (fun p o a b ho => hP.2.1 _ _ _ (by
    unfold andOp at ho
    split at ho
    · cases ho; omega
    · cases ho)) p k q a e) (fun p o a b ho => hP.2.1 _ _ _ (by
    unfold orOp at ho
    split at ho
    · cases ho; omega
    · cases ho)) p k q a e
theorem Q_prT (hP : clo P) (hW : okC W) : ∀ (n p k : Nat) q a, prT G W n p k = (q, some a) → P a
  | 0, p, k, q, a, e => Q_tst hP (fun p k q a e => Q_pl hP (fun t ht => by cases ht) (fun p k q a e => Q_prS hP hW 0 p k q a e) e) p k q a e
  | n + 1, p, k, q, a, e => Q_tst hP (fun p k q a e => Q_pl hP (fun t ht => by cases ht; exact fun p k q a e => Q_prT hP hW n p k q a e) (fun p k q a e => Q_prS hP hW (n + 1) p k q a e) e) p k q a e
end DPQ
