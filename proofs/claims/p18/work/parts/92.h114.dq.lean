/-! FROM THE PARTS' DEPTHS TO CODES THAT CAN BE RUN -/
theorem DpL_b {l : List (Nat × Nat)} {n : Nat} {d : Nat → Nat} (h0 : d 0 = 0) (h1 : d l.length = 1) (h2 : ∀ i x, l[i]? = some x → stp x d n i l.length) : ∀ i, i ≤ l.length → 2 * d i ≤ l.length + 1 := by
  have st : ∀ i, i < l.length → d (i + 1) ≤ d i + 1 ∧ d i ≤ d (i + 1) + 1 := by
    intro i hi
    rcases h2 i _ (List.getElem?_eq_getElem hi) with ⟨_, z⟩ | ⟨_, _, z⟩ | ⟨_, _, z⟩ | ⟨_, _, z, _⟩ <;> omega
  have up : ∀ i, i ≤ l.length → d i ≤ i := by
    intro i
    induction i with
    | zero => intro _; omega
    | succ i ih => intro hi; have := ih (by omega); have := st i (by omega); omega
  have dn : ∀ j i, j + i = l.length → d i ≤ 1 + j := by
    intro j
    induction j with
    | zero => intro i hi; rw [show i = l.length by omega, h1]; omega
    | succ j ih => intro i hi; have := ih (i + 1) (by omega); have := st i (by omega); omega
  intro i hi
  have := up i hi
  have := dn (l.length - i) i (by omega)
  omega
theorem DpL_ok {l : List (Nat × Nat)} {lo : Nat} {op arg : Nat → Int32} (h : DpL l lo) (hl : lo + l.length ≤ 400) (ho : ∀ i x, l[i]? = some x → op (lo + i) = nI x.1 ∧ arg (lo + i) = nI x.2) : codeOk op arg lo (lo + l.length) := by
  obtain ⟨d, h0, h1, h2⟩ := h
  have bd := DpL_b h0 h1 h2
  refine ⟨fun k => if lo ≤ k ∧ k ≤ lo + l.length then d (k - lo) else 0, ?_, fun k => ?_, fun k k1 k2 => ?_⟩
  · dsimp only
    rw [if_pos ⟨Nat.le_refl _, by omega⟩, Nat.sub_self, h0]
  · dsimp only
    split
    · rename_i c
      have := bd (k - lo) (by omega)
      omega
    · omega
  · obtain ⟨i, rfl⟩ : ∃ i, k = lo + i := ⟨k - lo, by omega⟩
    have hi : i < l.length := by omega
    have hx := List.getElem?_eq_getElem hi
    generalize l[i] = x at hx
    obtain ⟨e1, e2⟩ := ho i x hx
    have ed : ∀ t, t ≤ l.length → (fun k => if lo ≤ k ∧ k ≤ lo + l.length then d (k - lo) else 0) (lo + t) = d t := fun t ht => by
      dsimp only
      rw [if_pos ⟨by omega, by omega⟩, Nat.add_sub_cancel_left]
    have d0 := ed i (by omega)
    have d1 := ed (i + 1) (by omega)
    unfold stepOk
    rw [e1, e2, show lo + i + 1 = lo + (i + 1) by omega, d0, d1]
    rcases h2 i x hx with ⟨z1, z2⟩ | ⟨z1, z2, z3⟩ | ⟨z1, z2, z3⟩ | ⟨z1, z2, z3, t, z4, z5, z6, z7⟩
    · refine Or.inl ⟨?_, z2⟩
      unfold rg
      rw [nI_toInt (by omega)]
      omega
    · refine Or.inr (Or.inl ⟨?_, z2, z3⟩)
      unfold rg
      rw [nI_toInt (by omega)]
      omega
    · exact Or.inr (Or.inr (Or.inl ⟨by rw [z1]; rfl, z2, z3⟩))
    · refine Or.inr (Or.inr (Or.inr ⟨?_, z2, z3, lo + t, by rw [z4], by omega, by omega, by rw [ed t z6, z7]⟩))
      rcases z1 with z | z
      · exact Or.inl (by rw [z]; rfl)
      · exact Or.inr (by rw [z]; rfl)
theorem codeOk_0 {op arg : Nat → Int32} {lo : Nat} : codeOk op arg lo lo := ⟨fun _ => 0, rfl, fun _ => Nat.zero_le _, fun k h1 h2 => by omega⟩
/-- a part that may be missing -/
theorem oR_ok {a : Option pA} {lo : Nat} {op arg : Nat → Int32} (h : ∀ b, a = some b → Dp b) (hl : lo + (oR' a lo).length ≤ 400) (ho : ∀ i x, (oR' a lo)[i]? = some x → op (lo + i) = nI x.1 ∧ arg (lo + i) = nI x.2) : codeOk op arg lo (lo + (oR' a lo).length) := by
  cases a with
  | none => exact codeOk_0
  | some b => exact DpL_ok (h b rfl lo) hl ho
section DQ
variable {G : pG} {P : pA → Prop}
theorem Q_opt {r : pR} (h : ∀ a, r.2 = some a → P a) {q : Nat × Nat} {s : Option pA} (e : opt r = (q, some s)) : ∀ a, s = some a → P a := by
  intro a ha
  obtain ⟨q0, x⟩ := r
  cases x with
  | none => cases e
  | some x =>
    cases e
    cases ha
    exact h _ rfl
theorem Q_if {W : List (List Nat × Nat × Nat × Option Nat)} (hT : ∀ n p k q a, prT G W n p k = (q, some a) → P a) {p k : Nat} {q : Nat × Nat} {t : Option pA} (e : prIf G W p k = (q, some t)) : ∀ a, t = some a → P a := by
  unfold prIf at e
  split at e
  · refine Q_opt (fun a ha => hT 8 (tE G p) k (prT G W 8 (tE G p) k).1 a ?_) e
    rw [← ha]
  · cases e
    intro a ha
    cases ha
theorem Q_law (hS : ∀ n p k q a, prS G lwW n p k = (q, some a) → P a) (hT : ∀ n p k q a, prT G lwW n p k = (q, some a) → P a) {p k : Nat} {r : Nat × Nat} {c : pCl} (e : prLaw G p k = (r, some c)) : (∀ a, c.2.1 = some a → P a) ∧ ∀ a, c.2.2 = some a → P a := by
  unfold prLaw at e
  split at e
  · cases e
  · rename_i h hw
    have sm : ∀ q s, (if h < 3 then opt (prS G lwW 8 (tE G p) k) else ((tE G p, k), some none) : oR) = (q, some s) → ∀ a, s = some a → P a := by
      intro q s z
      split at z
      · refine Q_opt (fun a ha => hS 8 (tE G p) k (prS G lwW 8 (tE G p) k).1 a ?_) z
        rw [← ha]
      · cases z
        intro a ha
        cases ha
    generalize (if h < 3 then opt (prS G lwW 8 (tE G p) k) else ((tE G p, k), some none) : oR) = z at e sm
    obtain ⟨q, s⟩ := z
    cases s with
    | none => cases e
    | some s =>
      rw [lwT] at e
      cases ei : prIf G lwW q.1 q.2 with
      | mk r2 t =>
        rw [ei] at e
        cases t with
        | none => cases e
        | some t =>
          cases e
          exact ⟨sm q s rfl, Q_if hT ei⟩
theorem lawTx_D {r : Nat × Nat} {cs : List pCl} (e : lawTx G = (r, some cs)) : ∀ c ∈ cs, (∀ a, c.2.1 = some a → Dp a) ∧ ∀ a, c.2.2 = some a → Dp a :=
  prTx_ok' (P := fun c : pCl => (∀ a, c.2.1 = some a → Dp a) ∧ ∀ a, c.2.2 = some a → Dp a) (fun p k r c e => Q_law (fun n p k q a e => Q_prS clo_D okC_law n p k q a e) (fun n p k q a e => Q_prT clo_D okC_law n p k q a e) e) 12 0 0 [] (fun c hc => by cases hc) r cs e
theorem Q_nx (hS : ∀ n p k q a, prS G orW n p k = (q, some a) → P a) {w : List Nat} {p k : Nat} {q : Nat × Nat} {t : Option pA} (e : prNx G w p k = (q, some t)) : ∀ a, t = some a → P a := by
  unfold prNx at e
  split at e
  · refine Q_opt (fun a ha => hS 8 (tE G p) k (prS G orW 8 (tE G p) k).1 a ?_) e
    rw [← ha]
  · cases e
/-- a clause's four parts -/
def orQ (P : pA → Prop) (o : pOr) : Prop := (∀ a, o.2.1.1 = some a → P a) ∧ (∀ a, o.2.1.2.1 = some a → P a) ∧ (∀ a, o.2.1.2.2 = some a → P a) ∧ ∀ a, o.2.2.2 = some a → P a
theorem Q_ord (hS : ∀ n p k q a, prS G orW n p k = (q, some a) → P a) (hT : ∀ n p k q a, prT G orW n p k = (q, some a) → P a) {p k : Nat} {r : Nat × Nat} {o : pOr} (e : prOrd G p k = (r, some o)) : orQ P o := by
  have nn : ∀ a, (none : Option pA) = some a → P a := fun a h => by cases h
  unfold prOrd at e
  split at e
  · cases e
  · rename_i h hw
    have s0 : ∀ q s, (if h < 3 then opt (prS G orW 8 (tE G p) k) else ((tE G p, k), some none) : oR) = (q, some s) → ∀ a, s = some a → P a := by
      intro q s z
      split at z
      · refine Q_opt (fun a ha => hS 8 (tE G p) k (prS G orW 8 (tE G p) k).1 a ?_) z
        rw [← ha]
      · cases z
        exact nn
    generalize (if h < 3 then opt (prS G orW 8 (tE G p) k) else ((tE G p, k), some none) : oR) = z0 at e s0
    obtain ⟨q0, a0⟩ := z0
    cases a0 with
    | none => cases e
    | some a0 =>
      dsimp only at e
      have s1 : ∀ q s, (if h = 0 then prNx G [97, 116] q0.1 q0.2 else if h = 1 then prNx G [116, 111] q0.1 q0.2 else (q0, some none) : oR) = (q, some s) → ∀ a, s = some a → P a := by
        intro q s z
        split at z
        · exact Q_nx hS z
        · split at z
          · exact Q_nx hS z
          · cases z
            exact nn
      generalize (if h = 0 then prNx G [97, 116] q0.1 q0.2 else if h = 1 then prNx G [116, 111] q0.1 q0.2 else (q0, some none) : oR) = z1 at e s1
      obtain ⟨q1, a1⟩ := z1
      cases a1 with
      | none => cases e
      | some a1 =>
        dsimp only at e
        have s2 : ∀ q s, (if h = 1 then prNx G [111, 102] q1.1 q1.2 else (q1, some none) : oR) = (q, some s) → ∀ a, s = some a → P a := by
          intro q s z
          split at z
          · exact Q_nx hS z
          · cases z
            exact nn
        generalize (if h = 1 then prNx G [111, 102] q1.1 q1.2 else (q1, some none) : oR) = z2 at e s2
        obtain ⟨q2, a2⟩ := z2
        cases a2 with
        | none => cases e
        | some a2 =>
          dsimp only at e
          cases et : prTm G q2.1 q2.2 with
          | mk q3 n =>
            rw [et] at e
            cases n with
            | none => cases e
            | some n =>
              dsimp only at e
              cases ei : prIf G orW q3.1 q3.2 with
              | mk r2 t =>
                rw [ei] at e
                cases t with
                | none => cases e
                | some t =>
                  cases e
                  exact ⟨s0 _ _ rfl, s1 _ _ rfl, s2 _ _ rfl, Q_if hT ei⟩
theorem ordTx_Q (hS : ∀ n p k q a, prS G orW n p k = (q, some a) → P a) (hT : ∀ n p k q a, prT G orW n p k = (q, some a) → P a) {r : Nat × Nat} {os : List pOr} (e : ordTx G = (r, some os)) : ∀ o ∈ os, orQ P o :=
  prTx_ok' (P := orQ P) (fun p k r c e => Q_ord hS hT e) 12 0 0 [] (fun c hc => by cases hc) r os e
theorem ordTx_DB {r : Nat × Nat} {os : List pOr} (e : ordTx G = (r, some os)) : ∀ o ∈ os, orQ Dp o ∧ orQ Bd o := fun o ho => ⟨ordTx_Q (fun n p k q a e => Q_prS clo_D okC_ord n p k q a e) (fun n p k q a e => Q_prT clo_D okC_ord n p k q a e) e o ho, ordTx_Q (fun n p k q a e => B_prS okB_ord n p k q a e) (fun n p k q a e => B_prT okB_ord n p k q a e) e o ho⟩
end DQ
/-- a law that lies in a row can be run -/
theorem lawOk_of {f : Nat → Int32} {b : Nat} {cs : List pCl} (hR : lwR f b cs) (hn : cs.length ≤ 12) (hl : (rAll cs 0).length ≤ 400) (hD : ∀ c ∈ cs, (∀ a, c.2.1 = some a → Dp a) ∧ ∀ a, c.2.2 = some a → Dp a) : lawOk f b := by
  obtain ⟨r1, r2, r3⟩ := hR
  refine ⟨?_, fun c hc => ?_⟩
  · unfold rg
    rw [r1, nI_toInt (by omega)]
    omega
  · rw [r1, nI_toInt (by omega)] at hc
    have hj : c < cs.length := by omega
    have hjm : c < (rMk cs 0).length := by rw [rMk_len]; exact hj
    obtain ⟨m, pre, post, e1, e2, e3⟩ := rMk_at cs 0 c hjm hj
    rw [Nat.zero_add] at e3
    have hm := r2 c hjm
    rw [e1] at hm
    obtain ⟨m0, m3, m4, m5, m6⟩ := hm
    obtain ⟨d1, d2⟩ := hD _ (List.getElem_mem hj)
    generalize cs[c] = x at e1 e2 m0 m3 m4 m5 m6 d1 d2
    dsimp only at m0 m3 m4 m5 m6
    have ll : (rAll cs 0).length = pre.length + (rCl x m).length + post.length := by rw [e2, List.length_append, List.length_append]
    have lc : (rCl x m).length = (oR' x.2.1 m).length + (oR' x.2.2 (m + (oR' x.2.1 m).length)).length := by unfold rCl; rw [List.length_append]
    have row : ∀ i y, (rCl x m)[i]? = some y → f (b + 98 + 2 * (m + i)) = nI y.1 ∧ f (b + 98 + 2 * (m + i) + 1) = nI y.2 := by
      intro i y hy
      have hi := lt_of_get hy
      have hk : m + i < (rAll cs 0).length := by omega
      have eg : (rAll cs 0)[m + i]? = some y := by
        rw [e2, List.getElem?_append_left (by rw [List.length_append]; omega), List.getElem?_append_right (by omega), show m + i - pre.length = i by omega]
        exact hy
      rw [List.getElem?_eq_getElem hk] at eg
      have eg' := Option.some.inj eg
      have := r3 (m + i) hk
      rw [eg'] at this
      exact this
    refine ⟨⟨m, m + (oR' x.2.1 m).length, by rw [← m3]; rfl, by rw [← m4]; rfl, by omega, by omega, oR_ok d1 (by omega) (fun i y hy => row i y ?_)⟩, ⟨m + (oR' x.2.1 m).length, m + (rCl x m).length, by rw [← m5]; rfl, by rw [← m6]; rfl, by omega, by omega, ?_⟩⟩
    · unfold rCl
      rw [List.getElem?_append_left (lt_of_get hy)]
      exact hy
    · rw [lc, ← Nat.add_assoc]
      refine oR_ok d2 (by omega) (fun i y hy => ?_)
      have := row ((oR' x.2.1 m).length + i) y (by
        unfold rCl
        rw [List.getElem?_append_right (by omega), Nat.add_sub_cancel_left]
        exact hy)
      rw [← Nat.add_assoc] at this
      exact this
