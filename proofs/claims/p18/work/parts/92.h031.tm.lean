/-! WHAT A CLAUSE MEANS: its parts run on both sides -/
/-- a part, if it is there, runs -/
def pOk (W : List (List Nat × Nat × Nat × Option Nat)) (wl : Nat) (a : Option pA) : Prop := ∀ b, a = some b → cOk wl 50 b ∧ rOk W b
theorem cOk_le {wl l l' : Nat} {a : pA} (h : cOk wl l a) (hl : l ≤ l') : cOk wl l' a := fun code n hi e st h1 h2 h3 => h code n hi e st h1 h2 (by omega)
section TMM
variable {G : pG} {W : List (List Nat × Nat × Nat × Option Nat)} {wl p k : Nat}
theorem gd_pOk {r : pR} (h : gdR G W wl p k r) (hk : k ≤ 50) : r.1.2 ≤ 50 ∧ ∀ a, r.2 = some a → cOk wl 50 a ∧ rOk W a :=
  ⟨h.2.2.2.1 hk, fun a ha => ⟨cOk_le (h.2.2.2.2 a ha).2.1 (by have := h.2.2.2.1 hk; omega), (h.2.2.2.2 a ha).2.2.1⟩⟩
theorem opt_ok {r : pR} (h : r.1.2 ≤ 50 ∧ ∀ a, r.2 = some a → cOk wl 50 a ∧ rOk W a) {q : Nat × Nat} {s : Option pA} (e : opt r = (q, some s)) : q.2 ≤ 50 ∧ pOk W wl s := by
  obtain ⟨q0, a⟩ := r
  cases a with
  | none => cases e
  | some a =>
    cases e
    exact ⟨h.1, fun b hb => by cases hb; exact h.2 a rfl⟩
theorem prIf_ok (hW : okW W wl) (hk : k ≤ 50) {q : Nat × Nat} {t : Option pA} (e : prIf G W p k = (q, some t)) : q.2 ≤ 50 ∧ pOk W wl t := by
  unfold prIf at e
  split at e
  · exact opt_ok (gd_pOk (gd_prT hW 8 _ _) hk) e
  · cases e
    exact ⟨hk, fun b hb => by cases hb⟩
theorem prLaw_ok (hk : k ≤ 50) {r : Nat × Nat} {c : pCl} (e : prLaw G p k = (r, some c)) : r.2 ≤ 50 ∧ c.1 < 5 ∧ pOk lwW 9 c.2.1 ∧ pOk lwW 9 c.2.2 ∧ (c.2.1 = none ↔ 3 ≤ c.1) := by
  unfold prLaw at e
  split at e
  · cases e
  · rename_i h hw
    have h5 : h < 5 := by
      unfold whW at hw
      cases e2 : hdW.find? (fun w => isWd G p w.1) with
      | none => rw [e2] at hw; cases hw
      | some w =>
        rw [e2] at hw
        cases hw
        have hm := List.mem_of_find?_eq_some e2
        obtain ⟨j, hj, rfl⟩ := List.mem_iff_getElem.mp hm
        have l5 : hdW.length = 5 := rfl
        have hh : ∀ j, (h : j < hdW.length) → (hdW[j]).2 = j := by decide
        have := hh j hj
        show (hdW[j]).2 < 5
        omega
    have sm : ∀ q s, (if h < 3 then opt (prS G lwW 8 (tE G p) k) else ((tE G p, k), some none) : oR) = (q, some s) → q.2 ≤ 50 ∧ pOk lwW 9 s ∧ (s = none ↔ 3 ≤ h) := by
      intro q s z
      split at z
      · rename_i c
        have := opt_ok (gd_pOk (gd_prS okW_law 8 _ _) hk) z
        refine ⟨this.1, this.2, fun z2 => ?_, fun z2 => by omega⟩
        exfalso
        subst z2
        generalize prS G lwW 8 (tE G p) k = r at z
        obtain ⟨q0, a⟩ := r
        cases a with
        | none => cases z
        | some a => cases z
      · cases z
        exact ⟨hk, fun b hb => (by cases hb), fun _ => by omega, fun _ => rfl⟩
    generalize (if h < 3 then opt (prS G lwW 8 (tE G p) k) else ((tE G p, k), some none) : oR) = z at e sm
    obtain ⟨q, s⟩ := z
    cases s with
    | none => cases e
    | some s =>
      rw [lwT] at e
      have s1 := sm q s rfl
      cases ei : prIf G lwW q.1 q.2 with
      | mk r2 t =>
        rw [ei] at e
        cases t with
        | none => cases e
        | some t =>
          cases e
          have := prIf_ok okW_law s1.1 ei
          exact ⟨this.1, h5, s1.2.1, this.2, s1.2.2⟩
theorem prTx_ok {α : Type} {cl : Nat → Nat → (Nat × Nat) × Option α} {P : α → Prop} (hc : ∀ p k, k ≤ 50 → ∀ r c, cl p k = (r, some c) → r.2 ≤ 50 ∧ P c) : ∀ (n p k : Nat) (acc : List α), k ≤ 50 → (∀ c ∈ acc, P c) → ∀ r cs, prTx G cl n p k acc = (r, some cs) → (∀ c ∈ cs, P c) ∧ cs.length ≤ acc.length + n
  | 0, p, k, acc, _, _, r, cs, e => by cases e
  | n + 1, p, k, acc, hk, ha, r, cs, e => by
    rw [prTx] at e
    cases ec : cl p k with
    | mk q c =>
      rw [ec] at e
      cases c with
      | none => cases e
      | some c =>
        have h1 := hc p k hk q c ec
        have ha' : ∀ d ∈ acc ++ [c], P d := fun d hd => (List.mem_append.mp hd).elim (ha d) (fun z => by rw [List.mem_singleton.mp z]; exact h1.2)
        dsimp only at e
        split at e
        · cases e
          exact ⟨ha', by rw [List.length_append, List.length_singleton]; omega⟩
        · split at e
          · have := prTx_ok hc n (tE G q.1) q.2 (acc ++ [c]) h1.1 ha' r cs e
            rw [List.length_append, List.length_singleton] at this
            exact ⟨this.1, by omega⟩
          · cases e
theorem lawTx_ok {r : Nat × Nat} {cs : List pCl} (e : lawTx G = (r, some cs)) : (∀ c ∈ cs, c.1 < 5 ∧ pOk lwW 9 c.2.1 ∧ pOk lwW 9 c.2.2 ∧ (c.2.1 = none ↔ 3 ≤ c.1)) ∧ cs.length ≤ 12 :=
  prTx_ok (P := fun c => c.1 < 5 ∧ pOk lwW 9 c.2.1 ∧ pOk lwW 9 c.2.2 ∧ (c.2.1 = none ↔ 3 ≤ c.1)) (fun p k hk r c e => prLaw_ok hk e) 12 0 0 [] (by omega) (fun c hc => by cases hc) r cs e
theorem prNx_ok {w : List Nat} (hk : k ≤ 50) {q : Nat × Nat} {t : Option pA} (e : prNx G w p k = (q, some t)) : q.2 ≤ 50 ∧ pOk orW 26 t := by
  unfold prNx at e
  split at e
  · exact opt_ok (gd_pOk (gd_prS okW_ord 8 _ _) hk) e
  · cases e
theorem prTm_ok (hk : k ≤ 50) {q : Nat × Nat} {n : Nat} (e : prTm G p k = (q, some n)) : q.2 ≤ 50 ∧ 1 ≤ n ∧ n ≤ 20 := by
  unfold prTm at e
  split at e
  · split at e
    · rename_i c
      cases e
      have := isNm_k c
      exact ⟨hk, this.2.1, this.2.2⟩
    · cases e
  · cases e
    exact ⟨hk, by omega, by omega⟩
end TMM
