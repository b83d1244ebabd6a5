/-! A SUM COMES TO NO MORE THAN A MILLIARD -/
def Vs (a : pA) : Prop := ∀ e : Nat → Int, (∀ w, -1000000000 ≤ e w ∧ e w ≤ 1000000000) → ∀ v, a.2.2 e = some v → -1000000000 ≤ v ∧ v ≤ 1000000000
section VS
variable {G : pG} {W : List (List Nat × Nat × Nat × Option Nat)}
theorem V_two {o : Nat} {a b : pA} : Vs (pTwo o a b) := by
  intro e he v hv
  have hv' : (match a.2.2 e with
    | none => none
    | some x => match b.2.2 e with
      | none => none
      | some y => opD o x y) = some v := hv
  cases ea : a.2.2 e with
  | none => rw [ea] at hv'; cases hv'
  | some x =>
    rw [ea] at hv'
    dsimp only at hv'
    cases eb : b.2.2 e with
    | none => rw [eb] at hv'; cases hv'
    | some y =>
      rw [eb] at hv'
      exact opD_le hv'
theorem V_F {inner : Option (Nat → Nat → pR)} (hi : ∀ s, inner = some s → ∀ p k q a, s p k = (q, some a) → Vs a) : ∀ p k q a, prF G W inner p k = (q, some a) → Vs a := by
  intro p k q a e
  unfold prF at e
  split at e
  · cases ei : inner with
    | none => rw [ei] at e; cases e
    | some s =>
      rw [ei] at e
      dsimp only at e
      cases es : s (tE G p) k with
      | mk q1 c =>
        rw [es] at e
        cases c with
        | none => cases e
        | some c =>
          dsimp only at e
          split at e
          · cases e
            exact hi s ei _ _ _ _ es
          · cases e
  split at e
  · cases e
  split at e
  · rename_i hn
    cases e
    have hk := isNm_k hn
    intro e he v hv
    have hv' : some ((nV G p : Nat) : Int) = some v := hv
    cases hv'
    omega
  · cases ew : fndW G W p with
    | none => rw [ew] at e; cases e
    | some w =>
      rw [ew] at e
      dsimp only at e
      cases em : w.2.2.2 with
      | none =>
        rw [em] at e
        cases e
        intro e he v hv
        have hv' : some (e w.2.1) = some v := hv
        cases hv'
        exact he _
      | some mx =>
        rw [em] at e
        dsimp only at e
        split at e
        · cases e
          intro e he v hv
          have hv' : some (e (w.2.1 + nV G (tE G p))) = some v := hv
          cases hv'
          exact he _
        · cases e
theorem V_sum {fac : Nat → Nat → pR} (h : ∀ p k q a, fac p k = (q, some a) → Vs a) : ∀ p k q a, prSum G fac p k = (q, some a) → Vs a := fun p k q a e =>
  rowP_P (P := Vs) (fun p k q a e => rowP_P (P := Vs) h (fun o a b _ _ => V_two) p k q a e) (fun o a b _ _ => V_two) p k q a e
theorem V_prS : ∀ (n p k : Nat) q a, prS G W n p k = (q, some a) → Vs a
  | 0, p, k, q, a, e => V_sum (V_F (fun s hs => by cases hs)) p k q a e
  | n + 1, p, k, q, a, e => V_sum (V_F (fun s hs => by cases hs; exact fun p k q a e => V_prS n p k q a e)) p k q a e
theorem V_law {p k : Nat} {r : Nat × Nat} {c : pCl} (e : prLaw G p k = (r, some c)) : ∀ a, c.2.1 = some a → Vs a := by
  unfold prLaw at e
  split at e
  · cases e
  · rename_i h hw
    have sm : ∀ q s, (if h < 3 then opt (prS G lwW 8 (tE G p) k) else ((tE G p, k), some none) : oR) = (q, some s) → ∀ a, s = some a → Vs a := by
      intro q s z
      split at z
      · intro a ha
        generalize er : prS G lwW 8 (tE G p) k = r0 at z
        obtain ⟨q0, x⟩ := r0
        cases x with
        | none => cases z
        | some x =>
          cases z
          cases ha
          exact V_prS 8 _ _ _ _ er
      · cases z
        intro a ha
        cases ha
    generalize (if h < 3 then opt (prS G lwW 8 (tE G p) k) else ((tE G p, k), some none) : oR) = z at e sm
    obtain ⟨q, s⟩ := z
    cases s with
    | none => cases e
    | some s =>
      rw [lwT] at e
      cases ei : prIf G lwW q.1 q.2 with
      | mk r2 t =>
        rw [ei] at e
        cases t with
        | none => cases e
        | some t =>
          cases e
          exact sm q s rfl
theorem lawTx_V {r : Nat × Nat} {cs : List pCl} (e : lawTx G = (r, some cs)) : ∀ c ∈ cs, ∀ a, c.2.1 = some a → Vs a :=
  prTx_ok' (P := fun c : pCl => ∀ a, c.2.1 = some a → Vs a) (fun p k r c e => V_law e) 12 0 0 [] (fun c hc => by cases hc) r cs e
end VS
