/-! THE CLASS'S EXPRESSIONS, EXACTLY -/
abbrev wW : Type := List (List Nat × Nat × Nat × Option Nat)
section SP
variable (G : pG) (W : wW)
def facO : Nat → Option (Nat → Nat → pR)
  | 0 => none
  | e + 1 => some (prS G W e)
def tstO : Nat → Option (Nat → Nat → pR)
  | 0 => none
  | e + 1 => some (prT G W e)
theorem prS_e (e : Nat) : prS G W e = prSum G (prF G W (facO G W e)) := by cases e <;> rfl
theorem prT_e (e : Nat) : prT G W e = prTst G (prPl G (tstO G W e) (prS G W e)) := by cases e <;> rfl
def prBr (e p k : Nat) : pR := if isSg G p 40 = true then (match tstO G W e with
    | none => ((p, k), none)
    | some t => match t (tE G p) k with
      | (q, none) => (q, none)
      | (q, some a) => if isSg G q.1 41 = true then ((tE G q.1, q.2), some a) else (q, none)) else ((p, k), none)
def sp (t e : Nat) : Nat → Nat → pR := if t = 0 then prT G W e else if t = 1 then rowP G (andOp G) (prPl G (tstO G W e) (prS G W e)) pJmp else if t = 2 then prPl G (tstO G W e) (prS G W e) else if t = 3 then prBr G W e else if t = 4 then prCmp G (prS G W e) else if t = 5 then prS G W e else if t = 6 then rowP G (mulOp G) (prF G W (facO G W e)) pTwo else prF G W (facO G W e)
end SP
section SP2
variable {G : pG} {W : wW} {wl : Nat}
theorem gd_facO (hW : okW W wl) (e : Nat) : ∀ s, facO G W e = some s → ∀ p k, gdR G W wl p k (s p k) := by
  intro s h
  cases e with
  | zero => cases h
  | succ e => cases h; exact gd_prS hW e
theorem gd_tstO (hW : okW W wl) (e : Nat) : ∀ s, tstO G W e = some s → ∀ p k, gdR G W wl p k (s p k) := by
  intro s h
  cases e with
  | zero => cases h
  | succ e => cases h; exact gd_prT hW e
theorem gd_prBr (hW : okW W wl) (e p k : Nat) : gdR G W wl p k (prBr G W e p k) := by
  by_cases c : isSg G p 40 = true
  · have : prBr G W e p k = prPn G (tstO G W e) (prS G W e) p k := by unfold prBr prPn; rw [if_pos c, if_pos c]; rfl
    rw [this]
    exact gd_prPn (gd_tstO hW e) (gd_prS hW e) p k
  · unfold prBr
    rw [if_neg c]
    exact gd_no (Nat.le_refl _) id (Nat.le_refl _) id
theorem gd_sp (hW : okW W wl) (t e p k : Nat) : gdR G W wl p k (sp G W t e p k) := by
  unfold sp
  split
  · exact gd_prT hW e p k
  split
  · exact gd_rowP (gd_prPl (gd_tstO hW e) (gd_prS hW e)) (fun p o h => ⟨(andOp_k h).1, cbOk_aJ (by have := (andOp_k h).2; omega)⟩) p k
  split
  · exact gd_prPl (gd_tstO hW e) (gd_prS hW e) p k
  split
  · exact gd_prBr hW e p k
  split
  · exact gd_prCmp (gd_prS hW e) p k
  split
  · exact gd_prS hW e p k
  split
  · exact gd_rowP (gd_prF hW (gd_facO hW e)) (fun p o h => ⟨(mulOp_k h).1, cbOk_a2 (by have := (mulOp_k h).2; omega)⟩) p k
  · exact gd_prF hW (gd_facO hW e) p k
theorem rowP_no {op : Nat → Option Nat} {sub : Nat → Nat → pR} {cb : Nat → pA → pA → pA} {p k : Nat} {q : Nat × Nat} (h : sub p k = (q, none)) : rowP G op sub cb p k = (q, none) := by
  unfold rowP
  rw [h]
theorem rowP_so {op : Nat → Option Nat} {sub : Nat → Nat → pR} {cb : Nat → pA → pA → pA} {p k : Nat} {q : Nat × Nat} {a : pA} (h : sub p k = (q, some a)) : rowP G op sub cb p k = rowL G op sub cb 400 q.1 q.2 a := by
  unfold rowP
  rw [h]
theorem rowL_end {op : Nat → Option Nat} {sub : Nat → Nat → pR} {cb : Nat → pA → pA → pA} {n p k : Nat} {a : pA} (h : n = 0 ∨ op p = none) : rowL G op sub cb n p k a = ((p, k), some a) := by
  cases n with
  | zero => rfl
  | succ n =>
    rw [rowL]
    rcases h with h | h
    · omega
    · rw [h]
theorem rowL_no {op : Nat → Option Nat} {sub : Nat → Nat → pR} {cb : Nat → pA → pA → pA} {n p k o : Nat} {a : pA} {q : Nat × Nat} (ho : op p = some o) (h : sub (tE G p) k = (q, none)) : rowL G op sub cb (n + 1) p k a = (q, none) := by
  rw [rowL, ho]
  dsimp only
  rw [h]
theorem rowL_so {op : Nat → Option Nat} {sub : Nat → Nat → pR} {cb : Nat → pA → pA → pA} {n p k o : Nat} {a b : pA} {q : Nat × Nat} (ho : op p = some o) (h : sub (tE G p) k = (q, some b)) : rowL G op sub cb (n + 1) p k a = rowL G op sub cb n q.1 q.2 (cb o a b) := by
  rw [rowL, ho]
  dsimp only
  rw [h]
end SP2
/-- a reading method follows its spec -/
def cSp (S : hS) (ad : Nat → Nat) (E : cE) (w : (Int32 → hS → Prop) → hS → Prop) (f : Nat → Nat → pR) : Prop := ∀ (o : Nat) (m0 : Nat → Int32) (V : vR) (p k : Nat) (out : List (Nat × Nat)) (q : Int32 → hS → Prop), RC E o m0 V p k out → out.length ≤ p → (∀ r a, f p k = (r, some a) → ∀ V', RC E o m0 V' r.1 r.2 (out ++ a.1 out.length) → q 1 (rv S ad V')) → (∀ r, f p k = (r, none) → ∀ V', FC E.1 E.2.1 r.1 V' → q 0 (rv S ad V')) → w q (rv S ad V)
section CR
variable {S : hS} {ad : Nat → Nat} {E : cE} {W : wW} {wl : Nat} {tx : Nat → Nat}
theorem c_wd {V : vR} {o p k : Nat} {m0 : Nat → Int32} {out : List (Nat × Nat)} (hd : rD ad) (s : List Nat) {q : Int32 → hS → Prop} {j : Nat} (hj : (hTxs[j]?).map (fun r => r.2.2.2) = some s) (hR : RC E o m0 V p k out) (h1 : isWd E.1 p s = true → q 1 (rv S ad V)) (h0 : ¬ isWd E.1 p s = true → q 0 (rv S ad V)) : w_X9_isWord tx q (rv S ad V) (ad 1) (tx j) := by
  cases e : hTxs[j]? with
  | none => rw [e] at hj; cases hj
  | some r =>
    rw [e] at hj
    cases hj
    exact c_isWord hd e hR.1.1 hR.2.2.1 hR.2.1 h1 h0
theorem c_takeWd {V : vR} {o p k : Nat} {m0 : Nat → Int32} {out : List (Nat × Nat)} (hd : rD ad) (s : List Nat) {q : Int32 → hS → Prop} {j : Nat} (hj : (hTxs[j]?).map (fun r => r.2.2.2) = some s) (hR : RC E o m0 V p k out) (h1 : isWd E.1 p s = true → ∀ V', RC E o m0 V' (tE E.1 p) k out → q 1 (rv S ad V')) (h0 : ¬ isWd E.1 p s = true → q 0 (rv S ad V)) : w_X5_takeWord tx q (rv S ad V) (ad 0) (tx j) := by
  cases e : hTxs[j]? with
  | none => rw [e] at hj; cases hj
  | some r =>
    rw [e] at hj
    cases hj
    exact c_takeWord hd e hR h1 h0
theorem set_midC {α : Type} {l r : List α} {x y : α} : (l ++ [x] ++ r).set l.length y = l ++ [y] ++ r := by
  rw [List.append_assoc, List.append_assoc, List.set_append_right _ _ (Nat.le_refl _), Nat.sub_self]
  rfl
theorem c_readTest12 (hd : rD ad) {rec : Nat → (Int32 → hS → Prop) → hS → Nat → Int32 → Prop} {q : Int32 → hS → Prop} {v1 : Int32} {sub : Nat → Nat → pR} (hs : cSp S ad E (fun q S' => rec 1 q S' (ad 0) v1) sub) (hg : ∀ p k, gdR E.1 W wl p k (sub p k)) {o : Nat} {m0 : Nat → Int32} {out0 : List (Nat × Nat)} {V0 : vR} {r0 : Nat × Nat} {a0 : pA} {F : pR} (hR0 : RC E o m0 V0 r0.1 r0.2 (out0 ++ a0.1 out0.length)) (hl0 : (out0 ++ a0.1 out0.length).length ≤ r0.1) (hF0 : rowL E.1 (orOp E.1) sub pJmp 400 r0.1 r0.2 a0 = F) (h1 : ∀ r a, F = (r, some a) → ∀ V', RC E o m0 V' r.1 r.2 (out0 ++ a.1 out0.length) → q 1 (rv S ad V')) (h0 : ∀ r, F = (r, none) → ∀ V', FC E.1 E.2.1 r.1 V' → q 0 (rv S ad V')) : ∃ n, w_X5_readTest_b12 tx rec q n (rv S ad V0) (ad 0) v1 0 := by
  refine loop_m (σ := vR × Nat × (Nat × Nat) × pA) (fun n s => w_X5_readTest_b12 tx rec q n (rv S ad s.1) (ad 0) v1 (nI s.2.1)) (fun s => RC E o m0 s.1 s.2.2.1.1 s.2.2.1.2 (out0 ++ s.2.2.2.1 out0.length) ∧ (out0 ++ s.2.2.2.1 out0.length).length ≤ s.2.2.1.1 ∧ s.2.1 ≤ 400 ∧ rowL E.1 (orOp E.1) sub pJmp (400 - s.2.1) s.2.2.1.1 s.2.2.1.2 s.2.2.2 = F) (fun s => 400 - s.2.1) ?_ (V0, 0, r0, a0) ⟨hR0, hl0, by dsimp only; omega, hF0⟩
  rintro n ⟨V, i, r, a⟩ ⟨hR, hl, hi, hF⟩ ih
  dsimp only at hR hl hi hF ih ⊢
  rw [w_X5_readTest_b12]
  rw [lit_nI 400, nI_leI (by omega) (by omega)]
  have hT := hR.1.1.2.1
  have hp := hR.2.2.1
  refine ⟨fun c => h1 r a (hF.symm.trans (rowL_end (Or.inl (by omega)))) V hR, fun c => ⟨(ri_oK0 hd).mpr trivial, ?_⟩⟩
  rw [show 400 - i = (400 - (i + 1)) + 1 by omega] at hF
  refine c_takeWd hd [111, 114] (by decide) hR (fun hw V1 hR1 => ⟨fun z => absurd z (by decide), fun _ => ?_⟩) (fun hw => ⟨fun _ => h1 r a (hF.symm.trans (rowL_end (Or.inr (by unfold orOp; rw [if_neg hw])))) V hR, fun z => absurd rfl z⟩)
  have ho : orOp E.1 r.1 = some 1 := by unfold orOp; rw [if_pos hw]
  have hk : tK E.1 r.1 ≠ 0 := by rw [isWd_k hw]; decide
  have t1 := tE_gt hk
  have t2 := tS_ge E.1 r.1
  have t3 := tE_le hp
  simp (disch := decide) only [ri_gI0 hd, ri_gI1 hd, ri_gI2 hd, ri_gP00 hd, ri_gP01 hd, ri_gP10 hd, ri_gP23 hd, ri_gP24 hd, ri_gP25 hd, ri_gP26 hd, ri_pI0 hd, ri_pZ0 hd, ri_pI1 hd, ri_pI2 hd, ri_oK0 hd, ri_oK1 hd, ri_oK2 hd, ri_aI hd, ri_sI hd, ri_aN hd, rN_3, rN_4, rN_5, rN_6, rN_7, vS_at, Nat.reduceEqDiff, if_true, if_false, ite_true, ite_false, true_and, Nat.reduceLT, reduceIte, reduceCtorEq]
  refine c_add hd (op := 11) (arg := 0) rfl rfl hR1 (by omega) ⟨by decide, by decide⟩ (fun V2 hR2 => ⟨(ri_oK0 hd).mpr trivial, ?_⟩)
  have l2 : (out0 ++ a.1 out0.length ++ [(11, 0)]).length = (out0 ++ a.1 out0.length).length + 1 := by rw [List.length_append, List.length_singleton]
  refine hs o m0 V2 (tE E.1 r.1) r.2 _ _ hR2 (by omega) (fun r' b e V3 hR3 => ⟨fun _ => ?_, fun z => absurd z (by decide)⟩) (fun r' e V3 hF3 => ⟨fun z => absurd rfl z, fun _ => h0 r' (hF.symm.trans (rowL_no ho e)) V3 hF3⟩)
  have g := hg (tE E.1 r.1) r.2
  rw [e] at g
  obtain ⟨b1, b2, b3, b4, b5⟩ := g
  obtain ⟨c1, c2, c3, c4⟩ := b5 b rfl
  have lb := (c4 (out0 ++ a.1 out0.length ++ [(11, 0)]).length).1
  dsimp only at lb b1 b2
  have b2 := b2 t3
  simp (disch := decide) only [ri_gI0 hd, ri_gI1 hd, ri_gI2 hd, ri_gP00 hd, ri_gP01 hd, ri_gP10 hd, ri_gP23 hd, ri_gP24 hd, ri_gP25 hd, ri_gP26 hd, ri_pI0 hd, ri_pZ0 hd, ri_pI1 hd, ri_pI2 hd, ri_oK0 hd, ri_oK1 hd, ri_oK2 hd, ri_aI hd, ri_sI hd, ri_aN hd, rN_3, rN_4, rN_5, rN_6, rN_7, vS_at, Nat.reduceEqDiff, if_true, if_false, ite_true, ite_false, true_and, Nat.reduceLT, reduceIte, reduceCtorEq]
  have l3 : (out0 ++ a.1 out0.length ++ [(11, 0)] ++ b.1 (out0 ++ a.1 out0.length ++ [(11, 0)]).length).length = (out0 ++ a.1 out0.length).length + 1 + (b.1 (out0 ++ a.1 out0.length ++ [(11, 0)]).length).length := by rw [List.length_append, l2]
  refine c_land hd hR3 (by omega) (fun V4 hR4 y ey => ?_)
  rw [ey, nI_1]
  have es : (out0 ++ a.1 out0.length ++ [(11, 0)] ++ b.1 (out0 ++ a.1 out0.length ++ [(11, 0)]).length).set (out0 ++ a.1 out0.length).length (((out0 ++ a.1 out0.length ++ [(11, 0)] ++ b.1 (out0 ++ a.1 out0.length ++ [(11, 0)]).length)[(out0 ++ a.1 out0.length).length]'(by omega)).1, (out0 ++ a.1 out0.length ++ [(11, 0)] ++ b.1 (out0 ++ a.1 out0.length ++ [(11, 0)]).length).length) = out0 ++ (pJmp 1 a b).1 out0.length := by
    rw [set_midC]
    have e1 : ((out0 ++ a.1 out0.length ++ [(11, 0)] ++ b.1 (out0 ++ a.1 out0.length ++ [(11, 0)]).length)[(out0 ++ a.1 out0.length).length]'(by omega)).1 = 11 := by
      rw [List.getElem_append_left (by omega), List.getElem_append_right (Nat.le_refl _)]
      simp
    rw [e1, l3, l2, List.length_append]
    show _ = out0 ++ (a.1 out0.length ++ [(12 - 1, out0.length + (a.1 out0.length).length + 1 + (b.1 (out0.length + (a.1 out0.length).length + 1)).length)] ++ b.1 (out0.length + (a.1 out0.length).length + 1))
    rw [← List.append_assoc, ← List.append_assoc]
  rw [es] at hR4
  have l4 : (out0 ++ (pJmp 1 a b).1 out0.length).length = (out0 ++ a.1 out0.length).length + 1 + (b.1 (out0 ++ a.1 out0.length ++ [(11, 0)]).length).length := by rw [← es, List.length_set, l3]
  exact ih (V4, i + 1, r', pJmp 1 a b) ⟨hR4, by dsimp only; omega, by dsimp only; omega, (rowL_so ho e).symm.trans hF⟩ (by dsimp only; omega)
theorem c_readBoth12 (hd : rD ad) {rec : Nat → (Int32 → hS → Prop) → hS → Nat → Int32 → Prop} {q : Int32 → hS → Prop} {v1 : Int32} {sub : Nat → Nat → pR} (hs : cSp S ad E (fun q S' => rec 2 q S' (ad 0) v1) sub) (hg : ∀ p k, gdR E.1 W wl p k (sub p k)) {o : Nat} {m0 : Nat → Int32} {out0 : List (Nat × Nat)} {V0 : vR} {r0 : Nat × Nat} {a0 : pA} {F : pR} (hR0 : RC E o m0 V0 r0.1 r0.2 (out0 ++ a0.1 out0.length)) (hl0 : (out0 ++ a0.1 out0.length).length ≤ r0.1) (hF0 : rowL E.1 (andOp E.1) sub pJmp 400 r0.1 r0.2 a0 = F) (h1 : ∀ r a, F = (r, some a) → ∀ V', RC E o m0 V' r.1 r.2 (out0 ++ a.1 out0.length) → q 1 (rv S ad V')) (h0 : ∀ r, F = (r, none) → ∀ V', FC E.1 E.2.1 r.1 V' → q 0 (rv S ad V')) : ∃ n, w_X5_readBoth_b12 tx rec q n (rv S ad V0) (ad 0) v1 0 := by
  refine loop_m (σ := vR × Nat × (Nat × Nat) × pA) (fun n s => w_X5_readBoth_b12 tx rec q n (rv S ad s.1) (ad 0) v1 (nI s.2.1)) (fun s => RC E o m0 s.1 s.2.2.1.1 s.2.2.1.2 (out0 ++ s.2.2.2.1 out0.length) ∧ (out0 ++ s.2.2.2.1 out0.length).length ≤ s.2.2.1.1 ∧ s.2.1 ≤ 400 ∧ rowL E.1 (andOp E.1) sub pJmp (400 - s.2.1) s.2.2.1.1 s.2.2.1.2 s.2.2.2 = F) (fun s => 400 - s.2.1) ?_ (V0, 0, r0, a0) ⟨hR0, hl0, by dsimp only; omega, hF0⟩
  rintro n ⟨V, i, r, a⟩ ⟨hR, hl, hi, hF⟩ ih
  dsimp only at hR hl hi hF ih ⊢
  rw [w_X5_readBoth_b12]
  rw [lit_nI 400, nI_leI (by omega) (by omega)]
  have hT := hR.1.1.2.1
  have hp := hR.2.2.1
  refine ⟨fun c => h1 r a (hF.symm.trans (rowL_end (Or.inl (by omega)))) V hR, fun c => ⟨(ri_oK0 hd).mpr trivial, ?_⟩⟩
  rw [show 400 - i = (400 - (i + 1)) + 1 by omega] at hF
  refine c_takeWd hd [97, 110, 100] (by decide) hR (fun hw V1 hR1 => ⟨fun z => absurd z (by decide), fun _ => ?_⟩) (fun hw => ⟨fun _ => h1 r a (hF.symm.trans (rowL_end (Or.inr (by unfold andOp; rw [if_neg hw])))) V hR, fun z => absurd rfl z⟩)
  have ho : andOp E.1 r.1 = some 0 := by unfold andOp; rw [if_pos hw]
  have hk : tK E.1 r.1 ≠ 0 := by rw [isWd_k hw]; decide
  have t1 := tE_gt hk
  have t2 := tS_ge E.1 r.1
  have t3 := tE_le hp
  simp (disch := decide) only [ri_gI0 hd, ri_gI1 hd, ri_gI2 hd, ri_gP00 hd, ri_gP01 hd, ri_gP10 hd, ri_gP23 hd, ri_gP24 hd, ri_gP25 hd, ri_gP26 hd, ri_pI0 hd, ri_pZ0 hd, ri_pI1 hd, ri_pI2 hd, ri_oK0 hd, ri_oK1 hd, ri_oK2 hd, ri_aI hd, ri_sI hd, ri_aN hd, rN_3, rN_4, rN_5, rN_6, rN_7, vS_at, Nat.reduceEqDiff, if_true, if_false, ite_true, ite_false, true_and, Nat.reduceLT, reduceIte, reduceCtorEq]
  refine c_add hd (op := 12) (arg := 0) rfl rfl hR1 (by omega) ⟨by decide, by decide⟩ (fun V2 hR2 => ⟨(ri_oK0 hd).mpr trivial, ?_⟩)
  have l2 : (out0 ++ a.1 out0.length ++ [(12, 0)]).length = (out0 ++ a.1 out0.length).length + 1 := by rw [List.length_append, List.length_singleton]
  refine hs o m0 V2 (tE E.1 r.1) r.2 _ _ hR2 (by omega) (fun r' b e V3 hR3 => ⟨fun _ => ?_, fun z => absurd z (by decide)⟩) (fun r' e V3 hF3 => ⟨fun z => absurd rfl z, fun _ => h0 r' (hF.symm.trans (rowL_no ho e)) V3 hF3⟩)
  have g := hg (tE E.1 r.1) r.2
  rw [e] at g
  obtain ⟨b1, b2, b3, b4, b5⟩ := g
  obtain ⟨c1, c2, c3, c4⟩ := b5 b rfl
  have lb := (c4 (out0 ++ a.1 out0.length ++ [(12, 0)]).length).1
  dsimp only at lb b1 b2
  have b2 := b2 t3
  simp (disch := decide) only [ri_gI0 hd, ri_gI1 hd, ri_gI2 hd, ri_gP00 hd, ri_gP01 hd, ri_gP10 hd, ri_gP23 hd, ri_gP24 hd, ri_gP25 hd, ri_gP26 hd, ri_pI0 hd, ri_pZ0 hd, ri_pI1 hd, ri_pI2 hd, ri_oK0 hd, ri_oK1 hd, ri_oK2 hd, ri_aI hd, ri_sI hd, ri_aN hd, rN_3, rN_4, rN_5, rN_6, rN_7, vS_at, Nat.reduceEqDiff, if_true, if_false, ite_true, ite_false, true_and, Nat.reduceLT, reduceIte, reduceCtorEq]
  have l3 : (out0 ++ a.1 out0.length ++ [(12, 0)] ++ b.1 (out0 ++ a.1 out0.length ++ [(12, 0)]).length).length = (out0 ++ a.1 out0.length).length + 1 + (b.1 (out0 ++ a.1 out0.length ++ [(12, 0)]).length).length := by rw [List.length_append, l2]
  refine c_land hd hR3 (by omega) (fun V4 hR4 y ey => ?_)
  rw [ey, nI_1]
  have es : (out0 ++ a.1 out0.length ++ [(12, 0)] ++ b.1 (out0 ++ a.1 out0.length ++ [(12, 0)]).length).set (out0 ++ a.1 out0.length).length (((out0 ++ a.1 out0.length ++ [(12, 0)] ++ b.1 (out0 ++ a.1 out0.length ++ [(12, 0)]).length)[(out0 ++ a.1 out0.length).length]'(by omega)).1, (out0 ++ a.1 out0.length ++ [(12, 0)] ++ b.1 (out0 ++ a.1 out0.length ++ [(12, 0)]).length).length) = out0 ++ (pJmp 0 a b).1 out0.length := by
    rw [set_midC]
    have e1 : ((out0 ++ a.1 out0.length ++ [(12, 0)] ++ b.1 (out0 ++ a.1 out0.length ++ [(12, 0)]).length)[(out0 ++ a.1 out0.length).length]'(by omega)).1 = 12 := by
      rw [List.getElem_append_left (by omega), List.getElem_append_right (Nat.le_refl _)]
      simp
    rw [e1, l3, l2, List.length_append]
    show _ = out0 ++ (a.1 out0.length ++ [(12 - 0, out0.length + (a.1 out0.length).length + 1 + (b.1 (out0.length + (a.1 out0.length).length + 1)).length)] ++ b.1 (out0.length + (a.1 out0.length).length + 1))
    rw [← List.append_assoc, ← List.append_assoc]
  rw [es] at hR4
  have l4 : (out0 ++ (pJmp 0 a b).1 out0.length).length = (out0 ++ a.1 out0.length).length + 1 + (b.1 (out0 ++ a.1 out0.length ++ [(12, 0)]).length).length := by rw [← es, List.length_set, l3]
  exact ih (V4, i + 1, r', pJmp 0 a b) ⟨hR4, by dsimp only; omega, by dsimp only; omega, (rowL_so ho e).symm.trans hF⟩ (by dsimp only; omega)
theorem mulOp_so {G : pG} {p t : Nat} (h : mulOp G p = some t) : t < 13 := by have := (mulOp_k h).2; omega
theorem c_readSum60 (hd : rD ad) {rec : Nat → (Int32 → hS → Prop) → hS → Nat → Int32 → Prop} {q : Int32 → hS → Prop} {K : hS → Nat → Int32 → Int32 → Prop} {v1 v2 x : Int32} {sub : Nat → Nat → pR} (hs : cSp S ad E (fun q S' => rec 6 q S' (ad 0) v1) sub) (hg : ∀ p k, gdR E.1 W wl p k (sub p k)) {o t : Nat} {m0 : Nat → Int32} {V : vR} {p k : Nat} {out : List (Nat × Nat)} (hR : RC E o m0 V p k out) (hl : out.length ≤ p) (hk : tK E.1 p ≠ 0) (ht : t ≤ 12) (ex : x = nI t) (h1 : ∀ r b, sub (tE E.1 p) k = (r, some b) → ∀ V', RC E o m0 V' r.1 r.2 (out ++ b.1 out.length ++ [(t, 0)]) → out.length + (b.1 out.length).length + 1 ≤ r.1 → ∀ y, y = v2 + 1 → K (rv S ad V') (ad 0) v1 y) (h0 : ∀ r, sub (tE E.1 p) k = (r, none) → ∀ V', FC E.1 E.2.1 r.1 V' → q 0 (rv S ad V')) : w_X5_readSum_b60 tx rec q K (rv S ad V) (ad 0) v1 v2 x := by
  have hT := hR.1.1.2.1
  have t1 := tE_gt hk
  have t2 := tS_ge E.1 p
  have t3 := tE_le hR.2.2.1
  unfold w_X5_readSum_b60
  simp (disch := decide) only [ri_gI0 hd, ri_gI1 hd, ri_gI2 hd, ri_gP00 hd, ri_gP01 hd, ri_gP10 hd, ri_gP23 hd, ri_gP24 hd, ri_gP25 hd, ri_gP26 hd, ri_pI0 hd, ri_pZ0 hd, ri_pI1 hd, ri_pI2 hd, ri_oK0 hd, ri_oK1 hd, ri_oK2 hd, ri_aI hd, ri_sI hd, ri_aN hd, rN_3, rN_4, rN_5, rN_6, rN_7, vS_at, Nat.reduceEqDiff, if_true, if_false, ite_true, ite_false, true_and, Nat.reduceLT, reduceIte, reduceCtorEq]
  refine c_adv2 hd hR (fun V1 hR1 => ⟨(ri_oK0 hd).mpr trivial, hs o m0 V1 _ k out _ hR1 (by omega) (fun r b e V2 hR2 => ⟨fun _ => ?_, fun z => absurd z (by decide)⟩) (fun r e V2 hF2 => ⟨fun z => absurd rfl z, fun _ => h0 r e V2 hF2⟩)⟩)
  have g := hg (tE E.1 p) k
  rw [e] at g
  obtain ⟨b1, b2, b3, b4, b5⟩ := g
  obtain ⟨c1, c2, c3, c4⟩ := b5 b rfl
  have lb := (c4 out.length).1
  dsimp only at lb b1 b2
  have b2 := b2 t3
  have l2 : (out ++ b.1 out.length).length = out.length + (b.1 out.length).length := List.length_append
  simp (disch := decide) only [ri_gI0 hd, ri_gI1 hd, ri_gI2 hd, ri_gP00 hd, ri_gP01 hd, ri_gP10 hd, ri_gP23 hd, ri_gP24 hd, ri_gP25 hd, ri_gP26 hd, ri_pI0 hd, ri_pZ0 hd, ri_pI1 hd, ri_pI2 hd, ri_oK0 hd, ri_oK1 hd, ri_oK2 hd, ri_aI hd, ri_sI hd, ri_aN hd, rN_3, rN_4, rN_5, rN_6, rN_7, vS_at, Nat.reduceEqDiff, if_true, if_false, ite_true, ite_false, true_and, Nat.reduceLT, reduceIte, reduceCtorEq]
  exact c_add hd (op := t) (arg := 0) ex rfl hR2 (by omega) ⟨ht, by dsimp only; omega⟩ (fun V3 hR3 => h1 r b e V3 hR3 (by omega))
theorem c_readTerm60 (hd : rD ad) {rec : Nat → (Int32 → hS → Prop) → hS → Nat → Int32 → Prop} {q : Int32 → hS → Prop} {K : hS → Nat → Int32 → Int32 → Prop} {v1 v2 x : Int32} {sub : Nat → Nat → pR} (hs : cSp S ad E (fun q S' => rec 7 q S' (ad 0) v1) sub) (hg : ∀ p k, gdR E.1 W wl p k (sub p k)) {o t : Nat} {m0 : Nat → Int32} {V : vR} {p k : Nat} {out : List (Nat × Nat)} (hR : RC E o m0 V p k out) (hl : out.length ≤ p) (hk : tK E.1 p ≠ 0) (ht : t ≤ 12) (ex : x = nI t) (h1 : ∀ r b, sub (tE E.1 p) k = (r, some b) → ∀ V', RC E o m0 V' r.1 r.2 (out ++ b.1 out.length ++ [(t, 0)]) → out.length + (b.1 out.length).length + 1 ≤ r.1 → ∀ y, y = v2 + 1 → K (rv S ad V') (ad 0) v1 y) (h0 : ∀ r, sub (tE E.1 p) k = (r, none) → ∀ V', FC E.1 E.2.1 r.1 V' → q 0 (rv S ad V')) : w_X5_readTerm_b60 tx rec q K (rv S ad V) (ad 0) v1 v2 x := by
  have hT := hR.1.1.2.1
  have t1 := tE_gt hk
  have t2 := tS_ge E.1 p
  have t3 := tE_le hR.2.2.1
  unfold w_X5_readTerm_b60
  simp (disch := decide) only [ri_gI0 hd, ri_gI1 hd, ri_gI2 hd, ri_gP00 hd, ri_gP01 hd, ri_gP10 hd, ri_gP23 hd, ri_gP24 hd, ri_gP25 hd, ri_gP26 hd, ri_pI0 hd, ri_pZ0 hd, ri_pI1 hd, ri_pI2 hd, ri_oK0 hd, ri_oK1 hd, ri_oK2 hd, ri_aI hd, ri_sI hd, ri_aN hd, rN_3, rN_4, rN_5, rN_6, rN_7, vS_at, Nat.reduceEqDiff, if_true, if_false, ite_true, ite_false, true_and, Nat.reduceLT, reduceIte, reduceCtorEq]
  refine c_adv2 hd hR (fun V1 hR1 => ⟨(ri_oK0 hd).mpr trivial, hs o m0 V1 _ k out _ hR1 (by omega) (fun r b e V2 hR2 => ⟨fun _ => ?_, fun z => absurd z (by decide)⟩) (fun r e V2 hF2 => ⟨fun z => absurd rfl z, fun _ => h0 r e V2 hF2⟩)⟩)
  have g := hg (tE E.1 p) k
  rw [e] at g
  obtain ⟨b1, b2, b3, b4, b5⟩ := g
  obtain ⟨c1, c2, c3, c4⟩ := b5 b rfl
  have lb := (c4 out.length).1
  dsimp only at lb b1 b2
  have b2 := b2 t3
  have l2 : (out ++ b.1 out.length).length = out.length + (b.1 out.length).length := List.length_append
  simp (disch := decide) only [ri_gI0 hd, ri_gI1 hd, ri_gI2 hd, ri_gP00 hd, ri_gP01 hd, ri_gP10 hd, ri_gP23 hd, ri_gP24 hd, ri_gP25 hd, ri_gP26 hd, ri_pI0 hd, ri_pZ0 hd, ri_pI1 hd, ri_pI2 hd, ri_oK0 hd, ri_oK1 hd, ri_oK2 hd, ri_aI hd, ri_sI hd, ri_aN hd, rN_3, rN_4, rN_5, rN_6, rN_7, vS_at, Nat.reduceEqDiff, if_true, if_false, ite_true, ite_false, true_and, Nat.reduceLT, reduceIte, reduceCtorEq]
  exact c_add hd (op := t) (arg := 0) ex rfl hR2 (by omega) ⟨ht, by dsimp only; omega⟩ (fun V3 hR3 => h1 r b e V3 hR3 (by omega))
theorem addOp_eq {G : pG} {p : Nat} : addOp G p = (if isSg G p 43 = true then some 2 else if isSg G p 45 = true then some 3 else none) := rfl
theorem two_app {a b : pA} {o : Nat} {out0 : List (Nat × Nat)} : out0 ++ a.1 out0.length ++ b.1 (out0 ++ a.1 out0.length).length ++ [(o, 0)] = out0 ++ (pTwo o a b).1 out0.length := by
  show _ = out0 ++ (a.1 out0.length ++ b.1 (out0.length + (a.1 out0.length).length) ++ [(o, 0)])
  rw [List.length_append, ← List.append_assoc, ← List.append_assoc]
theorem c_readSum12 (hd : rD ad) {rec : Nat → (Int32 → hS → Prop) → hS → Nat → Int32 → Prop} {q : Int32 → hS → Prop} {v1 : Int32} {sub : Nat → Nat → pR} (hs : cSp S ad E (fun q S' => rec 6 q S' (ad 0) v1) sub) (hg : ∀ p k, gdR E.1 W wl p k (sub p k)) {o : Nat} {m0 : Nat → Int32} {out0 : List (Nat × Nat)} {V0 : vR} {r0 : Nat × Nat} {a0 : pA} {F : pR} (hR0 : RC E o m0 V0 r0.1 r0.2 (out0 ++ a0.1 out0.length)) (hl0 : (out0 ++ a0.1 out0.length).length ≤ r0.1) (hF0 : rowL E.1 (addOp E.1) sub pTwo 400 r0.1 r0.2 a0 = F) (h1 : ∀ r a, F = (r, some a) → ∀ V', RC E o m0 V' r.1 r.2 (out0 ++ a.1 out0.length) → q 1 (rv S ad V')) (h0 : ∀ r, F = (r, none) → ∀ V', FC E.1 E.2.1 r.1 V' → q 0 (rv S ad V')) : ∃ n, w_X5_readSum_b12 tx rec q n (rv S ad V0) (ad 0) v1 0 := by
  refine loop_m (σ := vR × Nat × (Nat × Nat) × pA) (fun n s => w_X5_readSum_b12 tx rec q n (rv S ad s.1) (ad 0) v1 (nI s.2.1)) (fun s => RC E o m0 s.1 s.2.2.1.1 s.2.2.1.2 (out0 ++ s.2.2.2.1 out0.length) ∧ (out0 ++ s.2.2.2.1 out0.length).length ≤ s.2.2.1.1 ∧ s.2.1 ≤ 400 ∧ rowL E.1 (addOp E.1) sub pTwo (400 - s.2.1) s.2.2.1.1 s.2.2.1.2 s.2.2.2 = F) (fun s => 400 - s.2.1) ?_ (V0, 0, r0, a0) ⟨hR0, hl0, by dsimp only; omega, hF0⟩
  rintro n ⟨V, i, r, a⟩ ⟨hR, hl, hi, hF⟩ ih
  dsimp only at hR hl hi hF ih ⊢
  have body : ∀ t x, addOp E.1 r.1 = some t → x = nI t → i < 400 → w_X5_readSum_b60 tx rec q (fun S v0 v1 v2 => w_X5_readSum_b12 tx rec q n S v0 v1 v2) (rv S ad V) (ad 0) v1 (nI i) x := by
    intro t x ho ex hi2
    rw [show 400 - i = (400 - (i + 1)) + 1 by omega] at hF
    obtain ⟨hk, ht⟩ := addOp_k ho
    refine c_readSum60 hd hs hg hR hl hk (by omega) ex (fun r' b e V3 hR3 l3 y ey => ?_) (fun r' e V3 hF3 => h0 r' (hF.symm.trans (rowL_no ho e)) V3 hF3)
    rw [ey, nI_1]
    rw [two_app] at hR3
    have l4 : (out0 ++ (pTwo t a b).1 out0.length).length = (out0 ++ a.1 out0.length).length + (b.1 (out0 ++ a.1 out0.length).length).length + 1 := by rw [← two_app, List.length_append, List.length_append, List.length_singleton]
    exact ih (V3, i + 1, r', pTwo t a b) ⟨hR3, by dsimp only; omega, by dsimp only; omega, (rowL_so ho e).symm.trans hF⟩ (by dsimp only; omega)
  rw [w_X5_readSum_b12]
  rw [lit_nI 400, nI_leI (by omega) (by omega)]
  refine ⟨fun c => h1 r a (hF.symm.trans (rowL_end (Or.inl (by omega)))) V hR, fun c => ?_⟩
  unfold w_X5_readSum_b43
  refine c_sgP hd (c := 43) rfl hR (by decide) (fun hs1 => ⟨fun _ => ?_, fun z => absurd z (by decide)⟩) (fun hs1 => ⟨fun z => absurd rfl z, fun _ => c_sgP hd (c := 45) rfl hR (by decide) (fun hs2 => ⟨fun z => absurd z (by decide), fun _ => ?_⟩) (fun hs2 => ⟨fun _ => h1 r a (hF.symm.trans (rowL_end (Or.inr (by rw [addOp_eq, if_neg hs1, if_neg hs2])))) V hR, fun z => absurd rfl z⟩)⟩)
  · refine c_sgP hd (c := 43) rfl hR (by decide) (fun hs2 => ⟨fun z => absurd z (by decide), fun _ => body 2 2 (by rw [addOp_eq, if_pos hs1]) rfl (by omega)⟩) (fun hs2 => absurd hs1 hs2)
  · refine c_sgP hd (c := 43) rfl hR (by decide) (fun hs3 => absurd hs3 hs1) (fun hs3 => ⟨fun _ => body 3 3 (by rw [addOp_eq, if_neg hs1, if_pos hs2]) rfl (by omega), fun z => absurd rfl z⟩)
theorem mulOp_eq {G : pG} {p : Nat} : mulOp G p = (if isSg G p 42 = true then some 4 else if isSg G p 47 = true then some 5 else if isSg G p 37 = true then some 6 else none) := rfl
theorem c_isTermSign (hd : rD ad) {q : Int32 → hS → Prop} {o : Nat} {m0 : Nat → Int32} {V : vR} {p k : Nat} {out : List (Nat × Nat)} (hR : RC E o m0 V p k out) (h1 : (isSg E.1 p 42 = true ∨ isSg E.1 p 47 = true ∨ isSg E.1 p 37 = true) → q 1 (rv S ad V)) (h0 : mulOp E.1 p = none → q 0 (rv S ad V)) : w_X5_isTermSign q (rv S ad V) (ad 0) := by
  unfold w_X5_isTermSign w_X5_isTermSign_b36
  refine c_sgP hd (c := 42) rfl hR (by decide) (fun hs1 => ⟨fun _ => h1 (Or.inl hs1), fun z => absurd z (by decide)⟩) (fun hs1 => ⟨fun z => absurd rfl z, fun _ => ?_⟩)
  refine c_sgP hd (c := 47) rfl hR (by decide) (fun hs2 => ⟨fun _ => h1 (Or.inr (Or.inl hs2)), fun z => absurd z (by decide)⟩) (fun hs2 => ⟨fun z => absurd rfl z, fun _ => ?_⟩)
  exact c_sgP hd (c := 37) rfl hR (by decide) (fun hs3 => ⟨fun z => absurd z (by decide), fun _ => h1 (Or.inr (Or.inr hs3))⟩) (fun hs3 => ⟨fun _ => h0 (by rw [mulOp_eq, if_neg hs1, if_neg hs2, if_neg hs3]), fun z => absurd rfl z⟩)
theorem c_readTerm12 (hd : rD ad) {rec : Nat → (Int32 → hS → Prop) → hS → Nat → Int32 → Prop} {q : Int32 → hS → Prop} {v1 : Int32} {sub : Nat → Nat → pR} (hs : cSp S ad E (fun q S' => rec 7 q S' (ad 0) v1) sub) (hg : ∀ p k, gdR E.1 W wl p k (sub p k)) {o : Nat} {m0 : Nat → Int32} {out0 : List (Nat × Nat)} {V0 : vR} {r0 : Nat × Nat} {a0 : pA} {F : pR} (hR0 : RC E o m0 V0 r0.1 r0.2 (out0 ++ a0.1 out0.length)) (hl0 : (out0 ++ a0.1 out0.length).length ≤ r0.1) (hF0 : rowL E.1 (mulOp E.1) sub pTwo 400 r0.1 r0.2 a0 = F) (h1 : ∀ r a, F = (r, some a) → ∀ V', RC E o m0 V' r.1 r.2 (out0 ++ a.1 out0.length) → q 1 (rv S ad V')) (h0 : ∀ r, F = (r, none) → ∀ V', FC E.1 E.2.1 r.1 V' → q 0 (rv S ad V')) : ∃ n, w_X5_readTerm_b12 tx rec q n (rv S ad V0) (ad 0) v1 0 := by
  refine loop_m (σ := vR × Nat × (Nat × Nat) × pA) (fun n s => w_X5_readTerm_b12 tx rec q n (rv S ad s.1) (ad 0) v1 (nI s.2.1)) (fun s => RC E o m0 s.1 s.2.2.1.1 s.2.2.1.2 (out0 ++ s.2.2.2.1 out0.length) ∧ (out0 ++ s.2.2.2.1 out0.length).length ≤ s.2.2.1.1 ∧ s.2.1 ≤ 400 ∧ rowL E.1 (mulOp E.1) sub pTwo (400 - s.2.1) s.2.2.1.1 s.2.2.1.2 s.2.2.2 = F) (fun s => 400 - s.2.1) ?_ (V0, 0, r0, a0) ⟨hR0, hl0, by dsimp only; omega, hF0⟩
  rintro n ⟨V, i, r, a⟩ ⟨hR, hl, hi, hF⟩ ih
  dsimp only at hR hl hi hF ih ⊢
  have body : ∀ t x, mulOp E.1 r.1 = some t → x = nI t → i < 400 → w_X5_readTerm_b60 tx rec q (fun S v0 v1 v2 => w_X5_readTerm_b12 tx rec q n S v0 v1 v2) (rv S ad V) (ad 0) v1 (nI i) x := by
    intro t x ho ex hi2
    rw [show 400 - i = (400 - (i + 1)) + 1 by omega] at hF
    obtain ⟨hk, ht⟩ := mulOp_k ho
    refine c_readTerm60 hd hs hg hR hl hk (by omega) ex (fun r' b e V3 hR3 l3 y ey => ?_) (fun r' e V3 hF3 => h0 r' (hF.symm.trans (rowL_no ho e)) V3 hF3)
    rw [ey, nI_1]
    rw [two_app] at hR3
    have l4 : (out0 ++ (pTwo t a b).1 out0.length).length = (out0 ++ a.1 out0.length).length + (b.1 (out0 ++ a.1 out0.length).length).length + 1 := by rw [← two_app, List.length_append, List.length_append, List.length_singleton]
    exact ih (V3, i + 1, r', pTwo t a b) ⟨hR3, by dsimp only; omega, by dsimp only; omega, (rowL_so ho e).symm.trans hF⟩ (by dsimp only; omega)
  rw [w_X5_readTerm_b12]
  rw [lit_nI 400, nI_leI (by omega) (by omega)]
  refine ⟨fun c => h1 r a (hF.symm.trans (rowL_end (Or.inl (by omega)))) V hR, fun c => ⟨(ri_oK0 hd).mpr trivial, c_isTermSign hd hR (fun hs0 => ⟨fun z => absurd z (by decide), fun _ => ?_⟩) (fun hs0 => ⟨fun _ => h1 r a (hF.symm.trans (rowL_end (Or.inr hs0))) V hR, fun z => absurd rfl z⟩)⟩⟩
  refine c_sgP hd (c := 42) rfl hR (by decide) (fun hs1 => ⟨fun z => absurd z (by decide), fun _ => body 4 4 (by rw [mulOp_eq, if_pos hs1]) rfl (by omega)⟩) (fun hs1 => ⟨fun _ => ?_, fun z => absurd rfl z⟩)
  refine c_sgP hd (c := 47) rfl hR (by decide) (fun hs2 => ⟨fun z => absurd z (by decide), fun _ => body 5 5 (by rw [mulOp_eq, if_neg hs1, if_pos hs2]) rfl (by omega)⟩) (fun hs2 => ⟨fun _ => ?_, fun z => absurd rfl z⟩)
  exact body 6 6 (by rw [mulOp_eq, if_neg hs1, if_neg hs2, if_pos (by rcases hs0 with z | z | z <;> first | exact absurd z hs1 | exact absurd z hs2 | exact z)]) rfl (by omega)
end CR
