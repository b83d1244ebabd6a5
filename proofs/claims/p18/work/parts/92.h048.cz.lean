/-! THE CLASS'S ORDERS, AND read(), EXACTLY -/
section CZ
variable {S : hS} {ad : Nat → Nat} {E : cE} {W : wW} {wl : Nat} {tx : Nat → Nat} {o p k : Nat} {e : Nat → Nat} {M0 : Nat → Int32} {V : vR} {out : List (Nat × Nat)} {G : pG} {B : Nat → Int32} {z : Nat} {cs : List pX}
/-- how often, and the test -/
theorem c_tailO (hd : rD ad) {q : Int32 → hS → Prop} {n : Nat} {kd k5 : Nat → Int32} (ho : o ≤ 3) (hR : QC (G, B, 0, n + 1, kd, upd k5 n 1) o e M0 V p k out) (h1 : ∀ r1 T r2 t, prTm G p k = (r1, some T) → prIf G orW r1.1 r1.2 = (r2, some t) → ∀ V', QC (G, B, 0, n + 1, kd, upd k5 n (nI T)) 3 (fun i => if i ≤ o then e i else out.length) M0 V' r2.1 r2.2 (out ++ oC t out.length) → q 1 (rv S ad V')) (h0 : ∀ r, (prTm G p k = (r, none) ∨ ∃ r1 T, prTm G p k = (r1, some T) ∧ prIf G orW r1.1 r1.2 = (r, none)) → ∀ V', FC G B r.1 V' → q 0 (rv S ad V')) : w_X5_readTimes tx (fun x S => (x = 0 → q 0 S) ∧ (¬ x = 0 → oK S (ad 0) 5 ∧ w_X5_readIf tx (fun y S => (y = 0 → q 0 S) ∧ (¬ y = 0 → q 1 S)) S (ad 0))) (rv S ad V) (ad 0) := by
  refine c_times hd hR (fun r1 T e1 V1 hR1 => ⟨fun z => absurd z (by decide), fun _ => ⟨(ri_oK0 hd).mpr trivial, ?_⟩⟩) (fun r e1 V1 hF => ⟨fun _ => h0 r (Or.inl e1) V1 hF, fun z => absurd rfl z⟩)
  exact c_readIf hd (W := orW) (wl := 26) (Or.inr ⟨rfl, rfl⟩) okW_ord ho hR1 (fun r2 t e2 V2 hR2 => ⟨fun z => absurd z (by decide), fun _ => h1 r1 T r2 t e1 e2 V2 hR2⟩) (fun r2 e2 V2 hF => ⟨fun _ => h0 r2 (Or.inr ⟨r1, T, e1, e2⟩) V2 hF, fun z => absurd rfl z⟩)
theorem orX_C {h T : Nat} {s0 s1 s2 t : Option pA} {n : Nat} : xC (orX (h, (s0, s1, s2), T, t)) n = oC s0 n ++ oC s1 (n + (oC s0 n).length) ++ oC s2 (n + (oC s0 n).length + (oC s1 (n + (oC s0 n).length)).length) ++ oC t (n + (oC s0 n).length + (oC s1 (n + (oC s0 n).length)).length + (oC s2 (n + (oC s0 n).length + (oC s1 (n + (oC s0 n).length)).length)).length) := by
  simp [xC, xE, xP, orX]
theorem orX_E {h T : Nat} {s0 s1 s2 t : Option pA} {n : Nat} : xE (orX (h, (s0, s1, s2), T, t)) n 0 = n ∧ xE (orX (h, (s0, s1, s2), T, t)) n 1 = n + (oC s0 n).length ∧ xE (orX (h, (s0, s1, s2), T, t)) n 2 = n + (oC s0 n).length + (oC s1 (n + (oC s0 n).length)).length ∧ xE (orX (h, (s0, s1, s2), T, t)) n 3 = n + (oC s0 n).length + (oC s1 (n + (oC s0 n).length)).length + (oC s2 (n + (oC s0 n).length + (oC s1 (n + (oC s0 n).length)).length)).length := by
  simp [xE, xP, orX]
theorem lt4 {P : Nat → Prop} (h0 : P 0) (h1 : P 1) (h2 : P 2) (h3 : P 3) : ∀ i, i ≤ 3 → P i := by
  intro i hi
  have : i = 0 ∨ i = 1 ∨ i = 2 ∨ i = 3 := by omega
  rcases this with rfl | rfl | rfl | rfl <;> assumption
theorem c_ordCl (hd : rD ad) {q : Int32 → hS → Prop} (hR : RX G B 0 V p k cs) (hlt : cs.length < 12) (h1 : ∀ r c, prOrd G p k = (r, some c) → ∀ V', RX G B 0 V' r.1 r.2 (cs ++ [orX c]) → q 1 (rv S ad V')) (h0 : ∀ r, prOrd G p k = (r, none) → ∀ V', FC G B r.1 V' → q 0 (rv S ad V')) : w_X5_readOrderClause tx q (rv S ad V) (ad 0) := by
  have hz : ∀ kd tm, wdC (G, B, 0, cs.length + 1, kd, tm) orW := fun kd tm => Or.inr ⟨rfl, rfl⟩
  have hx : ∀ j, (h : j < (xMk cs 0).length) → V 4 j = nI ((xMk cs 0)[j]).1.1 ∧ V 5 j = nI ((xMk cs 0)[j]).1.2.1 ∧ ∀ i, i < 5 → V 6 (5 * j + i) = nI (xE ((xMk cs 0)[j]).1 ((xMk cs 0)[j]).2 i) := hR.2.2.2.2.2.2.2.2.2.1.2.2.1
  unfold w_X5_readOrderClause
  refine ⟨(ri_oK0 hd).mpr trivial, c_takeX hd [114, 105, 110, 103] (by decide) hR (fun w1 V1 hR1 => ⟨fun z => absurd z (by decide), fun _ => ?_⟩) (fun w1 => ⟨fun _ => ⟨(ri_oK0 hd).mpr trivial, c_takeX hd [115, 101, 108, 108] (by decide) hR (fun w2 V1 hR1 => ⟨fun z => absurd z (by decide), fun _ => ?_⟩) (fun w2 => ⟨fun _ => ⟨(ri_oK0 hd).mpr trivial, c_takeX hd [100, 105, 101] (by decide) hR (fun w3 V1 hR1 => ⟨fun z => absurd z (by decide), fun _ => ?_⟩) (fun w3 => ⟨fun _ => ⟨(ri_oK0 hd).mpr trivial, c_takeX hd [112, 97, 115, 115] (by decide) hR (fun w4 V1 hR1 => ⟨fun z => absurd z (by decide), fun _ => ?_⟩) (fun w4 => ⟨fun _ => h0 (p, k) ?_ V hR.F, fun z => absurd rfl z⟩)⟩, fun z => absurd rfl z⟩)⟩, fun z => absurd rfl z⟩)⟩, fun z => absurd rfl z⟩)⟩
  · -- ring
    have hw : whW G acW p = some 0 := by unfold whW acW; simp only [List.find?_cons, w1]; rfl
    have hx1 := hR1.2.2.2.2.2.2.2.2.2.1.2.2.1
    simp (disch := decide) only [ri_gI0 hd, ri_gI1 hd, ri_gI2 hd, ri_gP00 hd, ri_gP01 hd, ri_gP10 hd, ri_gP23 hd, ri_gP24 hd, ri_gP25 hd, ri_gP26 hd, ri_pI0 hd, ri_pZ0 hd, ri_pI1 hd, ri_pI2 hd, ri_oK0 hd, ri_oK1 hd, ri_oK2 hd, ri_aI hd, ri_sI hd, ri_aN hd, rN_3, rN_4, rN_5, rN_6, rN_7, vS_at, Nat.reduceEqDiff, if_true, if_false, ite_true, ite_false, true_and, Nat.reduceLT, reduceIte, reduceCtorEq]
    refine c_begin hd (K := 0) hR1 hlt (fun V2 hR2 => ⟨(ri_oK0 hd).mpr trivial, c_sumQ hd (hz _ _) okW_ord hR2 (fun r0 s0 e0 V3 hR3 => ⟨fun z => absurd z (by decide), fun _ => ⟨(ri_oK0 hd).mpr trivial, ?_⟩⟩) (fun r e0 V3 hF => ⟨fun _ => h0 r (by unfold prOrd; simp only [hw, Nat.reduceLT, if_true, reduceIte]; dsimp only at e0; rw [e0]) V3 hF, fun z => absurd rfl z⟩)⟩)
    dsimp only at e0
    refine c_nextSum hd (hz _ _) [97, 116] (o' := 1) (by decide) (by decide) (by omega) hR3 (fun r1 s1 e1 V4 hR4 => ⟨fun z => absurd z (by decide), fun _ => ⟨(ri_oK0 hd).mpr trivial, ?_⟩⟩) (fun r e1 V4 hF => ⟨fun _ => h0 r (by unfold prOrd; simp only [hw, Nat.reduceLT, if_true, reduceIte]; rw [e0]; dsimp only at e1 ⊢; rw [e1]) V4 hF, fun z => absurd rfl z⟩)
    dsimp only at e1
    refine c_tailO hd (by omega) hR4 (fun r2 T r3 t e2 e3 V5 hR5 => ?_) (fun r e2 V5 hF => h0 r ?_ V5 hF)
    · refine h1 r3 (0, (s0, s1, none), T, t) ?_ V5 (QC.fin (K := 0) (T := T) rfl hx1 hR5 ⟨rfl, rfl⟩ ?_ ?_)
      · unfold prOrd
        simp only [hw, Nat.reduceLT, if_true, reduceIte, e0, e1, e2, e3, Nat.reduceEqDiff]
      · rw [orX_C]
        simp [oC, List.length_append, List.append_assoc, Nat.add_assoc]
      · refine lt4 ?_ ?_ ?_ ?_
        · rw [(orX_E).1]; simp
        · rw [(orX_E).2.1]; simp [oC, List.length_append, Nat.add_assoc]
        · rw [(orX_E).2.2.1]; simp [oC, List.length_append, Nat.add_assoc]
        · rw [(orX_E).2.2.2]; simp [oC, List.length_append, Nat.add_assoc]
    · unfold prOrd
      rcases e2 with e2 | ⟨r2, T, e2, e3⟩
      · simp only [hw, Nat.reduceLT, if_true, reduceIte, e0, e1, e2, Nat.reduceEqDiff]
      · simp only [hw, Nat.reduceLT, if_true, reduceIte, e0, e1, e2, e3, Nat.reduceEqDiff]
  · -- sell
    have hw : whW G acW p = some 1 := by unfold whW acW; simp only [List.find?_cons, w1, w2]; rfl
    have hx1 := hR1.2.2.2.2.2.2.2.2.2.1.2.2.1
    simp (disch := decide) only [ri_gI0 hd, ri_gI1 hd, ri_gI2 hd, ri_gP00 hd, ri_gP01 hd, ri_gP10 hd, ri_gP23 hd, ri_gP24 hd, ri_gP25 hd, ri_gP26 hd, ri_pI0 hd, ri_pZ0 hd, ri_pI1 hd, ri_pI2 hd, ri_oK0 hd, ri_oK1 hd, ri_oK2 hd, ri_aI hd, ri_sI hd, ri_aN hd, rN_3, rN_4, rN_5, rN_6, rN_7, vS_at, Nat.reduceEqDiff, if_true, if_false, ite_true, ite_false, true_and, Nat.reduceLT, reduceIte, reduceCtorEq]
    refine c_begin hd (K := 1) hR1 hlt (fun V2 hR2 => ⟨(ri_oK0 hd).mpr trivial, c_sumQ hd (hz _ _) okW_ord hR2 (fun r0 s0 e0 V3 hR3 => ⟨fun z => absurd z (by decide), fun _ => ⟨(ri_oK0 hd).mpr trivial, ?_⟩⟩) (fun r e0 V3 hF => ⟨fun _ => h0 r (by unfold prOrd; simp only [hw, Nat.reduceLT, if_true, reduceIte]; dsimp only at e0; rw [e0]) V3 hF, fun z => absurd rfl z⟩)⟩)
    dsimp only at e0
    refine c_nextSum hd (hz _ _) [116, 111] (o' := 1) (by decide) (by decide) (by omega) hR3 (fun r1 s1 e1 V4 hR4 => ⟨fun z => absurd z (by decide), fun _ => ⟨(ri_oK0 hd).mpr trivial, ?_⟩⟩) (fun r e1 V4 hF => ⟨fun _ => h0 r (by unfold prOrd; dsimp only at e1; simp only [hw, Nat.reduceLT, if_true, reduceIte, e0, e1, Nat.reduceEqDiff]) V4 hF, fun z => absurd rfl z⟩)
    dsimp only at e1
    refine c_nextSum hd (hz _ _) [111, 102] (o' := 2) (by decide) (by decide) (by omega) hR4 (fun r2 s2 e2 V5 hR5 => ⟨fun z => absurd z (by decide), fun _ => ⟨(ri_oK0 hd).mpr trivial, ?_⟩⟩) (fun r e2 V5 hF => ⟨fun _ => h0 r (by unfold prOrd; dsimp only at e2; simp only [hw, Nat.reduceLT, if_true, reduceIte, e0, e1, e2, Nat.reduceEqDiff]) V5 hF, fun z => absurd rfl z⟩)
    dsimp only at e2
    refine c_tailO hd (by omega) hR5 (fun r3 T r4 t e3 e4 V6 hR6 => ?_) (fun r e3 V6 hF => h0 r ?_ V6 hF)
    · refine h1 r4 (1, (s0, s1, s2), T, t) ?_ V6 (QC.fin (K := 1) (T := T) rfl hx1 hR6 ⟨rfl, rfl⟩ ?_ ?_)
      · unfold prOrd
        simp only [hw, Nat.reduceLT, if_true, reduceIte, e0, e1, e2, e3, e4, Nat.reduceEqDiff]
      · rw [orX_C]
        simp [List.length_append, List.append_assoc, Nat.add_assoc]
      · refine lt4 ?_ ?_ ?_ ?_
        · rw [(orX_E).1]; simp
        · rw [(orX_E).2.1]; simp [List.length_append, Nat.add_assoc]
        · rw [(orX_E).2.2.1]; simp [List.length_append, Nat.add_assoc]
        · rw [(orX_E).2.2.2]; simp [List.length_append, Nat.add_assoc]
    · unfold prOrd
      rcases e3 with e3 | ⟨r3, T, e3, e4⟩
      · simp only [hw, Nat.reduceLT, if_true, reduceIte, e0, e1, e2, e3, Nat.reduceEqDiff]
      · simp only [hw, Nat.reduceLT, if_true, reduceIte, e0, e1, e2, e3, e4, Nat.reduceEqDiff]
  · -- die
    have hw : whW G acW p = some 2 := by unfold whW acW; simp only [List.find?_cons, w1, w2, w3]; rfl
    have hx1 := hR1.2.2.2.2.2.2.2.2.2.1.2.2.1
    simp (disch := decide) only [ri_gI0 hd, ri_gI1 hd, ri_gI2 hd, ri_gP00 hd, ri_gP01 hd, ri_gP10 hd, ri_gP23 hd, ri_gP24 hd, ri_gP25 hd, ri_gP26 hd, ri_pI0 hd, ri_pZ0 hd, ri_pI1 hd, ri_pI2 hd, ri_oK0 hd, ri_oK1 hd, ri_oK2 hd, ri_aI hd, ri_sI hd, ri_aN hd, rN_3, rN_4, rN_5, rN_6, rN_7, vS_at, Nat.reduceEqDiff, if_true, if_false, ite_true, ite_false, true_and, Nat.reduceLT, reduceIte, reduceCtorEq]
    refine c_begin hd (K := 2) hR1 hlt (fun V2 hR2 => ⟨(ri_oK0 hd).mpr trivial, c_sumQ hd (hz _ _) okW_ord hR2 (fun r0 s0 e0 V3 hR3 => ⟨fun z => absurd z (by decide), fun _ => ⟨(ri_oK0 hd).mpr trivial, ?_⟩⟩) (fun r e0 V3 hF => ⟨fun _ => h0 r (by unfold prOrd; simp only [hw, Nat.reduceLT, if_true, reduceIte]; dsimp only at e0; rw [e0]) V3 hF, fun z => absurd rfl z⟩)⟩)
    dsimp only at e0
    refine c_tailO hd (by omega) hR3 (fun r2 T r3 t e2 e3 V5 hR5 => ?_) (fun r e2 V5 hF => h0 r ?_ V5 hF)
    · refine h1 r3 (2, (s0, none, none), T, t) ?_ V5 (QC.fin (K := 2) (T := T) rfl hx1 hR5 ⟨rfl, rfl⟩ ?_ ?_)
      · unfold prOrd
        simp only [hw, Nat.reduceLT, if_true, reduceIte, e0, e2, e3, Nat.reduceEqDiff]
      · rw [orX_C]
        simp [oC, List.length_append, List.append_assoc, Nat.add_assoc]
      · refine lt4 ?_ ?_ ?_ ?_
        · rw [(orX_E).1]; simp
        · rw [(orX_E).2.1]; simp [oC, List.length_append, Nat.add_assoc]
        · rw [(orX_E).2.2.1]; simp [oC, List.length_append, Nat.add_assoc]
        · rw [(orX_E).2.2.2]; simp [oC, List.length_append, Nat.add_assoc]
    · unfold prOrd
      rcases e2 with e2 | ⟨r2, T, e2, e3⟩
      · simp only [hw, Nat.reduceLT, if_true, reduceIte, e0, e2, Nat.reduceEqDiff]
      · simp only [hw, Nat.reduceLT, if_true, reduceIte, e0, e2, e3, Nat.reduceEqDiff]
  · -- pass
    have hw : whW G acW p = some 3 := by unfold whW acW; simp only [List.find?_cons, w1, w2, w3, w4]; rfl
    have hx1 := hR1.2.2.2.2.2.2.2.2.2.1.2.2.1
    simp (disch := decide) only [ri_gI0 hd, ri_gI1 hd, ri_gI2 hd, ri_gP00 hd, ri_gP01 hd, ri_gP10 hd, ri_gP23 hd, ri_gP24 hd, ri_gP25 hd, ri_gP26 hd, ri_pI0 hd, ri_pZ0 hd, ri_pI1 hd, ri_pI2 hd, ri_oK0 hd, ri_oK1 hd, ri_oK2 hd, ri_aI hd, ri_sI hd, ri_aN hd, rN_3, rN_4, rN_5, rN_6, rN_7, vS_at, Nat.reduceEqDiff, if_true, if_false, ite_true, ite_false, true_and, Nat.reduceLT, reduceIte, reduceCtorEq]
    refine c_begin hd (K := 3) hR1 hlt (fun V2 hR2 => ⟨(ri_oK0 hd).mpr trivial, ?_⟩)
    refine c_tailO hd (by omega) hR2 (fun r2 T r3 t e2 e3 V5 hR5 => ?_) (fun r e2 V5 hF => h0 r ?_ V5 hF)
    · refine h1 r3 (3, (none, none, none), T, t) ?_ V5 (QC.fin (K := 3) (T := T) rfl hx1 hR5 ⟨rfl, rfl⟩ ?_ ?_)
      · unfold prOrd
        simp only [hw, Nat.reduceLT, if_false, reduceIte, e2, e3, Nat.reduceEqDiff]
      · rw [orX_C]
        simp [oC, List.length_append, List.append_assoc, Nat.add_assoc]
      · refine lt4 ?_ ?_ ?_ ?_
        · rw [(orX_E).1]; simp
        · rw [(orX_E).2.1]; simp [oC]
        · rw [(orX_E).2.2.1]; simp [oC]
        · rw [(orX_E).2.2.2]; simp [oC]
    · unfold prOrd
      rcases e2 with e2 | ⟨r2, T, e2, e3⟩
      · simp only [hw, Nat.reduceLT, if_false, reduceIte, e2, Nat.reduceEqDiff]
      · simp only [hw, Nat.reduceLT, if_false, reduceIte, e2, e3, Nat.reduceEqDiff]
  · unfold prOrd
    have hw : whW G acW p = none := by unfold whW acW; simp only [List.find?_cons, List.find?_nil, w1, w2, w3, w4]; rfl
    rw [hw]
/-- a text of either language -/
def clX (G : pG) (z : Nat) (p k : Nat) : (Nat × Nat) × Option pX := if z = 1 then (match prLaw G p k with
    | (q, none) => (q, none)
    | (q, some c) => (q, some (lwX c))) else (match prOrd G p k with
    | (q, none) => (q, none)
    | (q, some c) => (q, some (orX c)))
def txX (G : pG) (z : Nat) : (Nat × Nat) × Option (List pX) := prTx G (clX G z) 12 0 0 []
theorem prTx_map {α β : Type} {f : α → β} {cl : Nat → Nat → (Nat × Nat) × Option α} {cl' : Nat → Nat → (Nat × Nat) × Option β} (h : ∀ p k, cl' p k = ((cl p k).1, (cl p k).2.map f)) : ∀ (n p k : Nat) (acc : List α), prTx G cl' n p k (acc.map f) = ((prTx G cl n p k acc).1, (prTx G cl n p k acc).2.map (List.map f))
  | 0, p, k, acc => rfl
  | n + 1, p, k, acc => by
    rw [prTx, prTx, h]
    cases ec : cl p k with
    | mk q c =>
      cases c with
      | none => rfl
      | some c =>
        dsimp only [Option.map]
        have ea : List.map f acc ++ [f c] = List.map f (acc ++ [c]) := by rw [List.map_append]; rfl
        rw [ea, prTx_map h n]
        split
        · rfl
        · split
          · rfl
          · rfl
theorem txX_law : txX G 1 = ((lawTx G).1, (lawTx G).2.map (List.map lwX)) := by
  refine prTx_map (f := lwX) (cl := prLaw G) (fun p k => ?_) 12 0 0 []
  unfold clX
  rw [if_pos rfl]
  cases ec : prLaw G p k with
  | mk q c => cases c <;> rfl
theorem txX_ord : txX G 0 = ((ordTx G).1, (ordTx G).2.map (List.map orX)) := by
  refine prTx_map (f := orX) (cl := prOrd G) (fun p k => ?_) 12 0 0 []
  unfold clX
  rw [if_neg (by decide)]
  cases ec : prOrd G p k with
  | mk q c => cases c <;> rfl
theorem c_takeSgX (hd : rD ad) {q : Int32 → hS → Prop} {c : Nat} {v : Int32} (ev : v = nI c) (hR : RX G B z V p k cs) (hc : c < 256) (h1 : isSg G p c = true → ∀ V', RX G B z V' (tE G p) k cs → q 1 (rv S ad V')) (h0 : ¬ isSg G p c = true → q 0 (rv S ad V)) : w_X5_takeSign q (rv S ad V) (ad 0) v := by
  unfold w_X5_takeSign
  simp (disch := decide) only [ri_gI0 hd, ri_gI1 hd, ri_gI2 hd, ri_gP00 hd, ri_gP01 hd, ri_gP10 hd, ri_gP23 hd, ri_gP24 hd, ri_gP25 hd, ri_gP26 hd, ri_pI0 hd, ri_pZ0 hd, ri_pI1 hd, ri_pI2 hd, ri_oK0 hd, ri_oK1 hd, ri_oK2 hd, ri_aI hd, ri_sI hd, ri_aN hd, rN_3, rN_4, rN_5, rN_6, rN_7, vS_at, Nat.reduceEqDiff, if_true, if_false, ite_true, ite_false, true_and, Nat.reduceLT, reduceIte, reduceCtorEq]
  refine c_isSign hd ev hR.1 hR.2.2.1 hR.2.1 hc (fun hs => ⟨fun _ => ?_, fun z => absurd z (by decide)⟩) (fun hs => ⟨fun z => absurd rfl z, fun _ => h0 hs⟩)
  simp (disch := decide) only [ri_gI0 hd, ri_gI1 hd, ri_gI2 hd, ri_gP00 hd, ri_gP01 hd, ri_gP10 hd, ri_gP23 hd, ri_gP24 hd, ri_gP25 hd, ri_gP26 hd, ri_pI0 hd, ri_pZ0 hd, ri_pI1 hd, ri_pI2 hd, ri_oK0 hd, ri_oK1 hd, ri_oK2 hd, ri_aI hd, ri_sI hd, ri_aN hd, rN_3, rN_4, rN_5, rN_6, rN_7, vS_at, Nat.reduceEqDiff, if_true, if_false, ite_true, ite_false, true_and, Nat.reduceLT, reduceIte, reduceCtorEq]
  have t1 := tE_gt (G := G) (p := p) (by rw [(isSg_k hs).1]; decide)
  have t2 := tS_ge G p
  have t3 := tE_le hR.2.2.1
  exact c_adv hd hR.1 t3 hR.2.1.2.2.1 hR.2.2.2.2.2.2.2.2.2.2.2.2.1 (fun V' hF ht hn => h1 hs V' (hR.tk hF ht ⟨by omega, t3⟩ hn))
theorem c_read26 (hd : rD ad) {q : Int32 → hS → Prop} (hR : RX G B z V 0 0 []) (h1 : ∀ r cs, txX G z = (r, some cs) → ∀ V', RX G B z V' r.1 r.2 cs → q (-1) (rv S ad V')) (h0 : ∀ r, txX G z = (r, none) → ∀ V', FC G B r.1 V' → q (nI (tS G r.1)) (rv S ad V')) : ∃ n, w_X5_read_b26 tx q n (rv S ad V) (ad 0) 0 := by
  refine loop_m (σ := vR × Nat × (Nat × Nat) × List pX) (fun n s => w_X5_read_b26 tx q n (rv S ad s.1) (ad 0) (nI s.2.1)) (fun s => RX G B z s.1 s.2.2.1.1 s.2.2.1.2 s.2.2.2 ∧ s.2.2.2.length = s.2.1 ∧ s.2.1 ≤ 12 ∧ prTx G (clX G z) (12 - s.2.1) s.2.2.1.1 s.2.2.1.2 s.2.2.2 = txX G z) (fun s => 12 - s.2.1) ?_ (V, 0, (0, 0), []) ⟨hR, rfl, by dsimp only; omega, rfl⟩
  rintro n ⟨V1, i, r, cs⟩ ⟨hR1, hl, hi, e⟩ ih
  dsimp only at hR1 hl hi e ih ⊢
  have bad : ∀ (r' : Nat × Nat) V2, txX G z = (r', none) → FC G B r'.1 V2 → gP (rv S ad V2) (ad 0) 5 1 (fun x81 => gI (rv S ad V2) x81 9 3 (fun x84 => q x84 (rv S ad V2))) := by
    intro r' V2 et hF
    refine (ri_gP01 hd).mpr ((ri_gI1 hd (by decide)).mpr ?_)
    rw [hF.1]
    exact h0 r' et V2 hF
  rw [w_X5_read_b26]
  rw [lit_nI 12, nI_leI (by omega) (by omega)]
  refine ⟨fun c => bad r V1 (by rw [← e, show 12 - i = 0 by omega]; rfl) hR1.F, fun c => (ri_gI0 hd (by decide)).mpr ?_⟩
  rw [show 12 - i = (12 - (i + 1)) + 1 by omega] at e
  -- behind a clause
  have yes : ∀ r' c V2, clX G z r.1 r.2 = (r', some c) → RX G B z V2 r'.1 r'.2 (cs ++ [c]) → w_X5_read_b50 tx q (fun S v0 v2 => w_X5_read_b26 tx q n S v0 v2) (rv S ad V2) (ad 0) (nI i) 1 := by
    intro r' c V2 ec hR2
    rw [prTx, ec] at e
    dsimp only at e
    have k4 := tK_4 G r'.1
    refine ⟨fun z => absurd z (by decide), fun _ => (ri_gP01 hd).mpr ((ri_gI1 hd (by decide)).mpr ?_)⟩
    rw [hR2.2.1.1, show (0 : Int32) = nI 0 from rfl, nI_eq (by omega) (by omega)]
    refine ⟨fun ck => ⟨fun z => absurd z (by decide), fun _ => ⟨(ri_oK0 hd).mpr trivial, c_takeSgX hd (c := 59) rfl hR2 (by decide) (fun hs V3 hR3 => ⟨fun _ y ey => ?_, fun z => absurd z (by decide)⟩) (fun hs => ⟨fun z => absurd rfl z, fun _ => bad r' V2 ?_ hR2.F⟩)⟩⟩, fun ck => h1 r' (cs ++ [c]) ?_ V2 hR2⟩
    · rw [ey, nI_1]
      rw [if_neg ck, if_pos hs] at e
      exact ih (V3, i + 1, (tE G r'.1, r'.2), cs ++ [c]) ⟨hR3, by rw [List.length_append, List.length_singleton, hl], by dsimp only; omega, e⟩ (by dsimp only; omega)
    · rw [← e, if_neg ck, if_neg hs]
    · rw [← e, if_pos ck]
  have no : ∀ r' V2, clX G z r.1 r.2 = (r', none) → FC G B r'.1 V2 → w_X5_read_b50 tx q (fun S v0 v2 => w_X5_read_b26 tx q n S v0 v2) (rv S ad V2) (ad 0) (nI i) 0 := by
    intro r' V2 ec hF
    rw [prTx, ec] at e
    exact ⟨fun _ => ⟨fun _ => bad r' V2 e.symm hF, fun z => absurd rfl z⟩, fun z => absurd rfl z⟩
  rw [hR1.2.2.2.2.1]
  have hz1 := hR1.2.2.2.2.2.1
  have hzz : z = 0 ∨ z = 1 := by omega
  rcases hzz with rfl | rfl
  · refine ⟨fun _ => ⟨(ri_oK0 hd).mpr trivial, c_ordCl hd hR1 (by omega) (fun r' c ec V2 hR2 => yes r' (orX c) V2 ?_ hR2) (fun r' ec V2 hF => no r' V2 ?_ hF)⟩, fun z => absurd rfl z⟩
    · unfold clX
      rw [if_neg (by decide), ec]
    · unfold clX
      rw [if_neg (by decide), ec]
  · refine ⟨fun z => absurd z (by decide), fun _ => ⟨(ri_oK0 hd).mpr trivial, c_lawCl hd hR1 (by omega) (fun r' c ec V2 hR2 => yes r' (lwX c) V2 ?_ hR2) (fun r' ec V2 hF => no r' V2 ?_ hF)⟩⟩
    · unfold clX
      rw [if_pos rfl, ec]
    · unfold clX
      rw [if_pos rfl, ec]
/-- read(): the tape is G, all within bounds -/
theorem c_read (hd : rD ad) {q : Int32 → hS → Prop} {w : Int32} (hw : w = nI z) (hz : z ≤ 1) (hG : tpC G V) (hB : V 3 = B) (hV : okV V) (h1 : ∀ r cs, txX G z = (r, some cs) → ∀ V', RX G B z V' r.1 r.2 cs → q (-1) (rv S ad V')) (h0 : ∀ r, txX G z = (r, none) → ∀ V', FC G B r.1 V' → q (nI (tS G r.1)) (rv S ad V')) : w_X5_read tx q (rv S ad V) (ad 0) w := by
  subst hw
  have hz2 : z = 0 ∨ z = 1 := by omega
  unfold w_X5_read w_X10_empty w_X9_rewind
  simp (disch := decide) only [ri_gI0 hd, ri_gI1 hd, ri_gI2 hd, ri_gP00 hd, ri_gP01 hd, ri_gP10 hd, ri_gP23 hd, ri_gP24 hd, ri_gP25 hd, ri_gP26 hd, ri_pI0 hd, ri_pZ0 hd, ri_pI1 hd, ri_pI2 hd, ri_oK0 hd, ri_oK1 hd, ri_oK2 hd, ri_aI hd, ri_sI hd, ri_aN hd, rN_3, rN_4, rN_5, rN_6, rN_7, vS_at, Nat.reduceEqDiff, if_true, if_false, ite_true, ite_false, true_and, Nat.reduceLT, reduceIte, reduceCtorEq]
  refine ⟨by rcases hz2 with rfl | rfl <;> decide, ?_⟩
  have e : ∀ j, j ≠ 0 → j ≠ 1 → j ≠ 2 → vS (vS (vS (vS (vS V 0 2 (nI z)) 0 3 0) 2 0 0) 2 1 0) 1 5 0 j = V j := fun j a b c => by rw [vS_ar, if_neg b, vS_ar, if_neg c, vS_ar, if_neg c, vS_ar, if_neg a, vS_ar, if_neg a]
  have e11 : ∀ i, i ≠ 5 → vS (vS (vS (vS (vS V 0 2 (nI z)) 0 3 0) 2 0 0) 2 1 0) 1 5 0 1 i = V 1 i := fun i hi => by
    rw [vS_o hi]
    simp (disch := decide) only [ri_gI0 hd, ri_gI1 hd, ri_gI2 hd, ri_gP00 hd, ri_gP01 hd, ri_gP10 hd, ri_gP23 hd, ri_gP24 hd, ri_gP25 hd, ri_gP26 hd, ri_pI0 hd, ri_pZ0 hd, ri_pI1 hd, ri_pI2 hd, ri_oK0 hd, ri_oK1 hd, ri_oK2 hd, ri_aI hd, ri_sI hd, ri_aN hd, rN_3, rN_4, rN_5, rN_6, rN_7, vS_at, Nat.reduceEqDiff, if_true, if_false, ite_true, ite_false, true_and, Nat.reduceLT, reduceIte, reduceCtorEq]
  have e15 : vS (vS (vS (vS (vS V 0 2 (nI z)) 0 3 0) 2 0 0) 2 1 0) 1 5 0 1 5 = nI 0 := vS_self
  have e02 : vS (vS (vS (vS (vS V 0 2 (nI z)) 0 3 0) 2 0 0) 2 1 0) 1 5 0 0 2 = nI z := by simp (disch := decide) only [ri_gI0 hd, ri_gI1 hd, ri_gI2 hd, ri_gP00 hd, ri_gP01 hd, ri_gP10 hd, ri_gP23 hd, ri_gP24 hd, ri_gP25 hd, ri_gP26 hd, ri_pI0 hd, ri_pZ0 hd, ri_pI1 hd, ri_pI2 hd, ri_oK0 hd, ri_oK1 hd, ri_oK2 hd, ri_aI hd, ri_sI hd, ri_aN hd, rN_3, rN_4, rN_5, rN_6, rN_7, vS_at, Nat.reduceEqDiff, if_true, if_false, ite_true, ite_false, true_and, Nat.reduceLT, reduceIte, reduceCtorEq]
  have e03 : vS (vS (vS (vS (vS V 0 2 (nI z)) 0 3 0) 2 0 0) 2 1 0) 1 5 0 0 3 = nI 0 := by simp (disch := decide) only [ri_gI0 hd, ri_gI1 hd, ri_gI2 hd, ri_gP00 hd, ri_gP01 hd, ri_gP10 hd, ri_gP23 hd, ri_gP24 hd, ri_gP25 hd, ri_gP26 hd, ri_pI0 hd, ri_pZ0 hd, ri_pI1 hd, ri_pI2 hd, ri_oK0 hd, ri_oK1 hd, ri_oK2 hd, ri_aI hd, ri_sI hd, ri_aN hd, rN_3, rN_4, rN_5, rN_6, rN_7, vS_at, Nat.reduceEqDiff, if_true, if_false, ite_true, ite_false, true_and, Nat.reduceLT, reduceIte, reduceCtorEq]; rfl
  have e20 : vS (vS (vS (vS (vS V 0 2 (nI z)) 0 3 0) 2 0 0) 2 1 0) 1 5 0 2 0 = nI 0 := by simp (disch := decide) only [ri_gI0 hd, ri_gI1 hd, ri_gI2 hd, ri_gP00 hd, ri_gP01 hd, ri_gP10 hd, ri_gP23 hd, ri_gP24 hd, ri_gP25 hd, ri_gP26 hd, ri_pI0 hd, ri_pZ0 hd, ri_pI1 hd, ri_pI2 hd, ri_oK0 hd, ri_oK1 hd, ri_oK2 hd, ri_aI hd, ri_sI hd, ri_aN hd, rN_3, rN_4, rN_5, rN_6, rN_7, vS_at, Nat.reduceEqDiff, if_true, if_false, ite_true, ite_false, true_and, Nat.reduceLT, reduceIte, reduceCtorEq]; rfl
  have e21 : vS (vS (vS (vS (vS V 0 2 (nI z)) 0 3 0) 2 0 0) 2 1 0) 1 5 0 2 1 = nI 0 := by simp (disch := decide) only [ri_gI0 hd, ri_gI1 hd, ri_gI2 hd, ri_gP00 hd, ri_gP01 hd, ri_gP10 hd, ri_gP23 hd, ri_gP24 hd, ri_gP25 hd, ri_gP26 hd, ri_pI0 hd, ri_pZ0 hd, ri_pI1 hd, ri_pI2 hd, ri_oK0 hd, ri_oK1 hd, ri_oK2 hd, ri_aI hd, ri_sI hd, ri_aN hd, rN_3, rN_4, rN_5, rN_6, rN_7, vS_at, Nat.reduceEqDiff, if_true, if_false, ite_true, ite_false, true_and, Nat.reduceLT, reduceIte, reduceCtorEq]; rfl
  have e22 : vS (vS (vS (vS (vS V 0 2 (nI z)) 0 3 0) 2 0 0) 2 1 0) 1 5 0 2 2 = V 2 2 := by simp (disch := decide) only [ri_gI0 hd, ri_gI1 hd, ri_gI2 hd, ri_gP00 hd, ri_gP01 hd, ri_gP10 hd, ri_gP23 hd, ri_gP24 hd, ri_gP25 hd, ri_gP26 hd, ri_pI0 hd, ri_pZ0 hd, ri_pI1 hd, ri_pI2 hd, ri_oK0 hd, ri_oK1 hd, ri_oK2 hd, ri_aI hd, ri_sI hd, ri_aN hd, rN_3, rN_4, rN_5, rN_6, rN_7, vS_at, Nat.reduceEqDiff, if_true, if_false, ite_true, ite_false, true_and, Nat.reduceLT, reduceIte, reduceCtorEq]
  generalize vS (vS (vS (vS (vS V 0 2 (nI z)) 0 3 0) 2 0 0) 2 1 0) 1 5 0 = V1 at e e11 e15 e02 e03 e20 e21 e22 ⊢
  have hG1 : tpC G V1 := by
    unfold tpC at *
    rw [e11 1 (by decide), e 3 (by decide) (by decide) (by decide)]
    exact hG
  obtain ⟨v1, v2, v3, v4, v5, v6, v7, v8⟩ := hV
  refine c_adv hd hG1 (Nat.zero_le _) e15 (by unfold okN at *; rw [e11 4 (by decide)]; exact v4) (fun V2 hF ht hn => c_read26 hd ?_ h1 h0)
  refine ⟨hG1.F hF, ht, Nat.zero_le _, ?_, ?_, hz, ?_, by omega, by simp, ⟨?_, ?_, fun j hj => absurd hj (Nat.not_lt_zero _), fun j hj => absurd hj (Nat.not_lt_zero _)⟩, Nat.zero_le _, fun x hx => (by cases hx), hn, ?_, ?_⟩
  · rw [hF.1 3 (by decide), e 3 (by decide) (by decide) (by decide)]; exact hB
  · rw [hF.1 0 (by decide)]; exact e02
  · rw [hF.1 0 (by decide)]; exact e03
  · rw [hF.1 2 (by decide)]; exact e20
  · rw [hF.1 2 (by decide)]; exact e21
  · unfold bndC at *
    rw [hF.1 6 (by decide), hF.1 7 (by decide), e 6 (by decide) (by decide) (by decide), e 7 (by decide) (by decide) (by decide)]
    exact v8
  · rw [hF.1 2 (by decide), e22]
    exact v7
end CZ
