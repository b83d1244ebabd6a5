/-! THE CLASS'S CLAUSES, EXACTLY. A clause: its kind, how often, three sums, its test -/
abbrev pX : Type := Nat × Nat × (Option pA × Option pA × Option pA) × Option pA
def lwX (c : pCl) : pX := (c.1, 1, (c.2.1, none, none), c.2.2)
def orX (c : pOr) : pX := (c.1, c.2.2.1, c.2.1, c.2.2.2)
def xP (c : pX) (i : Nat) : Option pA := if i = 0 then c.2.2.1.1 else if i = 1 then c.2.2.1.2.1 else if i = 2 then c.2.2.1.2.2 else c.2.2.2
/-- the marks of a clause whose code begins at n -/
def xE (c : pX) (n : Nat) : Nat → Nat
  | 0 => n
  | i + 1 => xE c n i + (oC (xP c i) (xE c n i)).length
def xC (c : pX) (n : Nat) : List (Nat × Nat) := oC (xP c 0) (xE c n 0) ++ oC (xP c 1) (xE c n 1) ++ oC (xP c 2) (xE c n 2) ++ oC (xP c 3) (xE c n 3)
theorem xC_len (c : pX) (n : Nat) : n + (xC c n).length = xE c n 4 := by
  unfold xC
  simp only [List.length_append, xE]
  omega
def xAll : List pX → Nat → List (Nat × Nat)
  | [], _ => []
  | c :: cs, n => xC c n ++ xAll cs (n + (xC c n).length)
theorem xAll_app : ∀ (cs : List pX) (c : pX) (n : Nat), xAll (cs ++ [c]) n = xAll cs n ++ xC c (n + (xAll cs n).length)
  | [], c, n => by simp [xAll]
  | d :: cs, c, n => by
    show xC d n ++ xAll (cs ++ [c]) _ = xC d n ++ xAll cs _ ++ _
    rw [xAll_app cs c, List.append_assoc]
    congr 2
    simp [xAll, Nat.add_assoc]
/-- clauses, and where their code begins -/
def xMk : List pX → Nat → List (pX × Nat)
  | [], _ => []
  | c :: cs, n => (c, n) :: xMk cs (n + (xC c n).length)
theorem xMk_app : ∀ (cs : List pX) (c : pX) (n : Nat), xMk (cs ++ [c]) n = xMk cs n ++ [(c, n + (xAll cs n).length)]
  | [], c, n => by simp [xMk, xAll]
  | d :: cs, c, n => by
    show _ :: xMk (cs ++ [c]) _ = _ :: xMk cs _ ++ _
    rw [xMk_app cs c]
    simp [xAll, Nat.add_assoc]
theorem xMk_len : ∀ (cs : List pX) (n : Nat), (xMk cs n).length = cs.length
  | [], _ => rfl
  | c :: cs, n => by
    show (xMk cs _).length + 1 = cs.length + 1
    rw [xMk_len cs]
/-- a text holds the clauses cs -/
def TXT (V : vR) (cs : List pX) : Prop := V 2 0 = nI cs.length ∧ V 2 1 = nI (xAll cs 0).length ∧ (∀ j, (h : j < (xMk cs 0).length) → V 4 j = nI ((xMk cs 0)[j]).1.1 ∧ V 5 j = nI ((xMk cs 0)[j]).1.2.1 ∧ ∀ i, i < 5 → V 6 (5 * j + i) = nI (xE ((xMk cs 0)[j]).1 ((xMk cs 0)[j]).2 i)) ∧ ∀ j, (h : j < (xAll cs 0).length) → V 7 j = enc (xAll cs 0)[j]
/-- reading goes on behind the clauses cs -/
def RX (G : pG) (B : Nat → Int32) (z : Nat) (V : vR) (p k : Nat) (cs : List pX) : Prop := tpC G V ∧ tkC G p V ∧ p ≤ G.2 ∧ V 3 = B ∧ V 0 2 = nI z ∧ z ≤ 1 ∧ V 0 3 = nI k ∧ k ≤ 50 ∧ cs.length ≤ 12 ∧ TXT V cs ∧ (xAll cs 0).length ≤ p ∧ (∀ x ∈ xAll cs 0, okX x) ∧ okN V ∧ bndC V ∧ ∃ x, V 2 2 = nI x ∧ x ≤ 3
/-- within a clause, at part o: e has the marks up to it, M0 those of the clauses ahead -/
def QC (E : cE) (o : Nat) (e : Nat → Nat) (M0 : Nat → Int32) (V : vR) (p k : Nat) (out : List (Nat × Nat)) : Prop := ∃ m0, RC E o m0 V p k out ∧ out.length ≤ p ∧ (∀ i, i ≤ o → m0 (5 * (E.2.2.2.1 - 1) + i) = nI (e i)) ∧ ∀ j, j < 5 * (E.2.2.2.1 - 1) → m0 j = M0 j
theorem QC.F {E : cE} {o : Nat} {e : Nat → Nat} {M0 : Nat → Int32} {V : vR} {p k : Nat} {out : List (Nat × Nat)} (h : QC E o e M0 V p k out) : FC E.1 E.2.1 p V := by
  obtain ⟨m0, h, -⟩ := h
  exact h.F
theorem RX.F {G : pG} {B : Nat → Int32} {z : Nat} {V : vR} {p k : Nat} {cs : List pX} (h : RX G B z V p k cs) : FC G B p V := by
  obtain ⟨h1, ⟨t2, t3, t5, t4⟩, h3, h4, h5, h6, h7, h8, h9, ⟨x1, x2, x3, x4⟩, h11, h12, h13, h14, h15⟩ := h
  have a := h1.2.1
  have b := tS_le h3
  have c := tE_le h3
  exact ⟨t3, h1.1, h4, ⟨_, h1.1, a⟩, ⟨_, t3, by omega⟩, ⟨_, t5, by omega⟩, h13, ⟨_, x1, h9⟩, ⟨_, x2, by omega⟩, h15, h14⟩
theorem RX.tk {G : pG} {B : Nat → Int32} {z : Nat} {V V' : vR} {p p' k : Nat} {cs : List pX} (h : RX G B z V p k cs) (hF : vF V V') (ht : tkC G p' V') (hp : p ≤ p' ∧ p' ≤ G.2) (hn : okN V') : RX G B z V' p' k cs := by
  obtain ⟨h1, h2, h3, h4, h5, h6, h7, h8, h9, h10, h11, h12, h13, h14, h15⟩ := h
  refine ⟨h1.F hF, ht, hp.2, ?_, ?_, h6, ?_, h8, h9, ?_, by omega, h12, hn, ?_, ?_⟩
  · rw [hF.1 3 (by decide)]; exact h4
  · rw [hF.1 0 (by decide)]; exact h5
  · rw [hF.1 0 (by decide)]; exact h7
  · unfold TXT at *
    rw [hF.1 2 (by decide), hF.1 4 (by decide), hF.1 5 (by decide), hF.1 6 (by decide), hF.1 7 (by decide)]
    exact h10
  · unfold bndC at *
    rw [hF.1 6 (by decide), hF.1 7 (by decide)]
    exact h14
  · rw [hF.1 2 (by decide)]; exact h15
section CC
variable {S : hS} {ad : Nat → Nat} {E : cE} {W : wW} {wl : Nat} {tx : Nat → Nat} {o p k : Nat} {e : Nat → Nat} {M0 : Nat → Int32} {V : vR} {out : List (Nat × Nat)} {G : pG} {B : Nat → Int32} {z : Nat} {cs : List pX}
theorem c_begin (hd : rD ad) {q : hS → Prop} {K : Nat} (hR : RX G B z V p k cs) (hlt : cs.length < 12) (h : ∀ V', QC (G, B, z, cs.length + 1, upd (V 4) cs.length (nI K), upd (V 5) cs.length 1) 0 (fun _ => (xAll cs 0).length) (V 6) V' p k (xAll cs 0) → q (rv S ad V')) : w_X10_beginClause q (rv S ad V) (ad 2) (nI K) := by
  obtain ⟨h1, h2, h3, h4, h5, h6, h7, h8, h9, ⟨x1, x2, x3, x4⟩, h11, h12, h13, h14, h15⟩ := hR
  have hT := h1.2.1
  have e12 : V 2 0 < nI 12 ↔ cs.length < 12 := by
    rw [x1, Int32.lt_iff_toInt_lt, nI_toInt (by omega), nI_toInt (by omega)]
    omega
  unfold w_X10_beginClause
  simp (disch := decide) only [ri_gI0 hd, ri_gI1 hd, ri_gI2 hd, ri_gP00 hd, ri_gP01 hd, ri_gP10 hd, ri_gP23 hd, ri_gP24 hd, ri_gP25 hd, ri_gP26 hd, ri_pI0 hd, ri_pZ0 hd, ri_pI1 hd, ri_pI2 hd, ri_oK0 hd, ri_oK1 hd, ri_oK2 hd, ri_aI hd, ri_sI hd, ri_aN hd, rN_3, rN_4, rN_5, rN_6, rN_7, vS_at, Nat.reduceEqDiff, if_true, if_false, ite_true, ite_false, true_and, Nat.reduceLT, reduceIte, reduceCtorEq]
  rw [e12]
  refine ⟨fun _ => ?_, fun c => absurd hlt c⟩
  rw [x1, nI_clamp (by omega)]
  refine ⟨vp_in_nI (by omega) (by omega), vp_in_nI (by omega) (by omega), ?_⟩
  have b1 : ∀ j, j ≠ 4 → j ≠ 5 → vS (vS V 4 cs.length (nI K)) 5 cs.length 1 j = V j := fun j j4 j5 => by rw [vS_ar, if_neg j5, vS_ar, if_neg j4]
  have b4 : vS (vS V 4 cs.length (nI K)) 5 cs.length 1 4 = upd (V 4) cs.length (nI K) := by rw [vS_ar, if_neg (by decide), vS_ar, if_pos rfl]
  have b5 : vS (vS V 4 cs.length (nI K)) 5 cs.length 1 5 = upd (V 5) cs.length 1 := by rw [vS_ar, if_pos rfl, vS_ar, if_neg (by decide)]
  generalize vS (vS V 4 cs.length (nI K)) 5 cs.length 1 = V1 at b1 b4 b5 ⊢
  refine loop_m (σ := vR × Nat) (fun f s => w_X10_beginClause_b35 q f (rv S ad s.1) (ad 2) (nI s.2)) (fun s => (∀ k, k ≠ 6 → s.1 k = V1 k) ∧ (∀ j, s.1 6 j = if 5 * cs.length ≤ j ∧ j < 5 * cs.length + s.2 then nI (xAll cs 0).length else V 6 j) ∧ s.2 ≤ 5) (fun s => 5 - s.2) ?_ (V1, 0) ⟨fun _ _ => rfl, fun j => by dsimp only; rw [if_neg (by omega), b1 6 (by decide) (by decide)], by dsimp only; omega⟩
  rintro f ⟨N, i⟩ ⟨g1, g2, g3⟩ ih
  dsimp only at g1 g2 g3 ih ⊢
  have n2 : N 2 = V 2 := (g1 2 (by decide)).trans (b1 2 (by decide) (by decide))
  rw [w_X10_beginClause_b35]
  simp (disch := decide) only [ri_gI0 hd, ri_gI1 hd, ri_gI2 hd, ri_gP00 hd, ri_gP01 hd, ri_gP10 hd, ri_gP23 hd, ri_gP24 hd, ri_gP25 hd, ri_gP26 hd, ri_pI0 hd, ri_pZ0 hd, ri_pI1 hd, ri_pI2 hd, ri_oK0 hd, ri_oK1 hd, ri_oK2 hd, ri_aI hd, ri_sI hd, ri_aN hd, rN_3, rN_4, rN_5, rN_6, rN_7, vS_at, Nat.reduceEqDiff, if_true, if_false, ite_true, ite_false, true_and, Nat.reduceLT, reduceIte, reduceCtorEq]
  rw [n2, x1, x2, lit_nI 5, nI_leI (by omega) (by omega), nI_1, nImul, nIadd, nI_clamp (by omega)]
  refine ⟨fun c => ?_, fun c => ⟨vp_in_nI (by omega) (by omega), fun y ey => ?_⟩⟩
  · have i5 : i = 5 := by omega
    subst i5
    have e : ∀ j, j ≠ 2 → vS (vS N 2 2 0) 2 0 (nI (cs.length + 1)) j = N j := fun j hj => by rw [vS_ar, if_neg hj, vS_ar, if_neg hj]
    have e' : ∀ j, j ≠ 2 → j ≠ 4 → j ≠ 5 → j ≠ 6 → vS (vS N 2 2 0) 2 0 (nI (cs.length + 1)) j = V j := fun j j2 j4 j5 j6 => by rw [e j j2, g1 j j6, b1 j j4 j5]
    have e4 : vS (vS N 2 2 0) 2 0 (nI (cs.length + 1)) 4 = upd (V 4) cs.length (nI K) := by rw [e 4 (by decide), g1 4 (by decide), b4]
    have e5 : vS (vS N 2 2 0) 2 0 (nI (cs.length + 1)) 5 = upd (V 5) cs.length 1 := by rw [e 5 (by decide), g1 5 (by decide), b5]
    have e6 : vS (vS N 2 2 0) 2 0 (nI (cs.length + 1)) 6 = N 6 := e 6 (by decide)
    have e20 : vS (vS N 2 2 0) 2 0 (nI (cs.length + 1)) 2 0 = nI (cs.length + 1) := by simp (disch := decide) only [ri_gI0 hd, ri_gI1 hd, ri_gI2 hd, ri_gP00 hd, ri_gP01 hd, ri_gP10 hd, ri_gP23 hd, ri_gP24 hd, ri_gP25 hd, ri_gP26 hd, ri_pI0 hd, ri_pZ0 hd, ri_pI1 hd, ri_pI2 hd, ri_oK0 hd, ri_oK1 hd, ri_oK2 hd, ri_aI hd, ri_sI hd, ri_aN hd, rN_3, rN_4, rN_5, rN_6, rN_7, vS_at, Nat.reduceEqDiff, if_true, if_false, ite_true, ite_false, true_and, Nat.reduceLT, reduceIte, reduceCtorEq]
    have e21 : vS (vS N 2 2 0) 2 0 (nI (cs.length + 1)) 2 1 = nI (xAll cs 0).length := by simp (disch := decide) only [ri_gI0 hd, ri_gI1 hd, ri_gI2 hd, ri_gP00 hd, ri_gP01 hd, ri_gP10 hd, ri_gP23 hd, ri_gP24 hd, ri_gP25 hd, ri_gP26 hd, ri_pI0 hd, ri_pZ0 hd, ri_pI1 hd, ri_pI2 hd, ri_oK0 hd, ri_oK1 hd, ri_oK2 hd, ri_aI hd, ri_sI hd, ri_aN hd, rN_3, rN_4, rN_5, rN_6, rN_7, vS_at, Nat.reduceEqDiff, if_true, if_false, ite_true, ite_false, true_and, Nat.reduceLT, reduceIte, reduceCtorEq]; rw [n2]; exact x2
    have e22 : vS (vS N 2 2 0) 2 0 (nI (cs.length + 1)) 2 2 = nI 0 := by simp (disch := decide) only [ri_gI0 hd, ri_gI1 hd, ri_gI2 hd, ri_gP00 hd, ri_gP01 hd, ri_gP10 hd, ri_gP23 hd, ri_gP24 hd, ri_gP25 hd, ri_gP26 hd, ri_pI0 hd, ri_pZ0 hd, ri_pI1 hd, ri_pI2 hd, ri_oK0 hd, ri_oK1 hd, ri_oK2 hd, ri_aI hd, ri_sI hd, ri_aN hd, rN_3, rN_4, rN_5, rN_6, rN_7, vS_at, Nat.reduceEqDiff, if_true, if_false, ite_true, ite_false, true_and, Nat.reduceLT, reduceIte, reduceCtorEq]; rfl
    generalize vS (vS N 2 2 0) 2 0 (nI (cs.length + 1)) = V' at e e' e4 e5 e6 e20 e21 e22 ⊢
    refine h V' ⟨N 6, ⟨⟨?_, ?_, ?_, h6, ⟨by dsimp only; omega, by dsimp only; omega⟩, e4, e5⟩, ?_, h3, ?_, h8, ⟨e20, e21, e22, fun j => ?_, fun j hj => ?_⟩, by omega, by omega, h12, ?_, ?_⟩, h11, fun i hi => ?_, fun j hj => ?_⟩
    · unfold tpC at *
      dsimp only
      rw [e' 1 (by decide) (by decide) (by decide) (by decide), e' 3 (by decide) (by decide) (by decide) (by decide)]
      exact h1
    · rw [e' 3 (by decide) (by decide) (by decide) (by decide)]; exact h4
    · rw [e' 0 (by decide) (by decide) (by decide) (by decide)]; exact h5
    · unfold tkC at *
      dsimp only
      rw [e' 1 (by decide) (by decide) (by decide) (by decide)]
      exact h2
    · rw [e' 0 (by decide) (by decide) (by decide) (by decide)]; exact h7
    · rw [e6]
      dsimp only
      split
      · rename_i c
        rw [g2, if_pos (by omega)]
      · rfl
    · rw [e' 7 (by decide) (by decide) (by decide) (by decide)]
      exact x4 j hj
    · unfold okN at *
      rw [e' 1 (by decide) (by decide) (by decide) (by decide)]
      exact h13
    · refine ⟨fun j hj => ?_, fun j hj => ?_⟩
      · rw [e6, g2]
        split
        · exact ⟨_, rfl, by omega⟩
        · exact h14.1 j hj
      · rw [e' 7 (by decide) (by decide) (by decide) (by decide)]
        exact h14.2 j hj
    · dsimp only at hi ⊢
      rw [g2, if_pos (by omega)]
    · dsimp only at hj ⊢
      rw [g2, if_neg (by omega)]
  · rw [ey, nI_1]
    refine ih (vS N 6 (cs.length * 5 + i) (nI (xAll cs 0).length), i + 1) ⟨fun k hk => ?_, fun j => ?_, by dsimp only; omega⟩ (by dsimp only; omega)
    · dsimp only
      rw [vS_ar, if_neg hk]
      exact g1 k hk
    · dsimp only
      rw [vS_at, if_pos rfl, g2]
      by_cases c2 : j = cs.length * 5 + i
      · rw [if_pos c2, if_pos (by omega)]
      · rw [if_neg c2]
        by_cases c3 : 5 * cs.length ≤ j ∧ j < 5 * cs.length + i
        · rw [if_pos c3, if_pos (by omega)]
        · rw [if_neg c3, if_neg (by omega)]
theorem c_open (hd : rD ad) {q : hS → Prop} {o' : Nat} {v : Int32} (hv : (if 0 < (if 3 < v then 3 else v) then (if 3 < v then 3 else v) else 0) = nI o') (hR : QC E o e M0 V p k out) (ho : o ≤ o' ∧ o' ≤ 3) (h : ∀ V', QC E o' (fun i => if i ≤ o then e i else out.length) M0 V' p k out → q (rv S ad V')) : w_X10_openPart q (rv S ad V) (ad 2) v := by
  obtain ⟨m0, hR, hl, hm, hM⟩ := hR
  have hx := hR.2.2.2.2.2.1
  obtain ⟨x1, x2, x3, x4, x5⟩ := hx
  have hn := hR.1.2.2.2.2.1
  unfold w_X10_openPart
  rw [hv]
  simp (disch := decide) only [ri_gI0 hd, ri_gI1 hd, ri_gI2 hd, ri_gP00 hd, ri_gP01 hd, ri_gP10 hd, ri_gP23 hd, ri_gP24 hd, ri_gP25 hd, ri_gP26 hd, ri_pI0 hd, ri_pZ0 hd, ri_pI1 hd, ri_pI2 hd, ri_oK0 hd, ri_oK1 hd, ri_oK2 hd, ri_aI hd, ri_sI hd, ri_aN hd, rN_3, rN_4, rN_5, rN_6, rN_7, vS_at, Nat.reduceEqDiff, if_true, if_false, ite_true, ite_false, true_and, Nat.reduceLT, reduceIte, reduceCtorEq]
  refine h _ ⟨V 6, hR.tx (o' := o') (m0' := V 6) (fun j j2 _ _ => by rw [vS_ar, if_neg j2]) ⟨?_, ?_, ?_, fun j => ?_, ?_⟩ ho.2 hR.2.2.2.2.2.2.2.1 hR.2.2.2.2.2.2.2.2.1 ?_, hl, fun i hi => ?_, fun j hj => ?_⟩
  · simp (disch := decide) only [ri_gI0 hd, ri_gI1 hd, ri_gI2 hd, ri_gP00 hd, ri_gP01 hd, ri_gP10 hd, ri_gP23 hd, ri_gP24 hd, ri_gP25 hd, ri_gP26 hd, ri_pI0 hd, ri_pZ0 hd, ri_pI1 hd, ri_pI2 hd, ri_oK0 hd, ri_oK1 hd, ri_oK2 hd, ri_aI hd, ri_sI hd, ri_aN hd, rN_3, rN_4, rN_5, rN_6, rN_7, vS_at, Nat.reduceEqDiff, if_true, if_false, ite_true, ite_false, true_and, Nat.reduceLT, reduceIte, reduceCtorEq]; exact x1
  · simp (disch := decide) only [ri_gI0 hd, ri_gI1 hd, ri_gI2 hd, ri_gP00 hd, ri_gP01 hd, ri_gP10 hd, ri_gP23 hd, ri_gP24 hd, ri_gP25 hd, ri_gP26 hd, ri_pI0 hd, ri_pZ0 hd, ri_pI1 hd, ri_pI2 hd, ri_oK0 hd, ri_oK1 hd, ri_oK2 hd, ri_aI hd, ri_sI hd, ri_aN hd, rN_3, rN_4, rN_5, rN_6, rN_7, vS_at, Nat.reduceEqDiff, if_true, if_false, ite_true, ite_false, true_and, Nat.reduceLT, reduceIte, reduceCtorEq]; exact x2
  · simp (disch := decide) only [ri_gI0 hd, ri_gI1 hd, ri_gI2 hd, ri_gP00 hd, ri_gP01 hd, ri_gP10 hd, ri_gP23 hd, ri_gP24 hd, ri_gP25 hd, ri_gP26 hd, ri_pI0 hd, ri_pZ0 hd, ri_pI1 hd, ri_pI2 hd, ri_oK0 hd, ri_oK1 hd, ri_oK2 hd, ri_aI hd, ri_sI hd, ri_aN hd, rN_3, rN_4, rN_5, rN_6, rN_7, vS_at, Nat.reduceEqDiff, if_true, if_false, ite_true, ite_false, true_and, Nat.reduceLT, reduceIte, reduceCtorEq]
  · simp (disch := decide) only [ri_gI0 hd, ri_gI1 hd, ri_gI2 hd, ri_gP00 hd, ri_gP01 hd, ri_gP10 hd, ri_gP23 hd, ri_gP24 hd, ri_gP25 hd, ri_gP26 hd, ri_pI0 hd, ri_pZ0 hd, ri_pI1 hd, ri_pI2 hd, ri_oK0 hd, ri_oK1 hd, ri_oK2 hd, ri_aI hd, ri_sI hd, ri_aN hd, rN_3, rN_4, rN_5, rN_6, rN_7, vS_at, Nat.reduceEqDiff, if_true, if_false, ite_true, ite_false, true_and, Nat.reduceLT, reduceIte, reduceCtorEq]
    split
    · rename_i c
      rw [x4, if_pos (by omega)]
    · rfl
  · simp (disch := decide) only [ri_gI0 hd, ri_gI1 hd, ri_gI2 hd, ri_gP00 hd, ri_gP01 hd, ri_gP10 hd, ri_gP23 hd, ri_gP24 hd, ri_gP25 hd, ri_gP26 hd, ri_pI0 hd, ri_pZ0 hd, ri_pI1 hd, ri_pI2 hd, ri_oK0 hd, ri_oK1 hd, ri_oK2 hd, ri_aI hd, ri_sI hd, ri_aN hd, rN_3, rN_4, rN_5, rN_6, rN_7, vS_at, Nat.reduceEqDiff, if_true, if_false, ite_true, ite_false, true_and, Nat.reduceLT, reduceIte, reduceCtorEq]
    exact x5
  · have b := hR.2.2.2.2.2.2.2.2.2.2
    unfold bndC at *
    simp (disch := decide) only [ri_gI0 hd, ri_gI1 hd, ri_gI2 hd, ri_gP00 hd, ri_gP01 hd, ri_gP10 hd, ri_gP23 hd, ri_gP24 hd, ri_gP25 hd, ri_gP26 hd, ri_pI0 hd, ri_pZ0 hd, ri_pI1 hd, ri_pI2 hd, ri_oK0 hd, ri_oK1 hd, ri_oK2 hd, ri_aI hd, ri_sI hd, ri_aN hd, rN_3, rN_4, rN_5, rN_6, rN_7, vS_at, Nat.reduceEqDiff, if_true, if_false, ite_true, ite_false, true_and, Nat.reduceLT, reduceIte, reduceCtorEq]
    exact b
  · rw [x4]
    by_cases c : i ≤ o
    · dsimp only
      rw [if_neg (by omega), if_pos c]
      exact hm i c
    · dsimp only
      rw [if_pos (by omega), if_neg c]
  · rw [x4, if_neg (by omega)]
    exact hM j hj
theorem c_sumQ (hd : rD ad) (hz : wdC E W) (hW : okW W wl) {q : Int32 → hS → Prop} (hR : QC E o e M0 V p k out) (h1 : ∀ r s, opt (prS E.1 W 8 p k) = (r, some s) → ∀ V', QC E o e M0 V' r.1 r.2 (out ++ oC s out.length) → q 1 (rv S ad V')) (h0 : ∀ r, opt (prS E.1 W 8 p k) = (r, none) → ∀ V', FC E.1 E.2.1 r.1 V' → q 0 (rv S ad V')) : w_X5_readSum tx q (rv S ad V) (ad 0) 0 := by
  obtain ⟨m0, hR, hl, hm, hM⟩ := hR
  refine c_sum hd hz hW o m0 V p k out q hR hl (fun r a ea V' hR' => h1 r (some a) (by rw [ea]; rfl) V' ⟨m0, hR', ?_, hm, hM⟩) (fun r ea V' hF => h0 r (by rw [ea]; rfl) V' hF)
  have g := gd_prS (G := E.1) hW 8 p k
  rw [ea] at g
  have la := ((g.2.2.2.2 a rfl).2.2.2 out.length).1
  dsimp only at la
  rw [List.length_append]
  show out.length + (a.1 out.length).length ≤ r.1
  omega
theorem c_tstQ (hd : rD ad) (hz : wdC E W) (hW : okW W wl) {q : Int32 → hS → Prop} (hR : QC E o e M0 V p k out) (h1 : ∀ r s, opt (prT E.1 W 8 p k) = (r, some s) → ∀ V', QC E o e M0 V' r.1 r.2 (out ++ oC s out.length) → q 1 (rv S ad V')) (h0 : ∀ r, opt (prT E.1 W 8 p k) = (r, none) → ∀ V', FC E.1 E.2.1 r.1 V' → q 0 (rv S ad V')) : w_X5_readTest tx q (rv S ad V) (ad 0) 0 := by
  obtain ⟨m0, hR, hl, hm, hM⟩ := hR
  refine c_tst hd hz hW o m0 V p k out q hR hl (fun r a ea V' hR' => h1 r (some a) (by rw [ea]; rfl) V' ⟨m0, hR', ?_, hm, hM⟩) (fun r ea V' hF => h0 r (by rw [ea]; rfl) V' hF)
  have g := gd_prT (G := E.1) hW 8 p k
  rw [ea] at g
  have la := ((g.2.2.2.2 a rfl).2.2.2 out.length).1
  dsimp only at la
  rw [List.length_append]
  show out.length + (a.1 out.length).length ≤ r.1
  omega
theorem c_takeQ (hd : rD ad) (s : List Nat) {q : Int32 → hS → Prop} {j : Nat} (hj : (hTxs[j]?).map (fun r => r.2.2.2) = some s) (hR : QC E o e M0 V p k out) (h1 : isWd E.1 p s = true → ∀ V', QC E o e M0 V' (tE E.1 p) k out → q 1 (rv S ad V')) (h0 : ¬ isWd E.1 p s = true → q 0 (rv S ad V)) : w_X5_takeWord tx q (rv S ad V) (ad 0) (tx j) := by
  obtain ⟨m0, hR, hl, hm, hM⟩ := hR
  refine c_takeWd hd s hj hR (fun hs V' hR' => h1 hs V' ⟨m0, hR', ?_, hm, hM⟩) h0
  have t1 := tE_gt (G := E.1) (p := p) (by rw [isWd_k hs]; decide)
  have t2 := tS_ge E.1 p
  omega
theorem c_readIf (hd : rD ad) (hz : wdC E W) (hW : okW W wl) {q : Int32 → hS → Prop} (ho : o ≤ 3) (hR : QC E o e M0 V p k out) (h1 : ∀ r s, prIf E.1 W p k = (r, some s) → ∀ V', QC E 3 (fun i => if i ≤ o then e i else out.length) M0 V' r.1 r.2 (out ++ oC s out.length) → q 1 (rv S ad V')) (h0 : ∀ r, prIf E.1 W p k = (r, none) → ∀ V', FC E.1 E.2.1 r.1 V' → q 0 (rv S ad V')) : w_X5_readIf tx q (rv S ad V) (ad 0) := by
  unfold w_X5_readIf w_X5_readIf_b25
  simp (disch := decide) only [ri_gI0 hd, ri_gI1 hd, ri_gI2 hd, ri_gP00 hd, ri_gP01 hd, ri_gP10 hd, ri_gP23 hd, ri_gP24 hd, ri_gP25 hd, ri_gP26 hd, ri_pI0 hd, ri_pZ0 hd, ri_pI1 hd, ri_pI2 hd, ri_oK0 hd, ri_oK1 hd, ri_oK2 hd, ri_aI hd, ri_sI hd, ri_aN hd, rN_3, rN_4, rN_5, rN_6, rN_7, vS_at, Nat.reduceEqDiff, if_true, if_false, ite_true, ite_false, true_and, Nat.reduceLT, reduceIte, reduceCtorEq]
  refine c_open hd (o' := 3) (by decide) hR ⟨ho, Nat.le_refl _⟩ (fun V1 hR1 => ⟨(ri_oK0 hd).mpr trivial, c_takeQ hd wIf (by decide) hR1 (fun hs V2 hR2 => ⟨fun z => absurd z (by decide), fun _ => ⟨(ri_oK0 hd).mpr trivial, ?_⟩⟩) (fun hs => ⟨fun _ => h1 (p, k) none ?_ V1 ?_, fun z => absurd rfl z⟩)⟩)
  · unfold prIf at h1 h0
    rw [if_pos hs] at h1 h0
    exact c_tstQ hd hz hW hR2 (fun r s es V3 hR3 => ⟨fun z => absurd z (by decide), fun _ => h1 r s es V3 hR3⟩) (fun r es V3 hF => ⟨fun _ => h0 r es V3 hF, fun z => absurd rfl z⟩)
  · unfold prIf
    rw [if_neg hs]
  · rw [show out ++ oC none out.length = out from List.append_nil out]
    exact hR1
/-- a clause is through -/
theorem QC.fin {K T : Nat} {c : pX} {k4 k5 : Nat → Int32} (hE : E = (G, B, z, cs.length + 1, upd k4 cs.length (nI K), upd k5 cs.length (nI T))) (hx : ∀ j, (h : j < (xMk cs 0).length) → k4 j = nI ((xMk cs 0)[j]).1.1 ∧ k5 j = nI ((xMk cs 0)[j]).1.2.1 ∧ ∀ i, i < 5 → M0 (5 * j + i) = nI (xE ((xMk cs 0)[j]).1 ((xMk cs 0)[j]).2 i)) (h : QC E 3 e M0 V p k out) (hc : c.1 = K ∧ c.2.1 = T) (ho : out = xAll cs 0 ++ xC c (xAll cs 0).length) (he : ∀ i, i ≤ 3 → e i = xE c (xAll cs 0).length i) : RX G B z V p k (cs ++ [c]) := by
  subst hE
  obtain ⟨m0, ⟨⟨h1, h2, h3, h4, h5, h6, h7⟩, h8, h9, h10, h11, ⟨x1, x2, x3, x4, x5⟩, h13, h14, h15, h16, h17⟩, hl, hm, hM⟩ := h
  dsimp only at h1 h2 h3 h4 h5 h6 h7 h8 h9 x1 x4 hm hM
  rw [Nat.add_sub_cancel] at hm hM
  have ea : xAll (cs ++ [c]) 0 = out := by rw [xAll_app, Nat.zero_add, ho]
  have lm : (xMk cs 0).length = cs.length := xMk_len cs 0
  have le : out.length = xE c (xAll cs 0).length 4 := by rw [ho, List.length_append, xC_len]
  refine ⟨h1, h8, h9, h2, h3, h4, h10, h11, by rw [List.length_append, List.length_singleton]; omega, ⟨?_, ?_, fun j hj => ?_, fun j hj => ?_⟩, by rw [ea]; exact hl, by rw [ea]; exact h15, h16, h17, ⟨3, x3, by omega⟩⟩
  · rw [List.length_append, List.length_singleton]; exact x1
  · rw [ea]; exact x2
  · rw [xMk_len, List.length_append, List.length_singleton] at hj
    have em := xMk_app cs c 0
    rw [Nat.zero_add] at em
    by_cases d : j < cs.length
    · have ej : (xMk (cs ++ [c]) 0)[j]'(by rw [xMk_len, List.length_append, List.length_singleton]; omega) = (xMk cs 0)[j]'(by omega) := by
        simp only [em]
        rw [List.getElem_append_left (by omega)]
      rw [ej, h6, h7, upd_ne _ _ (by omega), upd_ne _ _ (by omega)]
      obtain ⟨y1, y2, y3⟩ := hx j (by omega)
      refine ⟨y1, y2, fun i hi => ?_⟩
      rw [x4, if_neg (by omega), hM _ (by omega)]
      exact y3 i hi
    · have d2 : j = cs.length := by omega
      subst d2
      have ej : (xMk (cs ++ [c]) 0)[cs.length]'(by rw [xMk_len, List.length_append, List.length_singleton]; omega) = (c, (xAll cs 0).length) := by
        simp only [em]
        rw [List.getElem_append_right (by omega)]
        simp [lm]
      rw [ej, h6, h7, upd_self, upd_self, hc.1, hc.2]
      refine ⟨rfl, rfl, fun i hi => ?_⟩
      rw [x4]
      by_cases i3 : i ≤ 3
      · rw [if_neg (by omega), hm i i3, he i i3]
      · rw [if_pos (by omega), le, show i = 4 by omega]
  · simp only [ea] at hj ⊢
    exact x5 j hj
end CC
