/-! THE CLASS'S TEXT, EXACTLY -/
theorem nIdiv {a b : Nat} (ha : a < 2 ^ 31) (hb : b < 2 ^ 31) : nI a / nI b = nI (a / b) := by
  refine Int32.toInt_inj.mp ?_
  have h1 : a / b ≤ a := Nat.div_le_self a b
  rw [Int32.toInt_div, nI_toInt ha, nI_toInt hb, Int.tdiv_eq_ediv_of_nonneg (by omega), ← Int.natCast_ediv]
  generalize a / b = c at h1 ⊢
  rw [nI_toInt (by omega), fb_bmod (by omega) (by omega)]
theorem nImod {a b : Nat} (ha : a < 2 ^ 31) (hb : b < 2 ^ 31) : nI a % nI b = nI (a % b) := by
  refine Int32.toInt_inj.mp ?_
  have h1 : a % b ≤ a := Nat.mod_le a b
  rw [Int32.toInt_mod, nI_toInt ha, nI_toInt hb, Int.tmod_eq_emod_of_nonneg (by omega), ← Int.natCast_emod]
  generalize a % b = c at h1 ⊢
  rw [nI_toInt (by omega)]
/-- a step as the class holds it -/
def enc (x : Nat × Nat) : Int32 := nI (x.1 * 2048 + x.2)
def okX (x : Nat × Nat) : Prop := x.1 ≤ 12 ∧ x.2 < 2048
/-- clause n is made (n of them there are): what is added comes to part o; marks ahead as m0 has them -/
def TX (V : vR) (n o : Nat) (out : List (Nat × Nat)) (m0 : Nat → Int32) : Prop := V 2 0 = nI n ∧ V 2 1 = nI out.length ∧ V 2 2 = nI o ∧ (∀ j, V 6 j = if 5 * n + o < j + 5 ∧ j < 5 * n then nI out.length else m0 j) ∧ ∀ j, (h : j < out.length) → V 7 j = enc out[j]
def bndC (V : vR) : Prop := (∀ j, j < 60 → ∃ x, V 6 j = nI x ∧ x ≤ 400) ∧ ∀ j, j < 400 → ∃ x, V 7 j = nI x ∧ x ≤ 43007
def okV (V : vR) : Prop := (∃ x, V 1 1 = nI x ∧ x ≤ 400) ∧ (∃ x, V 1 3 = nI x ∧ x ≤ 400) ∧ (∃ x, V 1 5 = nI x ∧ x ≤ 400) ∧ okN V ∧ (∃ x, V 2 0 = nI x ∧ x ≤ 12) ∧ (∃ x, V 2 1 = nI x ∧ x ≤ 400) ∧ (∃ x, V 2 2 = nI x ∧ x ≤ 3) ∧ bndC V
/-- what stays while a clause's parts are read: the tape and its bytes, whether it is a law, how many clauses, their kinds and times -/
abbrev cE : Type := pG × (Nat → Int32) × Nat × Nat × (Nat → Int32) × (Nat → Int32)
def envC (E : cE) (V : vR) : Prop := tpC E.1 V ∧ V 3 = E.2.1 ∧ V 0 2 = nI E.2.2.1 ∧ E.2.2.1 ≤ 1 ∧ (1 ≤ E.2.2.2.1 ∧ E.2.2.2.1 ≤ 12) ∧ V 4 = E.2.2.2.2.1 ∧ V 5 = E.2.2.2.2.2
/-- reading goes on: at place p, k parts so far, out made, in part o of the clause -/
def RC (E : cE) (o : Nat) (m0 : Nat → Int32) (V : vR) (p k : Nat) (out : List (Nat × Nat)) : Prop := envC E V ∧ tkC E.1 p V ∧ p ≤ E.1.2 ∧ V 0 3 = nI k ∧ k ≤ 50 ∧ TX V E.2.2.2.1 o out m0 ∧ o ≤ 3 ∧ out.length ≤ 400 ∧ (∀ x ∈ out, okX x) ∧ okN V ∧ bndC V
/-- it is bad, by the token from f on -/
def FC (G : pG) (B : Nat → Int32) (f : Nat) (V : vR) : Prop := V 1 3 = nI (tS G f) ∧ V 1 1 = nI G.2 ∧ V 3 = B ∧ okV V
theorem RC.ok {E : cE} {o : Nat} {m0 : Nat → Int32} {V : vR} {p k : Nat} {out : List (Nat × Nat)} (h : RC E o m0 V p k out) : okV V := by
  obtain ⟨⟨h1, h2, h3, h4, h5, h6, h7⟩, ⟨t2, t3, t5, t4⟩, h9, h10, h11, ⟨x1, x2, x3, x4, x5⟩, h13, h14, h15, h16, h17⟩ := h
  have a := h1.2.1
  have b := tS_le h9
  have c := tE_le h9
  exact ⟨⟨_, h1.1, a⟩, ⟨_, t3, by omega⟩, ⟨_, t5, by omega⟩, h16, ⟨_, x1, h5.2⟩, ⟨_, x2, h14⟩, ⟨_, x3, h13⟩, h17⟩
theorem RC.F {E : cE} {o : Nat} {m0 : Nat → Int32} {V : vR} {p k : Nat} {out : List (Nat × Nat)} (h : RC E o m0 V p k out) : FC E.1 E.2.1 p V := ⟨h.2.1.2.1, h.1.1.1, h.1.2.1, h.ok⟩
/-- the token goes on -/
theorem RC.tk {E : cE} {o : Nat} {m0 : Nat → Int32} {V V' : vR} {p p' k : Nat} {out : List (Nat × Nat)} (h : RC E o m0 V p k out) (hF : vF V V') (ht : tkC E.1 p' V') (hp : p' ≤ E.1.2) (hn : okN V') : RC E o m0 V' p' k out := by
  obtain ⟨⟨h1, h2, h3, h4, h5, h6, h7⟩, h8, h9, h10, h11, h12, h13, h14, h15, h16, h17⟩ := h
  refine ⟨⟨h1.F hF, ?_, ?_, h4, h5, ?_, ?_⟩, ht, hp, ?_, h11, ?_, h13, h14, h15, hn, ?_⟩
  · rw [hF.1 3 (by decide)]; exact h2
  · rw [hF.1 0 (by decide)]; exact h3
  · rw [hF.1 4 (by decide)]; exact h6
  · rw [hF.1 5 (by decide)]; exact h7
  · rw [hF.1 0 (by decide)]; exact h10
  · unfold TX at *
    rw [hF.1 2 (by decide), hF.1 6 (by decide), hF.1 7 (by decide)]
    exact h12
  · unfold bndC at *
    rw [hF.1 6 (by decide), hF.1 7 (by decide)]
    exact h17
/-- a part more is counted -/
theorem RC.pt {E : cE} {o : Nat} {m0 : Nat → Int32} {V : vR} {p k : Nat} {out : List (Nat × Nat)} (h : RC E o m0 V p k out) (hk : k < 50) : RC E o m0 (vS V 0 3 (nI (k + 1))) p (k + 1) out := by
  obtain ⟨⟨h1, h2, h3, h4, h5, h6, h7⟩, h8, h9, h10, h11, h12, h13, h14, h15, h16, h17⟩ := h
  have e : ∀ j, j ≠ 0 → vS V 0 3 (nI (k + 1)) j = V j := fun j hj => by rw [vS_ar, if_neg hj]
  refine ⟨⟨?_, ?_, ?_, h4, h5, ?_, ?_⟩, ?_, h9, ?_, by omega, ?_, h13, h14, h15, ?_, ?_⟩
  · unfold tpC at *; rw [e 1 (by decide), e 3 (by decide)]; exact h1
  · rw [e 3 (by decide)]; exact h2
  · rw [vS_at, if_pos rfl, if_neg (by decide)]; exact h3
  · rw [e 4 (by decide)]; exact h6
  · rw [e 5 (by decide)]; exact h7
  · unfold tkC at *; rw [e 1 (by decide)]; exact h8
  · rw [vS_at, if_pos rfl, if_pos rfl]
  · unfold TX at *; rw [e 2 (by decide), e 6 (by decide), e 7 (by decide)]; exact h12
  · unfold okN at *; rw [e 1 (by decide)]; exact h16
  · unfold bndC at *; rw [e 6 (by decide), e 7 (by decide)]; exact h17
/-- only the text has changed -/
def xF (V V' : vR) : Prop := ∀ k, k ≠ 2 → k ≠ 6 → k ≠ 7 → V' k = V k
theorem xF.tr {V V' V'' : vR} (h : xF V V') (h' : xF V' V'') : xF V V'' := fun k a b c => (h' k a b c).trans (h k a b c)
theorem RC.tx {E : cE} {o o' : Nat} {m0 m0' : Nat → Int32} {V V' : vR} {p k : Nat} {out out' : List (Nat × Nat)} (h : RC E o m0 V p k out) (hF : xF V V') (hT : TX V' E.2.2.2.1 o' out' m0') (ho : o' ≤ 3) (hl : out'.length ≤ 400) (hx : ∀ x ∈ out', okX x) (hb : bndC V') : RC E o' m0' V' p k out' := by
  obtain ⟨⟨h1, h2, h3, h4, h5, h6, h7⟩, h8, h9, h10, h11, h12, h13, h14, h15, h16, h17⟩ := h
  have e : ∀ j, j ≠ 2 → j ≠ 6 → j ≠ 7 → V' j = V j := hF
  refine ⟨⟨?_, ?_, ?_, h4, h5, ?_, ?_⟩, ?_, h9, ?_, h11, hT, ho, hl, hx, ?_, hb⟩
  · unfold tpC at *; rw [e 1 (by decide) (by decide) (by decide), e 3 (by decide) (by decide) (by decide)]; exact h1
  · rw [e 3 (by decide) (by decide) (by decide)]; exact h2
  · rw [e 0 (by decide) (by decide) (by decide)]; exact h3
  · rw [e 4 (by decide) (by decide) (by decide)]; exact h6
  · rw [e 5 (by decide) (by decide) (by decide)]; exact h7
  · unfold tkC at *; rw [e 1 (by decide) (by decide) (by decide)]; exact h8
  · rw [e 0 (by decide) (by decide) (by decide)]; exact h10
  · unfold okN at *; rw [e 1 (by decide) (by decide) (by decide)]; exact h16
section CA
variable {S : hS} {ad : Nat → Nat} {V : vR} {E : cE} {p k o : Nat} {m0 : Nat → Int32} {out : List (Nat × Nat)}
theorem c_adv2 (hd : rD ad) {q : hS → Prop} (hR : RC E o m0 V p k out) (h : ∀ V', RC E o m0 V' (tE E.1 p) k out → q (rv S ad V')) : w_X9_advance q (rv S ad V) (ad 1) :=
  c_adv hd hR.1.1 (tE_le hR.2.2.1) hR.2.1.2.2.1 hR.2.2.2.2.2.2.2.2.2.1 (fun V' hF ht hn => h V' (hR.tk hF ht (tE_le hR.2.2.1) hn))
theorem c_takeSign (hd : rD ad) {q : Int32 → hS → Prop} {c : Nat} {v : Int32} (ev : v = nI c) (hR : RC E o m0 V p k out) (hc : c < 256) (h1 : isSg E.1 p c = true → ∀ V', RC E o m0 V' (tE E.1 p) k out → q 1 (rv S ad V')) (h0 : ¬ isSg E.1 p c = true → q 0 (rv S ad V)) : w_X5_takeSign q (rv S ad V) (ad 0) v := by
  unfold w_X5_takeSign
  simp (disch := decide) only [ri_gI0 hd, ri_gI1 hd, ri_gI2 hd, ri_gP00 hd, ri_gP01 hd, ri_gP10 hd, ri_gP23 hd, ri_gP24 hd, ri_gP25 hd, ri_gP26 hd, ri_pI0 hd, ri_pZ0 hd, ri_pI1 hd, ri_pI2 hd, ri_oK0 hd, ri_oK1 hd, ri_oK2 hd, ri_aI hd, ri_sI hd, ri_aN hd, rN_3, rN_4, rN_5, rN_6, rN_7, vS_at, Nat.reduceEqDiff, if_true, if_false, ite_true, ite_false, true_and, Nat.reduceLT, reduceIte, reduceCtorEq]
  refine c_isSign hd ev hR.1.1 hR.2.2.1 hR.2.1 hc (fun hs => ⟨fun _ => ?_, fun z => absurd z (by decide)⟩) (fun hs => ⟨fun z => absurd rfl z, fun _ => h0 hs⟩)
  simp (disch := decide) only [ri_gI0 hd, ri_gI1 hd, ri_gI2 hd, ri_gP00 hd, ri_gP01 hd, ri_gP10 hd, ri_gP23 hd, ri_gP24 hd, ri_gP25 hd, ri_gP26 hd, ri_pI0 hd, ri_pZ0 hd, ri_pI1 hd, ri_pI2 hd, ri_oK0 hd, ri_oK1 hd, ri_oK2 hd, ri_aI hd, ri_sI hd, ri_aN hd, rN_3, rN_4, rN_5, rN_6, rN_7, vS_at, Nat.reduceEqDiff, if_true, if_false, ite_true, ite_false, true_and, Nat.reduceLT, reduceIte, reduceCtorEq]
  exact c_adv2 hd hR (h1 hs)
theorem c_takeWord {tx : Nat → Nat} (hd : rD ad) {q : Int32 → hS → Prop} {j : Nat} {r : String × Nat × String × List Nat} (hr : hTxs[j]? = some r) (hR : RC E o m0 V p k out) (h1 : isWd E.1 p r.2.2.2 = true → ∀ V', RC E o m0 V' (tE E.1 p) k out → q 1 (rv S ad V')) (h0 : ¬ isWd E.1 p r.2.2.2 = true → q 0 (rv S ad V)) : w_X5_takeWord tx q (rv S ad V) (ad 0) (tx j) := by
  unfold w_X5_takeWord
  simp (disch := decide) only [ri_gI0 hd, ri_gI1 hd, ri_gI2 hd, ri_gP00 hd, ri_gP01 hd, ri_gP10 hd, ri_gP23 hd, ri_gP24 hd, ri_gP25 hd, ri_gP26 hd, ri_pI0 hd, ri_pZ0 hd, ri_pI1 hd, ri_pI2 hd, ri_oK0 hd, ri_oK1 hd, ri_oK2 hd, ri_aI hd, ri_sI hd, ri_aN hd, rN_3, rN_4, rN_5, rN_6, rN_7, vS_at, Nat.reduceEqDiff, if_true, if_false, ite_true, ite_false, true_and, Nat.reduceLT, reduceIte, reduceCtorEq]
  refine c_isWord hd hr hR.1.1 hR.2.2.1 hR.2.1 (fun hs => ⟨fun _ => ?_, fun z => absurd z (by decide)⟩) (fun hs => ⟨fun z => absurd rfl z, fun _ => h0 hs⟩)
  simp (disch := decide) only [ri_gI0 hd, ri_gI1 hd, ri_gI2 hd, ri_gP00 hd, ri_gP01 hd, ri_gP10 hd, ri_gP23 hd, ri_gP24 hd, ri_gP25 hd, ri_gP26 hd, ri_pI0 hd, ri_pZ0 hd, ri_pI1 hd, ri_pI2 hd, ri_oK0 hd, ri_oK1 hd, ri_oK2 hd, ri_aI hd, ri_sI hd, ri_aN hd, rN_3, rN_4, rN_5, rN_6, rN_7, vS_at, Nat.reduceEqDiff, if_true, if_false, ite_true, ite_false, true_and, Nat.reduceLT, reduceIte, reduceCtorEq]
  exact c_adv2 hd hR (h1 hs)
theorem c_sg (hd : rD ad) {q : Int32 → hS → Prop} {c : Nat} {v : Int32} (ev : v = nI c) (hR : RC E o m0 V p k out) (hc : c < 256) (h1 : isSg E.1 p c = true → q 1 (rv S ad V)) (h0 : ¬ isSg E.1 p c = true → q 0 (rv S ad V)) : w_X9_isSign q (rv S ad V) (ad 1) v := c_isSign hd ev hR.1.1 hR.2.2.1 hR.2.1 hc h1 h0
theorem enc_le {x : Nat × Nat} (h : okX x) : x.1 * 2048 + x.2 ≤ 43007 := by
  obtain ⟨h1, h2⟩ := h
  omega
theorem c_add55 (hd : rD ad) {q : Int32 → hS → Prop} {n m o : Nat} (hn : 1 ≤ n ∧ n ≤ 12) (ho : o ≤ 3) (hm : m ≤ 399) (e0 : V 2 0 = nI n) (e1 : V 2 1 = nI (m + 1)) (hb : bndC V) (h : ∀ V', (∀ k, k ≠ 6 → V' k = V k) → (∀ j, V' 6 j = if 5 * n + o < j + 5 ∧ j < 5 * n then nI (m + 1) else V 6 j) → bndC V' → q (nI m) (rv S ad V')) : ∃ f, w_X10_add_b55 q f (rv S ad V) (ad 2) (nI (o + 1)) := by
  refine loop_m (σ := vR × Nat) (fun f s => w_X10_add_b55 q f (rv S ad s.1) (ad 2) (nI s.2)) (fun s => (∀ k, k ≠ 6 → s.1 k = V k) ∧ (∀ j, s.1 6 j = if 5 * n + o < j + 5 ∧ j + 5 < 5 * n + s.2 then nI (m + 1) else V 6 j) ∧ o < s.2 ∧ s.2 ≤ 5 ∧ bndC s.1) (fun s => 5 - s.2) ?_ (V, o + 1) ⟨fun _ _ => rfl, fun j => by dsimp only; rw [if_neg (by omega)], by dsimp only; omega, by dsimp only; omega, hb⟩
  rintro f ⟨N, i⟩ ⟨g1, g2, g3, g4, g5⟩ ih
  dsimp only at g1 g2 g3 g4 g5 ih ⊢
  rw [w_X10_add_b55]
  simp (disch := decide) only [ri_gI0 hd, ri_gI1 hd, ri_gI2 hd, ri_gP00 hd, ri_gP01 hd, ri_gP10 hd, ri_gP23 hd, ri_gP24 hd, ri_gP25 hd, ri_gP26 hd, ri_pI0 hd, ri_pZ0 hd, ri_pI1 hd, ri_pI2 hd, ri_oK0 hd, ri_oK1 hd, ri_oK2 hd, ri_aI hd, ri_sI hd, ri_aN hd, rN_3, rN_4, rN_5, rN_6, rN_7, vS_at, Nat.reduceEqDiff, if_true, if_false, ite_true, ite_false, true_and, Nat.reduceLT, reduceIte, reduceCtorEq]
  rw [g1 2 (by decide), e0, e1, lit_nI 5, nI_leI (by omega) (by omega), nI_pm1, nI_s1 (by omega), nImul, nIadd, nI_clamp (by omega)]
  refine ⟨fun c => h N g1 (fun j => ?_) g5, fun c => ⟨vp_in_nI (by omega) (by omega), fun y ey => ?_⟩⟩
  · rw [g2]
    have : i = 5 := by omega
    subst this
    by_cases z : 5 * n + o < j + 5 ∧ j < 5 * n
    · rw [if_pos z, if_pos (by omega)]
    · rw [if_neg z, if_neg (by omega)]
  · rw [ey, nI_1]
    refine ih (vS N 6 ((n - 1) * 5 + i) (nI (m + 1)), i + 1) ⟨fun k hk => ?_, fun j => ?_, by dsimp only; omega, by dsimp only; omega, ?_⟩ (by dsimp only; omega)
    · dsimp only
      rw [vS_ar, if_neg hk]
      exact g1 k hk
    · dsimp only
      rw [vS_at, if_pos rfl, g2]
      by_cases z : j = (n - 1) * 5 + i
      · rw [if_pos z, if_pos (by omega)]
      · rw [if_neg z]
        by_cases z2 : 5 * n + o < j + 5 ∧ j + 5 < 5 * n + i
        · rw [if_pos z2, if_pos (by omega)]
        · rw [if_neg z2, if_neg (by omega)]
    · refine ⟨fun j hj => ?_, fun j hj => ?_⟩
      · dsimp only
        rw [vS_at, if_pos rfl]
        split
        · exact ⟨_, rfl, by omega⟩
        · exact g5.1 j hj
      · dsimp only
        rw [vS_ar, if_neg (by decide)]
        exact g5.2 j hj
theorem c_add (hd : rD ad) {q : Int32 → hS → Prop} {op arg : Nat} {x y : Int32} (ex : x = nI op) (ey : y = nI arg) (hR : RC E o m0 V p k out) (hl : out.length < 400) (hx : okX (op, arg)) (h : ∀ V', RC E o m0 V' p k (out ++ [(op, arg)]) → q (nI out.length) (rv S ad V')) : w_X10_add q (rv S ad V) (ad 2) x y := by
  subst ex
  subst ey
  obtain ⟨x1, x2, x3, x4, x5⟩ := hR.2.2.2.2.2.1
  have hn := hR.1.2.2.2.2.1
  have ho := hR.2.2.2.2.2.2.1
  have hxs := hR.2.2.2.2.2.2.2.2.1
  have hb := hR.2.2.2.2.2.2.2.2.2.2
  have le := enc_le hx
  dsimp only at le
  unfold w_X10_add
  simp (disch := decide) only [ri_gI0 hd, ri_gI1 hd, ri_gI2 hd, ri_gP00 hd, ri_gP01 hd, ri_gP10 hd, ri_gP23 hd, ri_gP24 hd, ri_gP25 hd, ri_gP26 hd, ri_pI0 hd, ri_pZ0 hd, ri_pI1 hd, ri_pI2 hd, ri_oK0 hd, ri_oK1 hd, ri_oK2 hd, ri_aI hd, ri_sI hd, ri_aN hd, rN_3, rN_4, rN_5, rN_6, rN_7, vS_at, Nat.reduceEqDiff, if_true, if_false, ite_true, ite_false, true_and, Nat.reduceLT, reduceIte, reduceCtorEq]
  rw [x1, x2, x3, nI_leI (by omega) (by omega), lit_nI 1, nI_leI (by omega) (by omega), nI_clamp (by omega), nIadd, nIadd, lit_nI 2048, nImul, nIadd]
  refine ⟨fun c => by omega, fun _ => ⟨fun _ => ⟨vp_in_nI (by omega) (by omega), fun y ey => ?_⟩, fun c => by omega⟩⟩
  subst ey
  refine c_add55 hd (n := E.2.2.2.1) (m := out.length) hn ho (by omega) (by simp (disch := decide) only [ri_gI0 hd, ri_gI1 hd, ri_gI2 hd, ri_gP00 hd, ri_gP01 hd, ri_gP10 hd, ri_gP23 hd, ri_gP24 hd, ri_gP25 hd, ri_gP26 hd, ri_pI0 hd, ri_pZ0 hd, ri_pI1 hd, ri_pI2 hd, ri_oK0 hd, ri_oK1 hd, ri_oK2 hd, ri_aI hd, ri_sI hd, ri_aN hd, rN_3, rN_4, rN_5, rN_6, rN_7, vS_at, Nat.reduceEqDiff, if_true, if_false, ite_true, ite_false, true_and, Nat.reduceLT, reduceIte, reduceCtorEq]; exact x1) (by simp (disch := decide) only [ri_gI0 hd, ri_gI1 hd, ri_gI2 hd, ri_gP00 hd, ri_gP01 hd, ri_gP10 hd, ri_gP23 hd, ri_gP24 hd, ri_gP25 hd, ri_gP26 hd, ri_pI0 hd, ri_pZ0 hd, ri_pI1 hd, ri_pI2 hd, ri_oK0 hd, ri_oK1 hd, ri_oK2 hd, ri_aI hd, ri_sI hd, ri_aN hd, rN_3, rN_4, rN_5, rN_6, rN_7, vS_at, Nat.reduceEqDiff, if_true, if_false, ite_true, ite_false, true_and, Nat.reduceLT, reduceIte, reduceCtorEq]) ?_ (fun V' g1 g2 g3 => h V' (hR.tx (o' := o) (m0' := m0) ?_ ?_ ho ?_ ?_ g3))
  · refine ⟨fun j hj => ?_, fun j hj => ?_⟩
    · simp (disch := decide) only [ri_gI0 hd, ri_gI1 hd, ri_gI2 hd, ri_gP00 hd, ri_gP01 hd, ri_gP10 hd, ri_gP23 hd, ri_gP24 hd, ri_gP25 hd, ri_gP26 hd, ri_pI0 hd, ri_pZ0 hd, ri_pI1 hd, ri_pI2 hd, ri_oK0 hd, ri_oK1 hd, ri_oK2 hd, ri_aI hd, ri_sI hd, ri_aN hd, rN_3, rN_4, rN_5, rN_6, rN_7, vS_at, Nat.reduceEqDiff, if_true, if_false, ite_true, ite_false, true_and, Nat.reduceLT, reduceIte, reduceCtorEq]
      exact hb.1 j hj
    · simp (disch := decide) only [ri_gI0 hd, ri_gI1 hd, ri_gI2 hd, ri_gP00 hd, ri_gP01 hd, ri_gP10 hd, ri_gP23 hd, ri_gP24 hd, ri_gP25 hd, ri_gP26 hd, ri_pI0 hd, ri_pZ0 hd, ri_pI1 hd, ri_pI2 hd, ri_oK0 hd, ri_oK1 hd, ri_oK2 hd, ri_aI hd, ri_sI hd, ri_aN hd, rN_3, rN_4, rN_5, rN_6, rN_7, vS_at, Nat.reduceEqDiff, if_true, if_false, ite_true, ite_false, true_and, Nat.reduceLT, reduceIte, reduceCtorEq]
      split
      · exact ⟨_, rfl, le⟩
      · exact hb.2 j hj
  · intro j h2 h6 h7
    rw [g1 j h6, vS_ar, if_neg h2, vS_ar, if_neg h7]
  · refine ⟨?_, ?_, ?_, fun j => ?_, fun j hj => ?_⟩
    · rw [g1 2 (by decide)]; simp (disch := decide) only [ri_gI0 hd, ri_gI1 hd, ri_gI2 hd, ri_gP00 hd, ri_gP01 hd, ri_gP10 hd, ri_gP23 hd, ri_gP24 hd, ri_gP25 hd, ri_gP26 hd, ri_pI0 hd, ri_pZ0 hd, ri_pI1 hd, ri_pI2 hd, ri_oK0 hd, ri_oK1 hd, ri_oK2 hd, ri_aI hd, ri_sI hd, ri_aN hd, rN_3, rN_4, rN_5, rN_6, rN_7, vS_at, Nat.reduceEqDiff, if_true, if_false, ite_true, ite_false, true_and, Nat.reduceLT, reduceIte, reduceCtorEq]; exact x1
    · rw [g1 2 (by decide), List.length_append, List.length_singleton]; simp (disch := decide) only [ri_gI0 hd, ri_gI1 hd, ri_gI2 hd, ri_gP00 hd, ri_gP01 hd, ri_gP10 hd, ri_gP23 hd, ri_gP24 hd, ri_gP25 hd, ri_gP26 hd, ri_pI0 hd, ri_pZ0 hd, ri_pI1 hd, ri_pI2 hd, ri_oK0 hd, ri_oK1 hd, ri_oK2 hd, ri_aI hd, ri_sI hd, ri_aN hd, rN_3, rN_4, rN_5, rN_6, rN_7, vS_at, Nat.reduceEqDiff, if_true, if_false, ite_true, ite_false, true_and, Nat.reduceLT, reduceIte, reduceCtorEq]
    · rw [g1 2 (by decide)]; simp (disch := decide) only [ri_gI0 hd, ri_gI1 hd, ri_gI2 hd, ri_gP00 hd, ri_gP01 hd, ri_gP10 hd, ri_gP23 hd, ri_gP24 hd, ri_gP25 hd, ri_gP26 hd, ri_pI0 hd, ri_pZ0 hd, ri_pI1 hd, ri_pI2 hd, ri_oK0 hd, ri_oK1 hd, ri_oK2 hd, ri_aI hd, ri_sI hd, ri_aN hd, rN_3, rN_4, rN_5, rN_6, rN_7, vS_at, Nat.reduceEqDiff, if_true, if_false, ite_true, ite_false, true_and, Nat.reduceLT, reduceIte, reduceCtorEq]; exact x3
    · rw [g2, List.length_append, List.length_singleton]
      simp (disch := decide) only [ri_gI0 hd, ri_gI1 hd, ri_gI2 hd, ri_gP00 hd, ri_gP01 hd, ri_gP10 hd, ri_gP23 hd, ri_gP24 hd, ri_gP25 hd, ri_gP26 hd, ri_pI0 hd, ri_pZ0 hd, ri_pI1 hd, ri_pI2 hd, ri_oK0 hd, ri_oK1 hd, ri_oK2 hd, ri_aI hd, ri_sI hd, ri_aN hd, rN_3, rN_4, rN_5, rN_6, rN_7, vS_at, Nat.reduceEqDiff, if_true, if_false, ite_true, ite_false, true_and, Nat.reduceLT, reduceIte, reduceCtorEq]
      split
      · rfl
      · rename_i z
        rw [x4, if_neg z]
    · rw [g1 7 (by decide)]
      simp (disch := decide) only [ri_gI0 hd, ri_gI1 hd, ri_gI2 hd, ri_gP00 hd, ri_gP01 hd, ri_gP10 hd, ri_gP23 hd, ri_gP24 hd, ri_gP25 hd, ri_gP26 hd, ri_pI0 hd, ri_pZ0 hd, ri_pI1 hd, ri_pI2 hd, ri_oK0 hd, ri_oK1 hd, ri_oK2 hd, ri_aI hd, ri_sI hd, ri_aN hd, rN_3, rN_4, rN_5, rN_6, rN_7, vS_at, Nat.reduceEqDiff, if_true, if_false, ite_true, ite_false, true_and, Nat.reduceLT, reduceIte, reduceCtorEq]
      rw [List.length_append, List.length_singleton] at hj
      by_cases z : j = out.length
      · subst z
        rw [if_pos rfl, List.getElem_append_right (Nat.le_refl _)]
        simp [enc]
      · rw [if_neg z, List.getElem_append_left (by omega)]
        exact x5 j (by omega)
  · rw [List.length_append, List.length_singleton]; omega
  · intro x hx2
    rcases List.mem_append.mp hx2 with z | z
    · exact hxs x z
    · rw [List.mem_singleton.mp z]; exact hx
set_option maxRecDepth 16384 in
theorem c_land (hd : rD ad) {q : hS → Prop} {s : Nat} (hR : RC E o m0 V p k out) (hs : s < out.length) (h : ∀ V', RC E o m0 V' p k (out.set s (out[s].1, out.length)) → q (rv S ad V')) : w_X10_landSkip q (rv S ad V) (ad 2) (nI s) := by
  obtain ⟨x1, x2, x3, x4, x5⟩ := hR.2.2.2.2.2.1
  have ho := hR.2.2.2.2.2.2.1
  have hl := hR.2.2.2.2.2.2.2.1
  have hxs := hR.2.2.2.2.2.2.2.2.1
  have hb := hR.2.2.2.2.2.2.2.2.2.2
  have hx := hxs _ (List.getElem_mem hs)
  unfold w_X10_landSkip
  simp (disch := decide) only [ri_gI0 hd, ri_gI1 hd, ri_gI2 hd, ri_gP00 hd, ri_gP01 hd, ri_gP10 hd, ri_gP23 hd, ri_gP24 hd, ri_gP25 hd, ri_gP26 hd, ri_pI0 hd, ri_pZ0 hd, ri_pI1 hd, ri_pI2 hd, ri_oK0 hd, ri_oK1 hd, ri_oK2 hd, ri_aI hd, ri_sI hd, ri_aN hd, rN_3, rN_4, rN_5, rN_6, rN_7, vS_at, Nat.reduceEqDiff, if_true, if_false, ite_true, ite_false, true_and, Nat.reduceLT, reduceIte, reduceCtorEq]
  rw [x2, nI_leI (by omega) (by omega), nI_clamp (by omega), x5 s hs]
  have e : enc out[s] / 2048 * 2048 + nI out.length = enc (out[s].1, out.length) := by
    obtain ⟨hx1, hx2⟩ := hx
    unfold enc
    rw [lit_nI 2048, nIdiv (by omega) (by omega), nImul, nIadd]
    congr 1
    dsimp only
    omega
  rw [e]
  have ls : (out.set s (out[s].1, out.length)).length = out.length := List.length_set
  refine ⟨fun c => absurd c (nI_ltz (by omega)), fun _ => ⟨fun c => by omega, fun _ => ⟨vp_in_nI (by omega) (by omega), vp_in_nI (by omega) (by omega), h _ (hR.tx (o' := o) (m0' := m0) ?_ ?_ ho (by omega) ?_ ?_)⟩⟩⟩
  · intro j h2 h6 h7
    rw [vS_ar, if_neg h7]
  · refine ⟨?_, ?_, ?_, fun j => ?_, fun j hj => ?_⟩
    · simp (disch := decide) only [ri_gI0 hd, ri_gI1 hd, ri_gI2 hd, ri_gP00 hd, ri_gP01 hd, ri_gP10 hd, ri_gP23 hd, ri_gP24 hd, ri_gP25 hd, ri_gP26 hd, ri_pI0 hd, ri_pZ0 hd, ri_pI1 hd, ri_pI2 hd, ri_oK0 hd, ri_oK1 hd, ri_oK2 hd, ri_aI hd, ri_sI hd, ri_aN hd, rN_3, rN_4, rN_5, rN_6, rN_7, vS_at, Nat.reduceEqDiff, if_true, if_false, ite_true, ite_false, true_and, Nat.reduceLT, reduceIte, reduceCtorEq]; exact x1
    · rw [ls]; simp (disch := decide) only [ri_gI0 hd, ri_gI1 hd, ri_gI2 hd, ri_gP00 hd, ri_gP01 hd, ri_gP10 hd, ri_gP23 hd, ri_gP24 hd, ri_gP25 hd, ri_gP26 hd, ri_pI0 hd, ri_pZ0 hd, ri_pI1 hd, ri_pI2 hd, ri_oK0 hd, ri_oK1 hd, ri_oK2 hd, ri_aI hd, ri_sI hd, ri_aN hd, rN_3, rN_4, rN_5, rN_6, rN_7, vS_at, Nat.reduceEqDiff, if_true, if_false, ite_true, ite_false, true_and, Nat.reduceLT, reduceIte, reduceCtorEq]; exact x2
    · simp (disch := decide) only [ri_gI0 hd, ri_gI1 hd, ri_gI2 hd, ri_gP00 hd, ri_gP01 hd, ri_gP10 hd, ri_gP23 hd, ri_gP24 hd, ri_gP25 hd, ri_gP26 hd, ri_pI0 hd, ri_pZ0 hd, ri_pI1 hd, ri_pI2 hd, ri_oK0 hd, ri_oK1 hd, ri_oK2 hd, ri_aI hd, ri_sI hd, ri_aN hd, rN_3, rN_4, rN_5, rN_6, rN_7, vS_at, Nat.reduceEqDiff, if_true, if_false, ite_true, ite_false, true_and, Nat.reduceLT, reduceIte, reduceCtorEq]; exact x3
    · rw [ls]; simp (disch := decide) only [ri_gI0 hd, ri_gI1 hd, ri_gI2 hd, ri_gP00 hd, ri_gP01 hd, ri_gP10 hd, ri_gP23 hd, ri_gP24 hd, ri_gP25 hd, ri_gP26 hd, ri_pI0 hd, ri_pZ0 hd, ri_pI1 hd, ri_pI2 hd, ri_oK0 hd, ri_oK1 hd, ri_oK2 hd, ri_aI hd, ri_sI hd, ri_aN hd, rN_3, rN_4, rN_5, rN_6, rN_7, vS_at, Nat.reduceEqDiff, if_true, if_false, ite_true, ite_false, true_and, Nat.reduceLT, reduceIte, reduceCtorEq]; exact x4 j
    · simp (disch := decide) only [ri_gI0 hd, ri_gI1 hd, ri_gI2 hd, ri_gP00 hd, ri_gP01 hd, ri_gP10 hd, ri_gP23 hd, ri_gP24 hd, ri_gP25 hd, ri_gP26 hd, ri_pI0 hd, ri_pZ0 hd, ri_pI1 hd, ri_pI2 hd, ri_oK0 hd, ri_oK1 hd, ri_oK2 hd, ri_aI hd, ri_sI hd, ri_aN hd, rN_3, rN_4, rN_5, rN_6, rN_7, vS_at, Nat.reduceEqDiff, if_true, if_false, ite_true, ite_false, true_and, Nat.reduceLT, reduceIte, reduceCtorEq]
      rw [ls] at hj
      by_cases z : j = s
      · subst z
        rw [if_pos rfl, List.getElem_set_self]
      · rw [if_neg z, List.getElem_set_ne (Ne.symm z)]
        exact x5 j hj
  · intro x hx2
    rcases List.mem_or_eq_of_mem_set hx2 with z | z
    · exact hxs x z
    · rw [z]; exact ⟨hx.1, by dsimp only; omega⟩
  · refine ⟨fun j hj => ?_, fun j hj => ?_⟩
    · simp (disch := decide) only [ri_gI0 hd, ri_gI1 hd, ri_gI2 hd, ri_gP00 hd, ri_gP01 hd, ri_gP10 hd, ri_gP23 hd, ri_gP24 hd, ri_gP25 hd, ri_gP26 hd, ri_pI0 hd, ri_pZ0 hd, ri_pI1 hd, ri_pI2 hd, ri_oK0 hd, ri_oK1 hd, ri_oK2 hd, ri_aI hd, ri_sI hd, ri_aN hd, rN_3, rN_4, rN_5, rN_6, rN_7, vS_at, Nat.reduceEqDiff, if_true, if_false, ite_true, ite_false, true_and, Nat.reduceLT, reduceIte, reduceCtorEq]
      exact hb.1 j hj
    · simp (disch := decide) only [ri_gI0 hd, ri_gI1 hd, ri_gI2 hd, ri_gP00 hd, ri_gP01 hd, ri_gP10 hd, ri_gP23 hd, ri_gP24 hd, ri_gP25 hd, ri_gP26 hd, ri_pI0 hd, ri_pZ0 hd, ri_pI1 hd, ri_pI2 hd, ri_oK0 hd, ri_oK1 hd, ri_oK2 hd, ri_aI hd, ri_sI hd, ri_aN hd, rN_3, rN_4, rN_5, rN_6, rN_7, vS_at, Nat.reduceEqDiff, if_true, if_false, ite_true, ite_false, true_and, Nat.reduceLT, reduceIte, reduceCtorEq]
      split
      · exact ⟨_, rfl, enc_le ⟨hx.1, by dsimp only; omega⟩⟩
      · exact hb.2 j hj
theorem c_sgP (hd : rD ad) {q : Int32 → hS → Prop} {c : Nat} {v : Int32} (ev : v = nI c) (hR : RC E o m0 V p k out) (hc : c < 256) (h1 : isSg E.1 p c = true → q 1 (rv S ad V)) (h0 : ¬ isSg E.1 p c = true → q 0 (rv S ad V)) : gP (rv S ad V) (ad 0) 5 1 (fun x => oK (rv S ad V) x 9 ∧ w_X9_isSign q (rv S ad V) x v) := (ri_gP01 hd).mpr ⟨(ri_oK1 hd).mpr trivial, c_sg hd ev hR hc h1 h0⟩
theorem c_advP (hd : rD ad) {q : hS → Prop} (hR : RC E o m0 V p k out) (h : ∀ V', RC E o m0 V' (tE E.1 p) k out → q (rv S ad V')) : gP (rv S ad V) (ad 0) 5 1 (fun x => oK (rv S ad V) x 9 ∧ w_X9_advance q (rv S ad V) x) := (ri_gP01 hd).mpr ⟨(ri_oK1 hd).mpr trivial, c_adv2 hd hR h⟩
theorem c_addP (hd : rD ad) {q : Int32 → hS → Prop} {op arg : Nat} {x y : Int32} (ex : x = nI op) (ey : y = nI arg) (hR : RC E o m0 V p k out) (hl : out.length < 400) (hx : okX (op, arg)) (h : ∀ V', RC E o m0 V' p k (out ++ [(op, arg)]) → q (nI out.length) (rv S ad V')) : gP (rv S ad V) (ad 0) 5 0 (fun a => oK (rv S ad V) a 10 ∧ w_X10_add q (rv S ad V) a x y) := (ri_gP00 hd).mpr ⟨(ri_oK2 hd).mpr trivial, c_add hd ex ey hR hl hx h⟩
theorem c_landP (hd : rD ad) {q : hS → Prop} {s : Nat} (hR : RC E o m0 V p k out) (hs : s < out.length) (h : ∀ V', RC E o m0 V' p k (out.set s (out[s].1, out.length)) → q (rv S ad V')) : gP (rv S ad V) (ad 0) 5 0 (fun a => oK (rv S ad V) a 10 ∧ w_X10_landSkip q (rv S ad V) a (nI s)) := (ri_gP00 hd).mpr ⟨(ri_oK2 hd).mpr trivial, c_land hd hR hs h⟩
end CA
