/-! THE REFERENCE'S READING OF TESTS, ON PAPER -/
def ctx (test : Bool) (π : List (Nat × Nat)) : Prop := innr π = some 31 ∨ (innr π = none ∧ test = true)
def TM (G : pG) (W : List (List Nat × Nat × Nat × Option Nat)) (test : Bool) (L : Nat) (St : Nat → Prop) (fn : Nat → Nat → pR) (d : Nat) : Prop := ∀ p k out π, topB L π → ctx test π → (∀ q, fn p k = (q, none) → Rb G W test (0, p, k, out, π, d) q.1) ∧ ∀ q a, fn p k = (q, some a) → ∃ out' δ, Rc G W test (0, p, k, out, π, d) (2, q.1, q.2, out', δ ++ π, d) ∧ lev L δ ∧ flsh δ out' = out ++ a.2.1 out.length ∧ St q.1
section PTT
variable {G : pG} {W : List (List Nat × Nat × Nat × Option Nat)} {test : Bool} {p k d : Nat} {out π : List (Nat × Nat)}
theorem rc01 {x : Nat × Nat × List (Nat × Nat) × List (Nat × Nat) × Nat} {s' : pM} (h : pmS G W test (0, x) = pmS G W test (1, x)) (h1 : Rc G W test (1, x) s') (hs : s'.1 ≠ 1) : Rc G W test (0, x) s' := by
  obtain ⟨n, hn⟩ := h1
  cases n with
  | zero =>
    have : (1, x) = s' := by
      have := hn
      rw [rnn] at this
      exact Sum.inl.inj this
    rw [← this] at hs
    exact absurd rfl hs
  | succ n => exact ⟨n + 1, by rw [rnn, h]; rw [rnn] at hn; exact hn⟩
theorem rb01 {x : Nat × Nat × List (Nat × Nat) × List (Nat × Nat) × Nat} {f : Nat} (h : pmS G W test (0, x) = pmS G W test (1, x)) (h1 : Rb G W test (1, x) f) : Rb G W test (0, x) f := by
  obtain ⟨n, hn⟩ := h1
  cases n with
  | zero =>
    rw [rnn] at hn
    cases hn
  | succ n => exact ⟨n + 1, by rw [rnn, h]; rw [rnn] at hn; exact hn⟩
theorem ctx_app {δ : List (Nat × Nat)} (h : lev 1 δ) : ctx test (δ ++ π) ↔ ctx test π := by
  unfold ctx
  rw [innr_app h]
theorem ctx_no (h : ctx test π) : innr π ≠ some 32 ∧ ¬ (innr π = none ∧ test = false) := by
  rcases h with h | ⟨h, h2⟩
  · rw [h]
    exact ⟨(fun z => by cases z), (fun z => by cases z.1)⟩
  · rw [h, h2]
    exact ⟨(fun z => by cases z), (fun z => by cases z.2)⟩
theorem m_cmp {sum : Nat → Nat → pR} (hs : LM G W test 5 (StS G) sum d) (h4 : topB 4 π) (hc : ctx test π) (h01 : pmS G W test (0, p, k, out, π, d) = pmS G W test (1, p, k, out, π, d)) : (∀ q, prCmp G sum p k = (q, none) → Rb G W test (0, p, k, out, π, d) q.1) ∧ ∀ q a, prCmp G sum p k = (q, some a) → ∃ out' δ, Rc G W test (0, p, k, out, π, d) (2, q.1, q.2, out', δ ++ π, d) ∧ lev 3 δ ∧ flsh δ out' = out ++ a.2.1 out.length := by
  have h5 : topB 5 π := by
    cases π with
    | nil => trivial
    | cons x π => have : bnd x.1 < 4 := h4; show bnd x.1 < 5; omega
  obtain ⟨g1, g2⟩ := hs p k out π h5
  unfold prCmp
  cases hr : sum p k with
  | mk q r =>
    cases r with
    | none =>
      refine ⟨fun q' h => ?_, fun q' a h => by cases h⟩
      cases h
      exact rb01 h01 (g1 q hr)
    | some a =>
      obtain ⟨out2, δ, c1, c2, c3, c4, c5⟩ := g2 q a hr
      have r1 := rc01 h01 c1 (by dsimp only; omega)
      have hc2 := ctx_no ((ctx_app (c2.le (by omega))).mpr hc)
      have s2 : pmS G W test (3, q.1, q.2, out2, δ ++ π, d) = match cmpOp G q.1 with
        | some o => .inl (1, tE G q.1, q.2, out ++ a.2.1 out.length, (rOp o, 0) :: π, d)
        | none => .inr q.1 := by
        unfold pmS
        dsimp only
        rw [if_neg (by omega), if_neg (by omega), if_neg (by omega), if_pos rfl, arOp_no c5.2 c5.1.2]
        dsimp only
        rw [if_neg hc2.1, if_neg hc2.2, isCm_ar c2 c3, isCm_no h4, if_neg (by decide), stl_app c2 h5, c4]
        cases cmpOp G q.1 <;> rfl
      dsimp only
      cases ho : cmpOp G q.1 with
      | none =>
        rw [ho] at s2
        refine ⟨fun q' h => ?_, fun q' a h => by cases h⟩
        cases h
        exact r1.b (Rb.one s2)
      | some o =>
        rw [ho] at s2
        obtain ⟨hk, ho2⟩ := cmpOp_k ho
        have r2 := r1.tr (Rc.one s2)
        have b4 : bnd (rOp o) = 4 := by rw [bnd_op (by omega), if_neg (by omega), if_neg (by omega)]
        obtain ⟨g3, g4⟩ := hs (tE G q.1) q.2 (out ++ a.2.1 out.length) ((rOp o, 0) :: π) (by show bnd (rOp o) < 5; omega)
        dsimp only
        cases hr2 : sum (tE G q.1) q.2 with
        | mk q2 r2' =>
          cases r2' with
          | none =>
            refine ⟨fun q' h => ?_, fun q' a h => by cases h⟩
            cases h
            exact r2.b (g3 q2 hr2)
          | some b =>
            obtain ⟨out3, δ2, e1, e2, e3, e4, e5⟩ := g4 q2 b hr2
            refine ⟨(fun q' h => by cases h), fun q' a' h => ?_⟩
            cases h
            have hl1 : lev 1 (δ2 ++ [(rOp o, 0)]) := lev_app (e2.le (by omega)) (lev1 (by omega))
            have ea : δ2 ++ (rOp o, 0) :: π = (δ2 ++ [(rOp o, 0)]) ++ π := by simp
            have hc3 := ctx_no ((ctx_app hl1).mpr hc)
            have s3 : pmS G W test (3, q2.1, q2.2, out3, δ2 ++ (rOp o, 0) :: π, d) = .inl (2, q2.1, q2.2, out3, (δ2 ++ [(rOp o, 0)]) ++ π, d) := by
              unfold pmS
              dsimp only
              rw [if_neg (by omega), if_neg (by omega), if_neg (by omega), if_pos rfl, arOp_no e5.2 e5.1.2]
              dsimp only
              rw [ea, if_neg hc3.1, if_neg hc3.2, ← ea, isCm_ar e2 e3]
              have : isCm ((rOp o, 0) :: π) = true := by
                show (if 20 ≤ rOp o ∧ rOp o ≤ 24 then isCm π else decide (25 ≤ rOp o ∧ rOp o ≤ 27)) = true
                unfold rOp
                rw [if_neg (by omega)]
                exact decide_eq_true (by omega)
              rw [if_pos this]
            refine ⟨out3, δ2 ++ [(rOp o, 0)], (r2.tr e1).tr (Rc.one s3), lev_app (e2.le (by omega)) (lev1 (by omega)), ?_⟩
            rw [flsh_app, e4]
            show em1 _ (rOp o, 0) = _
            rw [em1_op (by omega), List.length_append]
            show _ = out ++ (a.2.1 out.length ++ b.2.1 (out.length + (a.2.1 out.length).length) ++ [(rOp o, 0)])
            simp only [List.append_assoc]
theorem m_nots : ∀ (n p c : Nat) (π : List (Nat × Nat)), ∃ m, (nots G n p c).2 = c + m ∧ Rc G W test (0, p, k, out, π, d) (0, (nots G n p c).1, k, out, List.replicate m (28, 0) ++ π, d)
  | 0, p, c, π => ⟨0, rfl, Rc.rf⟩
  | n + 1, p, c, π => by
    rw [nots]
    split
    · rename_i h
      have s1 : pmS G W test (0, p, k, out, π, d) = .inl (0, tE G p, k, out, (28, 0) :: π, d) := by
        unfold pmS
        dsimp only
        rw [if_pos rfl, if_pos h]
      obtain ⟨m, hm, hr⟩ := m_nots n (tE G p) (c + 1) ((28, 0) :: π)
      refine ⟨m + 1, by omega, ?_⟩
      have : List.replicate (m + 1) (28, 0) ++ π = List.replicate m ((28 : Nat), (0 : Nat)) ++ (28, 0) :: π := by
        rw [List.replicate_succ', List.append_assoc]
        rfl
      rw [this]
      exact (Rc.one s1).tr hr
    · exact ⟨0, rfl, Rc.rf⟩
theorem nots_stop : ∀ (n p c : Nat), G.2 ≤ p + n → ¬ isWd G (nots G n p c).1 [110, 111, 116] = true
  | 0, p, c, h => fun z => by
    have z : isWd G p [110, 111, 116] = true := z
    have hk : tK G p ≠ 0 := by rw [isWd_k z]; omega
    have := tK_lt hk
    have := tS_ge G p
    omega
  | n + 1, p, c, h => by
    rw [nots]
    split
    · rename_i z
      have hk : tK G p ≠ 0 := by rw [isWd_k z]; omega
      have := tE_gt hk
      have := tS_ge G p
      exact nots_stop n (tE G p) (c + 1) (by omega)
    · rename_i z; exact z
theorem flsh_rep : ∀ (m : Nat) (out : List (Nat × Nat)), flsh (List.replicate m (28, 0)) out = out ++ List.replicate m (28, 0)
  | 0, out => by simp [flsh]
  | m + 1, out => by
    rw [List.replicate_succ]
    show flsh (List.replicate m (28, 0)) (em1 out (28, 0)) = _
    rw [show em1 out (28, 0) = out ++ [(28, 0)] from rfl, flsh_rep m]
    simp
theorem lev_rep {m : Nat} : lev 3 (List.replicate m (28, 0)) := fun x hx => by
  rw [List.eq_of_mem_replicate hx]
  decide
theorem topB_rep {m : Nat} (h : topB 3 π) : topB 4 (List.replicate m (28, 0) ++ π) := by
  cases m with
  | zero =>
    cases π with
    | nil => trivial
    | cons x π => have : bnd x.1 < 3 := h; show bnd x.1 < 4; omega
  | succ m => show bnd 28 < 4; decide
theorem jOp_no {q : Nat} (h : andOp G q = none) (h2 : orOp G q = none) : jOp G q = none := by
  unfold jOp
  rw [h]
  exact h2
theorem m_pl {tst : Option (Nat → Nat → pR)} {sum : Nat → Nat → pR} (hm : G.2 ≤ 400) (ht : (tst = none ∧ ¬ d < 8) ∨ (d < 8 ∧ ∃ t, tst = some t ∧ TM G W test 1 (fun q => andOp G q = none ∧ orOp G q = none) t (d + 1))) (hs : LM G W test 5 (StS G) sum d) : TM G W test 3 (fun _ => True) (prPl G tst sum) d := by
  intro p k out π h3 hc
  obtain ⟨m, em, r0⟩ := m_nots (G := G) (W := W) (test := test) (k := k) (out := out) (d := d) 400 p 0 π
  have hst := nots_stop (G := G) 400 p 0 (by omega)
  rw [Nat.zero_add] at em
  unfold prPl
  rw [em]
  generalize (nots G 400 p 0).1 = z at r0 hst
  have hl1 : lev 1 (List.replicate m ((28 : Nat), (0 : Nat))) := lev_rep.le (by omega)
  have hc2 : ctx test (List.replicate m (28, 0) ++ π) := (ctx_app hl1).mpr hc
  -- what comes of the inside comes of it with its nots
  have fin : ∀ (r : pR), (∀ q, r = (q, none) → Rb G W test (0, z, k, out, List.replicate m (28, 0) ++ π, d) q.1) → (∀ q a, r = (q, some a) → ∃ out' δ, Rc G W test (0, z, k, out, List.replicate m (28, 0) ++ π, d) (2, q.1, q.2, out', δ ++ (List.replicate m (28, 0) ++ π), d) ∧ lev 3 δ ∧ flsh δ out' = out ++ a.2.1 out.length) → (∀ q, (match r with
      | (q, none) => (q, none)
      | (q, some a) => (q, some (pNot m a)) : pR) = (q, none) → Rb G W test (0, p, k, out, π, d) q.1) ∧ ∀ q a, (match r with
      | (q, none) => (q, none)
      | (q, some a) => (q, some (pNot m a)) : pR) = (q, some a) → ∃ out' δ, Rc G W test (0, p, k, out, π, d) (2, q.1, q.2, out', δ ++ π, d) ∧ lev 3 δ ∧ flsh δ out' = out ++ a.2.1 out.length ∧ True := by
    rintro ⟨q, r⟩ f1 f2
    cases r with
    | none =>
      refine ⟨fun q' h => ?_, fun q' a h => by cases h⟩
      cases h
      exact r0.b (f1 q rfl)
    | some a =>
      refine ⟨(fun q' h => by cases h), fun q' a' h => ?_⟩
      cases h
      obtain ⟨out2, δ, c1, c2, c3⟩ := f2 q a rfl
      rw [← List.append_assoc] at c1
      refine ⟨out2, _, r0.tr c1, lev_app c2 lev_rep, ?_, trivial⟩
      rw [flsh_app, c3, flsh_rep]
      show _ = out ++ (a.2.1 out.length ++ List.replicate m (28, 0))
      simp only [List.append_assoc]
  refine fin _ ?_ ?_
  all_goals
    unfold prPn
    by_cases c : isSg G z 40 = true
    · rw [if_pos c]
      have s1 : pmS G W test (0, z, k, out, List.replicate m (28, 0) ++ π, d) = if d < 8 then .inl (0, tE G z, k, out, (31, 0) :: (List.replicate m (28, 0) ++ π), d + 1) else .inr z := by
        unfold pmS
        dsimp only
        rw [if_pos rfl, if_neg hst, if_pos c]
      rcases ht with ⟨rfl, hd⟩ | ⟨hd, t, rfl, ht⟩
      · rw [if_neg hd] at s1
        first
          | (intro q h; cases h; exact Rb.one s1)
          | (intro q a h; cases h)
      · rw [if_pos hd] at s1
        have st1 := Rc.one s1
        obtain ⟨g1, g2⟩ := ht (tE G z) k out ((31, 0) :: (List.replicate m (28, 0) ++ π)) (by show bnd 31 < 1; decide) (Or.inl rfl)
        dsimp only
        cases hr : t (tE G z) k with
        | mk q r =>
          cases r with
          | none =>
            first
              | (intro q' h; cases h; exact st1.b (g1 q hr))
              | (intro q' a h; cases h)
          | some a =>
            obtain ⟨out2, δ, c1, c2, c3, c4, c5⟩ := g2 q a hr
            have in31 : innr (δ ++ (31, 0) :: (List.replicate m (28, 0) ++ π)) = some 31 := by
              rw [innr_app c2]
              rfl
            have s2 : pmS G W test (2, q.1, q.2, out2, δ ++ (31, 0) :: (List.replicate m (28, 0) ++ π), d + 1) = if isSg G q.1 41 = true then .inl (2, tE G q.1, q.2, out ++ a.2.1 out.length, List.replicate m (28, 0) ++ π, d) else .inr q.1 := by
              unfold pmS
              dsimp only
              rw [if_neg (by omega), if_neg (by omega), if_pos rfl, jOp_no c4 c5]
              dsimp only
              rw [if_neg (by rw [in31]; exact fun z => by cases z), if_pos (by omega : 1 ≤ d + 1), stl_app c2 (by show bnd 31 < 1; decide), c3]
              rfl
            dsimp only
            by_cases cc : isSg G q.1 41 = true
            · rw [if_pos cc] at s2
              rw [if_pos cc]
              first
                | (intro q' h; cases h; done)
                | (intro q' a' h; cases h; exact ⟨_, [], (st1.tr c1).tr (Rc.one s2), (fun x hx => by cases hx), rfl⟩)
            · rw [if_neg cc] at s2
              rw [if_neg cc]
              first
                | (intro q' h; cases h; exact (st1.tr c1).b (Rb.one s2))
                | (intro q' a' h; cases h)
    · rw [if_neg c]
      have h01 : pmS G W test (0, z, k, out, List.replicate m (28, 0) ++ π, d) = pmS G W test (1, z, k, out, List.replicate m (28, 0) ++ π, d) := by
        unfold pmS
        dsimp only
        rw [if_pos rfl, if_neg hst, if_neg c, if_neg (by omega), if_pos rfl]
      have := m_cmp hs (topB_rep h3) hc2 h01
      first
        | exact this.1
        | exact this.2
theorem set_mid {x y : Nat × Nat} {a b : List (Nat × Nat)} : (a ++ [x] ++ b).set a.length y = a ++ [y] ++ b := by
  rw [List.append_assoc, List.set_append_right _ _ (Nat.le_refl _), Nat.sub_self]
  simp
/-- one more "and", "or" -/
theorem m_jrow {L : Nat} {St : Nat → Prop} {op : Nat → Option Nat} {sub : Nat → Nat → pR} (hm : G.2 ≤ 400) (hs : TM G W test (L + 1) St sub d) {wl : Nat} (hg : ∀ p k, gdR G W wl p k (sub p k)) (hop : ∀ q o, St q → op q = some o → jOp G q = some o ∧ 2 - o = L ∧ bnd (29 + o) = L ∧ o < 2 ∧ 1 ≤ L ∧ tK G q ≠ 0) : TM G W test L (fun q => St q ∧ op q = none) (rowP G op sub pJmp) d := by
  intro p k out π hπ hc
  have loop : ∀ (n q k : Nat) (acc : pA) (out' δ : List (Nat × Nat)), G.2 < q + n → lev L δ → flsh δ out' = out ++ acc.2.1 out.length → St q → (∀ r, rowL G op sub pJmp n q k acc = (r, none) → Rb G W test (2, q, k, out', δ ++ π, d) r.1) ∧ ∀ r a, rowL G op sub pJmp n q k acc = (r, some a) → ∃ out2 δ2, Rc G W test (2, q, k, out', δ ++ π, d) (2, r.1, r.2, out2, δ2 ++ π, d) ∧ lev L δ2 ∧ flsh δ2 out2 = out ++ a.2.1 out.length ∧ St r.1 ∧ op r.1 = none := by
    intro n
    induction n with
    | zero =>
      intro q k acc out' δ hn hl hf hSt
      have no : op q = none := by
        cases ho : op q with
        | none => rfl
        | some o =>
          have := tK_lt (hop q o hSt ho).2.2.2.2.2
          have := tS_ge G q
          omega
      refine ⟨(fun r h => by cases h), fun r a h => ?_⟩
      cases h
      exact ⟨out', δ, Rc.rf, hl, hf, hSt, no⟩
    | succ n ih =>
      intro q k acc out' δ hn hl hf hSt
      rw [rowL]
      cases ho : op q with
      | none =>
        refine ⟨(fun r h => by cases h), fun r a h => ?_⟩
        cases h
        exact ⟨out', δ, Rc.rf, hl, hf, hSt, ho⟩
      | some o =>
        dsimp only
        obtain ⟨h1, h2, h3, h4, h5, h6⟩ := hop q o hSt ho
        have t1 := tE_gt h6
        have t2 := tS_ge G q
        have st1 : Rc G W test (2, q, k, out', δ ++ π, d) (0, tE G q, k, (out ++ acc.2.1 out.length) ++ [(29 + o, 0)], (29 + o, (out ++ acc.2.1 out.length).length) :: π, d) := Rc.one (by
          unfold pmS
          dsimp only
          rw [if_neg (by omega), if_neg (by omega), if_pos rfl, h1]
          dsimp only
          rw [h2, stl_app hl hπ, hf])
        obtain ⟨s1, s2⟩ := hs (tE G q) k ((out ++ acc.2.1 out.length) ++ [(29 + o, 0)]) ((29 + o, (out ++ acc.2.1 out.length).length) :: π) (by show bnd (29 + o) < L + 1; omega) ((ctx_app (δ := [(29 + o, (out ++ acc.2.1 out.length).length)]) (lev1 (by omega))).mpr hc)
        have gp := hg (tE G q) k
        cases hr : sub (tE G q) k with
        | mk r b =>
          rw [hr] at gp
          cases b with
          | none =>
            refine ⟨fun r' h => ?_, fun r' a h => by cases h⟩
            cases h
            exact st1.b (s1 r hr)
          | some b =>
            have gp1 := gp.1
            dsimp only at gp1 ⊢
            obtain ⟨out2, δ3, c1, c2, c4, c5⟩ := s2 r b hr
            have ihh := ih r.1 r.2 (pJmp o acc b) out2 (δ3 ++ [(29 + o, (out ++ acc.2.1 out.length).length)]) (by omega) (lev_app (c2.le (by omega)) (lev1 (by omega))) (by
              rw [flsh_app, c4]
              show em1 _ (29 + o, (out ++ acc.2.1 out.length).length) = _
              unfold em1
              rw [if_pos (by dsimp only; omega)]
              dsimp only
              rw [set_mid]
              show _ = out ++ (acc.2.1 out.length ++ [(29 + o, out.length + (acc.2.1 out.length).length + 1 + (b.2.1 (out.length + (acc.2.1 out.length).length + 1)).length)] ++ b.2.1 (out.length + (acc.2.1 out.length).length + 1))
              simp only [List.append_assoc, List.length_append, List.length_singleton, Nat.add_assoc]) c5
            have e1 : δ3 ++ (29 + o, (out ++ acc.2.1 out.length).length) :: π = (δ3 ++ [(29 + o, (out ++ acc.2.1 out.length).length)]) ++ π := by simp
            rw [e1] at c1
            refine ⟨fun r' h => (st1.tr c1).b (ihh.1 r' h), fun r' a h => ?_⟩
            obtain ⟨o3, δ4, z1, z2⟩ := ihh.2 r' a h
            exact ⟨o3, δ4, (st1.tr c1).tr z1, z2⟩
  obtain ⟨s1, s2⟩ := hs p k out π (by cases π with
    | nil => trivial
    | cons x π => have : bnd x.1 < L := hπ; show bnd x.1 < L + 1; omega) hc
  unfold rowP
  have gp := hg p k
  cases hr : sub p k with
  | mk r b =>
    rw [hr] at gp
    cases b with
    | none =>
      refine ⟨fun r' h => ?_, fun r' a h => by cases h⟩
      cases h
      exact s1 r hr
    | some b =>
      have hpos := (gp.2.2.2.2 b rfl).1.2
      dsimp only at hpos ⊢
      obtain ⟨out2, δ6, c1, c2, c4, c5⟩ := s2 r b hr
      have ihh := loop 400 r.1 r.2 b out2 δ6 (by omega) (c2.le (by omega)) c4 c5
      refine ⟨fun r' h => c1.b (ihh.1 r' h), fun r' a h => ?_⟩
      obtain ⟨o3, δ3, z1, z2⟩ := ihh.2 r' a h
      exact ⟨o3, δ3, c1.tr z1, z2⟩
theorem m_tst {pl : Nat → Nat → pR} (hm : G.2 ≤ 400) {wl : Nat} (hg : ∀ p k, gdR G W wl p k (pl p k)) (hp : TM G W test 3 (fun _ => True) pl d) : TM G W test 1 (fun q => andOp G q = none ∧ orOp G q = none) (prTst G pl) d := by
  have h := m_jrow (L := 1) (op := orOp G) hm (m_jrow (L := 2) (op := andOp G) hm hp hg (fun q o _ h => by
    obtain ⟨hk, rfl⟩ := andOp_k h
    exact ⟨by unfold jOp; rw [h], rfl, rfl, by omega, by omega, hk⟩)) (gd_rowP hg (fun p o h => ⟨(andOp_k h).1, cbOk_aJ (by have := (andOp_k h).2; omega)⟩)) (fun q o hq h => by
    obtain ⟨hk, rfl⟩ := orOp_k h
    exact ⟨by unfold jOp; rw [hq.2]; exact h, rfl, rfl, by omega, by omega, hk⟩)
  intro p k out π h1 h2
  obtain ⟨a1, a2⟩ := h p k out π h1 h2
  refine ⟨a1, fun q a hq => ?_⟩
  obtain ⟨out', δ, b1, b2, b3, b4⟩ := a2 q a hq
  exact ⟨out', δ, b1, b2, b3, b4.1.2, b4.2⟩
theorem m_prT (hm : G.2 ≤ 400) {wl : Nat} (hW : okW W wl) : ∀ (e d : Nat), e + d = 8 → TM G W test 1 (fun q => andOp G q = none ∧ orOp G q = none) (prT G W e) d
  | 0, d, h => m_tst hm (gd_prPl (fun s z => by cases z) (gd_prS hW 0)) (m_pl hm (Or.inl ⟨rfl, by omega⟩) (m_prS hm hW 0 d h))
  | e + 1, d, h => m_tst hm (gd_prPl (fun s z => by cases z; exact gd_prT hW e) (gd_prS hW (e + 1))) (m_pl hm (Or.inr ⟨by omega, _, rfl, m_prT hm hW e (d + 1) (by omega)⟩) (m_prS hm hW (e + 1) d h))
/-- a sum alone -/
theorem x_sum (hm : G.2 ≤ 400) {wl : Nat} (hW : okW W wl) : (∀ q, prS G W 8 p k = (q, none) → Rb G W false (1, p, k, out, [], 0) q.1) ∧ ∀ q a, prS G W 8 p k = (q, some a) → ∃ out' δ, Rc G W false (1, p, k, out, [], 0) (4, q.1, q.2, out', δ, 0) ∧ stl 1 δ out' = ([], out ++ a.2.1 out.length) := by
  obtain ⟨h1, h2⟩ := m_prS (test := false) hm hW 8 0 rfl p k out [] trivial
  refine ⟨h1, fun q a h => ?_⟩
  obtain ⟨out', δ, b1, b2, b3, b4, b5⟩ := h2 q a h
  rw [List.append_nil] at b1
  refine ⟨out', δ, b1.tr (Rc.one ?_), ?_⟩
  · unfold pmS
    dsimp only
    have e : innr δ = none := by
      have := innr_app (π := []) (b2.le (show 1 ≤ 5 by omega))
      rw [List.append_nil] at this
      exact this
    rw [if_neg (by omega), if_neg (by omega), if_neg (by omega), if_pos rfl, arOp_no b5.2 b5.1.2]
    dsimp only
    rw [e, if_neg (fun z => by cases z), if_pos ⟨rfl, rfl⟩]
  · have := stl_app (π := []) (out := out') (b2.le (show 1 ≤ 5 by omega)) trivial
    rw [List.append_nil] at this
    rw [this, b4]
theorem x_tst (hm : G.2 ≤ 400) {wl : Nat} (hW : okW W wl) : (∀ q, prT G W 8 p k = (q, none) → Rb G W true (0, p, k, out, [], 0) q.1) ∧ ∀ q a, prT G W 8 p k = (q, some a) → ∃ out' δ, Rc G W true (0, p, k, out, [], 0) (4, q.1, q.2, out', δ, 0) ∧ stl 1 δ out' = ([], out ++ a.2.1 out.length) := by
  obtain ⟨h1, h2⟩ := m_prT (test := true) hm hW 8 0 rfl p k out [] trivial (Or.inr ⟨rfl, rfl⟩)
  refine ⟨h1, fun q a h => ?_⟩
  obtain ⟨out', δ, b1, b2, b3, b4, b5⟩ := h2 q a h
  rw [List.append_nil] at b1
  refine ⟨out', δ, b1.tr (Rc.one ?_), ?_⟩
  · unfold pmS
    dsimp only
    have e : innr δ = none := by
      have := innr_app (π := []) b2
      rw [List.append_nil] at this
      exact this
    rw [if_neg (by omega), if_neg (by omega), if_pos rfl, jOp_no b4 b5]
    dsimp only
    rw [if_pos e]
  · have := stl_app (π := []) (out := out') b2 trivial
    rw [List.append_nil] at this
    rw [this, b3]
end PTT
