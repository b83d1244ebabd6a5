/-! THE REFERENCE'S READING, ON PAPER: one pile. A state: turn (0 plain, 1 part, 2 told, 3 summed, 4 over), place, count, what was put, pile (its top first), brackets begun -/
abbrev pM : Type := Nat × Nat × Nat × List (Nat × Nat) × List (Nat × Nat) × Nat
def bnd (op : Nat) : Nat := if 31 ≤ op then 0 else if op = 30 then 1 else if op = 29 then 2 else if op = 28 then 3 else if 25 ≤ op then 4 else if 22 ≤ op then 6 else 5
def em1 (out : List (Nat × Nat)) (x : Nat × Nat) : List (Nat × Nat) := if x.1 = 29 ∨ x.1 = 30 then out.set x.2 (x.1, out.length) else out ++ [(x.1, 0)]
def stl (L : Nat) : List (Nat × Nat) → List (Nat × Nat) → List (Nat × Nat) × List (Nat × Nat)
  | [], out => ([], out)
  | x :: π, out => if L ≤ bnd x.1 then stl L π (em1 out x) else (x :: π, out)
def flsh : List (Nat × Nat) → List (Nat × Nat) → List (Nat × Nat)
  | [], out => out
  | x :: δ, out => flsh δ (em1 out x)
def innr : List (Nat × Nat) → Option Nat
  | [] => none
  | x :: π => if 31 ≤ x.1 then some x.1 else innr π
def isCm : List (Nat × Nat) → Bool
  | [] => false
  | x :: π => if 20 ≤ x.1 ∧ x.1 ≤ 24 then isCm π else decide (25 ≤ x.1 ∧ x.1 ≤ 27)
def lev (L : Nat) (δ : List (Nat × Nat)) : Prop := ∀ x ∈ δ, L ≤ bnd x.1
def topB (L : Nat) : List (Nat × Nat) → Prop
  | [] => True
  | x :: _ => bnd x.1 < L
theorem stl_app {L : Nat} : ∀ {δ π : List (Nat × Nat)} {out : List (Nat × Nat)}, lev L δ → topB L π → stl L (δ ++ π) out = (π, flsh δ out)
  | [], [], out, _, _ => rfl
  | [], x :: π, out, _, h => by
    show (if L ≤ bnd x.1 then stl L π (em1 out x) else (x :: π, out)) = _
    rw [if_neg (by have : bnd x.1 < L := h; omega)]
    rfl
  | x :: δ, π, out, hl, h => by
    show (if L ≤ bnd x.1 then stl L (δ ++ π) (em1 out x) else (x :: (δ ++ π), out)) = _
    rw [if_pos (hl x List.mem_cons_self), stl_app (fun y hy => hl y (List.mem_cons_of_mem _ hy)) h]
    rfl
theorem flsh_app : ∀ (δ δ' out : List (Nat × Nat)), flsh (δ ++ δ') out = flsh δ' (flsh δ out)
  | [], _, _ => rfl
  | x :: δ, δ', out => flsh_app δ δ' (em1 out x)
theorem lev_app {L : Nat} {δ δ' : List (Nat × Nat)} (h : lev L δ) (h' : lev L δ') : lev L (δ ++ δ') := fun x hx => (List.mem_append.mp hx).elim (h x) (h' x)
theorem lev.le {L L' : Nat} {δ : List (Nat × Nat)} (h : lev L δ) (hl : L' ≤ L) : lev L' δ := fun x hx => Nat.le_trans hl (h x hx)
theorem lev1 {L o a : Nat} (h : L ≤ bnd o) : lev L [(o, a)] := fun x hx => by
  rw [List.mem_singleton.mp hx]
  exact h
theorem bnd_31 {o : Nat} (h : 31 ≤ o) : bnd o = 0 := if_pos h
theorem innr_app {δ π : List (Nat × Nat)} (h : lev 1 δ) : innr (δ ++ π) = innr π := by
  induction δ with
  | nil => rfl
  | cons x δ ih =>
    show (if 31 ≤ x.1 then some x.1 else innr (δ ++ π)) = _
    rw [if_neg (fun z => by have := h x List.mem_cons_self; rw [bnd_31 z] at this; omega)]
    exact ih (fun y hy => h y (List.mem_cons_of_mem _ hy))
theorem isCm_no : ∀ {π : List (Nat × Nat)}, topB 4 π → isCm π = false
  | [], _ => rfl
  | x :: π, h => by
    have h : bnd x.1 < 4 := h
    unfold bnd at h
    show (if 20 ≤ x.1 ∧ x.1 ≤ 24 then isCm π else decide (25 ≤ x.1 ∧ x.1 ≤ 27)) = false
    by_cases c : 31 ≤ x.1
    · rw [if_neg (by omega)]
      exact decide_eq_false (by omega)
    · rw [if_neg c] at h
      by_cases c2 : x.1 = 30
      · rw [if_neg (by omega)]; exact decide_eq_false (by omega)
      · rw [if_neg c2] at h
        by_cases c3 : x.1 = 29
        · rw [if_neg (by omega)]; exact decide_eq_false (by omega)
        · rw [if_neg c3] at h
          by_cases c4 : x.1 = 28
          · rw [if_neg (by omega)]; exact decide_eq_false (by omega)
          · rw [if_neg c4] at h
            split at h
            · omega
            · split at h <;> omega
theorem isCm_ar : ∀ {δ π : List (Nat × Nat)}, lev 5 δ → (∀ x ∈ δ, 20 ≤ x.1) → isCm (δ ++ π) = isCm π
  | [], _, _, _ => rfl
  | x :: δ, π, h, h2 => by
    have h1 := h x List.mem_cons_self
    have h3 := h2 x List.mem_cons_self
    have : x.1 ≤ 24 := by
      unfold bnd at h1
      split at h1
      · omega
      · split at h1
        · omega
        · split at h1
          · omega
          · split at h1
            · omega
            · split at h1 <;> omega
    show (if 20 ≤ x.1 ∧ x.1 ≤ 24 then isCm (δ ++ π) else decide (25 ≤ x.1 ∧ x.1 ≤ 27)) = _
    rw [if_pos ⟨h3, this⟩]
    exact isCm_ar (fun y hy => h y (List.mem_cons_of_mem _ hy)) (fun y hy => h2 y (List.mem_cons_of_mem _ hy))
section PM
variable (G : pG) (W : List (List Nat × Nat × Nat × Option Nat)) (test : Bool)
def arOp (p : Nat) : Option Nat := match addOp G p with
  | some o => some o
  | none => mulOp G p
def jOp (p : Nat) : Option Nat := match andOp G p with
  | some o => some o
  | none => orOp G p
def ptS (p k : Nat) (out π : List (Nat × Nat)) (d : Nat) : pM ⊕ Nat :=
  if isSg G p 91 = true then (if d < 8 then .inl (1, tE G p, k, out, (32, 0) :: π, d + 1) else .inr p)
  else if 50 ≤ k then .inr p
  else if isNm G p 0 1000 = true then .inl (3, tE G p, k + 1, out ++ [(0, nV G p)], π, d)
  else match fndW G W p with
    | none => .inr p
    | some w => match w.2.2.2 with
      | none => .inl (3, tE G p, k + 1, out ++ [(w.2.2.1, 0)], π, d)
      | some mx => if isNm G (tE G p) 0 mx = true then .inl (3, tE G (tE G p), k + 1, out ++ [(w.2.2.1, nV G (tE G p))], π, d) else .inr (tE G p)
def pmS (s : pM) : pM ⊕ Nat :=
  if s.1 = 0 then (if isWd G s.2.1 [110, 111, 116] = true then .inl (0, tE G s.2.1, s.2.2.1, s.2.2.2.1, (28, 0) :: s.2.2.2.2.1, s.2.2.2.2.2)
    else if isSg G s.2.1 40 = true then (if s.2.2.2.2.2 < 8 then .inl (0, tE G s.2.1, s.2.2.1, s.2.2.2.1, (31, 0) :: s.2.2.2.2.1, s.2.2.2.2.2 + 1) else .inr s.2.1)
    else ptS G W s.2.1 s.2.2.1 s.2.2.2.1 s.2.2.2.2.1 s.2.2.2.2.2)
  else if s.1 = 1 then ptS G W s.2.1 s.2.2.1 s.2.2.2.1 s.2.2.2.2.1 s.2.2.2.2.2
  else if s.1 = 2 then (match jOp G s.2.1 with
    | some o => .inl (0, tE G s.2.1, s.2.2.1, (stl (2 - o) s.2.2.2.2.1 s.2.2.2.1).2 ++ [(29 + o, 0)], (29 + o, (stl (2 - o) s.2.2.2.2.1 s.2.2.2.1).2.length) :: (stl (2 - o) s.2.2.2.2.1 s.2.2.2.1).1, s.2.2.2.2.2)
    | none => if innr s.2.2.2.2.1 = none then .inl (4, s.2) else if isSg G s.2.1 41 = true then (if 1 ≤ s.2.2.2.2.2 then .inl (2, tE G s.2.1, s.2.2.1, (stl 1 s.2.2.2.2.1 s.2.2.2.1).2, (stl 1 s.2.2.2.2.1 s.2.2.2.1).1.tail, s.2.2.2.2.2 - 1) else .inl s) else .inr s.2.1)
  else if s.1 = 3 then (match arOp G s.2.1 with
    | some o => .inl (1, tE G s.2.1, s.2.2.1, (stl (bnd (rOp o)) s.2.2.2.2.1 s.2.2.2.1).2, (rOp o, 0) :: (stl (bnd (rOp o)) s.2.2.2.2.1 s.2.2.2.1).1, s.2.2.2.2.2)
    | none => if innr s.2.2.2.2.1 = some 32 then (if isSg G s.2.1 93 = true then (if 1 ≤ s.2.2.2.2.2 then .inl (3, tE G s.2.1, s.2.2.1, (stl 5 s.2.2.2.2.1 s.2.2.2.1).2, (stl 5 s.2.2.2.2.1 s.2.2.2.1).1.tail, s.2.2.2.2.2 - 1) else .inl s) else .inr s.2.1)
      else if innr s.2.2.2.2.1 = none ∧ test = false then .inl (4, s.2)
      else if isCm s.2.2.2.2.1 = true then .inl (2, s.2)
      else match cmpOp G s.2.1 with
        | some o => .inl (1, tE G s.2.1, s.2.2.1, (stl 5 s.2.2.2.2.1 s.2.2.2.1).2, (rOp o, 0) :: (stl 5 s.2.2.2.2.1 s.2.2.2.1).1, s.2.2.2.2.2)
        | none => .inr s.2.1)
  else .inl s
def rnn : Nat → pM → pM ⊕ Nat
  | 0, s => .inl s
  | n + 1, s => match pmS G W test s with
    | .inl s' => rnn n s'
    | .inr f => .inr f
def Rc (s s' : pM) : Prop := ∃ n, rnn G W test n s = .inl s'
def Rb (s : pM) (f : Nat) : Prop := ∃ n, rnn G W test n s = .inr f
end PM
section PMT
variable {G : pG} {W : List (List Nat × Nat × Nat × Option Nat)} {test : Bool} {s s' s2 : pM} {f p k d : Nat} {out π : List (Nat × Nat)}
theorem rnn_add : ∀ (n m : Nat) (s : pM), rnn G W test (n + m) s = match rnn G W test n s with
    | .inl s' => rnn G W test m s'
    | .inr f => .inr f
  | 0, m, s => by rw [Nat.zero_add]; rfl
  | n + 1, m, s => by
    rw [show n + 1 + m = (n + m) + 1 by omega, rnn, rnn]
    cases pmS G W test s with
    | inl s' => exact rnn_add n m s'
    | inr f => rfl
theorem Rc.rf : Rc G W test s s := ⟨0, rfl⟩
theorem Rc.tr (h : Rc G W test s s') (h' : Rc G W test s' s2) : Rc G W test s s2 := by
  obtain ⟨n, hn⟩ := h
  obtain ⟨m, hm⟩ := h'
  exact ⟨n + m, by rw [rnn_add, hn]; exact hm⟩
theorem Rc.b (h : Rc G W test s s') (h' : Rb G W test s' f) : Rb G W test s f := by
  obtain ⟨n, hn⟩ := h
  obtain ⟨m, hm⟩ := h'
  exact ⟨n + m, by rw [rnn_add, hn]; exact hm⟩
theorem Rc.one (h : pmS G W test s = .inl s') : Rc G W test s s' := ⟨1, by rw [rnn, h]; rfl⟩
theorem Rb.one (h : pmS G W test s = .inr f) : Rb G W test s f := ⟨1, by rw [rnn, h]⟩
/-- a reading of a level and the pile -/
def LM (G : pG) (W : List (List Nat × Nat × Nat × Option Nat)) (test : Bool) (L : Nat) (St : Nat → Prop) (fn : Nat → Nat → pR) (d : Nat) : Prop := ∀ p k out π, topB L π → (∀ q, fn p k = (q, none) → Rb G W test (1, p, k, out, π, d) q.1) ∧ ∀ q a, fn p k = (q, some a) → ∃ out' δ, Rc G W test (1, p, k, out, π, d) (3, q.1, q.2, out', δ ++ π, d) ∧ lev L δ ∧ (∀ x ∈ δ, 20 ≤ x.1) ∧ flsh δ out' = out ++ a.2.1 out.length ∧ St q.1
theorem bnd_op {o : Nat} (h : 2 ≤ o ∧ o < 10) : bnd (rOp o) = if o < 4 then 5 else if o < 7 then 6 else 4 := by
  have : o = 2 ∨ o = 3 ∨ o = 4 ∨ o = 5 ∨ o = 6 ∨ o = 7 ∨ o = 8 ∨ o = 9 := by omega
  rcases this with rfl | rfl | rfl | rfl | rfl | rfl | rfl | rfl <;> rfl
theorem em1_op {o : Nat} (h : 2 ≤ o ∧ o < 10) (out : List (Nat × Nat)) : em1 out (rOp o, 0) = out ++ [(rOp o, 0)] := by
  unfold em1 rOp
  rw [if_neg (by dsimp only; omega)]
/-- one more operation of a level -/
theorem m_row {L : Nat} {St : Nat → Prop} {op : Nat → Option Nat} {sub : Nat → Nat → pR} (hL : L ≤ 6) (hm : G.2 ≤ 400) (hs : LM G W test (L + 1) St sub d) {wl : Nat} (hg : ∀ p k, gdR G W wl p k (sub p k)) (hop : ∀ q o, St q → op q = some o → arOp G q = some o ∧ bnd (rOp o) = L ∧ (2 ≤ o ∧ o < 10) ∧ tK G q ≠ 0) : LM G W test L (fun q => St q ∧ op q = none) (rowP G op sub pTwo) d := by
  intro p k out π hπ
  have loop : ∀ (n q k : Nat) (acc : pA) (out' δ : List (Nat × Nat)), G.2 < q + n → lev L δ → (∀ x ∈ δ, 20 ≤ x.1) → flsh δ out' = out ++ acc.2.1 out.length → St q → (∀ r, rowL G op sub pTwo n q k acc = (r, none) → Rb G W test (3, q, k, out', δ ++ π, d) r.1) ∧ ∀ r a, rowL G op sub pTwo n q k acc = (r, some a) → ∃ out2 δ2, Rc G W test (3, q, k, out', δ ++ π, d) (3, r.1, r.2, out2, δ2 ++ π, d) ∧ lev L δ2 ∧ (∀ x ∈ δ2, 20 ≤ x.1) ∧ flsh δ2 out2 = out ++ a.2.1 out.length ∧ St r.1 ∧ op r.1 = none := by
    intro n
    induction n with
    | zero =>
      intro q k acc out' δ hn hl h20 hf hSt
      have no : op q = none := by
        cases ho : op q with
        | none => rfl
        | some o =>
          have := tK_lt (hop q o hSt ho).2.2.2
          have := tS_ge G q
          omega
      refine ⟨(fun r h => by cases h), fun r a h => ?_⟩
      cases h
      exact ⟨out', δ, Rc.rf, hl, h20, hf, hSt, no⟩
    | succ n ih =>
      intro q k acc out' δ hn hl h20 hf hSt
      rw [rowL]
      cases ho : op q with
      | none =>
        refine ⟨(fun r h => by cases h), fun r a h => ?_⟩
        cases h
        exact ⟨out', δ, Rc.rf, hl, h20, hf, hSt, ho⟩
      | some o =>
        dsimp only
        obtain ⟨h1, h2, h3, h4⟩ := hop q o hSt ho
        have t1 := tE_gt h4
        have t2 := tS_ge G q
        have st1 : Rc G W test (3, q, k, out', δ ++ π, d) (1, tE G q, k, out ++ acc.2.1 out.length, (rOp o, 0) :: π, d) := Rc.one (by
          unfold pmS
          dsimp only
          rw [if_neg (by omega), if_neg (by omega), if_neg (by omega), if_pos rfl, h1]
          dsimp only
          rw [h2, stl_app hl hπ, hf])
        obtain ⟨s1, s2⟩ := hs (tE G q) k (out ++ acc.2.1 out.length) ((rOp o, 0) :: π) (by show bnd (rOp o) < L + 1; omega)
        have gp := hg (tE G q) k
        cases hr : sub (tE G q) k with
        | mk r b =>
          rw [hr] at gp
          cases b with
          | none =>
            refine ⟨fun r' h => ?_, fun r' a h => by cases h⟩
            cases h
            exact st1.b (s1 r hr)
          | some b =>
            have gp1 := gp.1
            dsimp only at gp1 ⊢
            obtain ⟨out2, δ6, c1, c2, c3, c4, c5⟩ := s2 r b hr
            have ihh := ih r.1 r.2 (pTwo o acc b) out2 (δ6 ++ [(rOp o, 0)]) (by omega) (lev_app (c2.le (by omega)) (lev1 (by omega))) (fun x hx => (List.mem_append.mp hx).elim (c3 x) (fun hx => by rw [List.mem_singleton.mp hx]; unfold rOp; dsimp only; omega)) (by
              rw [flsh_app, c4]
              show em1 _ (rOp o, 0) = _
              rw [em1_op h3, List.length_append]
              show _ = out ++ (acc.2.1 out.length ++ b.2.1 (out.length + (acc.2.1 out.length).length) ++ [(rOp o, 0)])
              simp only [List.append_assoc]) c5
            have e1 : δ6 ++ (rOp o, 0) :: π = (δ6 ++ [(rOp o, 0)]) ++ π := by simp
            rw [e1] at c1
            refine ⟨fun r' h => (st1.tr c1).b (ihh.1 r' h), fun r' a h => ?_⟩
            obtain ⟨o3, δ3, z1, z2⟩ := ihh.2 r' a h
            exact ⟨o3, δ3, (st1.tr c1).tr z1, z2⟩
  obtain ⟨s1, s2⟩ := hs p k out π (by cases π with
    | nil => trivial
    | cons x π => have : bnd x.1 < L := hπ; show bnd x.1 < L + 1; omega)
  unfold rowP
  have gp := hg p k
  cases hr : sub p k with
  | mk r b =>
    rw [hr] at gp
    cases b with
    | none =>
      refine ⟨fun r' h => ?_, fun r' a h => by cases h⟩
      cases h
      exact s1 r hr
    | some b =>
      have hpos := (gp.2.2.2.2 b rfl).1.2
      dsimp only at hpos ⊢
      obtain ⟨out2, δ6, c1, c2, c3, c4, c5⟩ := s2 r b hr
      have ihh := loop 400 r.1 r.2 b out2 δ6 (by omega) (c2.le (by omega)) c3 c4 c5
      refine ⟨fun r' h => c1.b (ihh.1 r' h), fun r' a h => ?_⟩
      obtain ⟨o3, δ3, z1, z2⟩ := ihh.2 r' a h
      exact ⟨o3, δ3, c1.tr z1, z2⟩
theorem arOp_add {q o : Nat} (h : addOp G q = some o) : arOp G q = some o := by
  unfold arOp
  rw [h]
theorem arOp_mul {q o : Nat} (h : mulOp G q = some o) : arOp G q = some o := by
  have h2 := mulOp_k h
  unfold arOp
  have : addOp G q = none := by
    cases e : addOp G q with
    | none => rfl
    | some o' =>
      exfalso
      unfold addOp at e
      unfold mulOp at h
      have sg : ∀ {c}, isSg G q c = true → G.1 (tS G q) = c := fun z => (isSg_k z).2
      split at e
      · rename_i c
        have := sg c
        split at h
        · rename_i c2; have := sg c2; omega
        · split at h
          · rename_i c2; have := sg c2; omega
          · split at h
            · rename_i c2; have := sg c2; omega
            · cases h
      · split at e
        · rename_i c
          have := sg c
          split at h
          · rename_i c2; have := sg c2; omega
          · split at h
            · rename_i c2; have := sg c2; omega
            · split at h
              · rename_i c2; have := sg c2; omega
              · cases h
        · cases e
  rw [this]
  exact h
theorem arOp_no {q : Nat} (h : addOp G q = none) (h2 : mulOp G q = none) : arOp G q = none := by
  unfold arOp
  rw [h]
  exact h2
def StS (G : pG) (q : Nat) : Prop := (True ∧ mulOp G q = none) ∧ addOp G q = none
/-- a sum out of its parts -/
theorem m_sum {fac : Nat → Nat → pR} (hm : G.2 ≤ 400) {wl : Nat} (hg : ∀ p k, gdR G W wl p k (fac p k)) (hf : LM G W test 7 (fun _ => True) fac d) : LM G W test 5 (StS G) (prSum G fac) d :=
  m_row (L := 5) (by omega) hm (m_row (L := 6) (by omega) hm hf hg (fun q o _ h => ⟨arOp_mul h, by have := (mulOp_k h).2; rw [bnd_op (by omega), if_neg (by omega), if_pos (by omega)], by have := (mulOp_k h).2; omega, (mulOp_k h).1⟩)) (gd_rowP hg (fun p o h => ⟨(mulOp_k h).1, cbOk_a2 (by have := (mulOp_k h).2; omega)⟩)) (fun q o _ h => ⟨arOp_add h, by have := (addOp_k h).2; rw [bnd_op (by omega), if_pos (by omega)], by have := (addOp_k h).2; omega, (addOp_k h).1⟩)
theorem m_fac {inner : Option (Nat → Nat → pR)} (hi : (inner = none ∧ ¬ d < 8) ∨ (d < 8 ∧ ∃ s, inner = some s ∧ LM G W test 5 (StS G) s (d + 1))) : LM G W test 7 (fun _ => True) (prF G W inner) d := by
  intro p k out π _
  have s1 : pmS G W test (1, p, k, out, π, d) = ptS G W p k out π d := by
    unfold pmS
    dsimp only
    rw [if_neg (by omega), if_pos rfl]
  unfold prF
  unfold ptS at s1
  split
  · rename_i c
    rw [if_pos c] at s1
    rcases hi with ⟨rfl, hd⟩ | ⟨hd, s, rfl, hs⟩
    · rw [if_neg hd] at s1
      refine ⟨fun q h => ?_, fun q a h => by cases h⟩
      cases h
      exact Rb.one s1
    · rw [if_pos hd] at s1
      have st1 := Rc.one s1
      obtain ⟨g1, g2⟩ := hs (tE G p) k out ((32, 0) :: π) (by show bnd 32 < 5; decide)
      dsimp only
      cases hr : s (tE G p) k with
      | mk q r =>
        cases r with
        | none =>
          refine ⟨fun q' h => ?_, fun q' a h => by cases h⟩
          cases h
          exact st1.b (g1 q hr)
        | some a =>
          obtain ⟨out2, δ, c1, c2, c3, c4, c5⟩ := g2 q a hr
          dsimp only
          have in32 : innr (δ ++ (32, 0) :: π) = some 32 := by
            rw [innr_app (c2.le (by omega))]
            rfl
          have s2 : pmS G W test (3, q.1, q.2, out2, δ ++ (32, 0) :: π, d + 1) = if isSg G q.1 93 = true then .inl (3, tE G q.1, q.2, out ++ a.2.1 out.length, π, d) else .inr q.1 := by
            unfold pmS
            dsimp only
            rw [if_neg (by omega), if_neg (by omega), if_neg (by omega), if_pos rfl, arOp_no c5.2 c5.1.2]
            dsimp only
            rw [if_pos in32, if_pos (by omega : 1 ≤ d + 1), stl_app c2 (by show bnd 32 < 5; decide), c4]
            rfl
          split
          · rename_i cc
            rw [if_pos cc] at s2
            refine ⟨(fun q' h => by cases h), fun q' a' h => ?_⟩
            cases h
            exact ⟨_, [], (st1.tr c1).tr (Rc.one s2), (fun x hx => by cases hx), (fun x hx => by cases hx), rfl, trivial⟩
          · rename_i cc
            rw [if_neg cc] at s2
            refine ⟨fun q' h => ?_, fun q' a h => by cases h⟩
            cases h
            exact (st1.tr c1).b (Rb.one s2)
  · rename_i c
    rw [if_neg c] at s1
    split
    · rename_i ck
      rw [if_pos ck] at s1
      refine ⟨fun q h => ?_, fun q a h => by cases h⟩
      cases h
      exact Rb.one s1
    · rename_i ck
      rw [if_neg ck] at s1
      split
      · rename_i cn
        rw [if_pos cn] at s1
        refine ⟨(fun q h => by cases h), fun q a h => ?_⟩
        cases h
        exact ⟨_, [], Rc.one s1, (fun x hx => by cases hx), (fun x hx => by cases hx), rfl, trivial⟩
      · rename_i cn
        rw [if_neg cn] at s1
        cases hw : fndW G W p with
        | none =>
          rw [hw] at s1
          refine ⟨fun q h => ?_, fun q a h => by cases h⟩
          cases h
          exact Rb.one s1
        | some w =>
          rw [hw] at s1
          dsimp only at s1 ⊢
          cases hx : w.2.2.2 with
          | none =>
            rw [hx] at s1
            refine ⟨(fun q h => by cases h), fun q a h => ?_⟩
            cases h
            exact ⟨_, [], Rc.one s1, (fun x hx => by cases hx), (fun x hx => by cases hx), rfl, trivial⟩
          | some mx =>
            rw [hx] at s1
            dsimp only at s1 ⊢
            split
            · rename_i cm
              rw [if_pos cm] at s1
              refine ⟨(fun q h => by cases h), fun q a h => ?_⟩
              cases h
              exact ⟨_, [], Rc.one s1, (fun x hx => by cases hx), (fun x hx => by cases hx), rfl, trivial⟩
            · rename_i cm
              rw [if_neg cm] at s1
              refine ⟨fun q h => ?_, fun q a h => by cases h⟩
              cases h
              exact Rb.one s1
theorem m_prS (hm : G.2 ≤ 400) {wl : Nat} (hW : okW W wl) : ∀ (e d : Nat), e + d = 8 → LM G W test 5 (StS G) (prS G W e) d
  | 0, d, h => m_sum hm (gd_prF hW (fun s z => by cases z)) (m_fac (Or.inl ⟨rfl, by omega⟩))
  | e + 1, d, h => m_sum hm (gd_prF hW (fun s z => by cases z; exact gd_prS hW e)) (m_fac (Or.inr ⟨by omega, _, rfl, m_prS hm hW e (d + 1) (by omega)⟩))
end PMT
