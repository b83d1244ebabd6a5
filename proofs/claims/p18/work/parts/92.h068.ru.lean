/-! ORDERS ARE RUN, EXACTLY -/
/-- row, done, the last bell, what can be undone -/
abbrev oS : Type := (Nat → Int32) × Int × Int × uL
def orDo (cs : List pCl) (act : Nat) (s : oS) (a b c : Int) : Option oS := if (deedD cs act s.1 a b c).1 < 0 then none else some ((deedD cs act s.1 a b c).2, s.2.1 + 1, (if act = 0 then (deedD cs act s.1 a b c).1 else s.2.2.1), pushU s.2.2.2 (act, s.1))
def orTry (cs : List pCl) (o : pOr) (s : oS) : Option oS := if wgV o.2.2.2 (envO s.1 s.2.1 s.2.2.1) = some 1 then (match wgV o.2.1.1 (envO s.1 s.2.1 s.2.2.1), wgV o.2.1.2.1 (envO s.1 s.2.1 s.2.2.1), wgV o.2.1.2.2 (envO s.1 s.2.1 s.2.2.1) with
  | some a, some b, some c => orDo cs o.1 s a b c
  | _, _, _ => none) else some s
def orRep (cs : List pCl) (o : pOr) : Nat → oS → Option oS
  | 0, s => some s
  | n + 1, s => match orTry cs o s with
    | none => none
    | some s' => orRep cs o n s'
def orRun (cs : List pCl) : List pOr → Nat → oS → Nat ⊕ oS
  | [], _, s => .inr s
  | o :: os, j, s => match orRep cs o o.2.2.1 s with
    | none => .inl j
    | some s' => orRun cs os (j + 1) s'
/-- orders that run -/
def okO (os : List pOr) : Prop := okT 26 (os.map orX) ∧ ∀ o ∈ os, o.1 ≤ 3 ∧ o.2.2.1 ≤ 20
def orNm (i : Nat) : List Nat := [1, 202] ++ deNm i
theorem orNm_mod {i x : Nat} (h : x ∈ orNm i) : x % 10000 = 1 ∨ x % 10000 = 2 ∨ x % 10000 = 3 ∨ x % 10000 = 101 ∨ x % 10000 = 202 ∨ x % 10000 = 300 ∨ x % 10000 = 301 ∨ x % 10000 = 302 ∨ x % 10000 = 303 ∨ x % 10000 = 400 ∨ x % 10000 = 401 ∨ x % 10000 = 700 := by
  rcases List.mem_append.mp h with z | z
  · simp only [List.mem_cons, List.not_mem_nil, or_false] at z
    omega
  rcases List.mem_append.mp z with z | z
  · rcases List.mem_append.mp z with z | z
    · simp only [List.mem_cons, List.not_mem_nil, or_false] at z
      omega
    · obtain ⟨j, j1, j2⟩ := List.mem_flatMap.mp z
      simp only [leN, List.mem_cons, List.not_mem_nil, or_false] at j2
      omega
  · simp only [dbNm, List.mem_cons, List.not_mem_nil, or_false] at z
    omega
theorem orNm_de {i x : Nat} (h : x ∈ deNm i) : x ∈ orNm i := List.mem_append.mpr (Or.inr h)
theorem orNm_db {i x : Nat} (h : x ∈ dbNm i) : x ∈ orNm i := orNm_de (dbNm_sub h)
theorem orNm_lg {i x : Nat} (h : x ∈ lgNm) : x ∈ orNm i := orNm_de (lgNm_sub h)
theorem deNm_1 {i : Nat} : 1 ∉ deNm i := fun z => by
  rcases List.mem_append.mp z with z | z
  · rcases List.mem_append.mp z with z | z
    · simp only [List.mem_cons, List.not_mem_nil, or_false] at z
      omega
    · obtain ⟨j, j1, j2⟩ := List.mem_flatMap.mp z
      simp only [leN, List.mem_cons, List.not_mem_nil, or_false] at j2
      omega
  · simp only [dbNm, List.mem_cons, List.not_mem_nil, or_false] at z
    omega
section RU
variable {Γ : kG} {Φ : kF} {S : hS} {a b bt d g i u c m : Nat} {ρ ρb ρd ρg : Nat → Nat} {us : uL} {L : Nat → List pCl} {os : List pOr}
theorem deedD_0 {cs : List pCl} {f : Nat → Int32} {x y z : Int} : deedD cs 0 f x y z = ringD f cs x y := if_pos rfl
theorem deedD_1 {cs : List pCl} {f : Nat → Int32} {x y z : Int} : deedD cs 1 f x y z = sellD f cs x y z := by unfold deedD; rw [if_neg (by decide), if_pos rfl]
theorem deedD_2 {cs : List pCl} {f : Nat → Int32} {x y z : Int} : deedD cs 2 f x y z = dieD f x := by unfold deedD; rw [if_neg (by decide), if_neg (by decide), if_pos rfl]
theorem deedD_3 {cs : List pCl} {f : Nat → Int32} {x y z : Int} : deedD cs 3 f x y z = passD f := by unfold deedD; rw [if_neg (by decide), if_neg (by decide), if_neg (by decide)]
/-- the run of orders is at s -/
def rI (lg : Option Nat) (d b : Nat) (ρ ρg : Nat → Nat) (f0 : Nat → Int32) (Γ0 : kG) (Ψ : kF) (Γ1 : kG) (S1 : hS) (u : Nat) (s : oS) (N : Nat) : Prop := gro Γ0 Ψ Γ1 ∧ St Γ1 Ψ S1 ∧ sV S1 b ρ = s.1 ∧ (fI S1 d 5).toInt = s.2.1 ∧ (fI S1 d 3).toInt = s.2.2.1 ∧ (∀ g, lg = some g → lgN S1 g ≤ u ∧ lgS Γ1 S1 g ρg s.2.2.2) ∧ rB s.1 ∧ (∀ i, ¬ inLe i → s.1 i = f0 i) ∧ 0 ≤ s.2.1 ∧ s.2.1 ≤ N ∧ -1 ≤ s.2.2.1 ∧ s.2.2.1 ≤ 1
theorem envO_in {f : Nat → Int32} {dn last : Int} (hB : rB f) (h1 : 0 ≤ dn ∧ dn ≤ 1000) (h2 : -1 ≤ last ∧ last ≤ 1) {w : Nat} (hw : w < 26) : -1000000000 ≤ envO f dn last w ∧ envO f dn last w ≤ 1000000000 := by
  have b1 := rB_1 hB
  have b0 := rB_0 hB
  have y5 := rB_g hB (i := 5) (by omega)
  have al := aliveR_le (f := f) (nPR f)
  unfold envO
  split
  · omega
  split
  · omega
  split
  · omega
  split
  · unfold nPR at al ⊢; omega
  split
  · split
    · have := rB_g hB (i := 14 + (w - 4)) (by omega); omega
    · omega
  split
  · split
    · rename_i c
      have := allLR_in hB (p := w - 12) (by omega) (nHR f) (by unfold nHR; omega)
      unfold nHR at this ⊢
      omega
    · omega
  split
  · have := rB_g hB (i := 8 + (w - 20)) (by omega); omega
  · omega
theorem tx_ord {S1 : hS} (h1 : St Γ Φ S1) (hb : Γ bt = some (10, 10, c, m, ρb)) (hx : txR S1 bt ρb (os.map orX)) (ho : okO os) : os.length ≤ c ∧ os.length ≤ 12 ∧ fI S1 bt 0 = nI os.length ∧ ∀ j, (hj : j < os.length) → aV S1 (ρb 3) j = nI (os[j]).1 ∧ aV S1 (ρb 4) j = nI (os[j]).2.2.1 := by
  have l12 := ho.1.1
  rw [List.length_map] at l12
  have x1 : fI S1 bt 0 = nI (os.map orX).length := hx.1
  rw [List.length_map] at x1
  refine ⟨?_, l12, x1, fun j hj => ?_⟩
  · obtain ⟨b0, b1, b2, b3, b4, b5, b6, eb, r0, r1, -⟩ := h1.c10 hb
    dsimp only at r0 r1
    have f0 : fI S1 bt 0 = b0 := fI_of (fv_of eb rfl)
    have := congrArg Int32.toInt (f0.symm.trans x1)
    rw [nI_toInt (by omega)] at this
    omega
  · have hj2 : j < (os.map orX).length := by rw [List.length_map]; exact hj
    have hjm : j < (xMk (os.map orX) 0).length := by rw [xMk_len]; exact hj2
    have h3 := (hx.2.2.1 j hjm).1
    have h4 := (hx.2.2.1 j hjm).2.1
    have em : (os.map orX)[j] = orX os[j] := List.getElem_map ..
    rw [(xMk_at (os.map orX) 0 j hjm hj2).1, em] at h3 h4
    exact ⟨h3, h4⟩
end RU
