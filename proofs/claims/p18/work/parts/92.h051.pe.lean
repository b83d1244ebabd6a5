/-! WHERE A CLAUSE'S PARTS LIE, AND WHAT THEY COME TO -/
theorem xMk_at : ∀ (cs : List pX) (n j : Nat) (h : j < (xMk cs n).length) (h' : j < cs.length), ((xMk cs n)[j]).1 = cs[j] ∧ ∃ pre post, xAll cs n = pre ++ xC cs[j] ((xMk cs n)[j]).2 ++ post ∧ n + pre.length = ((xMk cs n)[j]).2
  | [], n, j, h, h' => absurd h' (Nat.not_lt_zero _)
  | c :: cs, n, 0, _, _ => ⟨rfl, [], xAll cs (n + (xC c n).length), by simp [xAll, xMk], by simp [xMk]⟩
  | c :: cs, n, j + 1, h, h' => by
    have hj : j < cs.length := by simpa using h'
    have hm : j < (xMk cs (n + (xC c n).length)).length := by rw [xMk_len]; exact hj
    obtain ⟨e1, pre, post, e2, e3⟩ := xMk_at cs (n + (xC c n).length) j hm hj
    refine ⟨by simpa [xMk] using e1, xC c n ++ pre, post, ?_, ?_⟩
    · show xC c n ++ xAll cs _ = _
      rw [e2]
      simp [xMk]
    · simp only [xMk, List.getElem_cons_succ, List.length_append]
      omega
theorem codeAt_app {pre l post : List (Nat × Nat)} : codeAt (fun j => (pre ++ l ++ post).getD j (0, 0)) pre.length l := fun i hi => by
  dsimp only
  rw [List.getD_eq_getElem?_getD, List.append_assoc, List.getElem?_append_right (by omega), Nat.add_sub_cancel_left, List.getElem?_append_left hi, List.getElem?_eq_getElem hi]
  rfl
/-- the part i of clause j in the text's code -/
theorem xPart {cs : List pX} {j i : Nat} (hj : j < cs.length) (hi : i ≤ 3) (hm : j < (xMk cs 0).length) : codeAt (fun k => (xAll cs 0).getD k (0, 0)) (xE cs[j] ((xMk cs 0)[j]).2 i) (oC (xP cs[j] i) (xE cs[j] ((xMk cs 0)[j]).2 i)) ∧ xE cs[j] ((xMk cs 0)[j]).2 (i + 1) ≤ (xAll cs 0).length := by
  obtain ⟨-, pre, post, e2, e3⟩ := xMk_at cs 0 j hm hj
  rw [Nat.zero_add] at e3
  generalize ((xMk cs 0)[j]).2 = s at e2 e3 ⊢
  generalize cs[j] = c at e2 ⊢
  have h4 := xC_len c s
  have mono : ∀ i, xE c s i ≤ xE c s (i + 1) := fun i => by
    show xE c s i ≤ xE c s i + _
    omega
  constructor
  · have l0 : xE c s 1 = xE c s 0 + (oC (xP c 0) (xE c s 0)).length := rfl
    have l1 : xE c s 2 = xE c s 1 + (oC (xP c 1) (xE c s 1)).length := rfl
    have l2 : xE c s 3 = xE c s 2 + (oC (xP c 2) (xE c s 2)).length := rfl
    have z : xE c s 0 = s := rfl
    have : i = 0 ∨ i = 1 ∨ i = 2 ∨ i = 3 := by omega
    rcases this with rfl | rfl | rfl | rfl
    · have e : xAll cs 0 = pre ++ oC (xP c 0) (xE c s 0) ++ (oC (xP c 1) (xE c s 1) ++ oC (xP c 2) (xE c s 2) ++ oC (xP c 3) (xE c s 3) ++ post) := by
        rw [e2]; unfold xC; simp only [List.append_assoc]
      rw [e]
      have := codeAt_app (pre := pre) (l := oC (xP c 0) (xE c s 0)) (post := oC (xP c 1) (xE c s 1) ++ oC (xP c 2) (xE c s 2) ++ oC (xP c 3) (xE c s 3) ++ post)
      rw [show pre.length = xE c s 0 by omega] at this
      exact this
    · have e : xAll cs 0 = (pre ++ oC (xP c 0) (xE c s 0)) ++ oC (xP c 1) (xE c s 1) ++ (oC (xP c 2) (xE c s 2) ++ oC (xP c 3) (xE c s 3) ++ post) := by
        rw [e2]; unfold xC; simp only [List.append_assoc]
      rw [e]
      have := codeAt_app (pre := pre ++ oC (xP c 0) (xE c s 0)) (l := oC (xP c 1) (xE c s 1)) (post := oC (xP c 2) (xE c s 2) ++ oC (xP c 3) (xE c s 3) ++ post)
      rw [List.length_append, show pre.length + (oC (xP c 0) (xE c s 0)).length = xE c s 1 by omega] at this
      exact this
    · have e : xAll cs 0 = (pre ++ oC (xP c 0) (xE c s 0) ++ oC (xP c 1) (xE c s 1)) ++ oC (xP c 2) (xE c s 2) ++ (oC (xP c 3) (xE c s 3) ++ post) := by
        rw [e2]; unfold xC; simp only [List.append_assoc]
      rw [e]
      have := codeAt_app (pre := pre ++ oC (xP c 0) (xE c s 0) ++ oC (xP c 1) (xE c s 1)) (l := oC (xP c 2) (xE c s 2)) (post := oC (xP c 3) (xE c s 3) ++ post)
      rw [List.length_append, List.length_append, show pre.length + (oC (xP c 0) (xE c s 0)).length + (oC (xP c 1) (xE c s 1)).length = xE c s 2 by omega] at this
      exact this
    · have e : xAll cs 0 = (pre ++ oC (xP c 0) (xE c s 0) ++ oC (xP c 1) (xE c s 1) ++ oC (xP c 2) (xE c s 2)) ++ oC (xP c 3) (xE c s 3) ++ post := by
        rw [e2]; unfold xC; simp only [List.append_assoc]
      rw [e]
      have := codeAt_app (pre := pre ++ oC (xP c 0) (xE c s 0) ++ oC (xP c 1) (xE c s 1) ++ oC (xP c 2) (xE c s 2)) (l := oC (xP c 3) (xE c s 3)) (post := post)
      rw [List.length_append, List.length_append, List.length_append, show pre.length + (oC (xP c 0) (xE c s 0)).length + (oC (xP c 1) (xE c s 1)).length + (oC (xP c 2) (xE c s 2)).length = xE c s 3 by omega] at this
      exact this
  · have : (xAll cs 0).length = pre.length + (xC c s).length + post.length := by rw [e2, List.length_append, List.length_append]
    have m1 : xE c s 1 ≤ xE c s 2 := mono 1
    have m2 : xE c s 2 ≤ xE c s 3 := mono 2
    have m3 : xE c s 3 ≤ xE c s 4 := mono 3
    have : i = 0 ∨ i = 1 ∨ i = 2 ∨ i = 3 := by omega
    rcases this with rfl | rfl | rfl | rfl
    · show xE c s 1 ≤ _; omega
    · show xE c s 2 ≤ _; omega
    · show xE c s 3 ≤ _; omega
    · show xE c s 4 ≤ _; omega
/-- what a part comes to: 1 if it is not there -/
def wgV (a : Option pA) (e : Nat → Int) : Option Int := match a with
  | none => some 1
  | some a => a.2.2 e
/-- a text that runs -/
def okT (wl : Nat) (cs : List pX) : Prop := cs.length ≤ 12 ∧ (xAll cs 0).length ≤ 400 ∧ (∀ x ∈ xAll cs 0, okX x) ∧ ∀ c ∈ cs, ∀ i a, xP c i = some a → cOk wl 50 a
theorem run_part {wl n : Nat} {a : Option pA} {code : Nat → Nat × Nat} {e : Nat → Int} (ha : ∀ b, a = some b → cOk wl 50 b) (hc : codeAt code n (oC a n)) : (a = none ∧ cRn code e wl (n + (oC a n).length) n [] = some (some [])) ∨ (a ≠ none ∧ ((wgV a e = none ∧ cRn code e wl (n + (oC a n).length) n [] = some none) ∨ ∃ v, wgV a e = some v ∧ cRn code e wl (n + (oC a n).length) n [] = some (some [v]))) := by
  cases a with
  | none =>
    left
    refine ⟨rfl, ?_⟩
    show cRn code e wl (n + 0) n [] = _
    unfold cRn
    rw [show n + 0 - n = 0 by omega]
    rfl
  | some a =>
    right
    refine ⟨fun z => (by cases z), ?_⟩
    have := ha a rfl code n (n + (a.1 n).length) e [] hc (Nat.le_refl _) (by simp)
    have e0 : oC (some a) n = a.1 n := rfl
    rw [e0, this]
    show (a.2.2 e = none ∧ _) ∨ ∃ v, a.2.2 e = some v ∧ _
    cases a.2.2 e with
    | none => exact Or.inl ⟨rfl, rfl⟩
    | some v =>
      refine Or.inr ⟨v, rfl, ?_⟩
      dsimp only
      unfold cRn
      rw [Nat.sub_self]
      rfl
theorem ckD_some {z v : Int} (h : ckD z = some v) : v = z ∧ -1000000000 ≤ z ∧ z ≤ 1000000000 := by
  unfold ckD at h
  split at h
  · cases h
  · cases h
    exact ⟨rfl, by omega, by omega⟩
theorem ckD_none {z : Int} (h : ckD z = none) : 1000000000 < z ∨ z < -1000000000 := by
  unfold ckD at h
  split at h
  · rename_i c; exact c
  · cases h
theorem opD_le {o : Nat} {x y v : Int} (h : opD o x y = some v) : -1000000000 ≤ v ∧ v ≤ 1000000000 := by
  unfold opD at h
  split at h
  · have := ckD_some h; omega
  split at h
  · have := ckD_some h; omega
  split at h
  · have := ckD_some h
    obtain ⟨rfl, h1, h2⟩ := this
    exact ⟨h1, h2⟩
  split at h
  · split at h
    · cases h
    · have := ckD_some h
      obtain ⟨rfl, h1, h2⟩ := this
      exact ⟨h1, h2⟩
  split at h
  · split at h
    · cases h
    · have := ckD_some h
      obtain ⟨rfl, h1, h2⟩ := this
      exact ⟨h1, h2⟩
  split at h
  · cases h
    split <;> omega
  split at h
  · cases h
    split <;> omega
  · cases h
    split <;> omega
