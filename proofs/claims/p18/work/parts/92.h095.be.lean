/-! A LAW'S WHOLE CODE IS SMALL -/
section BE
variable {G : pG}
theorem B_opt {r : pR} (h : ∀ a, r.2 = some a → Bd a) {q : Nat × Nat} {s : Option pA} (e : opt r = (q, some s)) : ∀ a, s = some a → Bd a := by
  intro a ha
  obtain ⟨q0, x⟩ := r
  cases x with
  | none => cases e
  | some x =>
    cases e
    cases ha
    exact h _ rfl
theorem B_if {W : List (List Nat × Nat × Nat × Option Nat)} (hW : okB W) {p k : Nat} {q : Nat × Nat} {t : Option pA} (e : prIf G W p k = (q, some t)) : ∀ a, t = some a → Bd a := by
  unfold prIf at e
  split at e
  · refine B_opt (fun a ha => B_prT (G := G) hW 8 (tE G p) k (prT G W 8 (tE G p) k).1 a ?_) e
    rw [← ha]
  · cases e
    intro a ha
    cases ha
theorem B_law {p k : Nat} {r : Nat × Nat} {c : pCl} (e : prLaw G p k = (r, some c)) : (∀ a, c.2.1 = some a → Bd a) ∧ ∀ a, c.2.2 = some a → Bd a := by
  unfold prLaw at e
  split at e
  · cases e
  · rename_i h hw
    have sm : ∀ q s, (if h < 3 then opt (prS G lwW 8 (tE G p) k) else ((tE G p, k), some none) : oR) = (q, some s) → ∀ a, s = some a → Bd a := by
      intro q s z
      split at z
      · refine B_opt (fun a ha => B_prS (G := G) okB_law 8 (tE G p) k (prS G lwW 8 (tE G p) k).1 a ?_) z
        rw [← ha]
      · cases z
        intro a ha
        cases ha
    generalize (if h < 3 then opt (prS G lwW 8 (tE G p) k) else ((tE G p, k), some none) : oR) = z at e sm
    obtain ⟨q, s⟩ := z
    cases s with
    | none => cases e
    | some s =>
      rw [lwT] at e
      cases ei : prIf G lwW q.1 q.2 with
      | mk r2 t =>
        rw [ei] at e
        cases t with
        | none => cases e
        | some t =>
          cases e
          exact ⟨sm q s rfl, B_if okB_law ei⟩
theorem lawTx_B {r : Nat × Nat} {cs : List pCl} (e : lawTx G = (r, some cs)) : ∀ c ∈ cs, (∀ a, c.2.1 = some a → Bd a) ∧ ∀ a, c.2.2 = some a → Bd a :=
  prTx_ok' (P := fun c : pCl => (∀ a, c.2.1 = some a → Bd a) ∧ ∀ a, c.2.2 = some a → Bd a) (fun p k r c e => B_law e) 12 0 0 [] (fun c hc => by cases hc) r cs e
theorem B_part {a : Option pA} (h : ∀ b, a = some b → Bd b) {n : Nat} {x : Nat × Nat} (hx : x ∈ oR' a n) : x.1 ≤ 30 ∧ x.2 ≤ n + (oR' a n).length + 1000 := by
  cases a with
  | none => cases hx
  | some b => exact h b rfl n x hx
theorem B_all : ∀ (cs : List pCl) (n : Nat), (∀ c ∈ cs, (∀ a, c.2.1 = some a → Bd a) ∧ ∀ a, c.2.2 = some a → Bd a) → ∀ x ∈ rAll cs n, x.1 ≤ 30 ∧ x.2 ≤ n + (rAll cs n).length + 1000
  | [], n, _, x, hx => by cases hx
  | c :: cs, n, h, x, hx => by
    have hx' : x ∈ rCl c n ++ rAll cs (n + (rCl c n).length) := hx
    have hl : (rAll (c :: cs) n).length = (rCl c n).length + (rAll cs (n + (rCl c n).length)).length := by
      show (rCl c n ++ rAll cs (n + (rCl c n).length)).length = _
      rw [List.length_append]
    have hc : (rCl c n).length = (oR' c.2.1 n).length + (oR' c.2.2 (n + (oR' c.2.1 n).length)).length := by
      unfold rCl
      rw [List.length_append]
    rw [hl]
    rcases List.mem_append.mp hx' with z | z
    · unfold rCl at z
      rcases List.mem_append.mp z with z | z
      · have := B_part (h c (List.mem_cons_self ..)).1 z; omega
      · have := B_part (h c (List.mem_cons_self ..)).2 z; omega
    · have := B_all cs _ (fun d hd => h d (List.mem_cons_of_mem _ hd)) x z; omega
end BE
/-- where a clause's parts lie in the reference's code -/
theorem rMk_at : ∀ (cs : List pCl) (n j : Nat) (h : j < (rMk cs n).length) (h' : j < cs.length), ∃ m pre post, (rMk cs n)[j] = (cs[j].1, m, m + (oR' cs[j].2.1 m).length, m + (rCl cs[j] m).length) ∧ rAll cs n = pre ++ rCl cs[j] m ++ post ∧ n + pre.length = m
  | [], n, j, h, h' => absurd h' (Nat.not_lt_zero _)
  | c :: cs, n, 0, _, _ => ⟨n, [], rAll cs (n + (rCl c n).length), rfl, rfl, rfl⟩
  | c :: cs, n, j + 1, h, h' => by
    have hj : j < cs.length := by simpa using h'
    have hm : j < (rMk cs (n + (rCl c n).length)).length := by rw [rMk_len]; exact hj
    obtain ⟨m, pre, post, e1, e2, e3⟩ := rMk_at cs (n + (rCl c n).length) j hm hj
    refine ⟨m, rCl c n ++ pre, post, by simpa [rMk] using e1, ?_, by rw [List.length_append]; omega⟩
    show rCl c n ++ rAll cs _ = _
    rw [e2]
    simp
