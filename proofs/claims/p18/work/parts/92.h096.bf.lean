/-! A LAW IN THE REFERENCE'S ROW TELLS WHAT IT MEANS -/
def okB2 (cs : List pCl) : Prop := (∀ c ∈ cs, (∀ a, c.2.1 = some a → Bd a) ∧ ∀ a, c.2.2 = some a → Bd a) ∧ (rAll cs 0).length ≤ 400
/-- a run's outcome, as the part means -/
def evM (w : Option Int) (r : Int64 × Int32) : Prop := (w = none → r.2 = 1) ∧ ∀ v, w = some v → r = (jN v, 0)
theorem lw_part {f : Nat → Int32} {z : Nat → Int64} {cs : List pCl} {e : Nat → Int} {b j : Nat} (hl : lawOk f b) (hR : lwR f b cs) (hO : okL cs) (hB : okB2 cs) (hz : ∀ w, 1 ≤ w → w ≤ 9 → z w = jN (e (w - 1)) ∧ -1000000000 ≤ e (w - 1) ∧ e (w - 1) ≤ 1000000000) (hj : j < cs.length) : f (b + 2 + 8 * j) = nI (clA cs j).1 ∧ (∀ s, (clA cs j).2.1 = some s → evM (s.2.2 e) (lwEv f z b (b + 2 + 8 * j + 3) (b + 2 + 8 * j + 4))) ∧ ((clA cs j).2.2 = none → f (b + 2 + 8 * j + 6) ≤ f (b + 2 + 8 * j + 5)) ∧ ∀ t, (clA cs j).2.2 = some t → ¬ f (b + 2 + 8 * j + 6) ≤ f (b + 2 + 8 * j + 5) ∧ evM (t.2.2 e) (lwEv f z b (b + 2 + 8 * j + 5) (b + 2 + 8 * j + 6)) := by
  obtain ⟨r1, r2, r3⟩ := hR
  obtain ⟨o1, o2, o3⟩ := hO
  obtain ⟨B1, B2⟩ := hB
  have l12 : cs.length ≤ 12 := by have := o1.1; rw [List.length_map] at this; exact this
  have hjm : j < (rMk cs 0).length := by rw [rMk_len]; exact hj
  obtain ⟨m, pre, post, e1, e2, e3⟩ := rMk_at cs 0 j hjm hj
  rw [Nat.zero_add] at e3
  have hm := r2 j hjm
  rw [e1] at hm
  obtain ⟨m0, m3, m4, m5, m6⟩ := hm
  have ec : clA cs j = cs[j] := clA_at hj
  rw [ec]
  have hmem : cs[j] ∈ cs := List.getElem_mem hj
  obtain ⟨q1, q2, q3, q4⟩ := o2 _ hmem
  obtain ⟨b1, b2⟩ := B1 _ hmem
  have T := o3 _ hmem
  generalize cs[j] = c at e1 e2 m0 m3 m4 m5 m6 q1 q2 q3 q4 b1 b2 T ⊢
  dsimp only at m0 m3 m4 m5 m6
  rw [show b + 2 + (8 * j + 3) = b + 2 + 8 * j + 3 by omega] at m3
  rw [show b + 2 + (8 * j + 4) = b + 2 + 8 * j + 4 by omega] at m4
  rw [show b + 2 + (8 * j + 5) = b + 2 + 8 * j + 5 by omega] at m5
  rw [show b + 2 + (8 * j + 6) = b + 2 + 8 * j + 6 by omega] at m6
  have ll : (rAll cs 0).length = pre.length + (rCl c m).length + post.length := by rw [e2, List.length_append, List.length_append]
  have lc : (rCl c m).length = (oR' c.2.1 m).length + (oR' c.2.2 (m + (oR' c.2.1 m).length)).length := by unfold rCl; rw [List.length_append]
  have cA : codeAt (fun k => (rAll cs 0).getD k (0, 0)) m (rCl c m) := by
    rw [e2]
    have := codeAt_app (pre := pre) (l := rCl c m) (post := post)
    rw [e3] at this
    exact this
  have cS : codeAt (fun k => (rAll cs 0).getD k (0, 0)) m (oR' c.2.1 m) := cA.l
  have cT : codeAt (fun k => (rAll cs 0).getD k (0, 0)) (m + (oR' c.2.1 m).length) (oR' c.2.2 (m + (oR' c.2.1 m).length)) := cA.r
  have row : ∀ k, k < (rAll cs 0).length → lwOp f b k = nI ((fun k => (rAll cs 0).getD k (0, 0)) k).1 ∧ lwArg f b k = nI ((fun k => (rAll cs 0).getD k (0, 0)) k).2 ∧ ((fun k => (rAll cs 0).getD k (0, 0)) k).1 < 5000 ∧ ((fun k => (rAll cs 0).getD k (0, 0)) k).2 < 5000 := by
    intro k hk
    have eg : (rAll cs 0).getD k (0, 0) = (rAll cs 0)[k] := by rw [List.getD_eq_getElem?_getD, List.getElem?_eq_getElem hk]; rfl
    dsimp only
    rw [eg]
    obtain ⟨x1, x2⟩ := r3 k hk
    have := B_all cs 0 B1 _ (List.getElem_mem hk)
    exact ⟨x1, x2, by omega, by omega⟩
  have hcl : (j : Int) < (f (b + 1)).toInt := by rw [r1, nI_toInt (by omega)]; omega
  obtain ⟨⟨l1, l2, x1, x2, x3, x4, x5⟩, ⟨t1, t2, y1, y2, y3, y4, y5⟩⟩ := hl.2 j hcl
  have eq1 : l1 = m := nI_inj (by omega) (by omega) (x1.symm.trans m3)
  have eq2 : l2 = m + (oR' c.2.1 m).length := nI_inj (by omega) (by omega) (x2.symm.trans m4)
  have eq3 : t1 = m + (oR' c.2.1 m).length := nI_inj (by omega) (by omega) (y1.symm.trans m5)
  have eq4 : t2 = m + (rCl c m).length := nI_inj (by omega) (by omega) (y2.symm.trans m6)
  refine ⟨m0, fun s hs => ?_, fun hn => ?_, fun t ht => ?_⟩
  · have hs' : oR' c.2.1 m = s.2.1 m := by rw [hs]; rfl
    rw [hs'] at cS eq2
    have lcs : (oR' c.2.1 m).length = (s.2.1 m).length := by rw [hs']
    have key := ev_part (set := z) (e := e) (q2 s hs).2 cS (by omega) (fun k k1 k2 => row k (by omega)) (by rw [← eq1, ← eq2] at *; exact x5) hz
    have eE : lwEv f z b (b + 2 + 8 * j + 3) (b + 2 + 8 * j + 4) = evRun (lwOp f b) (lwArg f b) z (m + (s.2.1 m).length) 401 (0, m, 0, fun _ => 0) := by
      unfold lwEv
      rw [m3, m4, hs', nI_clamp (by omega), nI_clamp (by omega)]
    rw [eE]
    exact key
  · rw [m5, m6, nI_leI (by omega) (by omega), lc, hn]
    exact Nat.le_refl _
  · have ht' : oR' c.2.2 (m + (oR' c.2.1 m).length) = t.2.1 (m + (oR' c.2.1 m).length) := by rw [ht]; rfl
    have tl := (T t ht).2 (m + (oR' c.2.1 m).length)
    have lct : (oR' c.2.2 (m + (oR' c.2.1 m).length)).length = (t.2.1 (m + (oR' c.2.1 m).length)).length := by rw [ht']
    rw [ht'] at cT
    refine ⟨?_, ?_⟩
    · rw [m5, m6, nI_leI (by omega) (by omega)]
      omega
    · have eE : lwEv f z b (b + 2 + 8 * j + 5) (b + 2 + 8 * j + 6) = evRun (lwOp f b) (lwArg f b) z (m + (oR' c.2.1 m).length + (t.2.1 (m + (oR' c.2.1 m).length)).length) 401 (0, m + (oR' c.2.1 m).length, 0, fun _ => 0) := by
        unfold lwEv
        rw [m5, m6, nI_clamp (by omega), nI_clamp (by omega), lc, lct, Nat.add_assoc]
      rw [eE]
      have eq5 : t2 = m + (oR' c.2.1 m).length + (t.2.1 (m + (oR' c.2.1 m).length)).length := by omega
      rw [eq3, eq5] at y5
      exact ev_part (set := z) (e := e) (q3 t ht).2 cT (by omega) (fun k k1 k2 => row k (by omega)) y5 hz
