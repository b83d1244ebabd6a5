/-! THE REFERENCE'S RUN OF A CODE IS THE MACHINE ON PAPER -/
section EW
variable {code : Nat → Nat × Nat} {op arg : Nat → Int32} {set : Nat → Int64} {e : Nat → Nat → Int} {lo hi : Nat}
theorem jN_1m {x : Int} (hx : -1100000000 ≤ x ∧ x ≤ 1100000000) : 1 - jN x = jN (1 - x) := by
  rw [show (1 : Int64) = jN 1 from rfl]
  exact jN_sub (by omega) (by omega)
theorem getD_top {st : List Int} {x : Int} {r : Nat → Int64} (h : ∀ i, (hi : i < (x :: st).length) → r ((x :: st).length - 1 - i) = jN (x :: st)[i]) : r st.length = jN x ∧ ∀ i, (hi : i < st.length) → r (st.length - 1 - i) = jN st[i] := by
  refine ⟨?_, fun i hi => ?_⟩
  · have := h 0 (by rw [List.length_cons]; omega)
    have e : (x :: st).length - 1 - 0 = st.length := by rw [List.length_cons]; omega
    rw [e] at this
    exact this
  · have := h (i + 1) (by rw [List.length_cons]; omega)
    have e : (x :: st).length - 1 - (i + 1) = st.length - 1 - i := by rw [List.length_cons]; omega
    rw [e] at this
    exact this
theorem rel_push {st : List Int} {v : Int} {r : Nat → Int64} (h : ∀ i, (hi : i < st.length) → r (st.length - 1 - i) = jN st[i]) : ∀ i, (hi : i < (v :: st).length) → vp_updL r st.length (jN v) ((v :: st).length - 1 - i) = jN (v :: st)[i] := by
  intro i hi
  have hl : (v :: st).length = st.length + 1 := List.length_cons
  cases i with
  | zero =>
    rw [show (v :: st).length - 1 - 0 = st.length by omega, updL_self]
    rfl
  | succ i =>
    rw [updL_ne _ _ (by omega), show (v :: st).length - 1 - (i + 1) = st.length - 1 - i by omega]
    exact h i (by omega)
theorem ev_rEx (hhi : hi ≤ 400) (hc : ∀ k, lo ≤ k → k < hi → op k = nI (code k).1 ∧ arg k = nI (code k).2 ∧ (code k).1 ≤ 30 ∧ (29 ≤ (code k).1 → k < (code k).2 ∧ (code k).2 ≤ hi)) (hl : ∀ k, lo ≤ k → k < hi → (code k).1 < 20 → (if op k = 0 then (arg k).toInt64 else set (op k).toNatClampNeg) = jN (e (code k).1 (code k).2) ∧ -1000000000 ≤ e (code k).1 (code k).2 ∧ e (code k).1 (code k).2 ≤ 1000000000) : ∀ (f k : Nat) (st : List Int) (r : Nat → Int64), hi + 1 ≤ f + k → k ≤ hi → lo ≤ k → (∀ i, (h : i < st.length) → r (st.length - 1 - i) = jN st[i]) → (∀ x ∈ st, -(1000000000 + k : Int) ≤ x ∧ x ≤ 1000000000 + k) → (∀ st', rEx code e hi f k st = some (some st') → evRun op arg set hi f (st.length, k, 0, r) = (if 0 < st'.length then jN (st'.getD (st'.length - 1) 0) else 0, 0)) ∧ (rEx code e hi f k st = some none → (evRun op arg set hi f (st.length, k, 0, r)).2 = 1)
  | 0, k, st, r, hf, hk, _, _, _ => by omega
  | f + 1, k, st, r, hf, hk, hlo, hr, hb => by
    rw [rEx_s]
    unfold rSt
    have eR : evRun op arg set hi (f + 1) (st.length, k, 0, r) = if hi ≤ k ∨ ¬ (0 : Int32) = 0 then (if 0 < st.length then r 0 else 0, 0) else evRun op arg set hi f (evStep (op k) (arg k) set st.length k r) := rfl
    rw [eR]
    by_cases c : hi ≤ k
    · rw [if_pos c, if_pos (Or.inl c)]
      refine ⟨fun st' h => ?_, fun h => (by cases h)⟩
      cases h
      by_cases z : 0 < st.length
      · rw [if_pos z, if_pos z]
        have := hr (st.length - 1) (by omega)
        rw [show st.length - 1 - (st.length - 1) = 0 by omega] at this
        rw [this, List.getD_eq_getElem?_getD, List.getElem?_eq_getElem (by omega)]
        rfl
      · rw [if_neg z, if_neg z]
    · rw [if_neg c, if_neg (show ¬ (hi ≤ k ∨ ¬ (0 : Int32) = 0) from fun z => z.elim c (fun y => y rfl))]
      obtain ⟨h1, h2, h3, h4⟩ := hc k hlo (by omega)
      have hop : (op k).toInt = (code k).1 := by rw [h1, nI_toInt (by omega)]
      have mono : ∀ k', k < k' → ∀ l : List Int, (∀ x ∈ l, -(1000000000 + k : Int) - 1 ≤ x ∧ x ≤ 1000000000 + k + 1) → ∀ x ∈ l, -(1000000000 + k' : Int) ≤ x ∧ x ≤ 1000000000 + k' := fun k' hk' l hl' x hx => by
        have := hl' x hx
        omega
      by_cases c20 : (code k).1 < 20
      · rw [if_pos c20]
        obtain ⟨l1, l2, l3⟩ := hl k hlo (by omega) c20
        have es : evStep (op k) (arg k) set st.length k r = (st.length + 1, k + 1, 0, vp_updL r st.length (jN (e (code k).1 (code k).2))) := by
          unfold evStep
          rw [if_pos (by omega), l1]
        rw [es]
        exact ev_rEx hhi hc hl f (k + 1) (e (code k).1 (code k).2 :: st) _ (by omega) (by omega) (by omega) (rel_push hr) (mono _ (by omega) _ (fun x hx => by
          rcases List.mem_cons.mp hx with z | z
          · rw [z]; omega
          · have := hb x z; omega))
      · rw [if_neg c20]
        cases st with
        | nil => exact ⟨fun st' h => (by cases h), fun h => (by cases h)⟩
        | cons x st1 =>
          obtain ⟨r0, r1⟩ := getD_top hr
          have bx := hb x (List.mem_cons_self ..)
          dsimp only
          rw [List.length_cons]
          by_cases c28 : (code k).1 = 28
          · rw [if_pos c28]
            have e28 : op k = 28 := by rw [h1, c28]; rfl
            have es : evStep (op k) (arg k) set (st1.length + 1) k r = (st1.length + 1, k + 1, 0, vp_updL r st1.length (jN (1 - x))) := by
              unfold evStep
              rw [if_neg (by omega), if_neg (by omega), if_pos e28, Nat.add_sub_cancel, r0, jN_1m (by omega)]
            rw [es]
            exact ev_rEx hhi hc hl f (k + 1) ((1 - x) :: st1) _ (by omega) (by omega) (by omega) (rel_push r1) (mono _ (by omega) _ (fun y hy => by
              rcases List.mem_cons.mp hy with z | z
              · rw [z]; omega
              · have := hb y (List.mem_cons_of_mem _ z); omega))
          · rw [if_neg c28]
            have n28 : ¬ op k = 28 := fun z => c28 (by have := congrArg Int32.toInt z; rw [hop, show Int32.toInt 28 = 28 by decide] at this; omega)
            by_cases c29 : 29 ≤ (code k).1
            · rw [if_pos c29]
              obtain ⟨t1, t2⟩ := h4 c29
              have o29 : op k = 29 ↔ (code k).1 = 29 := by
                rw [← Int32.toInt_inj, hop, show Int32.toInt 29 = 29 by decide]
                omega
              have ex : (r st1.length = (if op k = 29 then 0 else 1)) ↔ x = (if (code k).1 = 29 then 0 else 1) := by
                rw [r0]
                by_cases z : (code k).1 = 29
                · rw [if_pos z, if_pos (o29.mpr z), show (0 : Int64) = jN 0 from rfl, jN_eq (by omega) (by omega)]
                · rw [if_neg z, if_neg (fun y => z (o29.mp y)), show (1 : Int64) = jN 1 from rfl, jN_eq (by omega) (by omega)]
              by_cases z : x = (if (code k).1 = 29 then 0 else 1)
              · rw [if_pos z]
                have es : evStep (op k) (arg k) set (st1.length + 1) k r = (st1.length + 1, (code k).2, 0, r) := by
                  unfold evStep
                  rw [if_neg (by omega), if_neg (by omega), if_neg n28, Nat.add_sub_cancel, if_pos (ex.mpr z), h2, nI_clamp (by omega)]
                rw [es, show max (k + 1) (code k).2 = (code k).2 by omega]
                exact ev_rEx hhi hc hl f (code k).2 (x :: st1) r (by omega) (by omega) (by omega) hr (mono _ (by omega) _ (fun y hy => by have := hb y hy; omega))
              · rw [if_neg z]
                have es : evStep (op k) (arg k) set (st1.length + 1) k r = (st1.length, k + 1, 0, r) := by
                  unfold evStep
                  rw [if_neg (by omega), if_neg (by omega), if_neg n28, Nat.add_sub_cancel, if_neg (fun y => z (ex.mp y))]
                rw [es]
                exact ev_rEx hhi hc hl f (k + 1) st1 r (by omega) (by omega) (by omega) r1 (mono _ (by omega) _ (fun y hy => by have := hb y (List.mem_cons_of_mem _ hy); omega))
            · rw [if_neg c29]
              cases st1 with
              | nil => exact ⟨fun st' h => (by cases h), fun h => (by cases h)⟩
              | cons y st2 =>
                obtain ⟨r2, r3⟩ := getD_top r1
                have by' := hb y (List.mem_cons_of_mem _ (List.mem_cons_self ..))
                rw [List.length_cons] at r0 ⊢
                dsimp only
                have ho : op k = nI ((code k).1 - 18 + 18) := by rw [h1, show (code k).1 - 18 + 18 = (code k).1 by omega]
                obtain ⟨d1, d2⟩ := rk_opD (o := (code k).1 - 18) (x := y) (y := x) (by omega) (by omega) (by omega)
                rw [← ho] at d1 d2
                have es : evStep (op k) (arg k) set (st2.length + 1 + 1) k r = (st2.length + 1, k + 1, (if rkB (op k) (jN x) = 0 ∧ -1000000000 ≤ (rkV (op k) (jN y) (jN x)).toInt ∧ (rkV (op k) (jN y) (jN x)).toInt ≤ 1000000000 then 0 else 1), vp_updL r st2.length (rkV (op k) (jN y) (jN x))) := by
                  unfold evStep
                  rw [if_neg (by omega), if_pos (by omega), show st2.length + 1 + 1 - 1 = st2.length + 1 by omega, show st2.length + 1 + 1 - 2 = st2.length by omega, r0, r2]
                rw [es]
                cases ed : opD ((code k).1 - 18) y x with
                | none =>
                  dsimp only
                  rw [if_neg (d2 ed)]
                  refine ⟨fun st' h => (by cases h), fun _ => ?_⟩
                  obtain ⟨f', rfl⟩ : ∃ f', f = f' + 1 := ⟨f - 1, by omega⟩
                  rw [evRun, if_pos (Or.inr (by dsimp only; decide))]
                | some v =>
                  dsimp only
                  obtain ⟨v1, v2, v3, v4⟩ := d1 v ed
                  rw [v2, if_pos ⟨v1, by rw [jN_i (by omega) (by omega)]; exact v3, by rw [jN_i (by omega) (by omega)]; exact v4⟩]
                  exact ev_rEx hhi hc hl f (k + 1) (v :: st2) _ (by omega) (by omega) (by omega) (rel_push r3) (mono _ (by omega) _ (fun w hw => by
                    rcases List.mem_cons.mp hw with z | z
                    · rw [z]; omega
                    · have := hb w (List.mem_cons_of_mem _ (List.mem_cons_of_mem _ z)); omega))
end EW
