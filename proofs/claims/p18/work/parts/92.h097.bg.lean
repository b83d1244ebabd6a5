/-! WHAT THE REFERENCE'S ROW TELLS IS WHAT THE CLAUSES TELL -/
theorem tell_eq {f : Nat → Int32} {z : Nat → Int64} {cs : List pCl} {e : Nat → Int} {b head : Nat} {w : Int64} (hl : lawOk f b) (hR : lwR f b cs) (hO : okL cs) (hB : okB2 cs) (hz : ∀ w, 1 ≤ w → w ≤ 9 → z w = jN (e (w - 1)) ∧ -1000000000 ≤ e (w - 1) ∧ e (w - 1) ≤ 1000000000) (hh : head < 5) : ∀ c, c ≤ cs.length → tellC f z b (nI head) w c = (match lastN cs head e c with
  | none => w
  | some v => jN v)
  | 0, _ => rfl
  | c + 1, hc => by
    have ih := tell_eq (w := w) hl hR hO hB hz hh c (by omega)
    obtain ⟨p1, p2, p3, p4⟩ := lw_part hl hR hO hB hz (j := c) (by omega)
    have hmem := clA_mem (cs := cs) (n := c) (by omega)
    obtain ⟨q1, -, -, q4⟩ := hO.2.1 _ hmem
    have T := hO.2.2 _ hmem
    rw [tellC, lastN]
    generalize clA cs c = cl at p1 p2 p3 p4 q1 q4 T ⊢
    have eh : f (b + 2 + 8 * c) = nI head ↔ cl.1 = head := by rw [p1, nI_eq (by omega) (by omega)]
    have e3 : (3 : Int32) ≤ nI head ↔ 3 ≤ head := nI_leI (a := 3) (by omega) (by omega)
    have e3' : (3 : Int32) ≤ f (b + 2 + 8 * c) ↔ 3 ≤ cl.1 := by rw [p1]; exact nI_leI (a := 3) (by omega) (by omega)
    have j1 : ¬ jN 1 = 0 := by decide
    -- it does not hold
    have no : (cl.1 = head → isSoV f z b (b + 2 + 8 * c) = 0) → holdC cl head e = none → (if f (b + 2 + 8 * c) = nI head ∧ ¬ isSoV f z b (b + 2 + 8 * c) = 0 then (if 3 ≤ nI head then 1 else (lwEv f z b (b + 2 + 8 * c + 3) (b + 2 + 8 * c + 4)).1) else tellC f z b (nI head) w c) = (match (match holdC cl head e with
      | some v => some v
      | none => lastN cs head e c) with
      | none => w
      | some v => jN v) := by
      intro h1 h2
      rw [if_neg (fun y => y.2 (h1 (eh.mp y.1))), h2]
      exact ih
    by_cases ch : cl.1 = head
    rotate_left
    · exact no (fun y => absurd y ch) (if_neg (fun y => ch y.1))
    -- the test
    by_cases ct : wgV cl.2.2 e = some 1
    rotate_left
    · refine no (fun _ => ?_) (if_neg (fun y => ct y.2))
      cases et : cl.2.2 with
      | none => rw [et] at ct; exact absurd rfl ct
      | some t =>
        obtain ⟨t1, t2⟩ := p4 t et
        rw [et] at ct
        have ct' : ¬ t.2.2 e = some 1 := ct
        unfold isSoV
        refine if_pos ⟨t1, ?_⟩
        cases ev : t.2.2 e with
        | none => exact Or.inl (by rw [t2.1 ev]; decide)
        | some v =>
          rcases (T t et).1 e v ev with rfl | rfl
          · right
            rw [t2.2 0 ev]
            rfl
          · exact absurd ev ct'
    have hno : ¬ (¬ f (b + 2 + 8 * c + 6) ≤ f (b + 2 + 8 * c + 5) ∧ (¬ (lwEv f z b (b + 2 + 8 * c + 5) (b + 2 + 8 * c + 6)).2 = 0 ∨ (lwEv f z b (b + 2 + 8 * c + 5) (b + 2 + 8 * c + 6)).1 = 0)) := by
      rintro ⟨y1, y2⟩
      cases et : cl.2.2 with
      | none => exact y1 (p3 et)
      | some t =>
        rw [et] at ct
        have ct' : t.2.2 e = some 1 := ct
        have := (p4 t et).2.2 1 ct'
        rw [this] at y2
        rcases y2 with y | y
        · exact y rfl
        · exact j1 y
    have so : isSoV f z b (b + 2 + 8 * c) = if 3 ≤ f (b + 2 + 8 * c) then 1 else if (lwEv f z b (b + 2 + 8 * c + 3) (b + 2 + 8 * c + 4)).2 = 0 then 1 else 0 := if_neg hno
    have hd : holdC cl head e = wgV cl.2.1 e := if_pos ⟨ch, ct⟩
    by_cases c3 : 3 ≤ cl.1
    · rw [if_pos (e3'.mpr c3)] at so
      rw [if_pos ⟨eh.mpr ch, by rw [so]; decide⟩, if_pos (e3.mpr (by omega)), hd, q4.mpr c3]
      rfl
    · rw [if_neg (fun y => c3 (e3'.mp y))] at so
      cases es : cl.2.1 with
      | none => exact absurd (q4.mp es) c3
      | some s =>
        have pe := p2 s es
        rw [es] at hd
        cases ev : s.2.2 e with
        | none =>
          refine no (fun _ => ?_) (hd.trans ev)
          rw [so, pe.1 ev]
          exact if_neg (by decide)
        | some v =>
          have pv := pe.2 v ev
          rw [pv] at so ⊢
          rw [if_pos rfl] at so
          rw [if_pos ⟨eh.mpr ch, by rw [so]; decide⟩, if_neg (fun y => c3 (by have := e3.mp y; omega)), hd]
          have : wgV (some s) e = some v := ev
          rw [this]
