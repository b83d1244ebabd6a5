/-! THE REFERENCE RECKONS AS ON PAPER -/
theorem nI_ti {o : Nat} (h : o < 1000) : (nI (o + 18)).toInt = (o : Int) + 18 := by rw [nI_toInt (by omega)]; omega
theorem rk_opD {o : Nat} {x y : Int} (ho : 2 ≤ o ∧ o ≤ 9) (hx : -1100000000 ≤ x ∧ x ≤ 1100000000) (hy : -1100000000 ≤ y ∧ y ≤ 1100000000) : (∀ v, opD o x y = some v → rkB (nI (o + 18)) (jN y) = 0 ∧ rkV (nI (o + 18)) (jN x) (jN y) = jN v ∧ -1000000000 ≤ v ∧ v ≤ 1000000000) ∧ (opD o x y = none → ¬ (rkB (nI (o + 18)) (jN y) = 0 ∧ -1000000000 ≤ (rkV (nI (o + 18)) (jN x) (jN y)).toInt ∧ (rkV (nI (o + 18)) (jN x) (jN y)).toInt ≤ 1000000000)) := by
  have ot := nI_ti (o := o) (by omega)
  have xt : (jN x).toInt = x := jN_i (by omega) (by omega)
  have yt : (jN y).toInt = y := jN_i (by omega) (by omega)
  have yz : jN y = 0 ↔ y = 0 := by rw [show (0 : Int64) = jN 0 from rfl, jN_eq (by omega) (by omega)]
  have m1 : -1210000000000000000 ≤ x * y ∧ x * y ≤ 1210000000000000000 := by
    have h : (x * y).natAbs ≤ 1100000000 * 1100000000 := by
      rw [Int.natAbs_mul]
      exact Nat.mul_le_mul (by omega) (by omega)
    omega
  have ck : ∀ z : Int, (∀ v, ckD z = some v → v = z ∧ -1000000000 ≤ z ∧ z ≤ 1000000000) ∧ (ckD z = none → ¬ (-1000000000 ≤ z ∧ z ≤ 1000000000)) := fun z => by
    unfold ckD
    refine ⟨fun v h => ?_, fun h => ?_⟩
    · split at h
      · cases h
      · cases h; omega
    · split at h
      · omega
      · cases h
  have rb0 : ¬ (o = 5 ∨ o = 6) → rkB (nI (o + 18)) (jN y) = 0 := fun h => by
    unfold rkB
    rw [ot, if_neg (by omega)]
  -- a value that is looked at
  have fin : ∀ (z : Int) (w : Int64), rkV (nI (o + 18)) (jN x) (jN y) = w → w.toInt = z → rkB (nI (o + 18)) (jN y) = 0 → opD o x y = ckD z → (∀ v, opD o x y = some v → rkB (nI (o + 18)) (jN y) = 0 ∧ rkV (nI (o + 18)) (jN x) (jN y) = jN v ∧ -1000000000 ≤ v ∧ v ≤ 1000000000) ∧ (opD o x y = none → ¬ (rkB (nI (o + 18)) (jN y) = 0 ∧ -1000000000 ≤ (rkV (nI (o + 18)) (jN x) (jN y)).toInt ∧ (rkV (nI (o + 18)) (jN x) (jN y)).toInt ≤ 1000000000)) := by
    intro z w h1 h2 h3 h4
    rw [h4, h1, h2]
    refine ⟨fun v hv => ?_, fun hn hh => (ck z).2 hn hh.2⟩
    obtain ⟨e, b1, b2⟩ := (ck z).1 v hv
    subst e
    exact ⟨h3, jN_of h2, b1, b2⟩
  have dz : (o = 5 ∨ o = 6) → y = 0 → (∀ v, opD o x y = some v → rkB (nI (o + 18)) (jN y) = 0 ∧ rkV (nI (o + 18)) (jN x) (jN y) = jN v ∧ -1000000000 ≤ v ∧ v ≤ 1000000000) ∧ (opD o x y = none → ¬ (rkB (nI (o + 18)) (jN y) = 0 ∧ -1000000000 ≤ (rkV (nI (o + 18)) (jN x) (jN y)).toInt ∧ (rkV (nI (o + 18)) (jN x) (jN y)).toInt ≤ 1000000000)) := by
    intro h5 hz
    have e1 : rkB (nI (o + 18)) (jN y) = 1 := by
      unfold rkB
      rw [ot, if_pos ⟨by omega, yz.mpr hz⟩]
    have e2 : opD o x y = none := by
      unfold opD
      rcases h5 with rfl | rfl
      · rw [if_neg (by decide), if_neg (by decide), if_neg (by decide), if_pos rfl, if_pos hz]
      · rw [if_neg (by decide), if_neg (by decide), if_neg (by decide), if_neg (by decide), if_pos rfl, if_pos hz]
    rw [e1, e2]
    exact ⟨fun v hv => (by cases hv), fun _ z => absurd z.1 (by decide)⟩
  have rb5 : ¬ y = 0 → rkB (nI (o + 18)) (jN y) = 0 := fun h => by
    unfold rkB
    rw [if_neg (fun z => h (yz.mp z.2))]
  have td := tdiv_le (x := x) (y := y) hx
  have dv : (jN x / jN y).toInt = x.tdiv y := by rw [Int64.toInt_div, xt, yt, fb_bmodL (by omega) (by omega)]
  have bl : ∀ c : Bool, (∀ v, (some (if c = true then (1 : Int) else 0) : Option Int) = some v → 0 ≤ v ∧ v ≤ 1) := fun c v h => by
    cases h
    cases c <;> decide
  have h29 : o = 2 ∨ o = 3 ∨ o = 4 ∨ o = 5 ∨ o = 6 ∨ o = 7 ∨ o = 8 ∨ o = 9 := by omega
  have ev : rkV (nI (o + 18)) (jN x) (jN y) = (if o = 2 then jN x + jN y else if o = 3 then jN x - jN y else if o = 4 then jN x * jN y else if o = 5 then (if jN y = 0 then 0 else jN x / jN y) else if o = 6 then (if jN y = 0 then 0 else jN x - jN x / jN y * jN y) else if o = 7 then (if jN y ≤ jN x then 0 else 1) else if o = 8 then (if jN x ≤ jN y then 0 else 1) else if jN x = jN y then 1 else 0) := by
    unfold rkV
    rw [ot]
    rcases h29 with rfl | rfl | rfl | rfl | rfl | rfl | rfl | rfl <;> rfl
  rcases h29 with rfl | rfl | rfl | rfl | rfl | rfl | rfl | rfl
  · exact fin (x + y) (jN x + jN y) ev (by rw [fb_addL (by omega) (by omega), xt, yt]) (rb0 (by omega)) rfl
  · exact fin (x - y) (jN x - jN y) ev (by rw [fb_subL (by omega) (by omega), xt, yt]) (rb0 (by omega)) rfl
  · exact fin (x * y) (jN x * jN y) ev (by rw [fb_mulL (by rw [xt, yt]; omega) (by rw [xt, yt]; omega), xt, yt]) (rb0 (by omega)) rfl
  · by_cases hz : y = 0
    · exact dz (Or.inl rfl) hz
    · refine fin (x.tdiv y) (jN x / jN y) (ev.trans (if_neg (fun z => hz (yz.mp z)))) dv (rb5 hz) (if_neg hz)
  · by_cases hz : y = 0
    · exact dz (Or.inr rfl) hz
    · have tm : x.tmod y = x - x.tdiv y * y := by
        have := Int.mul_tdiv_add_tmod x y
        rw [Int.mul_comm] at this
        omega
      have m2 : -1100000000 ≤ x.tdiv y * y ∧ x.tdiv y * y ≤ 1100000000 := by
        have h1 : (x.tdiv y * y).natAbs ≤ x.natAbs := by
          rw [Int.natAbs_mul, Int.natAbs_tdiv]
          exact Nat.div_mul_le_self _ _
        omega
      have mm : (jN x / jN y * jN y).toInt = x.tdiv y * y := by rw [fb_mulL (by rw [dv, yt]; omega) (by rw [dv, yt]; omega), dv, yt]
      refine fin (x.tmod y) (jN x - jN x / jN y * jN y) (ev.trans (if_neg (fun z => hz (yz.mp z)))) ?_ (rb5 hz) (if_neg hz)
      rw [fb_subL (by rw [xt, mm]; omega) (by rw [xt, mm]; omega), xt, mm, tm]
  · have eo : opD 7 x y = some (if x < y then 1 else 0) := rfl
    rw [eo]
    refine ⟨fun v h => ?_, fun h => (by cases h)⟩
    have e2 : rkV (nI (7 + 18)) (jN x) (jN y) = if jN y ≤ jN x then 0 else 1 := ev
    rw [e2]
    cases h
    by_cases c : x < y
    · rw [if_pos c, if_neg (by rw [jN_le (by omega) (by omega)]; omega)]
      exact ⟨rb0 (by omega), rfl, by decide, by decide⟩
    · rw [if_neg c, if_pos (by rw [jN_le (by omega) (by omega)]; omega)]
      exact ⟨rb0 (by omega), rfl, by decide, by decide⟩
  · have eo : opD 8 x y = some (if y < x then 1 else 0) := rfl
    rw [eo]
    refine ⟨fun v h => ?_, fun h => (by cases h)⟩
    have e2 : rkV (nI (8 + 18)) (jN x) (jN y) = if jN x ≤ jN y then 0 else 1 := ev
    rw [e2]
    cases h
    by_cases c : y < x
    · rw [if_pos c, if_neg (by rw [jN_le (by omega) (by omega)]; omega)]
      exact ⟨rb0 (by omega), rfl, by decide, by decide⟩
    · rw [if_neg c, if_pos (by rw [jN_le (by omega) (by omega)]; omega)]
      exact ⟨rb0 (by omega), rfl, by decide, by decide⟩
  · have eo : opD 9 x y = some (if x = y then 1 else 0) := rfl
    rw [eo]
    refine ⟨fun v h => ?_, fun h => (by cases h)⟩
    have e2 : rkV (nI (9 + 18)) (jN x) (jN y) = if jN x = jN y then 1 else 0 := ev
    rw [e2]
    cases h
    by_cases c : x = y
    · rw [if_pos c, if_pos (by rw [jN_eq (by omega) (by omega)]; exact c)]
      exact ⟨rb0 (by omega), rfl, by decide, by decide⟩
    · rw [if_neg c, if_neg (by rw [jN_eq (by omega) (by omega)]; exact c)]
      exact ⟨rb0 (by omega), rfl, by decide, by decide⟩
