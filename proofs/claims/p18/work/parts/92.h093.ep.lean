/-! A LAW'S PART IN THE REFERENCE COMES TO WHAT IT MEANS -/
def eLw (e : Nat → Int) : Nat → Nat → Int := fun op arg => if op = 0 then (arg : Int) else e (op - 1)
theorem lnk_lw {e : Nat → Int} : lnk lwW e (eLw e) := by
  refine ⟨fun v => rfl, fun w hw => ⟨fun mx hm => ?_, fun _ => ?_⟩⟩
  · have : ∀ w ∈ lwW, w.2.2.2 = none := by decide
    rw [this w hw] at hm
    cases hm
  · have : ∀ w ∈ lwW, w.2.2.1 = w.2.1 + 1 := by decide
    unfold eLw
    rw [this w hw, if_neg (by omega), Nat.add_sub_cancel]
theorem ev_part {op arg : Nat → Int32} {set : Nat → Int64} {e : Nat → Int} {code : Nat → Nat × Nat} {a : pA} {n : Nat} (hA : rOk lwW a) (hcode : codeAt code n (a.2.1 n)) (hhi : n + (a.2.1 n).length ≤ 400) (hrow : ∀ k, n ≤ k → k < n + (a.2.1 n).length → op k = nI (code k).1 ∧ arg k = nI (code k).2 ∧ (code k).1 < 5000 ∧ (code k).2 < 5000) (hok : codeOk op arg n (n + (a.2.1 n).length)) (hset : ∀ w, 1 ≤ w → w ≤ 9 → set w = jN (e (w - 1)) ∧ -1000000000 ≤ e (w - 1) ∧ e (w - 1) ≤ 1000000000) : (a.2.2 e = none → (evRun op arg set (n + (a.2.1 n).length) 401 (0, n, 0, fun _ => 0)).2 = 1) ∧ ∀ v, a.2.2 e = some v → evRun op arg set (n + (a.2.1 n).length) 401 (0, n, 0, fun _ => 0) = (jN v, 0) := by
  obtain ⟨d, d0, db, ds⟩ := hok
  have hr := hA code n (n + (a.2.1 n).length) e (eLw e) [] lnk_lw hcode (Nat.le_refl _)
  have key := ev_rEx (code := code) (op := op) (arg := arg) (set := set) (e := eLw e) (lo := n) (hi := n + (a.2.1 n).length) hhi (fun k k1 k2 => ?_) (fun k k1 k2 c20 => ?_) 401 n [] (fun _ => 0) (by omega) (by omega) (Nat.le_refl _) (fun i hi => absurd hi (Nat.not_lt_zero _)) (fun x hx => by cases hx)
  · unfold rRn at hr
    rw [rEx_fuel (n + (a.2.1 n).length - n) 401 n [] (by omega) (by omega)] at hr
    refine ⟨fun hn => key.2 (by rw [hr, hn]), fun v hv => ?_⟩
    rw [hv] at hr
    dsimp only at hr
    rw [rEx_hi _ _ _ (Nat.le_refl _)] at hr
    have := key.1 [v] hr
    exact this
  · obtain ⟨r1, r2, r3, r4⟩ := hrow k k1 k2
    have ot : (op k).toInt = (code k).1 := by rw [r1, nI_toInt (by omega)]
    have e28 : (28 : Int32).toInt = 28 := by decide
    have e29 : (29 : Int32).toInt = 29 := by decide
    have e30 : (30 : Int32).toInt = 30 := by decide
    rcases ds k k1 k2 with ⟨h1, -⟩ | ⟨h1, -⟩ | ⟨h1, -⟩ | ⟨h1, -, -, t, h2, h3, h4, -⟩
    · unfold rg at h1
      exact ⟨r1, r2, by omega, fun c => by omega⟩
    · unfold rg at h1
      exact ⟨r1, r2, by omega, fun c => by omega⟩
    · rw [h1, e28] at ot
      exact ⟨r1, r2, by omega, fun c => by omega⟩
    · have l30 : (code k).1 ≤ 30 := by
        rcases h1 with z | z
        · rw [z, e29] at ot; omega
        · rw [z, e30] at ot; omega
      have et : t = (code k).2 := nI_inj (by omega) (by omega) (h2.symm.trans r2)
      exact ⟨r1, r2, l30, fun _ => ⟨by omega, by omega⟩⟩
  · obtain ⟨r1, r2, r3, r4⟩ := hrow k k1 k2
    have ot : (op k).toInt = (code k).1 := by rw [r1, nI_toInt (by omega)]
    have l9 : (code k).1 ≤ 9 := by
      have e28 : (28 : Int32).toInt = 28 := by decide
      have e29 : (29 : Int32).toInt = 29 := by decide
      have e30 : (30 : Int32).toInt = 30 := by decide
      rcases ds k k1 k2 with ⟨h1, -⟩ | ⟨h1, -⟩ | ⟨h1, -⟩ | ⟨h1, -⟩
      · unfold rg at h1; omega
      · unfold rg at h1; omega
      · rw [h1, e28] at ot; omega
      · rcases h1 with z | z
        · rw [z, e29] at ot; omega
        · rw [z, e30] at ot; omega
    have o0 : op k = 0 ↔ (code k).1 = 0 := by
      rw [r1, show (0 : Int32) = nI 0 from rfl, nI_eq (by omega) (by omega)]
    unfold eLw
    by_cases c : (code k).1 = 0
    · rw [if_pos (o0.mpr c), if_pos c, r2, jN_nI (by omega)]
      exact ⟨rfl, by omega, by omega⟩
    · obtain ⟨s1, s2, s3⟩ := hset (code k).1 (by omega) l9
      rw [if_neg (fun z => c (o0.mp z)), if_neg c, r1, nI_clamp (by omega)]
      exact ⟨s1, s2, s3⟩
