/-! WHOM TO LOOK AT -/
def wiN (f : Nat → Int32) (w : Int32) (h : Nat) : Nat → Nat
  | 0 => 0
  | p + 1 => if dB w p = 1 ∧ 1 ≤ leftR f p h then wiN f w h p + 1 else wiN f w h p
def moR (f : Nat → Int32) (w : Int32) (h : Nat) : Nat := if wiN f w h (nPR f) ≤ onesN w 8 - wiN f w h (nPR f) then onesN w 8 - wiN f w h (nPR f) else wiN f w h (nPR f)
/-- the fewest so far, the house -/
def lkS (f : Nat → Int32) (w : Int32) : Nat → Nat × Int
  | 0 => (9, -1)
  | h + 1 => if moR f w h < (lkS f w h).1 then (moR f w h, (h : Int)) else lkS f w h
def spLook (a : Int32) (T : aS) : Int32 := if whoR T.1.1 (nPR T.1.1) = 0 ∨ ¬ (a = 0 ∨ a = 1) then -1 else if (lkS T.1.1 (whoR T.1.1 (nPR T.1.1)) (nHR T.1.1)).2 = -1 ∨ a = 0 then wI (lkS T.1.1 (whoR T.1.1 (nPR T.1.1)) (nHR T.1.1)).2 else nI (lkS T.1.1 (whoR T.1.1 (nPR T.1.1)) (nHR T.1.1)).1
section LK
variable {f : Nat → Int32} {w : Int32} {h : Nat}
theorem onesN_s {a : Int32} {n : Nat} : onesN a (n + 1) = (if dB a n = 1 then onesN a n + 1 else onesN a n) := by
  rw [onesN]
  split <;> rfl
theorem wiN_le : ∀ n, wiN f w h n ≤ onesN w n
  | 0 => Nat.le_refl _
  | n + 1 => by
    have := wiN_le n
    rw [wiN, onesN_s]
    by_cases c : dB w n = 1
    · rw [if_pos c]
      split <;> omega
    · rw [if_neg c, if_neg (fun z => c z.1)]
      exact this
theorem dB_who : ∀ n, n ≤ 8 → ∀ j, j < 8 → (dB (whoR f n) j = 1 ↔ j < n ∧ canR f j = true)
  | 0, _, j, hj => by
    have z : dB 0 j = 0 := by
      have : ∀ j, j < 8 → dB 0 j = 0 := by decide +kernel
      exact this j hj
    rw [whoR, z]
    exact ⟨fun e => absurd e (by decide), fun e => absurd e.1 (Nat.not_lt_zero _)⟩
  | n + 1, hn, j, hj => by
    have ih := dB_who n (by omega) j hj
    rw [whoR]
    by_cases c : canR f n = true
    · rw [if_pos c, dB_or (by omega) hj]
      by_cases e : j = n
      · rw [if_pos e, e]
        exact ⟨fun _ => ⟨by omega, c⟩, fun _ => rfl⟩
      · rw [if_neg e, ih]
        exact ⟨fun z => ⟨by omega, z.2⟩, fun z => ⟨by omega, z.2⟩⟩
    · rw [if_neg c, ih]
      refine ⟨fun z => ⟨by omega, z.2⟩, fun z => ⟨?_, z.2⟩⟩
      by_cases e : j = n
      · exact absurd (e ▸ z.2) c
      · omega
/-- beyond the people no bit stands -/
theorem ones_who {n : Nat} (hn : n ≤ 8) : ∀ m, n ≤ m → m ≤ 8 → onesN (whoR f n) m = onesN (whoR f n) n
  | 0, h1, _ => by rw [show n = 0 by omega]
  | m + 1, h1, h2 => by
    by_cases c : n = m + 1
    · rw [c]
    · rw [onesN_s, if_neg (fun z => by have := ((dB_who n hn m (by omega)).mp z).1; omega)]
      exact ones_who hn m (by omega) (by omega)
theorem moR_le (hw : w = whoR f (nPR f)) (hP : nPR f ≤ 8) : moR f w h ≤ 8 := by
  have h1 := wiN_le (f := f) (w := w) (h := h) (nPR f)
  have h2 := onesN_le (a := w) 8
  have h3 := ones_who (f := f) hP 8 hP (Nat.le_refl _)
  rw [← hw] at h3
  unfold moR
  split <;> omega
theorem lkS_le : ∀ n, (lkS f w n).1 ≤ 9 ∧ -1 ≤ (lkS f w n).2 ∧ (lkS f w n).2 < n
  | 0 => ⟨Nat.le_refl _, Int.le_refl _, by show (-1 : Int) < ((0 : Nat) : Int); decide⟩
  | n + 1 => by
    have := lkS_le n
    rw [lkS]
    split
    · dsimp only; omega
    · omega
theorem lkS_8 (hw : w = whoR f (nPR f)) (hP : nPR f ≤ 8) : ∀ n, 1 ≤ n → (lkS f w n).1 ≤ 8
  | 1, _ => by
    have := moR_le (h := 0) hw hP
    rw [lkS, if_pos (by show moR f w 0 < 9; omega)]
    exact this
  | n + 2, _ => by
    have ih := lkS_8 hw hP (n + 1) (by omega)
    have := moR_le (h := n + 1) hw hP
    rw [lkS]
    split
    · exact this
    · exact ih
end LK
section LKC
variable {Γ : kG} {Φ : kF} {S : hS} {b i : Nat} {ρ : Nat → Nat}
theorem kx_remain {q : Int32 → hS → Prop} {w v : Int32} {hh : Nat} (h : St Γ Φ S) (hb : Γ b = some (8, 8 + 10000 * i, i, 0, ρ)) (hB : rB (sV S b ρ)) (hw : w = whoR (sV S b ρ) (nPR (sV S b ρ))) (ev : v = nI hh) (hh' : (hh : Int) < iR (sV S b ρ) 0) (k : q (nI (moR (sV S b ρ) w hh)) S) : w_X8_remainAtMost q S b w v := by
  have b1 := rB_1 hB
  have e1 : (sV S b ρ 1) = nI (nPR (sV S b ρ)) := by
    apply Int32.toInt_inj.mp
    have : iR (sV S b ρ) 1 = (sV S b ρ 1).toInt := rfl
    unfold nPR
    rw [nI_toInt (by omega)]; omega
  have hP : nPR (sV S b ρ) ≤ 8 := by unfold nPR; omega
  have iP : iR (sV S b ρ) 1 = nPR (sV S b ρ) := by unfold nPR; omega
  have o8 := ones_who (f := sV S b ρ) hP 8 hP (Nat.le_refl _)
  rw [← hw] at o8
  refine loop_m (σ := Nat) (fun t n => w_X8_remainAtMost_b8 q t S b w v (nI (wiN (sV S b ρ) w hh n)) (nI (onesN w n - wiN (sV S b ρ) w hh n)) (nI n)) (fun n => n ≤ nPR (sV S b ρ)) (fun n => nPR (sV S b ρ) - n) ?_ 0 (Nat.zero_le _)
  rintro t n hn ih
  have w1 := wiN_le (f := sV S b ρ) (w := w) (h := hh) n
  have w2 := onesN_le (a := w) n
  rw [w_X8_remainAtMost_b8]
  refine V_gI_4 h hb (fun r => ?_)
  rw [e1, nI_leI (by omega) (by omega)]
  have lb : ∀ m m' : Nat, m' = wiN (sV S b ρ) w hh (n + 1) → m = onesN w (n + 1) - wiN (sV S b ρ) w hh (n + 1) → n < nPR (sV S b ρ) → w_X8_remainAtMost_b46 q (fun S v0 v1 v2 v3 v4 v5 => w_X8_remainAtMost_b8 q t S v0 v1 v2 v3 v4 v5) S b w v (nI m') (nI m) (nI n) := by
    intro m m' e e' hl y ey
    rw [ey, nI_1, e, e']
    exact ih (n + 1) (by omega) (by omega)
  refine ⟨fun c => ?_, fun c => kx_hasBit (by omega) rfl (fun cb => ⟨fun z => absurd z (by decide), fun _ => T_oK_8 h hb (kx_leftOf h hb hB rfl ev (by omega) hh' (fun r er => ⟨fun cl y ey => ?_, fun cl y ey => ?_⟩))⟩) (fun cb => ⟨fun _ => ?_, fun z => absurd rfl z⟩)⟩
  · have en : n = nPR (sV S b ρ) := by omega
    have e : (if nI (wiN (sV S b ρ) w hh n) < nI (onesN w n - wiN (sV S b ρ) w hh n) then nI (onesN w n - wiN (sV S b ρ) w hh n) else nI (wiN (sV S b ρ) w hh n)) = nI (moR (sV S b ρ) w hh) := by
      have w1' : wiN (sV S b ρ) w hh (nPR (sV S b ρ)) ≤ onesN w (nPR (sV S b ρ)) := by rw [← en]; exact w1
      have w2' : onesN w (nPR (sV S b ρ)) ≤ 8 := by rw [← en]; omega
      unfold moR
      rw [o8, en]
      by_cases cc : wiN (sV S b ρ) w hh (nPR (sV S b ρ)) < onesN w (nPR (sV S b ρ)) - wiN (sV S b ρ) w hh (nPR (sV S b ρ))
      · rw [if_pos (by rw [Int32.lt_iff_toInt_lt, nI_toInt (by omega), nI_toInt (by omega)]; omega), if_pos (by omega)]
      · rw [if_neg (by rw [Int32.lt_iff_toInt_lt, nI_toInt (by omega), nI_toInt (by omega)]; omega)]
        by_cases ce : wiN (sV S b ρ) w hh (nPR (sV S b ρ)) ≤ onesN w (nPR (sV S b ρ)) - wiN (sV S b ρ) w hh (nPR (sV S b ρ))
        · rw [if_pos ce, show onesN w (nPR (sV S b ρ)) - wiN (sV S b ρ) w hh (nPR (sV S b ρ)) = wiN (sV S b ρ) w hh (nPR (sV S b ρ)) by omega]
        · rw [if_neg ce]
    rw [e]
    exact k
  · rw [Int32.lt_iff_toInt_lt, er, show (1 : Int32).toInt = 1 by decide] at cl
    rw [ey, nI_1]
    have e1' : wiN (sV S b ρ) w hh (n + 1) = wiN (sV S b ρ) w hh n := by rw [wiN, if_neg (fun z => by omega)]
    exact lb _ _ (by rw [e1']) (by rw [e1', onesN_s, if_pos cb]; omega) (by omega)
  · rw [Int32.lt_iff_toInt_lt, er, show (1 : Int32).toInt = 1 by decide] at cl
    rw [ey, nI_1]
    have e1' : wiN (sV S b ρ) w hh (n + 1) = wiN (sV S b ρ) w hh n + 1 := by rw [wiN, if_pos ⟨cb, by omega⟩]
    exact lb _ _ (by rw [e1']) (by rw [e1', onesN_s, if_pos cb]; omega) (by omega)
  · have e1' : wiN (sV S b ρ) w hh (n + 1) = wiN (sV S b ρ) w hh n := by rw [wiN, if_neg (fun z => cb z.1)]
    exact lb _ _ (by rw [e1']) (by rw [e1', onesN_s, if_neg cb]) (by omega)
end LKC
