/-! DEEDS ON A ROW -/
def nHR (f : Nat → Int32) : Nat := (iR f 0).toNat
def nPR (f : Nat → Int32) : Nat := (iR f 1).toNat
def liveR (f : Nat → Int32) (p : Nat) : Bool := decide (iR f (22 + p) = 0)
def ringF (f : Nat → Int32) (cs : List pCl) (p h : Nat) : Nat → Int32 := upd (upd f (78 + 6 * p + h) (wI (iR f (78 + 6 * p + h) + 1))) (8 + h) (wI (min (iR f (8 + h) + tiresR f cs p h) 99))
def canBuyR (f : Nat → Int32) (cs : List pCl) (p o h : Nat) : Bool := liveR f p && liveR f o && decide (iR f (30 + 6 * o + h) < 99) && !barredR f cs p o h && decide (costsR f cs p o h ≤ iR f (14 + o))
def sellF (f : Nat → Int32) (cs : List pCl) (p o h : Nat) : Nat → Int32 := upd (upd (upd (upd f (30 + 6 * p + h) (wI (iR f (30 + 6 * p + h) - 1))) (30 + 6 * o + h) (wI (iR f (30 + 6 * o + h) + 1))) (14 + o) (wI (iR f (14 + o) - costsR f cs p o h))) (14 + p) (wI (min (iR f (14 + p) + costsR f cs p o h) 999))
def heirB (f : Nat → Int32) (p o : Nat) : Bool := decide (dB (f (162 + p)) o = 1) && liveR f o && decide ((o : Int) < iR f 1)
def rankR (f : Nat → Int32) (p : Nat) : Nat → Nat
  | 0 => 0
  | o + 1 => rankR f p o + if heirB f p o = true then 1 else 0
def manyR (f : Nat → Int32) (p : Nat) : Nat := rankR f p (nPR f)
def ownR (f : Nat → Int32) (p h : Nat) : Nat := (iR f (30 + 6 * p + h)).toNat
def shareR (f : Nat → Int32) (p h o : Nat) : Nat := ownR f p h / manyR f p + if rankR f p o < ownR f p h % manyR f p then 1 else 0
def gotR (f : Nat → Int32) (p h o : Nat) : Int32 := wI (min (iR f (30 + 6 * o + h) + shareR f p h o) 99)
/-- the houses below n are divided -/
def dieH (f : Nat → Int32) (p n : Nat) : Nat → Int32 := fun i => if 30 ≤ i ∧ i < 78 ∧ (i - 30) % 6 < n then (if (i - 30) / 6 = p then 0 else if heirB f p ((i - 30) / 6) = true then gotR f p ((i - 30) % 6) ((i - 30) / 6) else f i) else if 78 ≤ i ∧ i < 126 ∧ (i - 78) % 6 < n ∧ (i - 78) / 6 = p then 0 else f i
def dieF (f : Nat → Int32) (p : Nat) : Nat → Int32 := upd (dieH f p (nHR f)) (22 + p) 1
def passF (f : Nat → Int32) : Nat → Int32 := fun i => if i = 5 then wI (iR f 5 + 1) else if 8 ≤ i ∧ i < 14 then 0 else if 78 ≤ i ∧ i < 126 then 0 else f i
section DR
variable {f : Nat → Int32} {cs : List pCl} {p o h : Nat}
theorem toldL_in {k : Nat} {e : Nat → Int} (hk : k ≤ 2) : 0 ≤ toldL cs k e ∧ toldL cs k e ≤ mstK k := by
  have hm : (mstK k : Int) = 20 ∨ (mstK k : Int) = 999 ∨ (mstK k : Int) = 99 := by
    have : k = 0 ∨ k = 1 ∨ k = 2 := by omega
    rcases this with rfl | rfl | rfl
    · exact Or.inl rfl
    · exact Or.inr (Or.inl rfl)
    · exact Or.inr (Or.inr rfl)
  unfold toldL clI
  split
  · omega
  · split <;> omega
theorem tires_in : 0 ≤ tiresR f cs p h ∧ tiresR f cs p h ≤ 20 := toldL_in (k := 0) (by omega)
theorem costs_in : 0 ≤ costsR f cs p o h ∧ costsR f cs p o h ≤ 999 := toldL_in (k := 1) (by omega)
theorem worth_in {y : Int} : 0 ≤ worthR f cs h y ∧ worthR f cs h y ≤ 99 := toldL_in (k := 2) (by omega)
theorem iR_upd {i j : Nat} {x : Int32} : iR (upd f i x) j = if j = i then x.toInt else iR f j := by
  unfold iR upd
  split <;> rfl
theorem iR_ne {i j : Nat} {x : Int32} (hj : j ≠ i) : iR (upd f i x) j = iR f j := by rw [iR_upd, if_neg hj]
theorem iR_s {i : Nat} {x : Int32} : iR (upd f i x) i = x.toInt := by rw [iR_upd, if_pos rfl]
/-- one place changed, within its bounds -/
theorem rB_set (hB : rB f) {i : Nat} {x : Int32} (hi : 5 ≤ i ∧ i < 162) (hb : rLo i ≤ x.toInt ∧ x.toInt ≤ rHi i) (hr : 30 ≤ i → i < 78 → iR f (i + 48) ≤ x.toInt) (hu : 78 ≤ i → i < 126 → x.toInt ≤ iR f (i - 48)) : rB (upd f i x) := by
  obtain ⟨h1, h2, h3, h4, h5, h6⟩ := hB
  refine ⟨fun j hj => ?_, ?_, fun k hk => ?_, fun q hq => ?_, fun j hj => ?_, fun q hq => ?_⟩
  · rw [iR_upd]
    split
    · rename_i e; rw [e]; exact hb
    · exact h1 j hj
  · rw [iR_ne (by omega), iR_ne (by omega)]; exact h2
  · rw [iR_ne (by omega)]; exact h3 k hk
  · rw [iR_upd]
    split
    · rename_i e
      have : rHi i = 5 := by
        rw [← e]
        have : ∀ q, q < 8 → rHi (154 + q) = 5 := by decide
        exact this q hq
      omega
    · exact h4 q hq
  · have := h5 j hj
    rw [iR_upd, iR_upd]
    split
    · rename_i e
      rw [if_neg (by omega)]
      have := hu (by omega) (by omega)
      rw [show i - 48 = 30 + j by omega] at this
      exact this
    · split
      · rename_i e1 e
        have := hr (by omega) (by omega)
        rw [show i + 48 = 78 + j by omega] at this
        exact this
      · exact this
  · rw [upd_ne _ _ (by omega)]; exact h6 q hq
theorem hi_u {j : Nat} (hj : 78 ≤ j ∧ j < 126) : rLo j = 0 ∧ rHi j = 99 := by
  have : ∀ j, j < 126 → 78 ≤ j → rLo j = 0 ∧ rHi j = 99 := by decide
  exact this j hj.2 hj.1
theorem hi_r {j : Nat} (hj : 30 ≤ j ∧ j < 78) : rLo j = 0 ∧ rHi j = 99 := by
  have : ∀ j, j < 78 → 30 ≤ j → rLo j = 0 ∧ rHi j = 99 := by decide
  exact this j hj.2 hj.1
theorem hi_w {j : Nat} (hj : 8 ≤ j ∧ j < 14) : rLo j = 0 ∧ rHi j = 99 := by
  have : ∀ j, j < 14 → 8 ≤ j → rLo j = 0 ∧ rHi j = 99 := by decide
  exact this j hj.2 hj.1
theorem hi_m {j : Nat} (hj : 14 ≤ j ∧ j < 22) : rLo j = 0 ∧ rHi j = 999 := by
  have : ∀ j, j < 22 → 14 ≤ j → rLo j = 0 ∧ rHi j = 999 := by decide
  exact this j hj.2 hj.1
theorem hi_d {j : Nat} (hj : 22 ≤ j ∧ j < 30) : rLo j = 0 ∧ rHi j = 1 := by
  have : ∀ j, j < 30 → 22 ≤ j → rLo j = 0 ∧ rHi j = 1 := by decide
  exact this j hj.2 hj.1
theorem rB_ring (hB : rB f) (hp : p < 8) (hh : h < 6) (hl : 1 ≤ leftR f p h) : rB (ringF f cs p h) := by
  have u := rB_u hB (j := 6 * p + h) (by omega)
  have r := rB_r hB (j := 6 * p + h) (by omega)
  have w := rB_w hB hh
  have t := tires_in (f := f) (cs := cs) (p := p) (h := h)
  unfold leftR at hl
  rw [show 78 + (6 * p + h) = 78 + 6 * p + h by omega] at u
  rw [show 30 + (6 * p + h) = 30 + 6 * p + h by omega] at r
  have e1 : (wI (iR f (78 + 6 * p + h) + 1)).toInt = iR f (78 + 6 * p + h) + 1 := wI_i (by omega)
  have e2 : (wI (min (iR f (8 + h) + tiresR f cs p h) 99)).toInt = min (iR f (8 + h) + tiresR f cs p h) 99 := wI_i (by omega)
  have l1 := hi_u (j := 78 + 6 * p + h) (by omega)
  have l2 := hi_w (j := 8 + h) (by omega)
  refine rB_set (rB_set hB (by omega) (by rw [e1]; omega) (fun _ _ => by omega) (fun _ _ => ?_)) (by omega) (by rw [e2]; omega) (fun _ _ => by omega) (fun _ _ => by omega)
  rw [e1, show 78 + 6 * p + h - 48 = 30 + 6 * p + h by omega]
  omega
theorem rB_sell (hB : rB f) (hp : p < 8) (ho : o < 8) (hh : h < 6) (hpo : p ≠ o) (hl : 1 ≤ leftR f p h) (hc : canBuyR f cs p o h = true) : rB (sellF f cs p o h) := by
  have r1 := rB_r hB (j := 6 * p + h) (by omega)
  have r2 := rB_r hB (j := 6 * o + h) (by omega)
  have u1 := rB_u hB (j := 6 * p + h) (by omega)
  have c1 := hB.2.2.2.2.1 (6 * o + h) (by omega)
  have m1 := rB_m hB hp
  have m2 := rB_m hB ho
  have t := costs_in (f := f) (cs := cs) (p := p) (o := o) (h := h)
  unfold leftR at hl
  unfold canBuyR at hc
  simp only [Bool.and_eq_true, decide_eq_true_eq] at hc
  rw [show 30 + (6 * p + h) = 30 + 6 * p + h by omega] at r1
  rw [show 30 + (6 * o + h) = 30 + 6 * o + h by omega] at r2 c1
  rw [show 78 + (6 * p + h) = 78 + 6 * p + h by omega] at u1
  rw [show 78 + (6 * o + h) = 78 + 6 * o + h by omega] at c1
  have e1 : (wI (iR f (30 + 6 * p + h) - 1)).toInt = iR f (30 + 6 * p + h) - 1 := wI_i (by omega)
  have e2 : (wI (iR f (30 + 6 * o + h) + 1)).toInt = iR f (30 + 6 * o + h) + 1 := wI_i (by omega)
  have e3 : (wI (iR f (14 + o) - costsR f cs p o h)).toInt = iR f (14 + o) - costsR f cs p o h := wI_i (by omega)
  have e4 : (wI (min (iR f (14 + p) + costsR f cs p o h) 999)).toInt = min (iR f (14 + p) + costsR f cs p o h) 999 := wI_i (by omega)
  have l1 := hi_r (j := 30 + 6 * p + h) (by omega)
  have l2 := hi_r (j := 30 + 6 * o + h) (by omega)
  have l3 := hi_m (j := 14 + o) (by omega)
  have l4 := hi_m (j := 14 + p) (by omega)
  refine rB_set (rB_set (rB_set (rB_set hB (by omega) (by rw [e1]; omega) (fun _ _ => ?_) (fun _ _ => by omega)) (by omega) (by rw [e2]; omega) (fun _ _ => ?_) (fun _ _ => by omega)) (by omega) (by rw [e3]; omega) (fun _ _ => by omega) (fun _ _ => by omega)) (by omega) (by rw [e4]; omega) (fun _ _ => by omega) (fun _ _ => by omega)
  · rw [e1, show 30 + 6 * p + h + 48 = 78 + 6 * p + h by omega]
    omega
  · rw [e2, iR_ne (by omega), show 30 + 6 * o + h + 48 = 78 + 6 * o + h by omega]
    omega
theorem iR_fn {g : Nat → Int32} {i : Nat} : iR g i = (g i).toInt := rfl
theorem rank_le (o : Nat) : rankR f p o ≤ o := by
  induction o with
  | zero => exact Nat.le_refl _
  | succ o ih =>
    rw [rankR]
    split <;> omega
theorem rank_mono {o o' : Nat} (h : o ≤ o') : rankR f p o ≤ rankR f p o' := by
  induction o' with
  | zero => rw [show o = 0 by omega]; exact Nat.le_refl _
  | succ n ih =>
    by_cases c : o = n + 1
    · rw [c]; exact Nat.le_refl _
    · have := ih (by omega)
      rw [rankR]
      omega
theorem heir_lt {o : Nat} (hB : rB f) (h : heirB f p o = true) : (o : Int) < iR f 1 ∧ rankR f p o < manyR f p := by
  unfold heirB at h
  simp only [Bool.and_eq_true, decide_eq_true_eq] at h
  have b := rB_1 hB
  refine ⟨h.2, ?_⟩
  have h' : heirB f p o = true := by unfold heirB; simp only [Bool.and_eq_true, decide_eq_true_eq]; exact h
  have h1 : rankR f p (o + 1) = rankR f p o + 1 := by rw [rankR, if_pos h']
  have h2 : rankR f p (o + 1) ≤ manyR f p := rank_mono (by unfold nPR; omega)
  omega
theorem rB_die (hB : rB f) (hp : p < 8) : rB (dieF f p) := by
  have hd : rB (dieH f p (nHR f)) := by
    obtain ⟨h1, h2, h3, h4, h5, h6⟩ := id hB
    have out : ∀ i, ¬ (30 ≤ i ∧ i < 126) → dieH f p (nHR f) i = f i := by
      intro i hi
      unfold dieH
      rw [if_neg (by omega), if_neg (by omega)]
    have outI : ∀ i, ¬ (30 ≤ i ∧ i < 126) → iR (dieH f p (nHR f)) i = iR f i := fun i hi => by unfold iR; rw [out i hi]
    have got : ∀ j, j < 48 → heirB f p (j / 6) = true → (gotR f p (j % 6) (j / 6)).toInt = min (iR f (30 + j) + shareR f p (j % 6) (j / 6)) 99 ∧ iR f (30 + j) ≤ (gotR f p (j % 6) (j / 6)).toInt ∧ (gotR f p (j % 6) (j / 6)).toInt ≤ 99 := by
      intro j hj hh
      have r := rB_r hB hj
      have ro := rB_r hB (j := 6 * p + j % 6) (by omega)
      rw [show 30 + (6 * p + j % 6) = 30 + 6 * p + j % 6 by omega] at ro
      have sh : shareR f p (j % 6) (j / 6) ≤ 1000 := by
        unfold shareR ownR
        have : (iR f (30 + 6 * p + j % 6)).toNat / manyR f p ≤ (iR f (30 + 6 * p + j % 6)).toNat := Nat.div_le_self _ _
        split <;> omega
      unfold gotR
      rw [show 30 + 6 * (j / 6) + j % 6 = 30 + j by omega]
      have e : (wI (min (iR f (30 + j) + (shareR f p (j % 6) (j / 6) : Nat)) 99)).toInt = min (iR f (30 + j) + (shareR f p (j % 6) (j / 6) : Nat)) 99 := wI_i (by omega)
      rw [e]
      omega
    refine ⟨fun j hj => ?_, ?_, fun k hk => ?_, fun q hq => ?_, fun j hj => ?_, fun q hq => ?_⟩
    · by_cases c : 30 ≤ j ∧ j < 126
      · have lo : rLo j = 0 ∧ rHi j = 99 := by
          by_cases c2 : j < 78
          · exact hi_r ⟨c.1, c2⟩
          · exact hi_u ⟨by omega, c.2⟩
        have hj' := h1 j hj
        rw [lo.1, lo.2] at hj' ⊢
        unfold iR dieH
        split
        · split
          · rw [z0I]; omega
          · split
            · rename_i a1 a2 a3
              have := got (j - 30) (by omega) a3
              have r := rB_r hB (j := j - 30) (by omega)
              omega
            · exact hj'
        · split
          · rw [z0I]; omega
          · exact hj'
      · rw [outI j c]; exact h1 j hj
    · rw [outI 4 (by omega), outI 3 (by omega)]; exact h2
    · rw [outI _ (by omega)]; exact h3 k hk
    · rw [outI _ (by omega)]; exact h4 q hq
    · have a := h5 j hj
      have r := rB_r hB hj
      have u := rB_u hB hj
      have eR : iR (dieH f p (nHR f)) (30 + j) = if j % 6 < nHR f then (if j / 6 = p then 0 else if heirB f p (j / 6) = true then (gotR f p (j % 6) (j / 6)).toInt else iR f (30 + j)) else iR f (30 + j) := by
        unfold iR dieH
        rw [show 30 + j - 30 = j by omega]
        by_cases c : j % 6 < nHR f
        · rw [if_pos (by omega), if_pos c]
          split
          · exact z0I
          · split <;> rfl
        · rw [if_neg (by omega), if_neg (by omega), if_neg c]
      have eU : iR (dieH f p (nHR f)) (78 + j) = if j % 6 < nHR f ∧ j / 6 = p then 0 else iR f (78 + j) := by
        unfold iR dieH
        rw [if_neg (by omega), show 78 + j - 78 = j by omega]
        by_cases c : j % 6 < nHR f ∧ j / 6 = p
        · rw [if_pos (by omega), if_pos c]; exact z0I
        · rw [if_neg (by omega), if_neg c]
      rw [eR, eU]
      by_cases c1 : j % 6 < nHR f
      · rw [if_pos c1]
        by_cases c2 : j / 6 = p
        · rw [if_pos c2, if_pos ⟨c1, c2⟩]; omega
        · rw [if_neg c2, if_neg (fun z => c2 z.2)]
          split
          · rename_i c3
            have := got j hj c3
            omega
          · exact a
      · rw [if_neg c1, if_neg (fun z => c1 z.1)]; exact a
    · rw [out _ (by omega)]; exact h6 q hq
  have l := hi_d (j := 22 + p) (by omega)
  exact rB_set hd (by omega) (by rw [show (1 : Int32).toInt = 1 by decide]; omega) (fun _ _ => by omega) (fun _ _ => by omega)
theorem rB_pass (hB : rB f) (hy : iR f 5 < 999) : rB (passF f) := by
  obtain ⟨h1, h2, h3, h4, h5, h6⟩ := id hB
  have y5 := h1 5 (by omega)
  rw [show rLo 5 = 0 by decide, show rHi 5 = 999 by decide] at y5
  have e5 : (wI (iR f 5 + 1)).toInt = iR f 5 + 1 := wI_i (by omega)
  have out : ∀ i, ¬ (i = 5 ∨ (8 ≤ i ∧ i < 14) ∨ (78 ≤ i ∧ i < 126)) → passF f i = f i := by
    intro i hi
    unfold passF
    rw [if_neg (by omega), if_neg (by omega), if_neg (by omega)]
  have outI : ∀ i, ¬ (i = 5 ∨ (8 ≤ i ∧ i < 14) ∨ (78 ≤ i ∧ i < 126)) → iR (passF f) i = iR f i := fun i hi => by unfold iR; rw [out i hi]
  refine ⟨fun j hj => ?_, ?_, fun k hk => ?_, fun q hq => ?_, fun j hj => ?_, fun q hq => ?_⟩
  · by_cases c : j = 5 ∨ (8 ≤ j ∧ j < 14) ∨ (78 ≤ j ∧ j < 126)
    · unfold iR passF
      by_cases c5 : j = 5
      · rw [if_pos c5, c5, show rLo 5 = 0 by decide, show rHi 5 = 999 by decide, e5]
        omega
      · rw [if_neg c5]
        have lo : rLo j = 0 ∧ rHi j = 99 := by
          by_cases c2 : j < 14
          · exact hi_w (by omega)
          · exact hi_u (by omega)
        rw [lo.1, lo.2]
        by_cases c8 : 8 ≤ j ∧ j < 14
        · rw [if_pos c8, z0I]; omega
        · rw [if_neg c8, if_pos (by omega), z0I]; omega
    · rw [outI j c]; exact h1 j hj
  · rw [outI 4 (by omega), outI 3 (by omega)]; exact h2
  · rw [outI _ (by omega)]; exact h3 k hk
  · rw [outI _ (by omega)]; exact h4 q hq
  · have r := rB_r hB hj
    rw [outI (30 + j) (by omega)]
    unfold iR passF
    rw [if_neg (by omega), if_neg (by omega), if_pos (by omega), z0I]
    exact r.1
  · rw [out _ (by omega)]; exact h6 q hq
end DR
