/-! THE REFERENCE'S FIVE QUESTIONS ARE THE RULES -/
def cut (f : Nat → Int32) : Nat → Int32 := fun i => if i < 185 then f i else 0
/-- the laws of a row, with what their sums come to -/
def lawG (f : Nat → Int32) (L : Nat → List pCl) : Prop := lawS f L ∧ ∀ i : Nat, (i : Int) < iR f 3 → ∀ c ∈ L i, ∀ a, c.2.1 = some a → Vs a
section QR
variable {f : Nat → Int32} {L : Nat → List pCl} {cs : List pCl} {e : Nat → Int} {z : Nat → Int64}
theorem cut_lt {i : Nat} (h : i < 185) : cut f i = f i := if_pos h
theorem iR_cut {i : Nat} (h : i < 185) : iR (cut f) i = iR f i := by unfold iR; rw [cut_lt h]
theorem cut_upd {i : Nat} {v : Int32} (h : i < 185) : cut (upd f i v) = upd (cut f) i v := by
  funext j
  unfold cut upd
  by_cases c : j = i
  · rw [if_pos c, if_pos c, if_pos (by omega)]
  · rw [if_neg c, if_neg c]
theorem cut_cg {g : Nat → Int32} (h : ∀ i, i < 185 → f i = g i) : cut f = cut g := by
  funext i
  unfold cut
  split
  · rename_i c; exact h i c
  · rfl
theorem cut_at {g : Nat → Int32} (h : cut f = cut g) {i : Nat} (hi : i < 185) : f i = g i := by
  have := congrFun h i
  rwa [cut_lt hi, cut_lt hi] at this
theorem rB_cut : rB (cut f) ↔ rB f := by
  unfold rB
  constructor
  · rintro ⟨h1, h2, h3, h4, h5, h6⟩
    refine ⟨fun i hi => ?_, ?_, fun k hk => ?_, fun p hp => ?_, fun j hj => ?_, fun p hp => ?_⟩
    · have := h1 i hi; rwa [iR_cut hi] at this
    · rwa [iR_cut (by omega), iR_cut (by omega)] at h2
    · have := h3 k hk; rwa [iR_cut (by omega)] at this
    · have := h4 p hp; rwa [iR_cut (by omega)] at this
    · have := h5 j hj; rwa [iR_cut (by omega), iR_cut (by omega)] at this
    · have := h6 p hp; rwa [cut_lt (by omega)] at this
  · rintro ⟨h1, h2, h3, h4, h5, h6⟩
    refine ⟨fun i hi => ?_, ?_, fun k hk => ?_, fun p hp => ?_, fun j hj => ?_, fun p hp => ?_⟩
    · rw [iR_cut hi]; exact h1 i hi
    · rw [iR_cut (by omega), iR_cut (by omega)]; exact h2
    · rw [iR_cut (by omega)]; exact h3 k hk
    · rw [iR_cut (by omega)]; exact h4 p hp
    · rw [iR_cut (by omega), iR_cut (by omega)]; exact h5 j hj
    · rw [cut_lt (by omega)]; exact h6 p hp
theorem envL_cut {p : Int} {h : Nat} {y t : Int} (hp : p < 8) (hh : h < 6) : envL (cut f) p h y t = envL f p h y t := by
  funext w
  unfold envL
  rw [iR_cut (i := 8 + h) (by omega), iR_cut (i := 7) (by omega)]
  by_cases c : p < 0
  · rw [if_pos c, if_pos c, if_pos c, if_pos c, if_pos c, if_pos c]
  · rw [iR_cut (i := 146 + p.toNat) (by omega), iR_cut (i := 14 + p.toNat) (by omega), iR_cut (i := 30 + 6 * p.toNat + h) (by omega), iR_cut (i := 78 + 6 * p.toNat + h) (by omega)]
theorem csF_cut : csF (cut f) L = csF f L := by
  unfold csF
  rw [iR_cut (by omega)]
theorem csF_ok (hB : rB f) (hL : lawG f L) : okL (csF f L) ∧ ∀ c ∈ csF f L, ∀ a, c.2.1 = some a → Vs a := by
  unfold csF
  split
  · exact ⟨okL_nil, fun c hc => by cases hc⟩
  · have := hB.2.1
    exact ⟨(hL.1 _ (by omega)).2.1, hL.2 _ (by omega)⟩
theorem lastN_V (ho : okL cs) (hV : ∀ c ∈ cs, ∀ a, c.2.1 = some a → Vs a) (he : ∀ w, -1000000000 ≤ e w ∧ e w ≤ 1000000000) {k : Nat} {v : Int} : ∀ n, n ≤ cs.length → lastN cs k e n = some v → -1000000000 ≤ v ∧ v ≤ 1000000000 ∧ (3 ≤ k → v = 1)
  | 0, _, h => by cases h
  | n + 1, hn, h => by
    rw [lastN] at h
    cases eh : holdC (clA cs n) k e with
    | none => rw [eh] at h; exact lastN_V ho hV he n (by omega) h
    | some u =>
      rw [eh] at h
      cases h
      unfold holdC at eh
      split at eh
      · rename_i c
        have hm := clA_mem (cs := cs) (n := n) (by omega)
        cases ea : (clA cs n).2.1 with
        | none =>
          rw [ea] at eh
          have : (1 : Int) = v := by
            have e1 : wgV none e = some 1 := rfl
            rw [e1] at eh
            exact Option.some.inj eh
          omega
        | some a =>
          rw [ea] at eh
          have ev : a.2.2 e = some v := eh
          have := hV _ hm a ea e he v ev
          refine ⟨this.1, this.2, fun h3 => ?_⟩
          have := (ho.2.1 _ hm).2.2.2.mpr (by omega)
          rw [ea] at this
          cases this
      · cases eh
theorem tellL_V (ho : okL cs) (hV : ∀ c ∈ cs, ∀ a, c.2.1 = some a → Vs a) (he : ∀ w, -1000000000 ≤ e w ∧ e w ≤ 1000000000) {k : Nat} {v : Int} (h : tellL cs k e = some v) : -1000000000 ≤ v ∧ v ≤ 1000000000 ∧ (3 ≤ k → v = 1) := lastN_V ho hV he _ (Nat.le_refl _) h
theorem wiV_jN {v : Int} (hv : -1000000000 ≤ v ∧ v ≤ 1000000000) {lo hi : Int32} (h : lo.toInt ≤ hi.toInt) : wiV (jN v) lo hi = wI (clI v lo.toInt hi.toInt) := by
  have b1 := fb_rng lo
  have b2 := fb_rng hi
  unfold wiV clI
  rw [jN_i (by omega) (by omega)]
  by_cases c : v < lo.toInt
  · rw [if_neg (by omega), if_pos c]
    exact wI_of rfl
  · rw [if_pos (by omega), if_neg c]
    by_cases c2 : hi.toInt < v
    · rw [if_neg (by omega), if_pos c2]
      exact wI_of rfl
    · rw [if_pos (by omega), if_neg c2]
      refine wI_of ?_
      rw [Int64.toInt_toInt32, jN_i (by omega) (by omega)]
      exact fb_bmod (by omega) (by omega)
theorem envL_b (hB : rB f) {p : Int32} {h : Nat} {y t : Int32} (hp : p = -1 ∨ ∃ n : Nat, n < 8 ∧ p = nI n) (h6 : h < 6) (hy : -10 ≤ y.toInt ∧ y.toInt ≤ 10000) (ht : -1 ≤ t.toInt ∧ t.toInt ≤ 8) : ∀ w, -1000000000 ≤ envL f p.toInt h y.toInt t.toInt w ∧ envL f p.toInt h y.toInt t.toInt w ≤ 1000000000 := by
  have hz := setV_env (z := fun _ => 0) hB hp h6 hy ht
  intro w
  by_cases c : w < 9
  · have := hz (w + 1) (by omega) (by omega)
    simpa using this.2
  · have h8 := hz 9 (by omega) (by omega)
    have e : envL f p.toInt h y.toInt t.toInt w = envL f p.toInt h y.toInt t.toInt 8 := by
      unfold envL
      rw [if_neg (by omega), if_neg (by omega), if_neg (by omega), if_neg (by omega), if_neg (by omega), if_neg (by omega), if_neg (by omega), if_neg (by omega)]
      rfl
    rw [e]
    exact h8.2
theorem told_eq (hB : rB f) (hok : ∀ i : Nat, (i : Int) < iR f 3 → lawOk f (185 + 900 * i)) (hL : lawG f L) {k h : Nat} {p y t : Int32} {w : Int64} {m : Int32} (hk : k ≤ 2) (hp : p = -1 ∨ ∃ n : Nat, n < 8 ∧ p = nI n) (h6 : h < 6) (hy : -10 ≤ y.toInt ∧ y.toInt ≤ 10000) (ht : -1 ≤ t.toInt ∧ t.toInt ≤ 8) (hw : w = jN (wthK k)) (hm : m.toInt = mstK k) : wiV (tellV f z (nI k) p h y t w) 0 m = wI (toldL (csF f L) k (envL f p.toInt h y.toInt t.toInt)) := by
  obtain ⟨ho, hV⟩ := csF_ok hB hL
  rw [tellV_eq hB hok hL.1 (by omega) hp h6 hy ht]
  have z0 : (0 : Int32).toInt = 0 := by decide
  have hmp : 0 ≤ mstK k := by unfold mstK; split <;> (try split) <;> omega
  have wk : wthK k ≤ 10 := by unfold wthK; split <;> (try split) <;> omega
  unfold toldL
  cases et : tellL (csF f L) k (envL f p.toInt h y.toInt t.toInt) with
  | none =>
    dsimp only
    rw [hw, wiV_jN (by omega) (by rw [z0, hm]; omega), z0, hm]
    rfl
  | some v =>
    dsimp only
    have := tellL_V ho hV (envL_b hB hp h6 hy ht) et
    rw [wiV_jN ⟨this.1, this.2.1⟩ (by rw [z0, hm]; omega), z0, hm]
    rfl
theorem m1I : (-1 : Int32).toInt = -1 := by decide
theorem nI_8 {n : Nat} (h : n < 8) : -1 ≤ (nI n).toInt ∧ (nI n).toInt ≤ 8 := by rw [nI_toInt (by omega)]; omega
theorem rB_yr (hB : rB f) : -10 ≤ (f 5).toInt ∧ (f 5).toInt ≤ 10000 := by
  have h := hB.1 5 (by omega)
  rw [show rLo 5 = 0 by decide, show rHi 5 = 999 by decide] at h
  have e : iR f 5 = (f 5).toInt := rfl
  omega
theorem worth_eq (hB : rB f) (hok : ∀ i : Nat, (i : Int) < iR f 3 → lawOk f (185 + 900 * i)) (hL : lawG f L) {h : Nat} {y : Int32} (h6 : h < 6) (hy : -10 ≤ y.toInt ∧ y.toInt ≤ 10000) : worthV f z h y = wI (worthR (cut f) (csF (cut f) L) h y.toInt) := by
  unfold worthV worthR
  rw [csF_cut, envL_cut (by omega) h6]
  have := told_eq (z := z) (k := 2) (p := -1) (t := -1) (w := 10) (m := 99) hB hok hL (by omega) (Or.inl rfl) h6 hy (by rw [m1I]; omega) (by decide) (by decide)
  rw [m1I] at this
  exact this
theorem cost_eq (hB : rB f) (hok : ∀ i : Nat, (i : Int) < iR f 3 → lawOk f (185 + 900 * i)) (hL : lawG f L) {p t h : Nat} (hp : p < 8) (ht : t < 8) (h6 : h < 6) : costV f z p t h = wI (costsR (cut f) (csF (cut f) L) p t h) := by
  unfold costV costsR
  rw [csF_cut, envL_cut (by omega) h6, iR_cut (by omega)]
  have := told_eq (z := z) (k := 1) (p := nI p) (t := nI t) (y := f 5) (w := 5) (m := 999) hB hok hL (by omega) (Or.inr ⟨p, hp, rfl⟩) h6 (rB_yr hB) (nI_8 ht) (by decide) (by decide)
  rw [nI_toInt (by omega), nI_toInt (by omega)] at this
  exact this
theorem tire_eq (hB : rB f) (hok : ∀ i : Nat, (i : Int) < iR f 3 → lawOk f (185 + 900 * i)) (hL : lawG f L) {p h : Nat} (hp : p < 8) (h6 : h < 6) : wiV (tellV f z 0 (nI p) h (f 5) (-1) 1) 0 20 = wI (tiresR (cut f) (csF (cut f) L) p h) := by
  unfold tiresR
  rw [csF_cut, envL_cut (by omega) h6, iR_cut (by omega)]
  have := told_eq (z := z) (k := 0) (p := nI p) (t := -1) (y := f 5) (w := 1) (m := 20) hB hok hL (by omega) (Or.inr ⟨p, hp, rfl⟩) h6 (rB_yr hB) (by rw [m1I]; omega) (by decide) (by decide)
  rw [nI_toInt (by omega), m1I] at this
  exact this
/-- heads 3 and 4 tell 1, or nothing -/
theorem tell1_eq (hB : rB f) (hok : ∀ i : Nat, (i : Int) < iR f 3 → lawOk f (185 + 900 * i)) (hL : lawG f L) {k h : Nat} {p y t : Int32} (hk : 3 ≤ k ∧ k < 5) (hp : p = -1 ∨ ∃ n : Nat, n < 8 ∧ p = nI n) (h6 : h < 6) (hy : -10 ≤ y.toInt ∧ y.toInt ≤ 10000) (ht : -1 ≤ t.toInt ∧ t.toInt ≤ 8) : tellV f z (nI k) p h y t 0 = if (tellL (csF f L) k (envL f p.toInt h y.toInt t.toInt)).isSome = true then 1 else 0 := by
  obtain ⟨ho, hV⟩ := csF_ok hB hL
  rw [tellV_eq hB hok hL.1 (by omega) hp h6 hy ht]
  cases et : tellL (csF f L) k (envL f p.toInt h y.toInt t.toInt) with
  | none => rfl
  | some v =>
    have := (tellL_V ho hV (envL_b hB hp h6 hy ht) et).2.2 (by omega)
    rw [this]
    rfl
theorem bar_eq (hB : rB f) (hok : ∀ i : Nat, (i : Int) < iR f 3 → lawOk f (185 + 900 * i)) (hL : lawG f L) {p t h : Nat} (hp : p < 8) (ht : t < 8) (h6 : h < 6) : barV f z p t h ↔ barredR (cut f) (csF (cut f) L) p t h = true := by
  unfold barV barredR
  rw [csF_cut, envL_cut (by omega) h6, iR_cut (by omega)]
  have := tell1_eq (z := z) (k := 4) (p := nI p) (t := nI t) (y := f 5) hB hok hL (by omega) (Or.inr ⟨p, hp, rfl⟩) h6 (rB_yr hB) (nI_8 ht)
  rw [nI_toInt (by omega), nI_toInt (by omega)] at this
  rw [show tellV f z 4 (nI p) h (f 5) (nI t) 0 = _ from this]
  show (if (tellL (csF f L) 4 (envL f p h (iR f 5) t)).isSome = true then (1 : Int64) else 0) = 1 ↔ _
  split <;> simp_all
theorem open_eq (hB : rB f) (hok : ∀ i : Nat, (i : Int) < iR f 3 → lawOk f (185 + 900 * i)) (hL : lawG f L) {p h : Nat} (hp : p < 8) (h6 : h < 6) : tellV f z 3 (nI p) h (f 5) (-1) 0 = if (tellL (csF f L) 3 (envL f p h (iR f 5) (-1))).isSome = true then 1 else 0 := by
  have := tell1_eq (z := z) (k := 3) (p := nI p) (t := -1) (y := f 5) hB hok hL (by omega) (Or.inr ⟨p, hp, rfl⟩) h6 (rB_yr hB) (by rw [m1I]; omega)
  rw [nI_toInt (by omega), m1I] at this
  exact this
end QR
