/-! THE CHEAPEST CHAIN, IN THE CLASS -/
def slV (B : Nat → Nat → Bool) (C : Nat → Nat → Nat) (p o : Nat) : Int32 := if B p o = true then nI (C p o) else -1
def clp (v : Nat) : Nat := if v = 100000000 then 1000000 else v
theorem clp_le {v : Nat} (h : v = 100000000 ∨ v ≤ 130000) : clp v ≤ 1000000 ∧ (clp v < 1000000 ↔ v ≠ 100000000) := by
  unfold clp
  split <;> omega
def fnE (E : Nat → Nat) : Nat → Bool := fun x => decide (E x < 100000000)
/-- what is known of the row of costs -/
def chI (n : Nat) (dn du E : Nat → Nat) : Prop := ∀ p, p < n → (E p ≤ 100000000 ∧ dn p ≤ E p ∧ E p ≤ du p) ∧ (E p < 100000000 → E p ≤ 15985 * cnN (fnE E) n)
section CJP
variable {n to : Nat} {B : Nat → Nat → Bool} {C : Nat → Nat → Nat} {dn du E : Nat → Nat}
theorem chI_b (hn : n ≤ 8) (h : chI n dn du E) {p : Nat} (hp : p < n) : E p = 100000000 ∨ E p ≤ 130000 := by
  obtain ⟨⟨h1, h2, h3⟩, h4⟩ := h p hp
  have := cnN_le (P := fnE E) n
  by_cases c : E p < 100000000
  · have := h4 c
    omega
  · omega
theorem chI_step (hC : ∀ p o, C p o ≤ 999) (h : chI n dn du E) {p o : Nat} (hp : p < n) (ho : o < n) (hlow : dn p ≤ min (E p) (rwv B (w1C 16 C) E p o)) : chI n dn du (fun i => if i = p then min (E p) (rwv B (w1C 16 C) E p o) else E i) := by
  obtain ⟨⟨h1, h2, h3⟩, h4⟩ := h p hp
  obtain ⟨⟨o1, o2, o3⟩, o4⟩ := h o ho
  obtain ⟨x, ex⟩ : ∃ x, x = min (E p) (rwv B (w1C 16 C) E p o) := ⟨_, rfl⟩
  rw [← ex] at hlow ⊢
  have xl : x ≤ E p := by omega
  have mono : ∀ y, fnE E y = true → fnE (fun i => if i = p then x else E i) y = true := by
    intro y hy
    unfold fnE at hy ⊢
    rw [decide_eq_true_eq] at hy ⊢
    dsimp only
    split
    · rename_i e
      rw [e] at hy
      omega
    · exact hy
  have cm := cnN_mono mono n
  intro i hi
  dsimp only
  by_cases e : i = p
  · rw [if_pos e, e]
    refine ⟨by omega, fun hx => ?_⟩
    by_cases f : E p < 100000000
    · have := h4 f
      omega
    · have r : x = rwv B (w1C 16 C) E p o := by omega
      have hx' : rwv B (w1C 16 C) E p o < 100000000 := by omega
      have lt := cnN_lt (P := fnE E) (Q := fnE (fun i => if i = p then x else E i)) (o := p) mono (by
        unfold fnE
        rw [decide_eq_true_eq]
        dsimp only
        rw [if_pos rfl]
        exact hx) (by
        unfold fnE
        rw [decide_eq_true_eq]
        exact f) n hp
      unfold rwv w1C at hx' r
      have cc := hC p o
      split at hx'
      · omega
      · rename_i z
        rw [if_neg z] at r
        have of : E o ≠ 100000000 := fun y => z (Or.inl y)
        have := o4 (by omega)
        omega
  · rw [if_neg e]
    obtain ⟨i1, i4⟩ := h i hi
    refine ⟨i1, fun hx => ?_⟩
    have := i4 hx
    omega
end CJP
section CJC
variable {Γ : kG} {Φ : kF} {S : hS} {a : Nat} {ρa : Nat → Nat} {L : List Nat} {n to : Nat} {B : Nat → Nat → Bool} {C : Nat → Nat → Nat}
theorem kx_toGoBy {q : Int32 → hS → Prop} {E : Nat → Nat} {p o : Nat} (h : St Γ Φ S) (ha : Γ a = some (4, 4, 0, 0, ρa)) (hC : ∀ p o, C p o ≤ 999) (hp : p < 8) (ho : o < 8) (hs : aV S (ρa 7) (8 * p + o) = slV B C p o) (hg : aV S (ρa 8) o = nI (clp (E o))) (hE : E o = 100000000 ∨ E o ≤ 130000) (k : q (nI (clp (rwv B (w1C 16 C) E p o))) S) : w_X4_toGoBy q S a (nI p) (nI o) := by
  have ce := clp_le hE
  have cc := hC p o
  have rd : ∀ {P : Int32 → Prop}, P (nI (clp (E o))) → aI S (ρa 8) (nI o) P := by
    intro P kk
    refine T_aI_20 h (P_4_8 h ha).2 ⟨by rw [nI_toInt (by omega)]; omega, by rw [nI_toInt (by omega)]; omega⟩ (fun x ex _ => ?_)
    rw [nI_clamp (by omega), hg] at ex
    rw [ex]
    exact kk
  have lt : nI (clp (E o)) < 1000000 ↔ clp (E o) < 1000000 := by rw [Int32.lt_iff_toInt_lt, nI_toInt (by omega), show (1000000 : Int32).toInt = 1000000 by decide]; omega
  unfold w_X4_toGoBy w_X4_toGoBy_b28
  rw [lit_nI 8, nImul, nIadd, show p * 8 + o = 8 * p + o by omega]
  refine E_gP_4_7 h ha (fun g7 => T_aI_20 h g7 ⟨by rw [nI_toInt (by omega)]; omega, by rw [nI_toInt (by omega)]; omega⟩ (fun x ex _ => ?_))
  rw [nI_clamp (by omega), hs] at ex
  subst ex
  unfold rwv at k
  refine ⟨fun c => ?_, fun c => E_gP_4_8 h ha (fun _ => rd ⟨fun c2 => E_gP_4_8 h ha (fun _ => rd ?_), fun c2 => ?_⟩)⟩
  · have hb : B p o = false := by
      cases z : B p o with
      | false => rfl
      | true =>
        unfold slV at c
        rw [z, if_pos rfl] at c
        have := congrArg Int32.toInt c
        rw [nI_toInt (by omega), show (-1 : Int32).toInt = -1 by decide] at this
        omega
    rw [if_pos (Or.inr hb)] at k
    exact k
  · have hb : B p o = true := by
      cases z : B p o with
      | true => rfl
      | false =>
        unfold slV at c
        rw [z, if_neg (by decide)] at c
        exact absurd rfl c
    have hf := ce.2.mp (lt.mp c2)
    rw [if_neg (fun z => by
      rcases z with z | z
      · exact hf z
      · rw [hb] at z; cases z)] at k
    have ce2 : clp (E o) = E o := by
      unfold clp
      rw [if_neg hf]
    have cw : clp (w1C 16 C p o + E o) = C p o * 16 + 1 + E o := by
      unfold clp w1C
      rw [if_neg (by omega)]
      omega
    unfold slV
    rw [hb, if_pos rfl, ce2, lit_nI 16, nImul, nI_1, nIadd]
    rw [cw] at k
    exact k
  · have hf : E o = 100000000 := Decidable.of_not_not (fun z => c2 (lt.mpr (ce.2.mpr z)))
    rw [if_pos (Or.inl hf)] at k
    exact k
theorem clp_inj {u v : Nat} (hu : u = 100000000 ∨ u ≤ 200000) (hv : v = 100000000 ∨ v ≤ 200000) : nI (clp u) = nI (clp v) ↔ u = v := by
  unfold clp
  rw [nI_eq (by split <;> omega) (by split <;> omega)]
  split <;> split <;> omega
theorem rwv_b {E : Nat → Nat} (hC : ∀ p o, C p o ≤ 999) {p o : Nat} (hE : E o = 100000000 ∨ E o ≤ 130000) : rwv B (w1C 16 C) E p o = 100000000 ∨ rwv B (w1C 16 C) E p o ≤ 200000 := by
  have cc := hC p o
  unfold rwv w1C
  split
  · exact Or.inl rfl
  · rename_i z
    have : E o ≠ 100000000 := fun y => z (Or.inl y)
    omega
theorem d16_b {D : Nat → Nat} (hC : ∀ p o, C p o ≤ 999) (hn : n ≤ 8) (hD : fxD n to B (w1C 100 C) D) {p : Nat} (hp : p < n) : d16 D p = 100000000 ∨ d16 D p ≤ 130000 := by
  unfold d16
  by_cases f : D p = 100000000
  · exact Or.inl (if_pos f)
  · rw [if_neg f]
    have := hD.2.1 p
    have h7 := fxD_7 (c := C) hn hD hp (by omega)
    have hb := fxD_b hC hn hD p hp (by omega)
    omega
theorem kx_firstBuyer {q : Int32 → hS → Prop} {D : Nat → Nat} {x : Nat} (h : St Γ Φ S) (ha : Γ a = some (4, 4, 0, 0, ρa)) (hC : ∀ p o, C p o ≤ 999) (hn : n ≤ 8) (hD : fxD n to B (w1C 100 C) D) (hx : x < n) (hxt : x ≠ to) (hf : D x < 100000000) (hs : ∀ p o, p < n → o < n → aV S (ρa 7) (8 * p + o) = slV B C p o) (hg : ∀ p, p < n → aV S (ρa 8) p = nI (clp (d16 D p))) (k : q (nI (nxR n B C D x)) S) : w_X4_firstBestBuyer q S a (nI x) (nI n) := by
  obtain ⟨j1, j2, j3, j4, j5⟩ := nx_sp hn hD hx hxt hf
  have db : ∀ p, p < n → d16 D p = 100000000 ∨ d16 D p ≤ 130000 := fun p hp => d16_b hC hn hD hp
  refine loop_m (σ := Nat) (fun t m => w_X4_firstBestBuyer_b2 q t S a (nI x) (nI n) (nI m)) (fun m => m ≤ nxR n B C D x) (fun m => nxR n B C D x - m) ?_ 0 (Nat.zero_le _)
  rintro t m hm ih
  rw [w_X4_firstBestBuyer_b2, nI_leI (by omega) (by omega)]
  refine ⟨fun z => absurd z (by omega), fun z => T_oK_4 h ha (kx_toGoBy (E := d16 D) h ha hC (by omega) (by omega) (hs x m hx (by omega)) (hg m (by omega)) (db m (by omega)) (E_gP_4_8 h ha (fun g8 => T_aI_20 h g8 ⟨by rw [nI_toInt (by omega)]; omega, by rw [nI_toInt (by omega)]; omega⟩ (fun v ev _ => ?_))))⟩
  rw [nI_clamp (by omega), hg x hx] at ev
  have dx := db x hx
  rw [ev, clp_inj (rwv_b hC (db m (by omega))) (by omega), rwv_16 hn hD hx hf (by omega)]
  refine ⟨fun z y ey => ?_, fun z => ?_⟩
  · rw [ey, nI_1]
    have : m ≠ nxR n B C D x := fun e => z (by rw [e]; exact j4)
    exact ih (m + 1) (by omega) (by omega)
  · have : m = nxR n B C D x := by
      by_cases e : m < nxR n B C D x
      · exact absurd z (j5 m e)
      · omega
    rw [this]
    exact k
end CJC
