/-! LAYER 2, the class: the text -/
section TEXT
variable {Γ : kG} {Φ : kF} {S : hS} {a b : Nat} {ρa ρb ρd ρg : Nat → Nat} {κ rs : Nat}
theorem kc_X10_empty {q : hS → Prop} (h : St Γ Φ S) (hf : fre Γ Φ [10]) (hb : Γ b = some (10, 10, 12, 400, ρb)) (k : ∀ S', St Γ Φ S' → q S') : w_X10_empty q S b :=
  T_pI_10_0 h hf hb (by simp) (by decide) (fun _ h1 _ _ _ => T_pI_10_1 h1 hf hb (by simp) (by decide) (fun _ h2 _ _ _ => k _ h2))
theorem kc_X10_openPart {q : hS → Prop} {v : Int32} (h : St Γ Φ S) (hf : fre Γ Φ [10]) (hb : Γ b = some (10, 10, 12, 400, ρb)) (k : ∀ S', St Γ Φ S' → q S') : w_X10_openPart q S b v := by
  refine T_pI_10_2 h hf hb (by simp) ?_ (fun _ h1 _ _ _ => k _ h1)
  have t3 : (3 : Int32).toInt = 3 := by decide
  by_cases c : 3 < v
  · simp only [if_pos c]; decide
  · simp only [if_neg c]
    rw [Int32.lt_iff_toInt_lt, t3] at c
    by_cases c2 : 0 < v
    · rw [if_pos c2]
      rw [Int32.lt_iff_toInt_lt, z0I] at c2
      omega
    · rw [if_neg c2]; decide
theorem kc_X10_setTimes {q : hS → Prop} {v : Int32} (h : St Γ Φ S) (hf : fre Γ Φ [1104]) (hb : Γ b = some (10, 10, 12, 400, ρb)) (k : ∀ S', St Γ Φ S' → q S') : w_X10_setTimes q S b v := by
  refine T_gI_10_0 h hb (fun x1 _ h1 => ⟨fun _ => k _ h, fun hc => T_gP_10_4 h hb (fun x9 _ h9 => T_gI_10_0 h hb (fun x13 _ h13 => ?_))⟩)
  have t1 : (1 : Int32).toInt = 1 := by decide
  rw [Int32.lt_iff_toInt_lt, t1] at hc
  have e : (x13 - 1).toInt = x13.toInt - 1 := by rw [fb_subI] <;> rw [t1] <;> omega
  exact T_sI_20 h hf h9 (by simp) (by omega) (fun _ h2 _ _ _ _ => k _ h2)
theorem kc_X10_landSkip {q : hS → Prop} {v : Int32} (h : St Γ Φ S) (hf : fre Γ Φ [1106]) (hb : Γ b = some (10, 10, 12, 400, ρb)) (k : ∀ S', St Γ Φ S' → q S') : w_X10_landSkip q S b v := by
  refine ⟨fun _ => k _ h, fun hv => T_gI_10_1 h hb (fun x6 _ h6 => ⟨fun _ => k _ h, fun hc => ?_⟩)⟩
  have hc := lt_of_nle hc
  rw [Int32.lt_iff_toInt_lt, z0I] at hv
  refine T_gP_10_6 h hb (fun x13 _ h13 => T_gP_10_6 h hb (fun x18 _ h18 => T_aI_24 h h18 (by omega) (fun x22 _ h22 => T_gI_10_1 h hb (fun x32 _ h32 => ?_))))
  have d1 := div2048 h22.2
  have e : (x22 / 2048 * 2048 + x32).toInt = (x22 / 2048 * 2048).toInt + x32.toInt := fb_addI (by omega) (by omega)
  exact T_sI_24 h hf h13 (by simp) (by omega) (by omega) (fun _ h2 _ _ _ _ => k _ h2)
theorem ix5 {x y : Int32} (hx : 0 ≤ x.toInt ∧ x.toInt < 12) (hy : 0 ≤ y.toInt ∧ y.toInt < 5) : (x * 5 + y).toInt = x.toInt * 5 + y.toInt := by
  have t5 : (5 : Int32).toInt = 5 := by decide
  have m1 : (x * 5).toInt = x.toInt * 5 := by rw [fb_mulI (by rw [t5]; omega) (by rw [t5]; omega), t5]
  rw [fb_addI (by rw [m1]; omega) (by rw [m1]; omega), m1]
theorem kc_X10_beginClause {q : hS → Prop} {v : Int32} (h : St Γ Φ S) (hf : fre Γ Φ [10, 1103, 1104, 1105]) (hb : Γ b = some (10, 10, 12, 400, ρb)) (k : ∀ S', St Γ Φ S' → q S') : w_X10_beginClause q S b v := by
  refine T_gI_10_0 h hb (fun x1 _ h1 => T_gP_10_3 h hb (fun x5 _ h5 => T_aN_20 h h5 (fun x8 h8 => ⟨fun hc => ?_, fun _ => k _ h⟩)))
  rw [Int32.lt_iff_toInt_lt] at hc
  refine T_gP_10_3 h hb (fun x14 _ h14 => T_gI_10_0 h hb (fun x18 _ h18 => T_sI_20 h hf h14 (by simp) (by omega) (fun S1 h1' e1 _ _ _ => T_gP_10_4 h1' hb (fun x24 _ h24 => T_gI_10_0 h1' hb (fun x28 _ h28 => ?_)))))
  rw [e1.I] at h28
  refine T_sI_20 h1' hf h24 (by simp) (by omega) (fun S2 h2 e2 _ _ _ => ?_)
  have hc2 : (fI S2 b 0).toInt < 12 := by rw [e2.I, e1.I]; omega
  refine loop_m (σ := hS × Int32) (fun t s => w_X10_beginClause_b35 q t s.1 b s.2) (fun s => (St Γ Φ s.1 ∧ (fI s.1 b 0).toInt < 12) ∧ 0 ≤ s.2.toInt ∧ s.2.toInt ≤ 5) (fun s => (5 - s.2.toInt).toNat) ?_ (S2, 0) ⟨⟨h2, hc2⟩, by dsimp only; rw [z0I]; omega⟩
  rintro t ⟨S, x⟩ ⟨⟨h, hc⟩, hx⟩ ih
  dsimp only at h hc hx ih ⊢
  have t5 : (5 : Int32).toInt = 5 := by decide
  rw [w_X10_beginClause_b35]
  refine ⟨fun _ => T_pI_10_2 h hf hb (by simp) (by decide) (fun S3 h3 _ e3 _ => T_gI_10_0 h3 hb (fun x70 _ h70 => ?_)), fun hn => T_gP_10_5 h hb (fun x41 _ h41 => T_gI_10_0 h hb (fun x45 _ h45 => T_gI_10_1 h hb (fun x53 _ h53 => ?_)))⟩
  · rw [e3.I (by omega)] at h70
    have := inc1 (x := x70) (by omega)
    exact T_pI_10_0 h3 hf hb (by simp) (by omega) (fun _ h4 _ _ _ => k _ h4)
  · have hn := lt_of_nle hn
    rw [t5] at hn
    have e := ix5 (x := x45) (y := x) (by omega) (by omega)
    refine T_sI_23 h hf h41 (by simp) (by omega) (by omega) (fun S3 h3 e3 _ _ _ y hy => ?_)
    subst hy
    have := inc1 (x := x) (by omega)
    exact ih (S3, x + 1) ⟨⟨h3, by dsimp only; rw [e3.I]; exact hc⟩, by dsimp only; omega⟩ (by dsimp only; omega)
theorem kc_X10_add {q : Int32 → hS → Prop} {v w : Int32} (h : St Γ Φ S) (hf : fre Γ Φ [10, 1105, 1106]) (hb : Γ b = some (10, 10, 12, 400, ρb)) (hv : 0 ≤ (v * 2048 + w).toInt ∧ (v * 2048 + w).toInt ≤ 43007) (k : ∀ r S', St Γ Φ S' → q r S') : w_X10_add q S b v w := by
  have t1 : (1 : Int32).toInt = 1 := by decide
  have t5 : (5 : Int32).toInt = 5 := by decide
  refine T_gI_10_1 h hb (fun x1 _ h1 => T_gP_10_6 h hb (fun x5 _ h5 => T_aN_24 h h5 (fun x8 h8 => ⟨fun _ => k _ _ h, fun hc => T_gI_10_0 h hb (fun x13 _ h13 => ⟨fun hc1 => ?_, fun _ => k _ _ h⟩)⟩)))
  have hc := lt_of_nle hc
  rw [Int32.le_iff_toInt_le, t1] at hc1
  refine T_gP_10_6 h hb (fun x23 _ h23 => T_gI_10_1 h hb (fun x27 _ h27 => T_sI_24 h hf h23 (by simp) (by omega) hv (fun S1 h1' e1 _ _ _ => T_gI_10_1 h1' hb (fun x40 _ h40 => ?_))))
  rw [e1.I] at h40
  have := inc1 (x := x40) (by omega)
  refine T_pI_10_1 h1' hf hb (by simp) (by omega) (fun S2 h2 _ e2 _ => T_gI_10_2 h2 hb (fun x49 _ h49 y hy => ?_))
  have := inc1 (x := x49) (by omega)
  have hc2 : 1 ≤ (fI S2 b 0).toInt := by rw [e2.I (by omega), e1.I]; omega
  refine loop_m (σ := hS × Int32) (fun t s => w_X10_add_b55 q t s.1 b s.2) (fun s => (St Γ Φ s.1 ∧ 1 ≤ (fI s.1 b 0).toInt) ∧ 0 ≤ s.2.toInt ∧ s.2.toInt ≤ 5) (fun s => (5 - s.2.toInt).toNat) ?_ (S2, y) ⟨⟨h2, hc2⟩, by dsimp only; rw [hy]; omega⟩
  rintro t ⟨S, x⟩ ⟨⟨h, hc⟩, hx⟩ ih
  dsimp only at h hc hx ih ⊢
  rw [w_X10_add_b55]
  refine ⟨fun _ => T_gI_10_1 h hb (fun _ _ _ => k _ _ h), fun hn => T_gP_10_5 h hb (fun x61 _ h61 => T_gI_10_0 h hb (fun x65 _ h65 => T_gI_10_1 h hb (fun x75 _ h75 => ?_)))⟩
  have hn := lt_of_nle hn
  rw [t5] at hn
  have e0 : (x65 - 1).toInt = x65.toInt - 1 := by rw [fb_subI] <;> rw [t1] <;> omega
  have e := ix5 (x := x65 - 1) (y := x) (by omega) (by omega)
  refine T_sI_23 h hf h61 (by simp) (by omega) (by omega) (fun S3 h3 e3 _ _ _ y hy => ?_)
  subst hy
  have := inc1 (x := x) (by omega)
  exact ih (S3, x + 1) ⟨⟨h3, by dsimp only; rw [e3.I]; exact hc⟩, by dsimp only; omega⟩ (by dsimp only; omega)
end TEXT
