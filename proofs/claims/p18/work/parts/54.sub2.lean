/-! LAYER 2, the class: more of a suburb -/
section SUB2
variable {Γ : kG} {Φ : kF} {S : hS} {a b i i' c n : Nat} {ρa ρb ρd ρg : Nat → Nat} {κ rs : Nat}
theorem kc_X1_canBuy {q : Int32 → hS → Prop} {v w t : Int32} (h : St Γ Φ S) (hf : fre Γ Φ [101, 700]) (ha : Γ a = some (1, 1, 0, 0, ρa)) (hb : Γ b = some (8, 8 + 10000 * i, i, 0, ρb)) (h0 : ∀ S', St Γ Φ S' → q 0 S') (h1 : ∀ S', St Γ Φ S' → (0 ≤ v.toInt ∧ v.toInt < 8 ∧ 0 ≤ w.toInt ∧ w.toInt < 8) → q 1 S') : w_X1_canBuy q S a b v w t := by
  unfold w_X1_canBuy
  repeat' (first
    | (exact absurd rfl ‹¬ (0 : Int32) = 0›)
    | (exact absurd ‹(1 : Int32) = 0› (by decide))
    | exact h0 _ (by assumption)
    | refine h1 _ (by assumption) ?_
    | (with_reducible refine T_gP_1_0 (by assumption) (by assumption) (fun _ _ _ => ?_))
    | (with_reducible refine T_gP_2_3 (by assumption) (by assumption) (fun _ _ _ => ?_))
    | (with_reducible refine T_gP_8_0 (by assumption) (by assumption) (fun _ _ _ => ?_))
    | (with_reducible refine T_oK_0 (by assumption) (by assumption) ?_)
    | (with_reducible refine T_oK_8 (by assumption) (by assumption) ?_)
    | (with_reducible refine T_aI_20 (by assumption) (by assumption) ?_ (fun _ _ _ => ?_))
    | (with_reducible refine T_aI_21 (by assumption) (by assumption) ?_ (fun _ _ _ => ?_))
    | (with_reducible refine T_aI_22 (by assumption) (by assumption) ?_ (fun _ _ _ => ?_))
    | (with_reducible refine T_aI_23 (by assumption) (by assumption) ?_ (fun _ _ _ => ?_))
    | (with_reducible refine T_aI_24 (by assumption) (by assumption) ?_ (fun _ _ _ => ?_))
    | (with_reducible refine kc_X0_isBarred (by assumption) (fre.sub (by assumption) (by simp)) (by assumption) (by assumption) (fun _ _ => ?_) (fun _ _ => ?_))
    | (with_reducible refine kc_X0_price (by assumption) (fre.sub (by assumption) (by simp)) (by assumption) (by assumption) (fun _ _ _ => ?_))
    | (with_reducible refine kc_X8_lives (by assumption) (by assumption) ?_ (fun _ => ?_))
    | (with_reducible refine kc_X8_rightsOf (by assumption) (by assumption) (fun _ => ?_))
    | (refine ⟨fun _ => ?_, fun _ => ?_⟩)
    | fail)
  all_goals (first
    | (with_reducible assumption)
    | omega
    | (simp only [← Int32.toInt_inj, Int32.toInt_add, Int32.toInt_mul, Int32.toInt_sub, Int32.toInt_neg, apply_ite Int32.toInt, Int32.reduceToInt, Int32.le_iff_toInt_le, Int32.lt_iff_toInt_lt] at *; (try simp only [Int.bmod_add_bmod, Int.add_bmod_bmod, Int.bmod_mul_bmod, Int.mul_bmod_bmod, Int.sub_bmod_bmod, Int.bmod_sub_bmod] at *); (try simp (disch := omega) only [fb_bmod, true_and, and_true] at *); all_goals (first | omega | (simp only [Int.bmod_def] at *; omega) | omega)))
theorem kc_X8_isLivingHeir {q : Int32 → hS → Prop} {v w : Int32} (h : St Γ Φ S) (hb : Γ b = some (8, 8 + 10000 * i, i, 0, ρb)) (h0 : q 0 S) (h1 : (0 ≤ v.toInt ∧ v.toInt < 8 ∧ 0 ≤ w.toInt ∧ w.toInt < 8) → q 1 S) : w_X8_isLivingHeir q S b v w := by
  unfold w_X8_isLivingHeir
  repeat' (first
    | (exact absurd rfl ‹¬ (0 : Int32) = 0›)
    | (exact absurd ‹(1 : Int32) = 0› (by decide))
    | exact h0
    | refine h1 ?_
    | (with_reducible refine T_gP_8_8 (by assumption) (by assumption) (fun _ _ _ => ?_))
    | (with_reducible refine T_oK_8 (by assumption) (by assumption) ?_)
    | (with_reducible refine T_aI_20 (by assumption) (by assumption) ?_ (fun _ _ _ => ?_))
    | (with_reducible refine T_aI_21 (by assumption) (by assumption) ?_ (fun _ _ _ => ?_))
    | (with_reducible refine T_aI_22 (by assumption) (by assumption) ?_ (fun _ _ _ => ?_))
    | (with_reducible refine T_aI_23 (by assumption) (by assumption) ?_ (fun _ _ _ => ?_))
    | (with_reducible refine T_aI_24 (by assumption) (by assumption) ?_ (fun _ _ _ => ?_))
    | (with_reducible refine kc_X11_hasBit ?_ ?_)
    | (with_reducible refine kc_X8_hasPerson (by assumption) (by assumption) ?_ (fun _ => ?_))
    | (with_reducible refine kc_X8_lives (by assumption) (by assumption) ?_ (fun _ => ?_))
    | (refine ⟨fun _ => ?_, fun _ => ?_⟩)
    | fail)
  all_goals (first
    | (with_reducible assumption)
    | omega
    | (simp only [← Int32.toInt_inj, Int32.toInt_add, Int32.toInt_mul, Int32.toInt_sub, Int32.toInt_neg, apply_ite Int32.toInt, Int32.reduceToInt, Int32.le_iff_toInt_le, Int32.lt_iff_toInt_lt] at *; (try simp only [Int.bmod_add_bmod, Int.add_bmod_bmod, Int.bmod_mul_bmod, Int.mul_bmod_bmod, Int.sub_bmod_bmod, Int.bmod_sub_bmod] at *); (try simp (disch := omega) only [fb_bmod, true_and, and_true] at *); all_goals (first | omega | (simp only [Int.bmod_def] at *; omega) | omega)))
theorem kc_X8_livingHeirs {q : Int32 → hS → Prop} {v : Int32} (h : St Γ Φ S) (hb : Γ b = some (8, 8 + 10000 * i, i, 0, ρb)) (k : ∀ r, q r S) : w_X8_livingHeirs q S b v := by
  refine loop_m (σ := Int32 × Int32) (fun t s => w_X8_livingHeirs_b4 q t S b v s.1 s.2) (fun s => 0 ≤ s.2.toInt ∧ s.2.toInt ≤ 8) (fun s => (8 - s.2.toInt).toNat) ?_ (0, 0) (by dsimp only; rw [z0I]; omega)
  rintro t ⟨w, x⟩ hx ih
  dsimp only at hx ih ⊢
  have go : ∀ w y : Int32, y.toInt = x.toInt + 1 ∧ x.toInt < 8 → w_X8_livingHeirs_b4 q t S b v w y := fun w y hy => ih (w, y) (by dsimp only; omega) (by dsimp only; omega)
  rw [w_X8_livingHeirs_b4]
  repeat' (first
    | (exact absurd rfl ‹¬ (0 : Int32) = 0›)
    | (exact absurd ‹(1 : Int32) = 0› (by decide))
    | exact k _
    | refine go _ _ ?_
    | (with_reducible refine T_gI_8_4 (by assumption) (by assumption) (fun _ _ _ => ?_))
    | (with_reducible refine T_oK_8 (by assumption) (by assumption) ?_)
    | (with_reducible refine kc_X8_isLivingHeir (by assumption) (by assumption) ?_ (fun _ => ?_))
    | (unfold w_X8_livingHeirs_b24)
    | (with_reducible refine T_y (fun _ _ _ => ?_))
    | (refine ⟨fun _ => ?_, fun _ => ?_⟩)
    | fail)
  all_goals (first
    | (with_reducible assumption)
    | omega
    | (simp only [← Int32.toInt_inj, Int32.toInt_add, Int32.toInt_mul, Int32.toInt_sub, Int32.toInt_neg, apply_ite Int32.toInt, Int32.reduceToInt, Int32.le_iff_toInt_le, Int32.lt_iff_toInt_lt] at *; (try simp only [Int.bmod_add_bmod, Int.add_bmod_bmod, Int.bmod_mul_bmod, Int.mul_bmod_bmod, Int.sub_bmod_bmod, Int.bmod_sub_bmod] at *); (try simp (disch := omega) only [fb_bmod, true_and, and_true] at *); all_goals (first | omega | (simp only [Int.bmod_def] at *; omega) | omega)))
theorem kc_X8_livingPeople {q : Int32 → hS → Prop} (h : St Γ Φ S) (hb : Γ b = some (8, 8 + 10000 * i, i, 0, ρb)) (k : ∀ r, q r S) : w_X8_livingPeople q S b := by
  refine loop_m (σ := Int32 × Int32) (fun t s => w_X8_livingPeople_b4 q t S b s.1 s.2) (fun s => 0 ≤ s.2.toInt ∧ s.2.toInt ≤ 8) (fun s => (8 - s.2.toInt).toNat) ?_ (0, 0) (by dsimp only; rw [z0I]; omega)
  rintro t ⟨w, x⟩ hx ih
  dsimp only at hx ih ⊢
  have go : ∀ w y : Int32, y.toInt = x.toInt + 1 ∧ x.toInt < 8 → w_X8_livingPeople_b4 q t S b w y := fun w y hy => ih (w, y) (by dsimp only; omega) (by dsimp only; omega)
  rw [w_X8_livingPeople_b4]
  repeat' (first
    | (exact absurd rfl ‹¬ (0 : Int32) = 0›)
    | (exact absurd ‹(1 : Int32) = 0› (by decide))
    | exact k _
    | refine go _ _ ?_
    | (with_reducible refine T_gI_8_4 (by assumption) (by assumption) (fun _ _ _ => ?_))
    | (with_reducible refine T_oK_8 (by assumption) (by assumption) ?_)
    | (with_reducible refine kc_X8_lives (by assumption) (by assumption) ?_ (fun _ => ?_))
    | (unfold w_X8_livingPeople_b23)
    | (with_reducible refine T_y (fun _ _ _ => ?_))
    | (refine ⟨fun _ => ?_, fun _ => ?_⟩)
    | fail)
  all_goals (first
    | (with_reducible assumption)
    | omega
    | (simp only [← Int32.toInt_inj, Int32.toInt_add, Int32.toInt_mul, Int32.toInt_sub, Int32.toInt_neg, apply_ite Int32.toInt, Int32.reduceToInt, Int32.le_iff_toInt_le, Int32.lt_iff_toInt_lt] at *; (try simp only [Int.bmod_add_bmod, Int.add_bmod_bmod, Int.bmod_mul_bmod, Int.mul_bmod_bmod, Int.sub_bmod_bmod, Int.bmod_sub_bmod] at *); (try simp (disch := omega) only [fb_bmod, true_and, and_true] at *); all_goals (first | omega | (simp only [Int.bmod_def] at *; omega) | omega)))
theorem kc_X8_allLeftOf {q : Int32 → hS → Prop} {v : Int32} (h : St Γ Φ S) (hb : Γ b = some (8, 8 + 10000 * i, i, 0, ρb)) (k : ∀ r, q r S) : w_X8_allLeftOf q S b v := by
  refine loop_m (σ := Int32 × Int32) (fun t s => w_X8_allLeftOf_b4 q t S b v s.1 s.2) (fun s => 0 ≤ s.2.toInt ∧ s.2.toInt ≤ 6) (fun s => (6 - s.2.toInt).toNat) ?_ (0, 0) (by dsimp only; rw [z0I]; omega)
  rintro t ⟨w, x⟩ hx ih
  dsimp only at hx ih ⊢
  have go : ∀ w y : Int32, y.toInt = x.toInt + 1 ∧ x.toInt < 6 → w_X8_allLeftOf_b4 q t S b v w y := fun w y hy => ih (w, y) (by dsimp only; omega) (by dsimp only; omega)
  rw [w_X8_allLeftOf_b4]
  repeat' (first
    | (exact absurd rfl ‹¬ (0 : Int32) = 0›)
    | (exact absurd ‹(1 : Int32) = 0› (by decide))
    | exact k _
    | refine go _ _ ?_
    | (with_reducible refine T_gI_8_1 (by assumption) (by assumption) (fun _ _ _ => ?_))
    | (with_reducible refine T_oK_8 (by assumption) (by assumption) ?_)
    | (with_reducible refine kc_X8_leftOf (by assumption) (by assumption) (fun _ => ?_))
    | (with_reducible refine T_y (fun _ _ _ => ?_))
    | (refine ⟨fun _ => ?_, fun _ => ?_⟩)
    | fail)
  all_goals (first
    | (with_reducible assumption)
    | omega
    | (simp only [← Int32.toInt_inj, Int32.toInt_add, Int32.toInt_mul, Int32.toInt_sub, Int32.toInt_neg, apply_ite Int32.toInt, Int32.reduceToInt, Int32.le_iff_toInt_le, Int32.lt_iff_toInt_lt] at *; (try simp only [Int.bmod_add_bmod, Int.add_bmod_bmod, Int.bmod_mul_bmod, Int.mul_bmod_bmod, Int.sub_bmod_bmod, Int.bmod_sub_bmod] at *); (try simp (disch := omega) only [fb_bmod, true_and, and_true] at *); all_goals (first | omega | (simp only [Int.bmod_def] at *; omega) | omega)))
theorem kc_X8_allRightsTo {q : Int32 → hS → Prop} {v : Int32} (h : St Γ Φ S) (hb : Γ b = some (8, 8 + 10000 * i, i, 0, ρb)) (k : ∀ r, q r S) : w_X8_allRightsTo q S b v := by
  refine loop_m (σ := Int32 × Int32) (fun t s => w_X8_allRightsTo_b4 q t S b v s.1 s.2) (fun s => 0 ≤ s.2.toInt ∧ s.2.toInt ≤ 8) (fun s => (8 - s.2.toInt).toNat) ?_ (0, 0) (by dsimp only; rw [z0I]; omega)
  rintro t ⟨w, x⟩ hx ih
  dsimp only at hx ih ⊢
  have go : ∀ w y : Int32, y.toInt = x.toInt + 1 ∧ x.toInt < 8 → w_X8_allRightsTo_b4 q t S b v w y := fun w y hy => ih (w, y) (by dsimp only; omega) (by dsimp only; omega)
  rw [w_X8_allRightsTo_b4]
  repeat' (first
    | (exact absurd rfl ‹¬ (0 : Int32) = 0›)
    | (exact absurd ‹(1 : Int32) = 0› (by decide))
    | exact k _
    | refine go _ _ ?_
    | (with_reducible refine T_gI_8_4 (by assumption) (by assumption) (fun _ _ _ => ?_))
    | (with_reducible refine T_oK_8 (by assumption) (by assumption) ?_)
    | (with_reducible refine kc_X8_rightsOf (by assumption) (by assumption) (fun _ => ?_))
    | (with_reducible refine T_y (fun _ _ _ => ?_))
    | (refine ⟨fun _ => ?_, fun _ => ?_⟩)
    | fail)
  all_goals (first
    | (with_reducible assumption)
    | omega
    | (simp only [← Int32.toInt_inj, Int32.toInt_add, Int32.toInt_mul, Int32.toInt_sub, Int32.toInt_neg, apply_ite Int32.toInt, Int32.reduceToInt, Int32.le_iff_toInt_le, Int32.lt_iff_toInt_lt] at *; (try simp only [Int.bmod_add_bmod, Int.add_bmod_bmod, Int.bmod_mul_bmod, Int.mul_bmod_bmod, Int.sub_bmod_bmod, Int.bmod_sub_bmod] at *); (try simp (disch := omega) only [fb_bmod, true_and, and_true] at *); all_goals (first | omega | (simp only [Int.bmod_def] at *; omega) | omega)))
theorem kc_X11_stepsBetween {q : Int32 → hS → Prop} {v w : Int32} (k : ∀ r, q r S) : w_X11_stepsBetween q S v w := k _
theorem kc_X8_couldWalk {q : Int32 → hS → Prop} {v : Int32} (h : St Γ Φ S) (hb : Γ b = some (8, 8 + 10000 * i, i, 0, ρb)) (hv : 0 ≤ v.toInt ∧ v.toInt < 8) (h0 : q 0 S) (h1 : q 1 S) : w_X8_couldWalk q S b v := by
  have key : ∀ w : Int32, ∃ n, w_X8_couldWalk_b9 q n S b w 0 := by
    intro w
    refine loop_m (σ := Int32 × Int32) (fun t s => w_X8_couldWalk_b9 q t S b s.1 s.2) (fun s => 0 ≤ s.2.toInt ∧ s.2.toInt ≤ 6) (fun s => (6 - s.2.toInt).toNat) ?_ (w, 0) (by dsimp only; rw [z0I]; omega)
    rintro t ⟨w, x⟩ hx ih
    dsimp only at hx ih ⊢
    have go : ∀ w y : Int32, y.toInt = x.toInt + 1 ∧ x.toInt < 6 → w_X8_couldWalk_b9 q t S b w y := fun w y hy => ih (w, y) (by dsimp only; omega) (by dsimp only; omega)
    rw [w_X8_couldWalk_b9]
    repeat' (first
    | (exact absurd rfl ‹¬ (0 : Int32) = 0›)
    | (exact absurd ‹(1 : Int32) = 0› (by decide))
    | exact h0
    | exact h1
    | refine go _ _ ?_
    | (with_reducible refine T_gP_8_10 (by assumption) (by assumption) (fun _ _ _ => ?_))
    | (with_reducible refine T_gP_8_11 (by assumption) (by assumption) (fun _ _ _ => ?_))
    | (with_reducible refine T_gP_8_2 (by assumption) (by assumption) (fun _ _ _ => ?_))
    | (with_reducible refine T_gP_8_5 (by assumption) (by assumption) (fun _ _ _ => ?_))
    | (with_reducible refine T_gI_8_9 (by assumption) (by assumption) (fun _ _ _ => ?_))
    | (with_reducible refine T_aI_20 (by assumption) (by assumption) ?_ (fun _ _ _ => ?_))
    | (with_reducible refine T_aI_21 (by assumption) (by assumption) ?_ (fun _ _ _ => ?_))
    | (with_reducible refine T_aI_22 (by assumption) (by assumption) ?_ (fun _ _ _ => ?_))
    | (with_reducible refine T_aI_23 (by assumption) (by assumption) ?_ (fun _ _ _ => ?_))
    | (with_reducible refine T_aI_24 (by assumption) (by assumption) ?_ (fun _ _ _ => ?_))
    | (with_reducible refine kc_X11_stepsBetween (fun _ => ?_))
    | (with_reducible refine T_y (fun _ _ _ => ?_))
    | (refine ⟨fun _ => ?_, fun _ => ?_⟩)
    | fail)
    all_goals (first
    | (with_reducible assumption)
    | omega
    | (simp only [← Int32.toInt_inj, Int32.toInt_add, Int32.toInt_mul, Int32.toInt_sub, Int32.toInt_neg, apply_ite Int32.toInt, Int32.reduceToInt, Int32.le_iff_toInt_le, Int32.lt_iff_toInt_lt] at *; (try simp only [Int.bmod_add_bmod, Int.add_bmod_bmod, Int.bmod_mul_bmod, Int.mul_bmod_bmod, Int.sub_bmod_bmod, Int.bmod_sub_bmod] at *); (try simp (disch := omega) only [fb_bmod, true_and, and_true] at *); all_goals (first | omega | (simp only [Int.bmod_def] at *; omega) | omega)))
  unfold w_X8_couldWalk
  repeat' (first
    | (exact absurd rfl ‹¬ (0 : Int32) = 0›)
    | (exact absurd ‹(1 : Int32) = 0› (by decide))
    | exact key _
    | (with_reducible refine T_gP_8_10 (by assumption) (by assumption) (fun _ _ _ => ?_))
    | (with_reducible refine T_gP_8_11 (by assumption) (by assumption) (fun _ _ _ => ?_))
    | (with_reducible refine T_gP_8_2 (by assumption) (by assumption) (fun _ _ _ => ?_))
    | (with_reducible refine T_gP_8_5 (by assumption) (by assumption) (fun _ _ _ => ?_))
    | (with_reducible refine T_gI_8_9 (by assumption) (by assumption) (fun _ _ _ => ?_))
    | (with_reducible refine T_aI_20 (by assumption) (by assumption) ?_ (fun _ _ _ => ?_))
    | (with_reducible refine T_aI_21 (by assumption) (by assumption) ?_ (fun _ _ _ => ?_))
    | (with_reducible refine T_aI_22 (by assumption) (by assumption) ?_ (fun _ _ _ => ?_))
    | (with_reducible refine T_aI_23 (by assumption) (by assumption) ?_ (fun _ _ _ => ?_))
    | (with_reducible refine T_aI_24 (by assumption) (by assumption) ?_ (fun _ _ _ => ?_))
    | (with_reducible refine kc_X11_stepsBetween (fun _ => ?_))
    | (with_reducible refine T_y (fun _ _ _ => ?_))
    | (refine ⟨fun _ => ?_, fun _ => ?_⟩)
    | fail)
  all_goals (first
    | (with_reducible assumption)
    | omega
    | (simp only [← Int32.toInt_inj, Int32.toInt_add, Int32.toInt_mul, Int32.toInt_sub, Int32.toInt_neg, apply_ite Int32.toInt, Int32.reduceToInt, Int32.le_iff_toInt_le, Int32.lt_iff_toInt_lt] at *; (try simp only [Int.bmod_add_bmod, Int.add_bmod_bmod, Int.bmod_mul_bmod, Int.mul_bmod_bmod, Int.sub_bmod_bmod, Int.bmod_sub_bmod] at *); (try simp (disch := omega) only [fb_bmod, true_and, and_true] at *); all_goals (first | omega | (simp only [Int.bmod_def] at *; omega) | omega)))
theorem kc_X8_hasRingsForClues {q : Int32 → hS → Prop} {v : Int32} (h : St Γ Φ S) (hb : Γ b = some (8, 8 + 10000 * i, i, 0, ρb)) (h0 : q 0 S) (h1 : q 1 S) : w_X8_hasRingsForClues q S b v := by
  refine loop_m (σ := Int32) (fun t s => w_X8_hasRingsForClues_b2 q t S b v s) (fun s => 0 ≤ s.toInt ∧ s.toInt ≤ 6) (fun s => (6 - s.toInt).toNat) ?_ 0 (by rw [z0I]; omega)
  intro t x hx ih
  have go : ∀ y : Int32, y.toInt = x.toInt + 1 ∧ x.toInt < 6 → w_X8_hasRingsForClues_b2 q t S b v y := fun y hy => ih y (by omega) (by omega)
  rw [w_X8_hasRingsForClues_b2]
  refine T_gI_8_1 h hb (fun x4 _ h4 => ⟨fun _ => h1, fun c4 => ?_⟩)
  refine loop_m (σ := Int32 × Int32) (fun t' s => w_X8_hasRingsForClues_b15 q (fun S v0 v1 v2 => w_X8_hasRingsForClues_b2 q t S v0 v1 v2) t' S b v x s.1 s.2) (fun s => 0 ≤ s.2.toInt ∧ s.2.toInt ≤ 6) (fun s => (6 - s.2.toInt).toNat) ?_ (0, 0) (by dsimp only; rw [z0I]; omega)
  rintro t' ⟨w, y⟩ hy ih'
  dsimp only at hy ih' ⊢
  have go' : ∀ w z : Int32, z.toInt = y.toInt + 1 ∧ y.toInt < 6 → w_X8_hasRingsForClues_b15 q (fun S v0 v1 v2 => w_X8_hasRingsForClues_b2 q t S v0 v1 v2) t' S b v x w z := fun w z hz => ih' (w, z) (by dsimp only; omega) (by dsimp only; omega)
  rw [w_X8_hasRingsForClues_b15]
  repeat' (first
    | (exact absurd rfl ‹¬ (0 : Int32) = 0›)
    | (exact absurd ‹(1 : Int32) = 0› (by decide))
    | exact h0
    | refine go _ ?_
    | refine go' _ _ ?_
    | (with_reducible refine T_gP_8_10 (by assumption) (by assumption) (fun _ _ _ => ?_))
    | (with_reducible refine T_gI_8_1 (by assumption) (by assumption) (fun _ _ _ => ?_))
    | (with_reducible refine T_gI_8_9 (by assumption) (by assumption) (fun _ _ _ => ?_))
    | (with_reducible refine T_oK_8 (by assumption) (by assumption) ?_)
    | (with_reducible refine T_aI_20 (by assumption) (by assumption) ?_ (fun _ _ _ => ?_))
    | (with_reducible refine T_aI_21 (by assumption) (by assumption) ?_ (fun _ _ _ => ?_))
    | (with_reducible refine T_aI_22 (by assumption) (by assumption) ?_ (fun _ _ _ => ?_))
    | (with_reducible refine T_aI_23 (by assumption) (by assumption) ?_ (fun _ _ _ => ?_))
    | (with_reducible refine T_aI_24 (by assumption) (by assumption) ?_ (fun _ _ _ => ?_))
    | (with_reducible refine kc_X8_leftOf (by assumption) (by assumption) (fun _ => ?_))
    | (unfold w_X8_hasRingsForClues_b38)
    | (with_reducible refine T_y (fun _ _ _ => ?_))
    | (refine ⟨fun _ => ?_, fun _ => ?_⟩)
    | fail)
  all_goals (first
    | (with_reducible assumption)
    | omega
    | (simp only [← Int32.toInt_inj, Int32.toInt_add, Int32.toInt_mul, Int32.toInt_sub, Int32.toInt_neg, apply_ite Int32.toInt, Int32.reduceToInt, Int32.le_iff_toInt_le, Int32.lt_iff_toInt_lt] at *; (try simp only [Int.bmod_add_bmod, Int.add_bmod_bmod, Int.bmod_mul_bmod, Int.mul_bmod_bmod, Int.sub_bmod_bmod, Int.bmod_sub_bmod] at *); (try simp (disch := omega) only [fb_bmod, true_and, and_true] at *); all_goals (first | omega | (simp only [Int.bmod_def] at *; omega) | omega)))
theorem kc_X8_suspects {q : Int32 → hS → Prop} (h : St Γ Φ S) (hb : Γ b = some (8, 8 + 10000 * i, i, 0, ρb)) (k : ∀ r, q r S) : w_X8_suspects q S b := by
  refine loop_m (σ := Int32 × Int32) (fun t s => w_X8_suspects_b4 q t S b s.1 s.2) (fun s => 0 ≤ s.2.toInt ∧ s.2.toInt ≤ 8) (fun s => (8 - s.2.toInt).toNat) ?_ (0, 0) (by dsimp only; rw [z0I]; omega)
  rintro t ⟨w, x⟩ hx ih
  dsimp only at hx ih ⊢
  have go : ∀ w y : Int32, y.toInt = x.toInt + 1 ∧ x.toInt < 8 → w_X8_suspects_b4 q t S b w y := fun w y hy => ih (w, y) (by dsimp only; omega) (by dsimp only; omega)
  rw [w_X8_suspects_b4]
  repeat' (first
    | (exact absurd rfl ‹¬ (0 : Int32) = 0›)
    | (exact absurd ‹(1 : Int32) = 0› (by decide))
    | exact k _
    | refine go _ _ ?_
    | (with_reducible refine T_gI_8_4 (by assumption) (by assumption) (fun _ _ _ => ?_))
    | (with_reducible refine T_oK_8 (by assumption) (by assumption) ?_)
    | (with_reducible refine kc_X8_couldWalk (by assumption) (by assumption) ?_ ?_ ?_)
    | (with_reducible refine kc_X8_hasRingsForClues (by assumption) (by assumption) ?_ ?_)
    | (with_reducible refine kc_X8_lives (by assumption) (by assumption) ?_ (fun _ => ?_))
    | (unfold w_X8_suspects_b42)
    | (with_reducible refine T_y (fun _ _ _ => ?_))
    | (refine ⟨fun _ => ?_, fun _ => ?_⟩)
    | fail)
  all_goals (first
    | (with_reducible assumption)
    | omega
    | (simp only [← Int32.toInt_inj, Int32.toInt_add, Int32.toInt_mul, Int32.toInt_sub, Int32.toInt_neg, apply_ite Int32.toInt, Int32.reduceToInt, Int32.le_iff_toInt_le, Int32.lt_iff_toInt_lt] at *; (try simp only [Int.bmod_add_bmod, Int.add_bmod_bmod, Int.bmod_mul_bmod, Int.mul_bmod_bmod, Int.sub_bmod_bmod, Int.bmod_sub_bmod] at *); (try simp (disch := omega) only [fb_bmod, true_and, and_true] at *); all_goals (first | omega | (simp only [Int.bmod_def] at *; omega) | omega)))
theorem kc_X8_remainAtMost {q : Int32 → hS → Prop} {v w : Int32} (h : St Γ Φ S) (hb : Γ b = some (8, 8 + 10000 * i, i, 0, ρb)) (k : ∀ r, q r S) : w_X8_remainAtMost q S b v w := by
  refine loop_m (σ := Int32 × Int32 × Int32) (fun t s => w_X8_remainAtMost_b8 q t S b v w s.1 s.2.1 s.2.2) (fun s => 0 ≤ s.2.2.toInt ∧ s.2.2.toInt ≤ 8) (fun s => (8 - s.2.2.toInt).toNat) ?_ (0, 0, 0) (by dsimp only; rw [z0I]; omega)
  rintro t ⟨d, e, x⟩ hx ih
  dsimp only at hx ih ⊢
  have go : ∀ d e y : Int32, y.toInt = x.toInt + 1 ∧ x.toInt < 8 → w_X8_remainAtMost_b8 q t S b v w d e y := fun d e y hy => ih (d, e, y) (by dsimp only; omega) (by dsimp only; omega)
  rw [w_X8_remainAtMost_b8]
  repeat' (first
    | (exact absurd rfl ‹¬ (0 : Int32) = 0›)
    | (exact absurd ‹(1 : Int32) = 0› (by decide))
    | exact k _
    | refine go _ _ _ ?_
    | (with_reducible refine T_gI_8_4 (by assumption) (by assumption) (fun _ _ _ => ?_))
    | (with_reducible refine T_oK_8 (by assumption) (by assumption) ?_)
    | (with_reducible refine kc_X11_hasBit ?_ ?_)
    | (with_reducible refine kc_X8_leftOf (by assumption) (by assumption) (fun _ => ?_))
    | (unfold w_X8_remainAtMost_b46)
    | (with_reducible refine T_y (fun _ _ _ => ?_))
    | (refine ⟨fun _ => ?_, fun _ => ?_⟩)
    | fail)
  all_goals (first
    | (with_reducible assumption)
    | omega
    | (simp only [← Int32.toInt_inj, Int32.toInt_add, Int32.toInt_mul, Int32.toInt_sub, Int32.toInt_neg, apply_ite Int32.toInt, Int32.reduceToInt, Int32.le_iff_toInt_le, Int32.lt_iff_toInt_lt] at *; (try simp only [Int.bmod_add_bmod, Int.add_bmod_bmod, Int.bmod_mul_bmod, Int.mul_bmod_bmod, Int.sub_bmod_bmod, Int.bmod_sub_bmod] at *); (try simp (disch := omega) only [fb_bmod, true_and, and_true] at *); all_goals (first | omega | (simp only [Int.bmod_def] at *; omega) | omega)))
theorem kc_X2_copyFrom {q : hS → Prop} (h : St Γ Φ S) (ha : Γ a = some (2, 2 + 10000 * i, i, 0, ρa)) (hb : Γ b = some (2, 2 + 10000 * i', i', 0, ρb)) (hf : fre Γ Φ [2 + 10000 * i, 300 + 10000 * i, 301 + 10000 * i, 302 + 10000 * i, 303 + 10000 * i]) (k : ∀ S', St Γ Φ S' → q S') : w_X2_copyFrom q S a b := by
  unfold w_X2_copyFrom
  repeat' (first
    | (exact absurd rfl ‹¬ (0 : Int32) = 0›)
    | (exact absurd ‹(1 : Int32) = 0› (by decide))
    | exact k _ (by assumption)
    | (with_reducible refine T_gP_2_0 (by assumption) (by assumption) (fun _ _ _ => ?_))
    | (with_reducible refine T_gP_2_1 (by assumption) (by assumption) (fun _ _ _ => ?_))
    | (with_reducible refine T_gP_2_2 (by assumption) (by assumption) (fun _ _ _ => ?_))
    | (with_reducible refine T_gP_2_3 (by assumption) (by assumption) (fun _ _ _ => ?_))
    | (with_reducible refine T_gI_2_4 (by assumption) (by assumption) (fun _ _ _ => ?_))
    | (with_reducible refine T_gI_2_5 (by assumption) (by assumption) (fun _ _ _ => ?_))
    | (with_reducible refine T_pI_2_4 (by assumption) (by assumption) (by assumption) (by simp) (fun _ _ _ _ _ => ?_))
    | (with_reducible refine T_pI_2_5 (by assumption) (by assumption) (by assumption) (by simp) (fun _ _ _ _ _ => ?_))
    | (with_reducible refine T_aN_20 (by assumption) (by assumption) (fun _ _ => ?_))
    | (with_reducible refine T_aN_21 (by assumption) (by assumption) (fun _ _ => ?_))
    | (with_reducible refine T_aN_22 (by assumption) (by assumption) (fun _ _ => ?_))
    | (with_reducible refine T_aN_23 (by assumption) (by assumption) (fun _ _ => ?_))
    | (with_reducible refine T_aN_24 (by assumption) (by assumption) (fun _ _ => ?_))
    | (with_reducible refine T_cI_20 (by assumption) (by assumption) (by assumption) (by assumption) (by simp) ?_ (fun _ _ _ _ _ _ => ?_))
    | (with_reducible refine T_cI_21 (by assumption) (by assumption) (by assumption) (by assumption) (by simp) ?_ (fun _ _ _ _ _ _ => ?_))
    | (with_reducible refine T_cI_22 (by assumption) (by assumption) (by assumption) (by assumption) (by simp) ?_ (fun _ _ _ _ _ _ => ?_))
    | (with_reducible refine T_cI_23 (by assumption) (by assumption) (by assumption) (by assumption) (by simp) ?_ (fun _ _ _ _ _ _ => ?_))
    | (with_reducible refine T_cI_24 (by assumption) (by assumption) (by assumption) (by assumption) (by simp) ?_ (fun _ _ _ _ _ _ => ?_))
    | (refine ⟨fun _ => ?_, fun _ => ?_⟩)
    | fail)
  all_goals (first
    | (with_reducible assumption)
    | omega
    | (simp only [← Int32.toInt_inj, Int32.toInt_add, Int32.toInt_mul, Int32.toInt_sub, Int32.toInt_neg, apply_ite Int32.toInt, Int32.reduceToInt, Int32.le_iff_toInt_le, Int32.lt_iff_toInt_lt] at *; (try simp only [Int.bmod_add_bmod, Int.add_bmod_bmod, Int.bmod_mul_bmod, Int.mul_bmod_bmod, Int.sub_bmod_bmod, Int.bmod_sub_bmod] at *); (try simp (disch := omega) only [fb_bmod, true_and, and_true] at *); all_goals (first | omega | (simp only [Int.bmod_def] at *; omega) | omega)))
theorem kc_X8_copyFrom {q : hS → Prop} (h : St Γ Φ S) (ha : Γ a = some (8, 8 + 10000 * i, i, 0, ρa)) (hb : Γ b = some (8, 8 + 10000 * i', i', 0, ρb)) (hf : fre Γ Φ [2 + 10000 * i, 300 + 10000 * i, 301 + 10000 * i, 302 + 10000 * i, 303 + 10000 * i, 8 + 10000 * i, 902 + 10000 * i, 903 + 10000 * i, 905 + 10000 * i, 906 + 10000 * i, 907 + 10000 * i, 908 + 10000 * i, 910 + 10000 * i, 911 + 10000 * i, 915 + 10000 * i]) (k : ∀ S', St Γ Φ S' → q S') : w_X8_copyFrom q S a b := by
  have key : ∀ S', St Γ Φ S' → ∃ n, w_X8_copyFrom_b205 q n S' a b 0 := by
    intro S' h'
    refine loop_m (σ := hS × Int32) (fun t s => w_X8_copyFrom_b205 q t s.1 a b s.2) (fun s => St Γ Φ s.1 ∧ 0 ≤ s.2.toInt ∧ s.2.toInt ≤ 6) (fun s => (6 - s.2.toInt).toNat) ?_ (S', 0) ⟨h', by dsimp only; rw [z0I]; omega⟩
    rintro t ⟨S, x⟩ ⟨h, hx⟩ ih
    dsimp only at h hx ih ⊢
    have go : ∀ (S' : hS) (y : Int32), St Γ Φ S' → y.toInt = x.toInt + 1 ∧ x.toInt < 6 → w_X8_copyFrom_b205 q t S' a b y := fun S' y h' hy => ih (S', y) ⟨h', by dsimp only; omega⟩ (by dsimp only; omega)
    rw [w_X8_copyFrom_b205]
    repeat' (first
    | (exact absurd rfl ‹¬ (0 : Int32) = 0›)
    | (exact absurd ‹(1 : Int32) = 0› (by decide))
    | exact k _ (by assumption)
    | refine go _ _ (by assumption) ?_
    | (with_reducible refine T_gP_8_0 (by assumption) (by assumption) (fun _ _ _ => ?_))
    | (with_reducible refine T_gP_8_10 (by assumption) (by assumption) (fun _ _ _ => ?_))
    | (with_reducible refine T_gP_8_11 (by assumption) (by assumption) (fun _ _ _ => ?_))
    | (with_reducible refine T_gP_8_15 (by assumption) (by assumption) (fun _ _ _ => ?_))
    | (with_reducible refine T_gP_8_2 (by assumption) (by assumption) (fun _ _ _ => ?_))
    | (with_reducible refine T_gP_8_3 (by assumption) (by assumption) (fun _ _ _ => ?_))
    | (with_reducible refine T_gP_8_5 (by assumption) (by assumption) (fun _ _ _ => ?_))
    | (with_reducible refine T_gP_8_6 (by assumption) (by assumption) (fun _ _ _ => ?_))
    | (with_reducible refine T_gP_8_7 (by assumption) (by assumption) (fun _ _ _ => ?_))
    | (with_reducible refine T_gP_8_8 (by assumption) (by assumption) (fun _ _ _ => ?_))
    | (with_reducible refine T_gI_8_1 (by assumption) (by assumption) (fun _ _ _ => ?_))
    | (with_reducible refine T_gI_8_12 (by assumption) (by assumption) (fun _ _ _ => ?_))
    | (with_reducible refine T_gI_8_13 (by assumption) (by assumption) (fun _ _ _ => ?_))
    | (with_reducible refine T_gI_8_14 (by assumption) (by assumption) (fun _ _ _ => ?_))
    | (with_reducible refine T_gI_8_16 (by assumption) (by assumption) (fun _ _ _ => ?_))
    | (with_reducible refine T_gI_8_4 (by assumption) (by assumption) (fun _ _ _ => ?_))
    | (with_reducible refine T_gI_8_9 (by assumption) (by assumption) (fun _ _ _ => ?_))
    | (with_reducible refine T_pI_8_1 (by assumption) (by assumption) (by assumption) (by simp) ?_ (fun _ _ _ _ _ => ?_))
    | (with_reducible refine T_pI_8_12 (by assumption) (by assumption) (by assumption) (by simp) (fun _ _ _ _ _ => ?_))
    | (with_reducible refine T_pI_8_13 (by assumption) (by assumption) (by assumption) (by simp) (fun _ _ _ _ _ => ?_))
    | (with_reducible refine T_pI_8_14 (by assumption) (by assumption) (by assumption) (by simp) ?_ (fun _ _ _ _ _ => ?_))
    | (with_reducible refine T_pI_8_16 (by assumption) (by assumption) (by assumption) (by simp) (fun _ _ _ _ _ => ?_))
    | (with_reducible refine T_pI_8_4 (by assumption) (by assumption) (by assumption) (by simp) ?_ (fun _ _ _ _ _ => ?_))
    | (with_reducible refine T_pI_8_9 (by assumption) (by assumption) (by assumption) (by simp) ?_ (fun _ _ _ _ _ => ?_))
    | (with_reducible refine T_oK_2 (by assumption) (by assumption) ?_)
    | (with_reducible refine T_aN_20 (by assumption) (by assumption) (fun _ _ => ?_))
    | (with_reducible refine T_aN_21 (by assumption) (by assumption) (fun _ _ => ?_))
    | (with_reducible refine T_aN_22 (by assumption) (by assumption) (fun _ _ => ?_))
    | (with_reducible refine T_aN_23 (by assumption) (by assumption) (fun _ _ => ?_))
    | (with_reducible refine T_aN_24 (by assumption) (by assumption) (fun _ _ => ?_))
    | (with_reducible refine T_cI_20 (by assumption) (by assumption) (by assumption) (by assumption) (by simp) ?_ (fun _ _ _ _ _ _ => ?_))
    | (with_reducible refine T_cI_21 (by assumption) (by assumption) (by assumption) (by assumption) (by simp) ?_ (fun _ _ _ _ _ _ => ?_))
    | (with_reducible refine T_cI_22 (by assumption) (by assumption) (by assumption) (by assumption) (by simp) ?_ (fun _ _ _ _ _ _ => ?_))
    | (with_reducible refine T_cI_23 (by assumption) (by assumption) (by assumption) (by assumption) (by simp) ?_ (fun _ _ _ _ _ _ => ?_))
    | (with_reducible refine T_cI_24 (by assumption) (by assumption) (by assumption) (by assumption) (by simp) ?_ (fun _ _ _ _ _ _ => ?_))
    | (with_reducible refine T_aR_28 (by assumption) (by assumption) ?_ (fun _ _ _ => ?_))
    | (with_reducible refine T_stR_28 (by assumption) (by assumption) (by assumption) (by simp) ?_ ?_ (fun _ _ _ _ _ _ => ?_))
    | (with_reducible refine kc_X2_copyFrom (by assumption) (by assumption) (by assumption) (fre.sub (by assumption) (by simp)) (fun _ _ => ?_))
    | (with_reducible refine T_y (fun _ _ _ => ?_))
    | (refine ⟨fun _ => ?_, fun _ => ?_⟩)
    | fail)
    all_goals (first
    | (with_reducible assumption)
    | omega
    | (simp only [← Int32.toInt_inj, Int32.toInt_add, Int32.toInt_mul, Int32.toInt_sub, Int32.toInt_neg, apply_ite Int32.toInt, Int32.reduceToInt, Int32.le_iff_toInt_le, Int32.lt_iff_toInt_lt] at *; (try simp only [Int.bmod_add_bmod, Int.add_bmod_bmod, Int.bmod_mul_bmod, Int.mul_bmod_bmod, Int.sub_bmod_bmod, Int.bmod_sub_bmod] at *); (try simp (disch := omega) only [fb_bmod, true_and, and_true] at *); all_goals (first | omega | (simp only [Int.bmod_def] at *; omega) | omega)))
  unfold w_X8_copyFrom
  repeat' (first
    | (exact absurd rfl ‹¬ (0 : Int32) = 0›)
    | (exact absurd ‹(1 : Int32) = 0› (by decide))
    | exact key _ (by assumption)
    | (with_reducible refine T_gP_8_0 (by assumption) (by assumption) (fun _ _ _ => ?_))
    | (with_reducible refine T_gP_8_10 (by assumption) (by assumption) (fun _ _ _ => ?_))
    | (with_reducible refine T_gP_8_11 (by assumption) (by assumption) (fun _ _ _ => ?_))
    | (with_reducible refine T_gP_8_15 (by assumption) (by assumption) (fun _ _ _ => ?_))
    | (with_reducible refine T_gP_8_2 (by assumption) (by assumption) (fun _ _ _ => ?_))
    | (with_reducible refine T_gP_8_3 (by assumption) (by assumption) (fun _ _ _ => ?_))
    | (with_reducible refine T_gP_8_5 (by assumption) (by assumption) (fun _ _ _ => ?_))
    | (with_reducible refine T_gP_8_6 (by assumption) (by assumption) (fun _ _ _ => ?_))
    | (with_reducible refine T_gP_8_7 (by assumption) (by assumption) (fun _ _ _ => ?_))
    | (with_reducible refine T_gP_8_8 (by assumption) (by assumption) (fun _ _ _ => ?_))
    | (with_reducible refine T_gI_8_1 (by assumption) (by assumption) (fun _ _ _ => ?_))
    | (with_reducible refine T_gI_8_12 (by assumption) (by assumption) (fun _ _ _ => ?_))
    | (with_reducible refine T_gI_8_13 (by assumption) (by assumption) (fun _ _ _ => ?_))
    | (with_reducible refine T_gI_8_14 (by assumption) (by assumption) (fun _ _ _ => ?_))
    | (with_reducible refine T_gI_8_16 (by assumption) (by assumption) (fun _ _ _ => ?_))
    | (with_reducible refine T_gI_8_4 (by assumption) (by assumption) (fun _ _ _ => ?_))
    | (with_reducible refine T_gI_8_9 (by assumption) (by assumption) (fun _ _ _ => ?_))
    | (with_reducible refine T_pI_8_1 (by assumption) (by assumption) (by assumption) (by simp) ?_ (fun _ _ _ _ _ => ?_))
    | (with_reducible refine T_pI_8_12 (by assumption) (by assumption) (by assumption) (by simp) (fun _ _ _ _ _ => ?_))
    | (with_reducible refine T_pI_8_13 (by assumption) (by assumption) (by assumption) (by simp) (fun _ _ _ _ _ => ?_))
    | (with_reducible refine T_pI_8_14 (by assumption) (by assumption) (by assumption) (by simp) ?_ (fun _ _ _ _ _ => ?_))
    | (with_reducible refine T_pI_8_16 (by assumption) (by assumption) (by assumption) (by simp) (fun _ _ _ _ _ => ?_))
    | (with_reducible refine T_pI_8_4 (by assumption) (by assumption) (by assumption) (by simp) ?_ (fun _ _ _ _ _ => ?_))
    | (with_reducible refine T_pI_8_9 (by assumption) (by assumption) (by assumption) (by simp) ?_ (fun _ _ _ _ _ => ?_))
    | (with_reducible refine T_oK_2 (by assumption) (by assumption) ?_)
    | (with_reducible refine T_aN_20 (by assumption) (by assumption) (fun _ _ => ?_))
    | (with_reducible refine T_aN_21 (by assumption) (by assumption) (fun _ _ => ?_))
    | (with_reducible refine T_aN_22 (by assumption) (by assumption) (fun _ _ => ?_))
    | (with_reducible refine T_aN_23 (by assumption) (by assumption) (fun _ _ => ?_))
    | (with_reducible refine T_aN_24 (by assumption) (by assumption) (fun _ _ => ?_))
    | (with_reducible refine T_cI_20 (by assumption) (by assumption) (by assumption) (by assumption) (by simp) ?_ (fun _ _ _ _ _ _ => ?_))
    | (with_reducible refine T_cI_21 (by assumption) (by assumption) (by assumption) (by assumption) (by simp) ?_ (fun _ _ _ _ _ _ => ?_))
    | (with_reducible refine T_cI_22 (by assumption) (by assumption) (by assumption) (by assumption) (by simp) ?_ (fun _ _ _ _ _ _ => ?_))
    | (with_reducible refine T_cI_23 (by assumption) (by assumption) (by assumption) (by assumption) (by simp) ?_ (fun _ _ _ _ _ _ => ?_))
    | (with_reducible refine T_cI_24 (by assumption) (by assumption) (by assumption) (by assumption) (by simp) ?_ (fun _ _ _ _ _ _ => ?_))
    | (with_reducible refine T_aR_28 (by assumption) (by assumption) ?_ (fun _ _ _ => ?_))
    | (with_reducible refine T_stR_28 (by assumption) (by assumption) (by assumption) (by simp) ?_ ?_ (fun _ _ _ _ _ _ => ?_))
    | (with_reducible refine kc_X2_copyFrom (by assumption) (by assumption) (by assumption) (fre.sub (by assumption) (by simp)) (fun _ _ => ?_))
    | (with_reducible refine T_y (fun _ _ _ => ?_))
    | (refine ⟨fun _ => ?_, fun _ => ?_⟩)
    | fail)
  all_goals (first
    | (with_reducible assumption)
    | omega
    | (simp only [← Int32.toInt_inj, Int32.toInt_add, Int32.toInt_mul, Int32.toInt_sub, Int32.toInt_neg, apply_ite Int32.toInt, Int32.reduceToInt, Int32.le_iff_toInt_le, Int32.lt_iff_toInt_lt] at *; (try simp only [Int.bmod_add_bmod, Int.add_bmod_bmod, Int.bmod_mul_bmod, Int.mul_bmod_bmod, Int.sub_bmod_bmod, Int.bmod_sub_bmod] at *); (try simp (disch := omega) only [fb_bmod, true_and, and_true] at *); all_goals (first | omega | (simp only [Int.bmod_def] at *; omega) | omega)))
theorem kc_X1_divide {q : hS → Prop} {v w e m : Int32} (h : St Γ Φ S) (hb : Γ b = some (8, 8 + 10000 * i, i, 0, ρb)) (hf : fre Γ Φ [300 + 10000 * i]) (hw : 0 ≤ w.toInt ∧ w.toInt < 6) (k : ∀ S', St Γ Φ S' → q S') : w_X1_divide q S b v w e m := by
  refine T_gP_8_0 h hb (fun g _ hg => T_gP_2_0 h hg (fun r _ hr => ?_))
  refine loop_m (σ := hS × Int32 × Int32) (fun t s => w_X1_divide_b15 q t s.1 b v w e m r s.2.1 s.2.2) (fun s => St Γ Φ s.1 ∧ 0 ≤ s.2.2.toInt ∧ s.2.2.toInt ≤ 8) (fun s => (8 - s.2.2.toInt).toNat) ?_ (S, 0, 0) ⟨h, by dsimp only; rw [z0I]; omega⟩
  rintro t ⟨S, y, x⟩ ⟨h, hx⟩ ih
  dsimp only at h hx ih ⊢
  have go : ∀ (S' : hS) (z y : Int32), St Γ Φ S' → y.toInt = x.toInt + 1 ∧ x.toInt < 8 → w_X1_divide_b15 q t S' b v w e m r z y := fun S' z y h' hy => ih (S', z, y) ⟨h', by dsimp only; omega⟩ (by dsimp only; omega)
  rw [w_X1_divide_b15]
  repeat' (first
    | (exact absurd rfl ‹¬ (0 : Int32) = 0›)
    | (exact absurd ‹(1 : Int32) = 0› (by decide))
    | exact k _ (by assumption)
    | refine go _ _ _ (by assumption) ?_
    | (with_reducible refine T_gP_2_0 (by assumption) (by assumption) (fun _ _ _ => ?_))
    | (with_reducible refine T_gP_8_0 (by assumption) (by assumption) (fun _ _ _ => ?_))
    | (with_reducible refine T_gI_8_4 (by assumption) (by assumption) (fun _ _ _ => ?_))
    | (with_reducible refine T_oK_8 (by assumption) (by assumption) ?_)
    | (with_reducible refine T_aI_20 (by assumption) (by assumption) ?_ (fun _ _ _ => ?_))
    | (with_reducible refine T_aI_21 (by assumption) (by assumption) ?_ (fun _ _ _ => ?_))
    | (with_reducible refine T_aI_22 (by assumption) (by assumption) ?_ (fun _ _ _ => ?_))
    | (with_reducible refine T_aI_23 (by assumption) (by assumption) ?_ (fun _ _ _ => ?_))
    | (with_reducible refine T_aI_24 (by assumption) (by assumption) ?_ (fun _ _ _ => ?_))
    | (with_reducible refine T_sI_20 (by assumption) (by assumption) (by assumption) (by simp) ?_ (fun _ _ _ _ _ _ => ?_))
    | (with_reducible refine T_sI_21 (by assumption) (by assumption) (by assumption) (by simp) ?_ ?_ (fun _ _ _ _ _ _ => ?_))
    | (with_reducible refine T_sI_22 (by assumption) (by assumption) (by assumption) (by simp) ?_ ?_ (fun _ _ _ _ _ _ => ?_))
    | (with_reducible refine T_sI_23 (by assumption) (by assumption) (by assumption) (by simp) ?_ ?_ (fun _ _ _ _ _ _ => ?_))
    | (with_reducible refine T_sI_24 (by assumption) (by assumption) (by assumption) (by simp) ?_ ?_ (fun _ _ _ _ _ _ => ?_))
    | (with_reducible refine kc_X11_slot ?_ (fun _ _ => ?_))
    | (with_reducible refine kc_X8_isLivingHeir (by assumption) (by assumption) ?_ (fun _ => ?_))
    | (unfold w_X1_divide_b79)
    | (unfold w_X1_divide_b48)
    | (with_reducible refine T_y (fun _ _ _ => ?_))
    | (refine ⟨fun _ => ?_, fun _ => ?_⟩)
    | fail)
  all_goals (first
    | (with_reducible assumption)
    | omega
    | (simp only [← Int32.toInt_inj, Int32.toInt_add, Int32.toInt_mul, Int32.toInt_sub, Int32.toInt_neg, apply_ite Int32.toInt, Int32.reduceToInt, Int32.le_iff_toInt_le, Int32.lt_iff_toInt_lt] at *; (try simp only [Int.bmod_add_bmod, Int.add_bmod_bmod, Int.bmod_mul_bmod, Int.mul_bmod_bmod, Int.sub_bmod_bmod, Int.bmod_sub_bmod] at *); (try simp (disch := omega) only [fb_bmod, true_and, and_true] at *); all_goals (first | omega | (simp only [Int.bmod_def] at *; omega) | omega)))
theorem kc_J6_bitCount {q : Int32 → hS → Prop} {v : Int32} (k : ∀ r, q r S) : w_J6_bitCount_0f7a4 q S v := fun _ _ _ _ _ _ _ _ _ _ => k _
theorem kc_X8_addHouse {q : Int32 → hS → Prop} {v w : Int32} (h : St Γ Φ S) (hb : Γ b = some (8, 8 + 10000 * i, i, 0, ρb)) (hf : fre Γ Φ [8 + 10000 * i, 902 + 10000 * i, 903 + 10000 * i, 300 + 10000 * i, 301 + 10000 * i, 302 + 10000 * i]) (k : ∀ r S', St Γ Φ S' → q r S') : w_X8_addHouse q S b v w := by
  have key : ∀ (S' : hS) (u : Int32), St Γ Φ S' → (0 ≤ u.toInt ∧ u.toInt < 6) → ∃ n, w_X8_addHouse_b53 q n S' b u 0 := by
    intro S' u h' hu
    refine loop_m (σ := hS × Int32) (fun t s => w_X8_addHouse_b53 q t s.1 b u s.2) (fun s => St Γ Φ s.1 ∧ 0 ≤ s.2.toInt ∧ s.2.toInt ≤ 8) (fun s => (8 - s.2.toInt).toNat) ?_ (S', 0) ⟨h', by dsimp only; rw [z0I]; omega⟩
    rintro t ⟨S, x⟩ ⟨h, hx⟩ ih
    dsimp only at h hx ih ⊢
    have go : ∀ (S' : hS) (y : Int32), St Γ Φ S' → y.toInt = x.toInt + 1 ∧ x.toInt < 8 → w_X8_addHouse_b53 q t S' b u y := fun S' y h' hy => ih (S', y) ⟨h', by dsimp only; omega⟩ (by dsimp only; omega)
    rw [w_X8_addHouse_b53]
    repeat' (first
    | (exact absurd rfl ‹¬ (0 : Int32) = 0›)
    | (exact absurd ‹(1 : Int32) = 0› (by decide))
    | exact k _ _ (by assumption)
    | refine go _ _ (by assumption) ?_
    | (with_reducible refine T_gP_2_0 (by assumption) (by assumption) (fun _ _ _ => ?_))
    | (with_reducible refine T_gP_2_1 (by assumption) (by assumption) (fun _ _ _ => ?_))
    | (with_reducible refine T_gP_2_2 (by assumption) (by assumption) (fun _ _ _ => ?_))
    | (with_reducible refine T_gP_8_0 (by assumption) (by assumption) (fun _ _ _ => ?_))
    | (with_reducible refine T_gP_8_2 (by assumption) (by assumption) (fun _ _ _ => ?_))
    | (with_reducible refine T_gP_8_3 (by assumption) (by assumption) (fun _ _ _ => ?_))
    | (with_reducible refine T_gI_8_1 (by assumption) (by assumption) (fun _ _ _ => ?_))
    | (with_reducible refine T_pI_8_1 (by assumption) (by assumption) (by assumption) (by simp) ?_ (fun _ _ _ _ _ => ?_))
    | (with_reducible refine T_sI_20 (by assumption) (by assumption) (by assumption) (by simp) ?_ (fun _ _ _ _ _ _ => ?_))
    | (with_reducible refine T_sI_21 (by assumption) (by assumption) (by assumption) (by simp) ?_ ?_ (fun _ _ _ _ _ _ => ?_))
    | (with_reducible refine T_sI_22 (by assumption) (by assumption) (by assumption) (by simp) ?_ ?_ (fun _ _ _ _ _ _ => ?_))
    | (with_reducible refine T_sI_23 (by assumption) (by assumption) (by assumption) (by simp) ?_ ?_ (fun _ _ _ _ _ _ => ?_))
    | (with_reducible refine T_sI_24 (by assumption) (by assumption) (by assumption) (by simp) ?_ ?_ (fun _ _ _ _ _ _ => ?_))
    | (with_reducible refine kc_X11_slot ?_ (fun _ _ => ?_))
    | (with_reducible refine T_y (fun _ _ _ => ?_))
    | (refine ⟨fun _ => ?_, fun _ => ?_⟩)
    | fail)
    all_goals (first
    | (with_reducible assumption)
    | omega
    | (simp only [← Int32.toInt_inj, Int32.toInt_add, Int32.toInt_mul, Int32.toInt_sub, Int32.toInt_neg, apply_ite Int32.toInt, Int32.reduceToInt, Int32.le_iff_toInt_le, Int32.lt_iff_toInt_lt] at *; (try simp only [Int.bmod_add_bmod, Int.add_bmod_bmod, Int.bmod_mul_bmod, Int.mul_bmod_bmod, Int.sub_bmod_bmod, Int.bmod_sub_bmod] at *); (try simp (disch := omega) only [fb_bmod, true_and, and_true] at *); all_goals (first | omega | (simp only [Int.bmod_def] at *; omega) | omega)))
  unfold w_X8_addHouse
  repeat' (first
    | (exact absurd rfl ‹¬ (0 : Int32) = 0›)
    | (exact absurd ‹(1 : Int32) = 0› (by decide))
    | exact k _ _ (by assumption)
    | refine key _ _ (by assumption) ?_
    | (with_reducible refine T_gP_2_0 (by assumption) (by assumption) (fun _ _ _ => ?_))
    | (with_reducible refine T_gP_2_1 (by assumption) (by assumption) (fun _ _ _ => ?_))
    | (with_reducible refine T_gP_2_2 (by assumption) (by assumption) (fun _ _ _ => ?_))
    | (with_reducible refine T_gP_8_0 (by assumption) (by assumption) (fun _ _ _ => ?_))
    | (with_reducible refine T_gP_8_2 (by assumption) (by assumption) (fun _ _ _ => ?_))
    | (with_reducible refine T_gP_8_3 (by assumption) (by assumption) (fun _ _ _ => ?_))
    | (with_reducible refine T_gI_8_1 (by assumption) (by assumption) (fun _ _ _ => ?_))
    | (with_reducible refine T_pI_8_1 (by assumption) (by assumption) (by assumption) (by simp) ?_ (fun _ _ _ _ _ => ?_))
    | (with_reducible refine T_sI_20 (by assumption) (by assumption) (by assumption) (by simp) ?_ (fun _ _ _ _ _ _ => ?_))
    | (with_reducible refine T_sI_21 (by assumption) (by assumption) (by assumption) (by simp) ?_ ?_ (fun _ _ _ _ _ _ => ?_))
    | (with_reducible refine T_sI_22 (by assumption) (by assumption) (by assumption) (by simp) ?_ ?_ (fun _ _ _ _ _ _ => ?_))
    | (with_reducible refine T_sI_23 (by assumption) (by assumption) (by assumption) (by simp) ?_ ?_ (fun _ _ _ _ _ _ => ?_))
    | (with_reducible refine T_sI_24 (by assumption) (by assumption) (by assumption) (by simp) ?_ ?_ (fun _ _ _ _ _ _ => ?_))
    | (with_reducible refine kc_X11_slot ?_ (fun _ _ => ?_))
    | (with_reducible refine T_y (fun _ _ _ => ?_))
    | (refine ⟨fun _ => ?_, fun _ => ?_⟩)
    | fail)
  all_goals (first
    | (with_reducible assumption)
    | omega
    | (simp only [← Int32.toInt_inj, Int32.toInt_add, Int32.toInt_mul, Int32.toInt_sub, Int32.toInt_neg, apply_ite Int32.toInt, Int32.reduceToInt, Int32.le_iff_toInt_le, Int32.lt_iff_toInt_lt] at *; (try simp only [Int.bmod_add_bmod, Int.add_bmod_bmod, Int.bmod_mul_bmod, Int.mul_bmod_bmod, Int.sub_bmod_bmod, Int.bmod_sub_bmod] at *); (try simp (disch := omega) only [fb_bmod, true_and, and_true] at *); all_goals (first | omega | (simp only [Int.bmod_def] at *; omega) | omega)))
theorem kc_X8_addPerson {q : Int32 → hS → Prop} {v w e : Int32} (h : St Γ Φ S) (hb : Γ b = some (8, 8 + 10000 * i, i, 0, ρb)) (hf : fre Γ Φ [8 + 10000 * i, 905 + 10000 * i, 906 + 10000 * i, 907 + 10000 * i, 908 + 10000 * i, 2 + 10000 * i, 300 + 10000 * i, 301 + 10000 * i, 303 + 10000 * i]) (k : ∀ r S', St Γ Φ S' → q r S') : w_X8_addPerson q S b v w e := by
  have key : ∀ (S' : hS) (u : Int32), St Γ Φ S' → (0 ≤ u.toInt ∧ u.toInt < 8) → ∃ n, w_X8_addPerson_b91 q n S' b u 0 := by
    intro S' u h' hu
    refine loop_m (σ := hS × Int32) (fun t s => w_X8_addPerson_b91 q t s.1 b u s.2) (fun s => St Γ Φ s.1 ∧ 0 ≤ s.2.toInt ∧ s.2.toInt ≤ 6) (fun s => (6 - s.2.toInt).toNat) ?_ (S', 0) ⟨h', by dsimp only; rw [z0I]; omega⟩
    rintro t ⟨S, x⟩ ⟨h, hx⟩ ih
    dsimp only at h hx ih ⊢
    have go : ∀ (S' : hS) (y : Int32), St Γ Φ S' → y.toInt = x.toInt + 1 ∧ x.toInt < 6 → w_X8_addPerson_b91 q t S' b u y := fun S' y h' hy => ih (S', y) ⟨h', by dsimp only; omega⟩ (by dsimp only; omega)
    rw [w_X8_addPerson_b91]
    repeat' (first
    | (exact absurd rfl ‹¬ (0 : Int32) = 0›)
    | (exact absurd ‹(1 : Int32) = 0› (by decide))
    | exact k _ _ (by assumption)
    | refine go _ _ (by assumption) ?_
    | (with_reducible refine T_gP_2_0 (by assumption) (by assumption) (fun _ _ _ => ?_))
    | (with_reducible refine T_gP_2_1 (by assumption) (by assumption) (fun _ _ _ => ?_))
    | (with_reducible refine T_gP_2_3 (by assumption) (by assumption) (fun _ _ _ => ?_))
    | (with_reducible refine T_gP_8_0 (by assumption) (by assumption) (fun _ _ _ => ?_))
    | (with_reducible refine T_gP_8_5 (by assumption) (by assumption) (fun _ _ _ => ?_))
    | (with_reducible refine T_gP_8_6 (by assumption) (by assumption) (fun _ _ _ => ?_))
    | (with_reducible refine T_gP_8_7 (by assumption) (by assumption) (fun _ _ _ => ?_))
    | (with_reducible refine T_gP_8_8 (by assumption) (by assumption) (fun _ _ _ => ?_))
    | (with_reducible refine T_gI_2_4 (by assumption) (by assumption) (fun _ _ _ => ?_))
    | (with_reducible refine T_gI_8_4 (by assumption) (by assumption) (fun _ _ _ => ?_))
    | (with_reducible refine T_pI_2_4 (by assumption) (by assumption) (by assumption) (by simp) (fun _ _ _ _ _ => ?_))
    | (with_reducible refine T_pI_8_4 (by assumption) (by assumption) (by assumption) (by simp) ?_ (fun _ _ _ _ _ => ?_))
    | (with_reducible refine T_sI_20 (by assumption) (by assumption) (by assumption) (by simp) ?_ (fun _ _ _ _ _ _ => ?_))
    | (with_reducible refine T_sI_21 (by assumption) (by assumption) (by assumption) (by simp) ?_ ?_ (fun _ _ _ _ _ _ => ?_))
    | (with_reducible refine T_sI_22 (by assumption) (by assumption) (by assumption) (by simp) ?_ ?_ (fun _ _ _ _ _ _ => ?_))
    | (with_reducible refine T_sI_23 (by assumption) (by assumption) (by assumption) (by simp) ?_ ?_ (fun _ _ _ _ _ _ => ?_))
    | (with_reducible refine T_sI_24 (by assumption) (by assumption) (by assumption) (by simp) ?_ ?_ (fun _ _ _ _ _ _ => ?_))
    | (with_reducible refine kc_X11_slot ?_ (fun _ _ => ?_))
    | (with_reducible refine T_y (fun _ _ _ => ?_))
    | (refine ⟨fun _ => ?_, fun _ => ?_⟩)
    | fail)
    all_goals (first
    | (with_reducible assumption)
    | omega
    | (simp only [← Int32.toInt_inj, Int32.toInt_add, Int32.toInt_mul, Int32.toInt_sub, Int32.toInt_neg, apply_ite Int32.toInt, Int32.reduceToInt, Int32.le_iff_toInt_le, Int32.lt_iff_toInt_lt] at *; (try simp only [Int.bmod_add_bmod, Int.add_bmod_bmod, Int.bmod_mul_bmod, Int.mul_bmod_bmod, Int.sub_bmod_bmod, Int.bmod_sub_bmod] at *); (try simp (disch := omega) only [fb_bmod, true_and, and_true] at *); all_goals (first | omega | (simp only [Int.bmod_def] at *; omega) | omega)))
  unfold w_X8_addPerson
  repeat' (first
    | (exact absurd rfl ‹¬ (0 : Int32) = 0›)
    | (exact absurd ‹(1 : Int32) = 0› (by decide))
    | exact k _ _ (by assumption)
    | refine key _ _ (by assumption) ?_
    | (with_reducible refine T_gP_2_0 (by assumption) (by assumption) (fun _ _ _ => ?_))
    | (with_reducible refine T_gP_2_1 (by assumption) (by assumption) (fun _ _ _ => ?_))
    | (with_reducible refine T_gP_2_3 (by assumption) (by assumption) (fun _ _ _ => ?_))
    | (with_reducible refine T_gP_8_0 (by assumption) (by assumption) (fun _ _ _ => ?_))
    | (with_reducible refine T_gP_8_5 (by assumption) (by assumption) (fun _ _ _ => ?_))
    | (with_reducible refine T_gP_8_6 (by assumption) (by assumption) (fun _ _ _ => ?_))
    | (with_reducible refine T_gP_8_7 (by assumption) (by assumption) (fun _ _ _ => ?_))
    | (with_reducible refine T_gP_8_8 (by assumption) (by assumption) (fun _ _ _ => ?_))
    | (with_reducible refine T_gI_2_4 (by assumption) (by assumption) (fun _ _ _ => ?_))
    | (with_reducible refine T_gI_8_4 (by assumption) (by assumption) (fun _ _ _ => ?_))
    | (with_reducible refine T_pI_2_4 (by assumption) (by assumption) (by assumption) (by simp) (fun _ _ _ _ _ => ?_))
    | (with_reducible refine T_pI_8_4 (by assumption) (by assumption) (by assumption) (by simp) ?_ (fun _ _ _ _ _ => ?_))
    | (with_reducible refine T_sI_20 (by assumption) (by assumption) (by assumption) (by simp) ?_ (fun _ _ _ _ _ _ => ?_))
    | (with_reducible refine T_sI_21 (by assumption) (by assumption) (by assumption) (by simp) ?_ ?_ (fun _ _ _ _ _ _ => ?_))
    | (with_reducible refine T_sI_22 (by assumption) (by assumption) (by assumption) (by simp) ?_ ?_ (fun _ _ _ _ _ _ => ?_))
    | (with_reducible refine T_sI_23 (by assumption) (by assumption) (by assumption) (by simp) ?_ ?_ (fun _ _ _ _ _ _ => ?_))
    | (with_reducible refine T_sI_24 (by assumption) (by assumption) (by assumption) (by simp) ?_ ?_ (fun _ _ _ _ _ _ => ?_))
    | (with_reducible refine kc_X11_slot ?_ (fun _ _ => ?_))
    | (with_reducible refine T_y (fun _ _ _ => ?_))
    | (refine ⟨fun _ => ?_, fun _ => ?_⟩)
    | fail)
  all_goals (first
    | (with_reducible assumption)
    | omega
    | (simp only [← Int32.toInt_inj, Int32.toInt_add, Int32.toInt_mul, Int32.toInt_sub, Int32.toInt_neg, apply_ite Int32.toInt, Int32.reduceToInt, Int32.le_iff_toInt_le, Int32.lt_iff_toInt_lt] at *; (try simp only [Int.bmod_add_bmod, Int.add_bmod_bmod, Int.bmod_mul_bmod, Int.mul_bmod_bmod, Int.sub_bmod_bmod, Int.bmod_sub_bmod] at *); (try simp (disch := omega) only [fb_bmod, true_and, and_true] at *); all_goals (first | omega | (simp only [Int.bmod_def] at *; omega) | omega)))
theorem kc_X1_setWords {q : hS → Prop} (h : St Γ Φ S) (hf : fre Γ Φ [202]) (ha : Γ a = some (1, 1, 0, 0, ρa)) (hb : Γ b = some (8, 8 + 10000 * i, i, 0, ρb)) (k : ∀ S', St Γ Φ S' → q S') : w_X1_setWords q S a b := by
  have k112 : ∀ S', St Γ Φ S' → ∃ n, w_X1_setWords_b112 q n S' a b 0 := by
    intro S' h'
    refine loop_m (σ := hS × Int32) (fun t s => w_X1_setWords_b112 q t s.1 a b s.2) (fun s => St Γ Φ s.1 ∧ 0 ≤ s.2.toInt ∧ s.2.toInt ≤ 6) (fun s => (6 - s.2.toInt).toNat) ?_ (S', 0) ⟨h', by dsimp only; rw [z0I]; omega⟩
    rintro t ⟨S, x⟩ ⟨h, hx⟩ ih
    dsimp only at h hx ih ⊢
    have go : ∀ (S' : hS) (y : Int32), St Γ Φ S' → y.toInt = x.toInt + 1 ∧ x.toInt < 6 → w_X1_setWords_b112 q t S' a b y := fun S' y h' hy => ih (S', y) ⟨h', by dsimp only; omega⟩ (by dsimp only; omega)
    rw [w_X1_setWords_b112]
    repeat' (first
    | (exact absurd rfl ‹¬ (0 : Int32) = 0›)
    | (exact absurd ‹(1 : Int32) = 0› (by decide))
    | exact k _ (by assumption)
    | refine go _ _ (by assumption) ?_
    | (with_reducible refine T_gP_1_2 (by assumption) (by assumption) (fun _ _ _ => ?_))
    | (with_reducible refine T_gP_2_2 (by assumption) (by assumption) (fun _ _ _ => ?_))
    | (with_reducible refine T_gP_2_3 (by assumption) (by assumption) (fun _ _ _ => ?_))
    | (with_reducible refine T_gP_8_0 (by assumption) (by assumption) (fun _ _ _ => ?_))
    | (with_reducible refine T_gI_1_3 (by assumption) (by assumption) (fun _ _ _ => ?_))
    | (with_reducible refine T_gI_1_5 (by assumption) (by assumption) (fun _ _ _ => ?_))
    | (with_reducible refine T_gI_2_5 (by assumption) (by assumption) (fun _ _ _ => ?_))
    | (with_reducible refine T_oK_8 (by assumption) (by assumption) ?_)
    | (with_reducible refine T_aI_20 (by assumption) (by assumption) ?_ (fun _ _ _ => ?_))
    | (with_reducible refine T_aI_21 (by assumption) (by assumption) ?_ (fun _ _ _ => ?_))
    | (with_reducible refine T_aI_22 (by assumption) (by assumption) ?_ (fun _ _ _ => ?_))
    | (with_reducible refine T_aI_23 (by assumption) (by assumption) ?_ (fun _ _ _ => ?_))
    | (with_reducible refine T_aI_24 (by assumption) (by assumption) ?_ (fun _ _ _ => ?_))
    | (with_reducible refine T_sI_20 (by assumption) (by assumption) (by assumption) (by simp) ?_ (fun _ _ _ _ _ _ => ?_))
    | (with_reducible refine T_sI_21 (by assumption) (by assumption) (by assumption) (by simp) ?_ ?_ (fun _ _ _ _ _ _ => ?_))
    | (with_reducible refine T_sI_22 (by assumption) (by assumption) (by assumption) (by simp) ?_ ?_ (fun _ _ _ _ _ _ => ?_))
    | (with_reducible refine T_sI_23 (by assumption) (by assumption) (by assumption) (by simp) ?_ ?_ (fun _ _ _ _ _ _ => ?_))
    | (with_reducible refine T_sI_24 (by assumption) (by assumption) (by assumption) (by simp) ?_ ?_ (fun _ _ _ _ _ _ => ?_))
    | (with_reducible refine kc_X8_allLeftOf (by assumption) (by assumption) (fun _ => ?_))
    | (with_reducible refine kc_X8_hasHouse (by assumption) (by assumption) ?_ (fun _ => ?_))
    | (with_reducible refine kc_X8_hasPerson (by assumption) (by assumption) ?_ (fun _ => ?_))
    | (with_reducible refine kc_X8_livingPeople (by assumption) (by assumption) (fun _ => ?_))
    | (unfold w_X1_setWords_b103)
    | (unfold w_X1_setWords_b81)
    | (unfold w_X1_setWords_b147)
    | (with_reducible refine T_y (fun _ _ _ => ?_))
    | (refine ⟨fun _ => ?_, fun _ => ?_⟩)
    | fail)
    all_goals (first
    | (with_reducible assumption)
    | omega
    | (simp only [← Int32.toInt_inj, Int32.toInt_add, Int32.toInt_mul, Int32.toInt_sub, Int32.toInt_neg, apply_ite Int32.toInt, Int32.reduceToInt, Int32.le_iff_toInt_le, Int32.lt_iff_toInt_lt] at *; (try simp only [Int.bmod_add_bmod, Int.add_bmod_bmod, Int.bmod_mul_bmod, Int.mul_bmod_bmod, Int.sub_bmod_bmod, Int.bmod_sub_bmod] at *); (try simp (disch := omega) only [fb_bmod, true_and, and_true] at *); all_goals (first | omega | (simp only [Int.bmod_def] at *; omega) | omega)))
  have k45 : ∀ S', St Γ Φ S' → ∃ n, w_X1_setWords_b45 q n S' a b 0 := by
    intro S' h'
    refine loop_m (σ := hS × Int32) (fun t s => w_X1_setWords_b45 q t s.1 a b s.2) (fun s => St Γ Φ s.1 ∧ 0 ≤ s.2.toInt ∧ s.2.toInt ≤ 8) (fun s => (8 - s.2.toInt).toNat) ?_ (S', 0) ⟨h', by dsimp only; rw [z0I]; omega⟩
    rintro t ⟨S, x⟩ ⟨h, hx⟩ ih
    dsimp only at h hx ih ⊢
    have go : ∀ (S' : hS) (y : Int32), St Γ Φ S' → y.toInt = x.toInt + 1 ∧ x.toInt < 8 → w_X1_setWords_b45 q t S' a b y := fun S' y h' hy => ih (S', y) ⟨h', by dsimp only; omega⟩ (by dsimp only; omega)
    rw [w_X1_setWords_b45]
    repeat' (first
    | (exact absurd rfl ‹¬ (0 : Int32) = 0›)
    | (exact absurd ‹(1 : Int32) = 0› (by decide))
    | exact k112 _ (by assumption)
    | refine go _ _ (by assumption) ?_
    | (with_reducible refine T_gP_1_2 (by assumption) (by assumption) (fun _ _ _ => ?_))
    | (with_reducible refine T_gP_2_2 (by assumption) (by assumption) (fun _ _ _ => ?_))
    | (with_reducible refine T_gP_2_3 (by assumption) (by assumption) (fun _ _ _ => ?_))
    | (with_reducible refine T_gP_8_0 (by assumption) (by assumption) (fun _ _ _ => ?_))
    | (with_reducible refine T_gI_1_3 (by assumption) (by assumption) (fun _ _ _ => ?_))
    | (with_reducible refine T_gI_1_5 (by assumption) (by assumption) (fun _ _ _ => ?_))
    | (with_reducible refine T_gI_2_5 (by assumption) (by assumption) (fun _ _ _ => ?_))
    | (with_reducible refine T_oK_8 (by assumption) (by assumption) ?_)
    | (with_reducible refine T_aI_20 (by assumption) (by assumption) ?_ (fun _ _ _ => ?_))
    | (with_reducible refine T_aI_21 (by assumption) (by assumption) ?_ (fun _ _ _ => ?_))
    | (with_reducible refine T_aI_22 (by assumption) (by assumption) ?_ (fun _ _ _ => ?_))
    | (with_reducible refine T_aI_23 (by assumption) (by assumption) ?_ (fun _ _ _ => ?_))
    | (with_reducible refine T_aI_24 (by assumption) (by assumption) ?_ (fun _ _ _ => ?_))
    | (with_reducible refine T_sI_20 (by assumption) (by assumption) (by assumption) (by simp) ?_ (fun _ _ _ _ _ _ => ?_))
    | (with_reducible refine T_sI_21 (by assumption) (by assumption) (by assumption) (by simp) ?_ ?_ (fun _ _ _ _ _ _ => ?_))
    | (with_reducible refine T_sI_22 (by assumption) (by assumption) (by assumption) (by simp) ?_ ?_ (fun _ _ _ _ _ _ => ?_))
    | (with_reducible refine T_sI_23 (by assumption) (by assumption) (by assumption) (by simp) ?_ ?_ (fun _ _ _ _ _ _ => ?_))
    | (with_reducible refine T_sI_24 (by assumption) (by assumption) (by assumption) (by simp) ?_ ?_ (fun _ _ _ _ _ _ => ?_))
    | (with_reducible refine kc_X8_allLeftOf (by assumption) (by assumption) (fun _ => ?_))
    | (with_reducible refine kc_X8_hasHouse (by assumption) (by assumption) ?_ (fun _ => ?_))
    | (with_reducible refine kc_X8_hasPerson (by assumption) (by assumption) ?_ (fun _ => ?_))
    | (with_reducible refine kc_X8_livingPeople (by assumption) (by assumption) (fun _ => ?_))
    | (unfold w_X1_setWords_b103)
    | (unfold w_X1_setWords_b81)
    | (unfold w_X1_setWords_b147)
    | (with_reducible refine T_y (fun _ _ _ => ?_))
    | (refine ⟨fun _ => ?_, fun _ => ?_⟩)
    | fail)
    all_goals (first
    | (with_reducible assumption)
    | omega
    | (simp only [← Int32.toInt_inj, Int32.toInt_add, Int32.toInt_mul, Int32.toInt_sub, Int32.toInt_neg, apply_ite Int32.toInt, Int32.reduceToInt, Int32.le_iff_toInt_le, Int32.lt_iff_toInt_lt] at *; (try simp only [Int.bmod_add_bmod, Int.add_bmod_bmod, Int.bmod_mul_bmod, Int.mul_bmod_bmod, Int.sub_bmod_bmod, Int.bmod_sub_bmod] at *); (try simp (disch := omega) only [fb_bmod, true_and, and_true] at *); all_goals (first | omega | (simp only [Int.bmod_def] at *; omega) | omega)))
  unfold w_X1_setWords
  repeat' (first
    | (exact absurd rfl ‹¬ (0 : Int32) = 0›)
    | (exact absurd ‹(1 : Int32) = 0› (by decide))
    | exact k45 _ (by assumption)
    | (with_reducible refine T_gP_1_2 (by assumption) (by assumption) (fun _ _ _ => ?_))
    | (with_reducible refine T_gP_2_2 (by assumption) (by assumption) (fun _ _ _ => ?_))
    | (with_reducible refine T_gP_2_3 (by assumption) (by assumption) (fun _ _ _ => ?_))
    | (with_reducible refine T_gP_8_0 (by assumption) (by assumption) (fun _ _ _ => ?_))
    | (with_reducible refine T_gI_1_3 (by assumption) (by assumption) (fun _ _ _ => ?_))
    | (with_reducible refine T_gI_1_5 (by assumption) (by assumption) (fun _ _ _ => ?_))
    | (with_reducible refine T_gI_2_5 (by assumption) (by assumption) (fun _ _ _ => ?_))
    | (with_reducible refine T_oK_8 (by assumption) (by assumption) ?_)
    | (with_reducible refine T_aI_20 (by assumption) (by assumption) ?_ (fun _ _ _ => ?_))
    | (with_reducible refine T_aI_21 (by assumption) (by assumption) ?_ (fun _ _ _ => ?_))
    | (with_reducible refine T_aI_22 (by assumption) (by assumption) ?_ (fun _ _ _ => ?_))
    | (with_reducible refine T_aI_23 (by assumption) (by assumption) ?_ (fun _ _ _ => ?_))
    | (with_reducible refine T_aI_24 (by assumption) (by assumption) ?_ (fun _ _ _ => ?_))
    | (with_reducible refine T_sI_20 (by assumption) (by assumption) (by assumption) (by simp) ?_ (fun _ _ _ _ _ _ => ?_))
    | (with_reducible refine T_sI_21 (by assumption) (by assumption) (by assumption) (by simp) ?_ ?_ (fun _ _ _ _ _ _ => ?_))
    | (with_reducible refine T_sI_22 (by assumption) (by assumption) (by assumption) (by simp) ?_ ?_ (fun _ _ _ _ _ _ => ?_))
    | (with_reducible refine T_sI_23 (by assumption) (by assumption) (by assumption) (by simp) ?_ ?_ (fun _ _ _ _ _ _ => ?_))
    | (with_reducible refine T_sI_24 (by assumption) (by assumption) (by assumption) (by simp) ?_ ?_ (fun _ _ _ _ _ _ => ?_))
    | (with_reducible refine kc_X8_allLeftOf (by assumption) (by assumption) (fun _ => ?_))
    | (with_reducible refine kc_X8_hasHouse (by assumption) (by assumption) ?_ (fun _ => ?_))
    | (with_reducible refine kc_X8_hasPerson (by assumption) (by assumption) ?_ (fun _ => ?_))
    | (with_reducible refine kc_X8_livingPeople (by assumption) (by assumption) (fun _ => ?_))
    | (unfold w_X1_setWords_b103)
    | (unfold w_X1_setWords_b81)
    | (unfold w_X1_setWords_b147)
    | (with_reducible refine T_y (fun _ _ _ => ?_))
    | (refine ⟨fun _ => ?_, fun _ => ?_⟩)
    | fail)
  all_goals (first
    | (with_reducible assumption)
    | omega
    | (simp only [← Int32.toInt_inj, Int32.toInt_add, Int32.toInt_mul, Int32.toInt_sub, Int32.toInt_neg, apply_ite Int32.toInt, Int32.reduceToInt, Int32.le_iff_toInt_le, Int32.lt_iff_toInt_lt] at *; (try simp only [Int.bmod_add_bmod, Int.add_bmod_bmod, Int.bmod_mul_bmod, Int.mul_bmod_bmod, Int.sub_bmod_bmod, Int.bmod_sub_bmod] at *); (try simp (disch := omega) only [fb_bmod, true_and, and_true] at *); all_goals (first | omega | (simp only [Int.bmod_def] at *; omega) | omega)))
theorem kc_X1_draw {q : Int32 → hS → Prop} {v : Int32} (h : St Γ Φ S) (hf : fre Γ Φ [1]) (ha : Γ a = some (1, 1, 0, 0, ρa)) (k : ∀ r S', St Γ Φ S' → q r S') : w_X1_draw q S a v := by
  unfold w_X1_draw
  refine T_gI_1_4 h ha (fun x _ _ => T_pI_1_4 h hf ha (by simp) (fun S' h' _ _ _ => ⟨fun _ => k _ _ h', fun c => T_gI_1_4 h' ha (fun x2 _ _ => ⟨fun e => c ?_, k _ _ h'⟩)⟩))
  rw [e]
  exact Int32.le_refl _
end SUB2
