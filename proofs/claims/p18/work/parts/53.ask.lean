/-! LAYER 2, the class: sums and tests, asking the law -/
theorem z0I : (0 : Int32).toInt = 0 := by decide
section ASK
variable {Γ : kG} {Φ : kF} {S : hS} {a b d i c n id m : Nat} {ρa ρb ρd ρg : Nat → Nat} {κ rs : Nat} {z : Nat × (Nat → Nat)}
theorem kc_X6_reckon {q : Int32 → hS → Prop} {u v w : Int32} (k : ∀ r, q r S) : w_X6_reckon q S u v w := by
  unfold w_X6_reckon
  intro y _
  refine ⟨fun _ => ?_, fun _ => ?_, fun _ => ?_, fun _ => ⟨fun e => ⟨e, ?_⟩, fun _ => ?_⟩, fun _ => ⟨fun e => ⟨e, ?_⟩, fun _ => ?_⟩, fun _ => ⟨fun _ => ?_, fun _ => ?_⟩, fun _ => ⟨fun _ => ?_, fun _ => ?_⟩, fun _ => ⟨fun _ => ?_, fun _ => ?_⟩, fun _ => ?_⟩
  all_goals
    (try intro y _)
    (try unfold w_X6_reckon_b89)
    (try unfold w_X6_reckon_b107)
    (try unfold w_X6_reckon_b121)
    (try unfold w_X6_reckon_b135)
    (try unfold w_X6_reckon_b149)
    unfold w_X6_reckon_b157 w_X6_reckon_b173
    exact ⟨fun _ => k _, fun _ => ⟨fun _ => k _, fun _ => k _⟩⟩
theorem div2048 {x : Int32} (h : 0 ≤ x.toInt ∧ x.toInt ≤ 43007) : 0 ≤ (x / 2048).toInt ∧ (x / 2048).toInt ≤ 20 ∧ 0 ≤ (x - x / 2048 * 2048).toInt ∧ (x - x / 2048 * 2048).toInt < 2048 ∧ (x / 2048 * 2048).toInt ≤ 40960 ∧ 0 ≤ (x / 2048 * 2048).toInt := by
  have e : (x / 2048).toInt = x.toInt / 2048 := by
    rw [Int32.toInt_div, Int.tdiv_eq_ediv_of_nonneg h.1]
    have : (2048 : Int32).toInt = 2048 := by decide
    rw [this]
    exact fb_bmod (by omega) (by omega)
  have e2 : (x / 2048 * 2048).toInt = x.toInt / 2048 * 2048 := by
    have t : (2048 : Int32).toInt = 2048 := by decide
    rw [fb_mulI (by rw [e, t]; omega) (by rw [e, t]; omega), e, t]
  have e3 : (x - x / 2048 * 2048).toInt = x.toInt - x.toInt / 2048 * 2048 := by
    rw [fb_subI (by rw [e2]; omega) (by rw [e2]; omega), e2]
  omega
theorem kc_weigh64 {q : Int32 → hS → Prop} {v6 v8 : Int32} (h : St Γ Φ S) (hf : fre Γ Φ [700]) (ha : Γ a = some (6, 6, 0, 0, ρa)) (hb : Γ b = some (10, κ, c, n, ρb)) (hd : Γ d = some (20, id, m, z)) (h8 : 0 ≤ v8.toInt ∧ v8.toInt ≤ 401) (k : ∀ r S', St Γ Φ S' → q r S') : ∃ n, w_X6_weigh_b64 q n S a b d v6 0 v8 := by
  have htx := T_tx h hb
  refine loop_m (σ := hS × Int32 × Int32) (fun t s => w_X6_weigh_b64 q t s.1 a b d v6 s.2.1 s.2.2) (fun s => St Γ Φ s.1 ∧ (0 ≤ s.2.1.toInt ∧ s.2.1.toInt ≤ 51) ∧ 0 ≤ s.2.2.toInt ∧ s.2.2.toInt ≤ 50000) (fun s => (50000 - s.2.2.toInt).toNat) ?_ (S, 0, v8) ⟨h, (show 0 ≤ (0 : Int32).toInt ∧ (0 : Int32).toInt ≤ 51 from by decide), h8.1, by have := h8.2; dsimp only; omega⟩
  rintro t ⟨S, v7, v8⟩ ⟨h, h7, h8⟩ ih
  dsimp only at h h7 h8 ih ⊢
  have go : ∀ S' (x y : Int32), St Γ Φ S' → (0 ≤ x.toInt ∧ x.toInt ≤ 51) → v8.toInt ≤ y.toInt → y.toInt ≤ 3000 → w_X6_weigh_b306 q (fun S v0 v1 v4 v6 v7 v8 => w_X6_weigh_b64 q t S v0 v1 v4 v6 v7 v8) S' a b d v6 x y := by
    intro S' x y h' hx hy hy2 w hw
    have e : w.toInt = y.toInt + 1 := by
      rw [hw, fb_addI] <;> rw [show (1 : Int32).toInt = 1 from by decide] <;> omega
    exact ih (S', x, w) ⟨h', hx, by dsimp only; omega, by dsimp only; omega⟩ (by dsimp only; omega)
  have k312 : ∀ S', St Γ Φ S' → w_X6_weigh_b312 q S' a v7 := by
    intro S' h'
    unfold w_X6_weigh_b312
    repeat' (first
    | (exact absurd rfl ‹¬ (0 : Int32) = 0›)
    | (exact absurd ‹(1 : Int32) = 0› (by decide))
    | exact k _ _ (by assumption)
    | (with_reducible refine T_gP_10_5 (by assumption) (by assumption) (fun _ _ _ => ?_))
    | (with_reducible refine T_gP_10_6 (by assumption) (by assumption) (fun _ _ _ => ?_))
    | (with_reducible refine T_gP_6_0 (by assumption) (by assumption) (fun _ _ _ => ?_))
    | (with_reducible refine T_gI_10_0 (by assumption) (by assumption) (fun _ _ _ => ?_))
    | (with_reducible refine T_gI_10_1 (by assumption) (by assumption) (fun _ _ _ => ?_))
    | (with_reducible refine T_aI_20 (by assumption) (by assumption) ?_ (fun _ _ _ => ?_))
    | (with_reducible refine T_aI_21 (by assumption) (by assumption) ?_ (fun _ _ _ => ?_))
    | (with_reducible refine T_aI_22 (by assumption) (by assumption) ?_ (fun _ _ _ => ?_))
    | (with_reducible refine T_aI_23 (by assumption) (by assumption) ?_ (fun _ _ _ => ?_))
    | (with_reducible refine T_aI_24 (by assumption) (by assumption) ?_ (fun _ _ _ => ?_))
    | (with_reducible refine T_sI_20 (by assumption) (by assumption) (by assumption) (by simp) ?_ (fun _ _ _ _ _ _ => ?_))
    | (with_reducible refine T_sI_21 (by assumption) (by assumption) (by assumption) (by simp) ?_ ?_ (fun _ _ _ _ _ _ => ?_))
    | (with_reducible refine T_sI_22 (by assumption) (by assumption) (by assumption) (by simp) ?_ ?_ (fun _ _ _ _ _ _ => ?_))
    | (with_reducible refine T_sI_23 (by assumption) (by assumption) (by assumption) (by simp) ?_ ?_ (fun _ _ _ _ _ _ => ?_))
    | (with_reducible refine T_sI_24 (by assumption) (by assumption) (by assumption) (by simp) ?_ ?_ (fun _ _ _ _ _ _ => ?_))
    | (with_reducible refine T_aN_20 (by assumption) (by assumption) (fun _ _ => ?_))
    | (with_reducible refine T_aN_21 (by assumption) (by assumption) (fun _ _ => ?_))
    | (with_reducible refine T_aN_22 (by assumption) (by assumption) (fun _ _ => ?_))
    | (with_reducible refine T_aN_23 (by assumption) (by assumption) (fun _ _ => ?_))
    | (with_reducible refine T_aN_24 (by assumption) (by assumption) (fun _ _ => ?_))
    | (with_reducible refine kc_X6_reckon (fun _ => ?_))
    | (unfold w_X6_weigh_b306)
    | (unfold w_X6_weigh_b163)
    | (unfold w_X6_weigh_b142)
    | (unfold w_X6_weigh_b250)
    | (unfold w_X6_weigh_b212)
    | (unfold w_X6_weigh_b312)
    | (with_reducible refine T_y (fun _ _ _ => ?_))
    | (refine ⟨fun _ => ?_, fun _ => ?_⟩)
    | fail)
    all_goals (first
    | (with_reducible assumption)
    | omega
    | (simp only [← Int32.toInt_inj, Int32.toInt_add, Int32.toInt_mul, Int32.toInt_sub, Int32.toInt_neg, apply_ite Int32.toInt, Int32.reduceToInt, Int32.le_iff_toInt_le, Int32.lt_iff_toInt_lt] at *; (try simp only [Int.bmod_add_bmod, Int.add_bmod_bmod, Int.bmod_mul_bmod, Int.mul_bmod_bmod, Int.sub_bmod_bmod, Int.bmod_sub_bmod] at *); (try simp (disch := omega) only [fb_bmod, true_and, and_true] at *); all_goals (first | omega | (simp only [Int.bmod_def] at *; omega) | omega)))
  rw [w_X6_weigh_b64]
  refine ⟨fun _ => k312 S h, fun c1 => T_gI_10_1 h hb (fun x74 _ h74 => ⟨fun _ => k312 S h, fun c2 => T_gP_10_6 h hb (fun x81 _ h81 => ?_)⟩)⟩
  have r8 : 0 ≤ v8.toInt ∧ v8.toInt < n := by
    rw [Int32.le_iff_toInt_le] at c2
    omega
  refine T_aI_24 h h81 r8 (fun x86 e86 h86 y91 e91 => T_gP_10_6 h hb (fun x94 e94 h94 => T_aI_24 h h94 r8 (fun x99 e99 h99 y104 e104 => ?_)))
  have d1 := div2048 h86.2
  have d2 := div2048 h99.2
  rw [← e91] at d1
  rw [← e104] at d2
  have k142 : ∀ y112 : Int32, (0 ≤ y112.toInt ∧ y112.toInt < 52) → (y91 = 1 → y104.toInt < m) → (¬ 1 < y91) → w_X6_weigh_b142 q (fun S v0 v1 v4 v6 v7 v8 => w_X6_weigh_b64 q t S v0 v1 v4 v6 v7 v8) S a b d v6 y112 v8 y91 y104 := by
    intro y112 r1 r2 r3
    have k163 : ∀ x p, Γ p = some (20, 700, 52, 0, k0) → w_X6_weigh_b163 q (fun S v0 v1 v4 v6 v7 v8 => w_X6_weigh_b64 q t S v0 v1 v4 v6 v7 v8) S a b d v6 y112 v8 x y112 p := by
      intro x p hp
      exact T_sI_20 h hf hp (by simp) r1 (fun S' h' _ _ _ _ => go S' _ _ h' (by omega) (Int.le_refl _) (by omega))
    refine T_gP_6_0 h ha (fun p _ hp => ⟨fun c0 => T_aI_20 h hd ⟨by omega, r2 ?_⟩ (fun x _ _ => k163 x p hp), fun _ => k163 _ p hp⟩)
    rw [← Int32.toInt_inj] at c0 ⊢
    rw [Int32.lt_iff_toInt_lt] at r3
    have o1 : (1 : Int32).toInt = 1 := by decide
    have o0 : (0 : Int32).toInt = 0 := by decide
    omega
  have k212 : ∀ t0, w_X6_weigh_b212 q (fun S v0 v1 v4 v6 v7 v8 => w_X6_weigh_b64 q t S v0 v1 v4 v6 v7 v8) S a b d v6 v7 v8 y104 t0 := by
    intro t0
    unfold w_X6_weigh_b212 w_X6_weigh_b250
    refine T_gP_6_0 h ha (fun p _ hp => T_aI_20 h hp (by omega) (fun x _ _ => ⟨fun _ y ey => go S y v8 h ?_ (Int.le_refl _) (by omega), fun _ y ey => go S v7 y h h7 ?_ ?_⟩))
    all_goals subst ey
    · (first
    | (with_reducible assumption)
    | omega
    | (simp only [← Int32.toInt_inj, Int32.toInt_add, Int32.toInt_mul, Int32.toInt_sub, Int32.toInt_neg, apply_ite Int32.toInt, Int32.reduceToInt, Int32.le_iff_toInt_le, Int32.lt_iff_toInt_lt] at *; (try simp only [Int.bmod_add_bmod, Int.add_bmod_bmod, Int.bmod_mul_bmod, Int.mul_bmod_bmod, Int.sub_bmod_bmod, Int.bmod_sub_bmod] at *); (try simp (disch := omega) only [fb_bmod, true_and, and_true] at *); all_goals (first | omega | (simp only [Int.bmod_def] at *; omega) | omega)))
    · (first
    | (with_reducible assumption)
    | omega
    | (simp only [← Int32.toInt_inj, Int32.toInt_add, Int32.toInt_mul, Int32.toInt_sub, Int32.toInt_neg, apply_ite Int32.toInt, Int32.reduceToInt, Int32.le_iff_toInt_le, Int32.lt_iff_toInt_lt] at *; (try simp only [Int.bmod_add_bmod, Int.add_bmod_bmod, Int.bmod_mul_bmod, Int.mul_bmod_bmod, Int.sub_bmod_bmod, Int.bmod_sub_bmod] at *); (try simp (disch := omega) only [fb_bmod, true_and, and_true] at *); all_goals (first | omega | (simp only [Int.bmod_def] at *; omega) | omega)))
    · (first
    | (with_reducible assumption)
    | omega
    | (simp only [← Int32.toInt_inj, Int32.toInt_add, Int32.toInt_mul, Int32.toInt_sub, Int32.toInt_neg, apply_ite Int32.toInt, Int32.reduceToInt, Int32.le_iff_toInt_le, Int32.lt_iff_toInt_lt] at *; (try simp only [Int.bmod_add_bmod, Int.add_bmod_bmod, Int.bmod_mul_bmod, Int.mul_bmod_bmod, Int.sub_bmod_bmod, Int.bmod_sub_bmod] at *); (try simp (disch := omega) only [fb_bmod, true_and, and_true] at *); all_goals (first | omega | (simp only [Int.bmod_def] at *; omega) | omega)))
  refine ⟨fun g1 => ⟨fun g2 => ⟨fun g3 y ey => ?_, fun g3 => ⟨fun _ => k212 0, fun _ => k212 1⟩⟩, fun g2 => ?_⟩, fun g1 y ey => ?_⟩
  · have hy : 1 ≤ y.toInt ∧ y.toInt ≤ 50 := by
      subst ey
      (first
    | (with_reducible assumption)
    | omega
    | (simp only [← Int32.toInt_inj, Int32.toInt_add, Int32.toInt_mul, Int32.toInt_sub, Int32.toInt_neg, apply_ite Int32.toInt, Int32.reduceToInt, Int32.le_iff_toInt_le, Int32.lt_iff_toInt_lt] at *; (try simp only [Int.bmod_add_bmod, Int.add_bmod_bmod, Int.bmod_mul_bmod, Int.mul_bmod_bmod, Int.sub_bmod_bmod, Int.bmod_sub_bmod] at *); (try simp (disch := omega) only [fb_bmod, true_and, and_true] at *); all_goals (first | omega | (simp only [Int.bmod_def] at *; omega) | omega)))
    refine T_gP_6_0 h ha (fun p _ hp => T_gP_6_0 h ha (fun p2 _ hp2 => T_aI_20 h hp2 (by omega) (fun x1 _ _ => T_gP_6_0 h ha (fun p3 _ hp3 => T_aI_20 h hp3 ?_ (fun x2 _ _ => kc_X6_reckon (fun r => T_sI_20 h hf hp (by simp) (by omega) (fun S' h' _ _ _ _ => T_gP_6_0 h' ha (fun p4 _ hp4 => T_aI_20 h' hp4 (by omega) (fun x3 _ _ => ⟨fun _ => go S' y v8 h' (by omega) (Int.le_refl _) (by omega), fun _ => k _ _ h'⟩)))))))))
    (first
    | (with_reducible assumption)
    | omega
    | (simp only [← Int32.toInt_inj, Int32.toInt_add, Int32.toInt_mul, Int32.toInt_sub, Int32.toInt_neg, apply_ite Int32.toInt, Int32.reduceToInt, Int32.le_iff_toInt_le, Int32.lt_iff_toInt_lt] at *; (try simp only [Int.bmod_add_bmod, Int.add_bmod_bmod, Int.bmod_mul_bmod, Int.mul_bmod_bmod, Int.sub_bmod_bmod, Int.bmod_sub_bmod] at *); (try simp (disch := omega) only [fb_bmod, true_and, and_true] at *); all_goals (first | omega | (simp only [Int.bmod_def] at *; omega) | omega)))
  · exact T_gP_6_0 h ha (fun p _ hp => T_gP_6_0 h ha (fun p2 _ hp2 => T_aI_20 h hp2 (by omega) (fun x1 _ _ => T_sI_20 h hf hp (by simp) (by omega) (fun S' h' _ _ _ _ => go S' v7 v8 h' h7 (Int.le_refl _) (by omega)))))
  · have hy : y.toInt = v7.toInt + 1 := by
      rw [ey, fb_addI] <;> rw [show (1 : Int32).toInt = 1 from by decide] <;> omega
    refine T_gP_6_0 h ha (fun p _ hp => T_aN_20 h hp (fun x hx => ⟨fun _ => k _ _ h, fun g => ⟨fun z => k142 y ?_ (fun e => absurd e z) g1, fun z => T_aN_20 h hd (fun x2 hx2 => ⟨fun l => k142 y ?_ (fun _ => ?_) g1, fun _ => k _ _ h⟩)⟩⟩))
    all_goals (first
    | (with_reducible assumption)
    | omega
    | (simp only [← Int32.toInt_inj, Int32.toInt_add, Int32.toInt_mul, Int32.toInt_sub, Int32.toInt_neg, apply_ite Int32.toInt, Int32.reduceToInt, Int32.le_iff_toInt_le, Int32.lt_iff_toInt_lt] at *; (try simp only [Int.bmod_add_bmod, Int.add_bmod_bmod, Int.bmod_mul_bmod, Int.mul_bmod_bmod, Int.sub_bmod_bmod, Int.bmod_sub_bmod] at *); (try simp (disch := omega) only [fb_bmod, true_and, and_true] at *); all_goals (first | omega | (simp only [Int.bmod_def] at *; omega) | omega)))
theorem kc_X6_weigh {q : Int32 → hS → Prop} {v2 v3 : Int32} (h : St Γ Φ S) (hf : fre Γ Φ [700]) (ha : Γ a = some (6, 6, 0, 0, ρa)) (hb : Γ b = some (10, κ, c, n, ρb)) (hd : Γ d = some (20, id, m, z)) (k : ∀ r S', St Γ Φ S' → q r S') : w_X6_weigh q S a b v2 v3 d := by
  have htx := T_tx h hb
  unfold w_X6_weigh
  repeat' (first
    | (exact absurd rfl ‹¬ (0 : Int32) = 0›)
    | (exact absurd ‹(1 : Int32) = 0› (by decide))
    | exact k _ _ (by assumption)
    | refine kc_weigh64 (by assumption) (by assumption) (by assumption) (by assumption) (by assumption) ?_ k
    | (with_reducible refine T_gP_10_5 (by assumption) (by assumption) (fun _ _ _ => ?_))
    | (with_reducible refine T_gP_10_6 (by assumption) (by assumption) (fun _ _ _ => ?_))
    | (with_reducible refine T_gP_6_0 (by assumption) (by assumption) (fun _ _ _ => ?_))
    | (with_reducible refine T_gI_10_0 (by assumption) (by assumption) (fun _ _ _ => ?_))
    | (with_reducible refine T_gI_10_1 (by assumption) (by assumption) (fun _ _ _ => ?_))
    | (with_reducible refine T_aI_20 (by assumption) (by assumption) ?_ (fun _ _ _ => ?_))
    | (with_reducible refine T_aI_21 (by assumption) (by assumption) ?_ (fun _ _ _ => ?_))
    | (with_reducible refine T_aI_22 (by assumption) (by assumption) ?_ (fun _ _ _ => ?_))
    | (with_reducible refine T_aI_23 (by assumption) (by assumption) ?_ (fun _ _ _ => ?_))
    | (with_reducible refine T_aI_24 (by assumption) (by assumption) ?_ (fun _ _ _ => ?_))
    | (with_reducible refine T_sI_20 (by assumption) (by assumption) (by assumption) (by simp) ?_ (fun _ _ _ _ _ _ => ?_))
    | (with_reducible refine T_sI_21 (by assumption) (by assumption) (by assumption) (by simp) ?_ ?_ (fun _ _ _ _ _ _ => ?_))
    | (with_reducible refine T_sI_22 (by assumption) (by assumption) (by assumption) (by simp) ?_ ?_ (fun _ _ _ _ _ _ => ?_))
    | (with_reducible refine T_sI_23 (by assumption) (by assumption) (by assumption) (by simp) ?_ ?_ (fun _ _ _ _ _ _ => ?_))
    | (with_reducible refine T_sI_24 (by assumption) (by assumption) (by assumption) (by simp) ?_ ?_ (fun _ _ _ _ _ _ => ?_))
    | (with_reducible refine T_aN_20 (by assumption) (by assumption) (fun _ _ => ?_))
    | (with_reducible refine T_aN_21 (by assumption) (by assumption) (fun _ _ => ?_))
    | (with_reducible refine T_aN_22 (by assumption) (by assumption) (fun _ _ => ?_))
    | (with_reducible refine T_aN_23 (by assumption) (by assumption) (fun _ _ => ?_))
    | (with_reducible refine T_aN_24 (by assumption) (by assumption) (fun _ _ => ?_))
    | (with_reducible refine kc_X6_reckon (fun _ => ?_))
    | (unfold w_X6_weigh_b306)
    | (unfold w_X6_weigh_b163)
    | (unfold w_X6_weigh_b142)
    | (unfold w_X6_weigh_b250)
    | (unfold w_X6_weigh_b212)
    | (unfold w_X6_weigh_b312)
    | (with_reducible refine T_y (fun _ _ _ => ?_))
    | (refine ⟨fun _ => ?_, fun _ => ?_⟩)
    | fail)
  all_goals (first
    | (with_reducible assumption)
    | omega
    | (simp only [← Int32.toInt_inj, Int32.toInt_add, Int32.toInt_mul, Int32.toInt_sub, Int32.toInt_neg, apply_ite Int32.toInt, Int32.reduceToInt, Int32.le_iff_toInt_le, Int32.lt_iff_toInt_lt] at *; (try simp only [Int.bmod_add_bmod, Int.add_bmod_bmod, Int.bmod_mul_bmod, Int.mul_bmod_bmod, Int.sub_bmod_bmod, Int.bmod_sub_bmod] at *); (try simp (disch := omega) only [fb_bmod, true_and, and_true] at *); all_goals (first | omega | (simp only [Int.bmod_def] at *; omega) | omega)))
theorem kc_lastTold29 {q : Int32 → hS → Prop} {v2 v4 : Int32} (h : St Γ Φ S) (hf : fre Γ Φ [700]) (ha : Γ a = some (0, 0, 0, 0, ρa)) (hb : Γ b = some (10, κ, c, n, ρb)) (h2 : 0 ≤ v2.toInt ∧ v2.toInt ≤ 2) (h4 : -1 ≤ v4.toInt ∧ v4.toInt < c) (k : ∀ r S', St Γ Φ S' → q r S') : ∃ n, w_X0_lastTold_b29 q n S a (some b) v2 v4 := by
  have htx := T_tx h hb
  refine loop_m (σ := hS × Int32) (fun t s => w_X0_lastTold_b29 q t s.1 a (some b) v2 s.2) (fun s => St Γ Φ s.1 ∧ -1 ≤ s.2.toInt ∧ s.2.toInt < c) (fun s => (1 + s.2.toInt).toNat) ?_ (S, v4) ⟨h, h4⟩
  rintro t ⟨S, v4⟩ ⟨h, h4⟩ ih
  dsimp only at h h4 ih ⊢
  have go : ∀ S', St Γ Φ S' → ¬ v4 < 0 → w_X0_lastTold_b103 q (fun S v0 v1 v2 v4 => w_X0_lastTold_b29 q t S v0 v1 v2 v4) S' a (some b) v2 v4 := by
    intro S' h' h0 y ey
    have : y.toInt = v4.toInt - 1 ∧ 0 ≤ v4.toInt := by
      subst ey
      (first
    | (with_reducible assumption)
    | omega
    | (simp only [← Int32.toInt_inj, Int32.toInt_add, Int32.toInt_mul, Int32.toInt_sub, Int32.toInt_neg, apply_ite Int32.toInt, Int32.reduceToInt, Int32.le_iff_toInt_le, Int32.lt_iff_toInt_lt] at *; (try simp only [Int.bmod_add_bmod, Int.add_bmod_bmod, Int.bmod_mul_bmod, Int.mul_bmod_bmod, Int.sub_bmod_bmod, Int.bmod_sub_bmod] at *); (try simp (disch := omega) only [fb_bmod, true_and, and_true] at *); all_goals (first | omega | (simp only [Int.bmod_def] at *; omega) | omega)))
    exact ih (S', y) ⟨h', by dsimp only; omega⟩ (by dsimp only; omega)
  rw [w_X0_lastTold_b29]
  repeat' (first
    | (exact absurd rfl ‹¬ (0 : Int32) = 0›)
    | (exact absurd ‹(1 : Int32) = 0› (by decide))
    | exact k _ _ (by assumption)
    | exact go _ (by assumption) (by assumption)
    | (with_reducible refine T_gP_0_0 (by assumption) (by assumption) (fun _ _ _ => ?_))
    | (with_reducible refine T_gP_0_1 (by assumption) (by assumption) (fun _ _ _ => ?_))
    | (with_reducible refine T_gP_10_3 (by assumption) (by assumption) (fun _ _ _ => ?_))
    | (with_reducible refine T_gI_10_0 (by assumption) (by assumption) (fun _ _ _ => ?_))
    | (with_reducible refine T_oK_6 (by assumption) (by assumption) ?_)
    | (with_reducible refine T_aI_20 (by assumption) (by assumption) ?_ (fun _ _ _ => ?_))
    | (with_reducible refine T_aI_21 (by assumption) (by assumption) ?_ (fun _ _ _ => ?_))
    | (with_reducible refine T_aI_22 (by assumption) (by assumption) ?_ (fun _ _ _ => ?_))
    | (with_reducible refine T_aI_23 (by assumption) (by assumption) ?_ (fun _ _ _ => ?_))
    | (with_reducible refine T_aI_24 (by assumption) (by assumption) ?_ (fun _ _ _ => ?_))
    | (with_reducible refine dQ_s ?_)
    | (with_reducible refine T_tSt ?_ (fun _ => ?_))
    | (with_reducible refine kc_X6_weigh (by assumption) (fre.sub (by assumption) (by simp)) (by assumption) (by assumption) (by assumption) (fun _ _ _ => ?_))
    | (unfold w_X0_lastTold_b103)
    | (unfold w_X0_lastTold_b25)
    | (refine ⟨fun _ => ?_, T_someE (by assumption) (fun _ _ _ _ => ?_)⟩)
    | (refine ⟨fun _ => ?_, T_some (by assumption) (fun _ _ _ => ?_)⟩)
    | (with_reducible refine T_y (fun _ _ _ => ?_))
    | (refine ⟨fun _ => ?_, fun _ => ?_⟩)
    | fail)
  all_goals (try simp only [List.length_cons, List.length_nil])
  all_goals (first
    | (with_reducible assumption)
    | omega
    | (simp only [← Int32.toInt_inj, Int32.toInt_add, Int32.toInt_mul, Int32.toInt_sub, Int32.toInt_neg, apply_ite Int32.toInt, Int32.reduceToInt, Int32.le_iff_toInt_le, Int32.lt_iff_toInt_lt] at *; (try simp only [Int.bmod_add_bmod, Int.add_bmod_bmod, Int.bmod_mul_bmod, Int.mul_bmod_bmod, Int.sub_bmod_bmod, Int.bmod_sub_bmod] at *); (try simp (disch := omega) only [fb_bmod, true_and, and_true] at *); all_goals (first | omega | (simp only [Int.bmod_def] at *; omega) | omega)))
theorem kc_X0_lastTold {q : Int32 → hS → Prop} {v : Option Nat} {v2 : Int32} (h : St Γ Φ S) (hf : fre Γ Φ [700]) (ha : Γ a = some (0, 0, 0, 0, ρa)) (hv : ∀ b, v = some b → isTx Γ b) (k : ∀ r S', St Γ Φ S' → q r S') : w_X0_lastTold q S a v v2 := by
  unfold w_X0_lastTold w_X0_lastTold_b25
  refine ⟨fun _ => k _ _ h, fun c0 => ⟨fun c1 => ⟨fun _ => ⟨1, ?_⟩, fun b hb => ?_⟩, fun _ => k _ _ h⟩⟩
  · rw [w_X0_lastTold_b29]
    refine ⟨fun _ => T_tSt ?_ (fun _ => k _ _ h), fun z => absurd (by decide) z⟩
    simp only [List.length_cons, List.length_nil]
    (first
    | (with_reducible assumption)
    | omega
    | (simp only [← Int32.toInt_inj, Int32.toInt_add, Int32.toInt_mul, Int32.toInt_sub, Int32.toInt_neg, apply_ite Int32.toInt, Int32.reduceToInt, Int32.le_iff_toInt_le, Int32.lt_iff_toInt_lt] at *; (try simp only [Int.bmod_add_bmod, Int.add_bmod_bmod, Int.bmod_mul_bmod, Int.mul_bmod_bmod, Int.sub_bmod_bmod, Int.bmod_sub_bmod] at *); (try simp (disch := omega) only [fb_bmod, true_and, and_true] at *); all_goals (first | omega | (simp only [Int.bmod_def] at *; omega) | omega)))
  · obtain ⟨c, n, ρb, hb, h1, h2⟩ := hv b hb
    refine T_gI_10_0 h hb (fun x _ hx => kc_lastTold29 h hf ha hb ?_ ?_ k)
    all_goals (first
    | (with_reducible assumption)
    | omega
    | (simp only [← Int32.toInt_inj, Int32.toInt_add, Int32.toInt_mul, Int32.toInt_sub, Int32.toInt_neg, apply_ite Int32.toInt, Int32.reduceToInt, Int32.le_iff_toInt_le, Int32.lt_iff_toInt_lt] at *; (try simp only [Int.bmod_add_bmod, Int.add_bmod_bmod, Int.bmod_mul_bmod, Int.mul_bmod_bmod, Int.sub_bmod_bmod, Int.bmod_sub_bmod] at *); (try simp (disch := omega) only [fb_bmod, true_and, and_true] at *); all_goals (first | omega | (simp only [Int.bmod_def] at *; omega) | omega)))
theorem kc_X0_tiring {q : Int32 → hS → Prop} {v w : Int32} (h : St Γ Φ S) (hf : fre Γ Φ [101, 700]) (ha : Γ a = some (0, 0, 0, 0, ρa)) (hb : Γ b = some (8, 8 + 10000 * i, i, 0, ρb)) (k : ∀ r S', St Γ Φ S' → q r S') : w_X0_tiring q S a b v w := by
  unfold w_X0_tiring
  repeat' (first
    | (exact absurd rfl ‹¬ (0 : Int32) = 0›)
    | (exact absurd ‹(1 : Int32) = 0› (by decide))
    | exact k _ _ (by assumption)
    | (with_reducible refine T_oK_0 (by assumption) (by assumption) ?_)
    | (with_reducible refine T_oK_8 (by assumption) (by assumption) ?_)
    | (with_reducible refine kc_X0_lastTold (by assumption) (fre.sub (by assumption) (by simp)) (by assumption) (by assumption) (fun _ _ _ => ?_))
    | (with_reducible refine kc_X0_setWords (by assumption) (fre.sub (by assumption) (by simp)) (by assumption) (by assumption) (fun _ _ => ?_))
    | (with_reducible refine kc_X8_lawInForce (by assumption) (by assumption) (fun _ _ => ?_))
    | (refine ⟨fun _ => ?_, fun _ => ?_⟩)
    | fail)
theorem kc_X0_price {q : Int32 → hS → Prop} {v w t : Int32} (h : St Γ Φ S) (hf : fre Γ Φ [101, 700]) (ha : Γ a = some (0, 0, 0, 0, ρa)) (hb : Γ b = some (8, 8 + 10000 * i, i, 0, ρb)) (k : ∀ r S', St Γ Φ S' → q r S') : w_X0_price q S a b v w t := by
  unfold w_X0_price
  repeat' (first
    | (exact absurd rfl ‹¬ (0 : Int32) = 0›)
    | (exact absurd ‹(1 : Int32) = 0› (by decide))
    | exact k _ _ (by assumption)
    | (with_reducible refine T_oK_0 (by assumption) (by assumption) ?_)
    | (with_reducible refine T_oK_8 (by assumption) (by assumption) ?_)
    | (with_reducible refine kc_X0_lastTold (by assumption) (fre.sub (by assumption) (by simp)) (by assumption) (by assumption) (fun _ _ _ => ?_))
    | (with_reducible refine kc_X0_setWords (by assumption) (fre.sub (by assumption) (by simp)) (by assumption) (by assumption) (fun _ _ => ?_))
    | (with_reducible refine kc_X8_lawInForce (by assumption) (by assumption) (fun _ _ => ?_))
    | (refine ⟨fun _ => ?_, fun _ => ?_⟩)
    | fail)
theorem kc_X0_worthIn {q : Int32 → hS → Prop} {v w : Int32} (h : St Γ Φ S) (hf : fre Γ Φ [101, 700]) (ha : Γ a = some (0, 0, 0, 0, ρa)) (hb : Γ b = some (8, 8 + 10000 * i, i, 0, ρb)) (k : ∀ r S', St Γ Φ S' → q r S') : w_X0_worthIn q S a b v w := by
  unfold w_X0_worthIn
  repeat' (first
    | (exact absurd rfl ‹¬ (0 : Int32) = 0›)
    | (exact absurd ‹(1 : Int32) = 0› (by decide))
    | exact k _ _ (by assumption)
    | (with_reducible refine T_gP_0_1 (by assumption) (by assumption) (fun _ _ _ => ?_))
    | (with_reducible refine T_oK_0 (by assumption) (by assumption) ?_)
    | (with_reducible refine T_oK_8 (by assumption) (by assumption) ?_)
    | (with_reducible refine T_sI_20 (by assumption) (by assumption) (by assumption) (by simp) ?_ (fun _ _ _ _ _ _ => ?_))
    | (with_reducible refine T_sI_21 (by assumption) (by assumption) (by assumption) (by simp) ?_ ?_ (fun _ _ _ _ _ _ => ?_))
    | (with_reducible refine T_sI_22 (by assumption) (by assumption) (by assumption) (by simp) ?_ ?_ (fun _ _ _ _ _ _ => ?_))
    | (with_reducible refine T_sI_23 (by assumption) (by assumption) (by assumption) (by simp) ?_ ?_ (fun _ _ _ _ _ _ => ?_))
    | (with_reducible refine T_sI_24 (by assumption) (by assumption) (by assumption) (by simp) ?_ ?_ (fun _ _ _ _ _ _ => ?_))
    | (with_reducible refine kc_X0_lastTold (by assumption) (fre.sub (by assumption) (by simp)) (by assumption) (by assumption) (fun _ _ _ => ?_))
    | (with_reducible refine kc_X0_setWords (by assumption) (fre.sub (by assumption) (by simp)) (by assumption) (by assumption) (fun _ _ => ?_))
    | (with_reducible refine kc_X8_lawInForce (by assumption) (by assumption) (fun _ _ => ?_))
    | (refine ⟨fun _ => ?_, fun _ => ?_⟩)
    | fail)
  all_goals (first
    | (with_reducible assumption)
    | omega
    | (simp only [← Int32.toInt_inj, Int32.toInt_add, Int32.toInt_mul, Int32.toInt_sub, Int32.toInt_neg, apply_ite Int32.toInt, Int32.reduceToInt, Int32.le_iff_toInt_le, Int32.lt_iff_toInt_lt] at *; (try simp only [Int.bmod_add_bmod, Int.add_bmod_bmod, Int.bmod_mul_bmod, Int.mul_bmod_bmod, Int.sub_bmod_bmod, Int.bmod_sub_bmod] at *); (try simp (disch := omega) only [fb_bmod, true_and, and_true] at *); all_goals (first | omega | (simp only [Int.bmod_def] at *; omega) | omega)))
theorem kc_X10_hasKind {q : Int32 → hS → Prop} {v : Int32} (h : St Γ Φ S) (hb : Γ b = some (10, κ, c, n, ρb)) (h0 : q 0 S) (h1 : q 1 S) : w_X10_hasKind q S b v := by
  have htx := T_tx h hb
  refine loop_m (σ := Int32) (fun t s => w_X10_hasKind_b2 q t S b v s) (fun s => 0 ≤ s.toInt ∧ s.toInt ≤ c) (fun s => (c - s.toInt).toNat) ?_ 0 ⟨by decide, by rw [z0I]; omega⟩
  intro t x hx ih
  have go : ∀ y : Int32, y.toInt = x.toInt + 1 → x.toInt < c → w_X10_hasKind_b2 q t S b v y := fun y hy hx2 => ih y (by omega) (by omega)
  rw [w_X10_hasKind_b2]
  repeat' (first
    | (exact absurd rfl ‹¬ (0 : Int32) = 0›)
    | (exact absurd ‹(1 : Int32) = 0› (by decide))
    | exact h0
    | exact h1
    | refine go _ ?_ ?_
    | (with_reducible refine T_gP_10_3 (by assumption) (by assumption) (fun _ _ _ => ?_))
    | (with_reducible refine T_gI_10_0 (by assumption) (by assumption) (fun _ _ _ => ?_))
    | (with_reducible refine T_aI_20 (by assumption) (by assumption) ?_ (fun _ _ _ => ?_))
    | (with_reducible refine T_aI_21 (by assumption) (by assumption) ?_ (fun _ _ _ => ?_))
    | (with_reducible refine T_aI_22 (by assumption) (by assumption) ?_ (fun _ _ _ => ?_))
    | (with_reducible refine T_aI_23 (by assumption) (by assumption) ?_ (fun _ _ _ => ?_))
    | (with_reducible refine T_aI_24 (by assumption) (by assumption) ?_ (fun _ _ _ => ?_))
    | (with_reducible refine T_y (fun _ _ _ => ?_))
    | (refine ⟨fun _ => ?_, fun _ => ?_⟩)
    | fail)
  all_goals (first
    | (with_reducible assumption)
    | omega
    | (simp only [← Int32.toInt_inj, Int32.toInt_add, Int32.toInt_mul, Int32.toInt_sub, Int32.toInt_neg, apply_ite Int32.toInt, Int32.reduceToInt, Int32.le_iff_toInt_le, Int32.lt_iff_toInt_lt] at *; (try simp only [Int.bmod_add_bmod, Int.add_bmod_bmod, Int.bmod_mul_bmod, Int.mul_bmod_bmod, Int.sub_bmod_bmod, Int.bmod_sub_bmod] at *); (try simp (disch := omega) only [fb_bmod, true_and, and_true] at *); all_goals (first | omega | (simp only [Int.bmod_def] at *; omega) | omega)))
theorem kc_someHolds16 {q : Int32 → hS → Prop} {v2 v3 : Int32} (h : St Γ Φ S) (hf : fre Γ Φ [700]) (ha : Γ a = some (0, 0, 0, 0, ρa)) (hb : Γ b = some (10, κ, c, n, ρb)) (h3 : v3.toInt ≤ c) (h0 : ∀ S', St Γ Φ S' → q 0 S') (h1 : ∀ S', St Γ Φ S' → q 1 S') : ∃ n, w_X0_someHolds_b16 q n S a (some b) v2 v3 0 := by
  have htx := T_tx h hb
  refine loop_m (σ := hS × Int32) (fun t s => w_X0_someHolds_b16 q t s.1 a (some b) v2 v3 s.2) (fun s => St Γ Φ s.1 ∧ 0 ≤ s.2.toInt ∧ s.2.toInt ≤ c) (fun s => (c - s.2.toInt).toNat) ?_ (S, 0) ⟨h, (show 0 ≤ (0 : Int32).toInt from by decide), by have := z0I; dsimp only; omega⟩
  rintro t ⟨S, v4⟩ ⟨h, h4⟩ ih
  dsimp only at h h4 ih ⊢
  have go : ∀ S', St Γ Φ S' → ¬ v3 ≤ v4 → w_X0_someHolds_b54 q (fun S v0 v1 v2 v3 v4 => w_X0_someHolds_b16 q t S v0 v1 v2 v3 v4) S' a (some b) v2 v3 v4 := by
    intro S' h' h0 y ey
    have : y.toInt = v4.toInt + 1 ∧ v4.toInt < c := by
      subst ey
      (first
    | (with_reducible assumption)
    | omega
    | (simp only [← Int32.toInt_inj, Int32.toInt_add, Int32.toInt_mul, Int32.toInt_sub, Int32.toInt_neg, apply_ite Int32.toInt, Int32.reduceToInt, Int32.le_iff_toInt_le, Int32.lt_iff_toInt_lt] at *; (try simp only [Int.bmod_add_bmod, Int.add_bmod_bmod, Int.bmod_mul_bmod, Int.mul_bmod_bmod, Int.sub_bmod_bmod, Int.bmod_sub_bmod] at *); (try simp (disch := omega) only [fb_bmod, true_and, and_true] at *); all_goals (first | omega | (simp only [Int.bmod_def] at *; omega) | omega)))
    exact ih (S', y) ⟨h', by dsimp only; omega⟩ (by dsimp only; omega)
  rw [w_X0_someHolds_b16]
  repeat' (first
    | (exact absurd rfl ‹¬ (0 : Int32) = 0›)
    | (exact absurd ‹(1 : Int32) = 0› (by decide))
    | exact h0 _ (by assumption)
    | exact h1 _ (by assumption)
    | exact go _ (by assumption) (by assumption)
    | (with_reducible refine T_gP_0_0 (by assumption) (by assumption) (fun _ _ _ => ?_))
    | (with_reducible refine T_gP_0_1 (by assumption) (by assumption) (fun _ _ _ => ?_))
    | (with_reducible refine T_gP_10_3 (by assumption) (by assumption) (fun _ _ _ => ?_))
    | (with_reducible refine T_gI_10_0 (by assumption) (by assumption) (fun _ _ _ => ?_))
    | (with_reducible refine T_oK_6 (by assumption) (by assumption) ?_)
    | (with_reducible refine T_aI_20 (by assumption) (by assumption) ?_ (fun _ _ _ => ?_))
    | (with_reducible refine T_aI_21 (by assumption) (by assumption) ?_ (fun _ _ _ => ?_))
    | (with_reducible refine T_aI_22 (by assumption) (by assumption) ?_ (fun _ _ _ => ?_))
    | (with_reducible refine T_aI_23 (by assumption) (by assumption) ?_ (fun _ _ _ => ?_))
    | (with_reducible refine T_aI_24 (by assumption) (by assumption) ?_ (fun _ _ _ => ?_))
    | (with_reducible refine dQ_s ?_)
    | (with_reducible refine kc_X6_weigh (by assumption) (fre.sub (by assumption) (by simp)) (by assumption) (by assumption) (by assumption) (fun _ _ _ => ?_))
    | (unfold w_X0_someHolds_b54)
    | (unfold w_X0_someHolds_b12)
    | (refine ⟨fun _ => ?_, T_someE (by assumption) (fun _ _ _ _ => ?_)⟩)
    | (refine ⟨fun _ => ?_, T_some (by assumption) (fun _ _ _ => ?_)⟩)
    | (with_reducible refine T_y (fun _ _ _ => ?_))
    | (refine ⟨fun _ => ?_, fun _ => ?_⟩)
    | fail)
  all_goals (first
    | (with_reducible assumption)
    | omega
    | (simp only [← Int32.toInt_inj, Int32.toInt_add, Int32.toInt_mul, Int32.toInt_sub, Int32.toInt_neg, apply_ite Int32.toInt, Int32.reduceToInt, Int32.le_iff_toInt_le, Int32.lt_iff_toInt_lt] at *; (try simp only [Int.bmod_add_bmod, Int.add_bmod_bmod, Int.bmod_mul_bmod, Int.mul_bmod_bmod, Int.sub_bmod_bmod, Int.bmod_sub_bmod] at *); (try simp (disch := omega) only [fb_bmod, true_and, and_true] at *); all_goals (first | omega | (simp only [Int.bmod_def] at *; omega) | omega)))
theorem kc_X0_someHolds {q : Int32 → hS → Prop} {v : Option Nat} {v2 : Int32} (h : St Γ Φ S) (hf : fre Γ Φ [700]) (ha : Γ a = some (0, 0, 0, 0, ρa)) (hv : ∀ b, v = some b → isTx Γ b) (h0 : ∀ S', St Γ Φ S' → q 0 S') (h1 : ∀ S', St Γ Φ S' → q 1 S') : w_X0_someHolds q S a v v2 := by
  unfold w_X0_someHolds w_X0_someHolds_b12
  refine ⟨fun _ => ⟨1, ?_⟩, fun b hb => ?_⟩
  · rw [w_X0_someHolds_b16]
    exact ⟨fun _ => h0 _ h, fun z => absurd (by decide) z⟩
  · obtain ⟨c, n, ρb, hb, h1', h2'⟩ := hv b hb
    exact T_gI_10_0 h hb (fun x _ hx => kc_someHolds16 h hf ha hb (by omega) h0 h1)
theorem kc_X0_opensTo {q : Int32 → hS → Prop} {v w : Int32} (h : St Γ Φ S) (hf : fre Γ Φ [101, 700]) (ha : Γ a = some (0, 0, 0, 0, ρa)) (hb : Γ b = some (8, 8 + 10000 * i, i, 0, ρb)) (h0 : ∀ S', St Γ Φ S' → q 0 S') (h1 : ∀ S', St Γ Φ S' → q 1 S') : w_X0_opensTo q S a b v w := by
  have k20 : w_X0_opensTo_b20 q S b w := by
    unfold w_X0_opensTo_b20
    repeat' (first
    | (exact absurd rfl ‹¬ (0 : Int32) = 0›)
    | (exact absurd ‹(1 : Int32) = 0› (by decide))
    | exact h0 _ (by assumption)
    | exact h1 _ (by assumption)
    | (with_reducible refine T_gP_2_2 (by assumption) (by assumption) (fun _ _ _ => ?_))
    | (with_reducible refine T_gP_8_0 (by assumption) (by assumption) (fun _ _ _ => ?_))
    | (with_reducible refine T_oK_0 (by assumption) (by assumption) ?_)
    | (with_reducible refine T_oK_10 (by assumption) (by assumption) ?_)
    | (with_reducible refine T_oK_8 (by assumption) (by assumption) ?_)
    | (with_reducible refine T_aI_20 (by assumption) (by assumption) ?_ (fun _ _ _ => ?_))
    | (with_reducible refine T_aI_21 (by assumption) (by assumption) ?_ (fun _ _ _ => ?_))
    | (with_reducible refine T_aI_22 (by assumption) (by assumption) ?_ (fun _ _ _ => ?_))
    | (with_reducible refine T_aI_23 (by assumption) (by assumption) ?_ (fun _ _ _ => ?_))
    | (with_reducible refine T_aI_24 (by assumption) (by assumption) ?_ (fun _ _ _ => ?_))
    | (with_reducible refine kc_X0_setWords (by assumption) (fre.sub (by assumption) (by simp)) (by assumption) (by assumption) (fun _ _ => ?_))
    | (with_reducible refine kc_X0_someHolds (by assumption) (fre.sub (by assumption) (by simp)) (by assumption) (by assumption) (fun _ _ => ?_) (fun _ _ => ?_))
    | (with_reducible refine kc_X10_hasKind (by assumption) (by assumption) ?_ ?_)
    | (with_reducible refine kc_X8_hasHouse (by assumption) (by assumption) ?_ (fun _ => ?_))
    | (with_reducible refine kc_X8_lawInForce (by assumption) (by assumption) (fun _ _ => ?_))
    | (unfold w_X0_opensTo_b20)
    | (refine ⟨fun _ => ?_, T_someE (by assumption) (fun _ _ _ _ => ?_)⟩)
    | (refine ⟨fun _ => ?_, T_some (by assumption) (fun _ _ _ => ?_)⟩)
    | (refine ⟨fun _ => ?_, fun _ => ?_⟩)
    | fail)
    all_goals (first
    | (with_reducible assumption)
    | omega
    | (simp only [← Int32.toInt_inj, Int32.toInt_add, Int32.toInt_mul, Int32.toInt_sub, Int32.toInt_neg, apply_ite Int32.toInt, Int32.reduceToInt, Int32.le_iff_toInt_le, Int32.lt_iff_toInt_lt] at *; (try simp only [Int.bmod_add_bmod, Int.add_bmod_bmod, Int.bmod_mul_bmod, Int.mul_bmod_bmod, Int.sub_bmod_bmod, Int.bmod_sub_bmod] at *); (try simp (disch := omega) only [fb_bmod, true_and, and_true] at *); all_goals (first | omega | (simp only [Int.bmod_def] at *; omega) | omega)))
  refine T_oK_8 h hb (kc_X8_lawInForce h hb (fun r hr => ⟨fun _ => k20, fun d hd => ?_⟩))
  obtain ⟨c, n, ρd, hd', h1', h2'⟩ := hr d hd
  have hx : ∀ b, some d = some b → isTx Γ b := fun b e => hr b (hd.trans e)
  refine T_oK_10 h hd' (kc_X10_hasKind h hd' ⟨fun z => absurd rfl z, fun _ => k20⟩ ⟨fun _ => T_oK_0 h ha (kc_X0_setWords h (hf.sub (by simp)) ha hb (fun S' h' => T_oK_0 h' ha (kc_X0_someHolds h' (hf.sub (by simp)) ha hx (fun S2 h2 => ⟨Or.inl rfl, h0 S2 h2⟩) (fun S2 h2 => ⟨Or.inr rfl, h1 S2 h2⟩)))), fun z => absurd z (by decide)⟩)
theorem kc_X0_isBarred {q : Int32 → hS → Prop} {v w t : Int32} (h : St Γ Φ S) (hf : fre Γ Φ [101, 700]) (ha : Γ a = some (0, 0, 0, 0, ρa)) (hb : Γ b = some (8, 8 + 10000 * i, i, 0, ρb)) (h0 : ∀ S', St Γ Φ S' → q 0 S') (h1 : ∀ S', St Γ Φ S' → q 1 S') : w_X0_isBarred q S a b v w t := by
  unfold w_X0_isBarred
  repeat' (first
    | (exact absurd rfl ‹¬ (0 : Int32) = 0›)
    | (exact absurd ‹(1 : Int32) = 0› (by decide))
    | exact ⟨Or.inl rfl, h0 _ (by assumption)⟩
    | exact ⟨Or.inr rfl, h1 _ (by assumption)⟩
    | (with_reducible refine T_oK_0 (by assumption) (by assumption) ?_)
    | (with_reducible refine T_oK_8 (by assumption) (by assumption) ?_)
    | (with_reducible refine kc_X0_setWords (by assumption) (fre.sub (by assumption) (by simp)) (by assumption) (by assumption) (fun _ _ => ?_))
    | (with_reducible refine kc_X0_someHolds (by assumption) (fre.sub (by assumption) (by simp)) (by assumption) (by assumption) (fun _ _ => ?_) (fun _ _ => ?_))
    | (with_reducible refine kc_X8_lawInForce (by assumption) (by assumption) (fun _ _ => ?_))
    | (refine ⟨fun _ => ?_, fun _ => ?_⟩)
    | fail)
end ASK
