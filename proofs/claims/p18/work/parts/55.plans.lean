/-! LAYER 2, the class: plans -/
theorem or8 : ∀ g, g < 256 → ∀ o, o < 8 → (nI g ||| ((1 : Int32) <<< (nI o &&& 31))).toInt.toNat < 256 ∧ 0 ≤ (nI g ||| ((1 : Int32) <<< (nI o &&& 31))).toInt := by decide +kernel
theorem asN {x : Int32} (h : 0 ≤ x.toInt) : x = nI x.toInt.toNat := by
  apply Int32.toInt_inj.mp
  have := fb_rng x
  rw [nI_toInt (by omega)]
  omega
theorem orIx {g o : Int32} (hg : 0 ≤ g.toInt ∧ g.toInt < 256) (ho : 0 ≤ o.toInt ∧ o.toInt < 8) : 0 ≤ (g ||| ((1 : Int32) <<< (o &&& 31))).toInt ∧ (g ||| ((1 : Int32) <<< (o &&& 31))).toInt < 256 := by
  have := or8 g.toInt.toNat (by omega) o.toInt.toNat (by omega)
  rw [← asN hg.1, ← asN ho.1] at this
  omega
theorem sh8 : ∀ P, P < 9 → 1 ≤ ((1 : Int32) <<< (nI P &&& 31)).toInt ∧ ((1 : Int32) <<< (nI P &&& 31)).toInt ≤ 256 := by decide +kernel
theorem shIx {p : Int32} (hp : 0 ≤ p.toInt ∧ p.toInt ≤ 8) : 1 ≤ ((1 : Int32) <<< (p &&& 31)).toInt ∧ ((1 : Int32) <<< (p &&& 31)).toInt ≤ 256 := by
  have := sh8 p.toInt.toNat (by omega)
  rw [← asN hp.1] at this
  exact this
section PLANS
variable {Γ : kG} {Φ : kF} {S : hS} {a b i c n : Nat} {ρa ρb ρd ρg : Nat → Nat} {κ rs : Nat}
theorem kc_X4_canGive {q : Int32 → hS → Prop} {v w : Int32} (h : St Γ Φ S) (hb : Γ b = some (8, 8 + 10000 * i, i, 0, ρb)) (h0 : q 0 S) (h1 : q 1 S) : w_X4_canGive q S b v w := by
  unfold w_X4_canGive
  repeat' (first
    | (exact absurd rfl ‹¬ (0 : Int32) = 0›)
    | (exact absurd ‹(1 : Int32) = 0› (by decide))
    | exact h0
    | exact h1
    | (with_reducible refine T_gP_8_7 (by assumption) (by assumption) (fun _ _ _ => ?_))
    | (with_reducible refine T_oK_8 (by assumption) (by assumption) ?_)
    | (with_reducible refine T_aI_20 (by assumption) (by assumption) ?_ (fun _ _ _ => ?_))
    | (with_reducible refine T_aI_21 (by assumption) (by assumption) ?_ (fun _ _ _ => ?_))
    | (with_reducible refine T_aI_22 (by assumption) (by assumption) ?_ (fun _ _ _ => ?_))
    | (with_reducible refine T_aI_23 (by assumption) (by assumption) ?_ (fun _ _ _ => ?_))
    | (with_reducible refine T_aI_24 (by assumption) (by assumption) ?_ (fun _ _ _ => ?_))
    | (with_reducible refine kc_X8_leftOf (by assumption) (by assumption) (fun _ => ?_))
    | (with_reducible refine kc_X8_lives (by assumption) (by assumption) ?_ (fun _ => ?_))
    | (refine ⟨fun _ => ?_, fun _ => ?_⟩)
    | fail)
  all_goals (first
    | (with_reducible assumption)
    | omega
    | (simp only [← Int32.toInt_inj, Int32.toInt_add, Int32.toInt_mul, Int32.toInt_sub, Int32.toInt_neg, apply_ite Int32.toInt, Int32.reduceToInt, Int32.le_iff_toInt_le, Int32.lt_iff_toInt_lt] at *; (try simp only [Int.bmod_add_bmod, Int.add_bmod_bmod, Int.bmod_mul_bmod, Int.mul_bmod_bmod, Int.sub_bmod_bmod, Int.bmod_sub_bmod] at *); (try simp (disch := omega) only [fb_bmod, true_and, and_true] at *); all_goals (first | omega | (simp only [Int.bmod_def] at *; omega) | omega)))
theorem kc_X4_mostIfGives {q : Int32 → hS → Prop} {g p o : Int32} (h : St Γ Φ S) (ha : Γ a = some (4, 4, 0, 0, ρa)) (hb : Γ b = some (8, 8 + 10000 * i, i, 0, ρb)) (hg : (0 ≤ g.toInt ∧ g.toInt < 256) ∧ 0 ≤ o.toInt ∧ o.toInt < 8) (k : ∀ r, q r S) : w_X4_mostIfGives q S a b g p o := by
  unfold w_X4_mostIfGives
  have := orIx hg.1 hg.2
  repeat' (first
    | (exact absurd rfl ‹¬ (0 : Int32) = 0›)
    | (exact absurd ‹(1 : Int32) = 0› (by decide))
    | exact k _
    | (with_reducible refine T_gP_4_5 (by assumption) (by assumption) (fun _ _ _ => ?_))
    | (with_reducible refine T_aI_20 (by assumption) (by assumption) ?_ (fun _ _ _ => ?_))
    | (with_reducible refine T_aI_21 (by assumption) (by assumption) ?_ (fun _ _ _ => ?_))
    | (with_reducible refine T_aI_22 (by assumption) (by assumption) ?_ (fun _ _ _ => ?_))
    | (with_reducible refine T_aI_23 (by assumption) (by assumption) ?_ (fun _ _ _ => ?_))
    | (with_reducible refine T_aI_24 (by assumption) (by assumption) ?_ (fun _ _ _ => ?_))
    | (with_reducible refine kc_X11_hasBit ?_ ?_)
    | (with_reducible refine kc_X4_canGive (by assumption) (by assumption) ?_ ?_)
    | (refine ⟨fun _ => ?_, fun _ => ?_⟩)
    | fail)
  all_goals (first
    | (with_reducible assumption)
    | omega
    | (simp only [← Int32.toInt_inj, Int32.toInt_add, Int32.toInt_mul, Int32.toInt_sub, Int32.toInt_neg, apply_ite Int32.toInt, Int32.reduceToInt, Int32.le_iff_toInt_le, Int32.lt_iff_toInt_lt] at *; (try simp only [Int.bmod_add_bmod, Int.add_bmod_bmod, Int.bmod_mul_bmod, Int.mul_bmod_bmod, Int.sub_bmod_bmod, Int.bmod_sub_bmod] at *); (try simp (disch := omega) only [fb_bmod, true_and, and_true] at *); all_goals (first | omega | (simp only [Int.bmod_def] at *; omega) | omega)))
theorem kc_X4_firstBestGiver {q : Int32 → hS → Prop} {g p : Int32} (h : St Γ Φ S) (ha : Γ a = some (4, 4, 0, 0, ρa)) (hb : Γ b = some (8, 8 + 10000 * i, i, 0, ρb)) (hg : (0 ≤ g.toInt ∧ g.toInt < 256) ∧ 0 ≤ p.toInt ∧ p.toInt < 8) (k : ∀ r : Int32, (0 ≤ r.toInt ∧ r.toInt < 8) → q r S) : w_X4_firstBestGiver q S a b g p := by
  refine loop_m (σ := Int32) (fun t s => w_X4_firstBestGiver_b3 q t S a b g p s) (fun s => 0 ≤ s.toInt ∧ s.toInt ≤ 8) (fun s => (8 - s.toInt).toNat) ?_ 0 (by rw [z0I]; omega)
  intro t x hx ih
  have go : ∀ y : Int32, y.toInt = x.toInt + 1 ∧ x.toInt < 8 → w_X4_firstBestGiver_b3 q t S a b g p y := fun y hy => ih y (by omega) (by omega)
  rw [w_X4_firstBestGiver_b3]
  repeat' (first
    | (exact absurd rfl ‹¬ (0 : Int32) = 0›)
    | (exact absurd ‹(1 : Int32) = 0› (by decide))
    | refine k _ ?_
    | refine go _ ?_
    | (with_reducible refine T_gP_4_5 (by assumption) (by assumption) (fun _ _ _ => ?_))
    | (with_reducible refine T_gI_8_4 (by assumption) (by assumption) (fun _ _ _ => ?_))
    | (with_reducible refine T_oK_4 (by assumption) (by assumption) ?_)
    | (with_reducible refine T_aI_20 (by assumption) (by assumption) ?_ (fun _ _ _ => ?_))
    | (with_reducible refine T_aI_21 (by assumption) (by assumption) ?_ (fun _ _ _ => ?_))
    | (with_reducible refine T_aI_22 (by assumption) (by assumption) ?_ (fun _ _ _ => ?_))
    | (with_reducible refine T_aI_23 (by assumption) (by assumption) ?_ (fun _ _ _ => ?_))
    | (with_reducible refine T_aI_24 (by assumption) (by assumption) ?_ (fun _ _ _ => ?_))
    | (with_reducible refine kc_X4_mostIfGives (by assumption) (by assumption) (by assumption) ?_ (fun _ => ?_))
    | (unfold w_X4_firstBestGiver_b39)
    | (with_reducible refine T_y (fun _ _ _ => ?_))
    | (refine ⟨fun _ => ?_, fun _ => ?_⟩)
    | fail)
  all_goals (first
    | (with_reducible assumption)
    | omega
    | (simp only [← Int32.toInt_inj, Int32.toInt_add, Int32.toInt_mul, Int32.toInt_sub, Int32.toInt_neg, apply_ite Int32.toInt, Int32.reduceToInt, Int32.le_iff_toInt_le, Int32.lt_iff_toInt_lt] at *; (try simp only [Int.bmod_add_bmod, Int.add_bmod_bmod, Int.bmod_mul_bmod, Int.mul_bmod_bmod, Int.sub_bmod_bmod, Int.bmod_sub_bmod] at *); (try simp (disch := omega) only [fb_bmod, true_and, and_true] at *); all_goals (first | omega | (simp only [Int.bmod_def] at *; omega) | omega)))
theorem kc_X4_findExchange {q : Int32 → hS → Prop} (h : St Γ Φ S) (hf : fre Γ Φ [505, 506]) (ha : Γ a = some (4, 4, 0, 0, ρa)) (hb : Γ b = some (8, 8 + 10000 * i, i, 0, ρb)) (k : ∀ r S', St Γ Φ S' → q r S') : w_X4_findExchange q S a b := by
  refine T_gI_8_4 h hb (fun x1 _ h1 y10 e10 => ?_)
  have hs := shIx h1.2
  have hy10 : 0 ≤ y10.toInt ∧ y10.toInt < 256 := by
    subst e10
    (first
    | (with_reducible assumption)
    | omega
    | (simp only [← Int32.toInt_inj, Int32.toInt_add, Int32.toInt_mul, Int32.toInt_sub, Int32.toInt_neg, apply_ite Int32.toInt, Int32.reduceToInt, Int32.le_iff_toInt_le, Int32.lt_iff_toInt_lt] at *; (try simp only [Int.bmod_add_bmod, Int.add_bmod_bmod, Int.bmod_mul_bmod, Int.mul_bmod_bmod, Int.sub_bmod_bmod, Int.bmod_sub_bmod] at *); (try simp (disch := omega) only [fb_bmod, true_and, and_true] at *); all_goals (first | omega | (simp only [Int.bmod_def] at *; omega) | omega)))
  have k92 : ∀ S', St Γ Φ S' → ∃ n, w_X4_findExchange_b92 q n S' a b x1 0 0 := by
    intro S' h'
    refine loop_m (σ := hS × Int32 × Int32) (fun t s => w_X4_findExchange_b92 q t s.1 a b x1 s.2.1 s.2.2) (fun s => St Γ Φ s.1 ∧ (0 ≤ s.2.1.toInt ∧ s.2.1.toInt < 256) ∧ 0 ≤ s.2.2.toInt ∧ s.2.2.toInt ≤ 8) (fun s => (8 - s.2.2.toInt).toNat) ?_ (S', 0, 0) ⟨h', by dsimp only; rw [z0I]; omega⟩
    rintro t ⟨S, g, x⟩ ⟨h, hg, hx⟩ ih
    dsimp only at h hg hx ih ⊢
    have go : ∀ (S' : hS) (z y : Int32), St Γ Φ S' → (0 ≤ z.toInt ∧ z.toInt < 256) → (y.toInt = x.toInt + 1 ∧ x.toInt < 8) → w_X4_findExchange_b92 q t S' a b x1 z y := fun S' z y h' hz hy => ih (S', z, y) ⟨h', hz, by dsimp only; omega⟩ (by dsimp only; omega)
    rw [w_X4_findExchange_b92]
    refine ⟨fun _ => ?_, fun c0 => T_oK_4 h ha (kc_X4_firstBestGiver h ha hb ?_ (fun r hr => T_gP_4_6 h ha (fun p _ hp => ?_)))⟩
    · repeat' (first
    | (exact absurd rfl ‹¬ (0 : Int32) = 0›)
    | (exact absurd ‹(1 : Int32) = 0› (by decide))
    | exact k _ _ (by assumption)
    | (with_reducible refine T_gP_4_5 (by assumption) (by assumption) (fun _ _ _ => ?_))
    | (with_reducible refine T_gP_4_6 (by assumption) (by assumption) (fun _ _ _ => ?_))
    | (with_reducible refine T_gI_8_4 (by assumption) (by assumption) (fun _ _ _ => ?_))
    | (with_reducible refine T_oK_4 (by assumption) (by assumption) ?_)
    | (with_reducible refine T_aI_20 (by assumption) (by assumption) ?_ (fun _ _ _ => ?_))
    | (with_reducible refine T_aI_21 (by assumption) (by assumption) ?_ (fun _ _ _ => ?_))
    | (with_reducible refine T_aI_22 (by assumption) (by assumption) ?_ (fun _ _ _ => ?_))
    | (with_reducible refine T_aI_23 (by assumption) (by assumption) ?_ (fun _ _ _ => ?_))
    | (with_reducible refine T_aI_24 (by assumption) (by assumption) ?_ (fun _ _ _ => ?_))
    | (with_reducible refine T_sI_20 (by assumption) (by assumption) (by assumption) (by simp) ?_ (fun _ _ _ _ _ _ => ?_))
    | (with_reducible refine T_sI_21 (by assumption) (by assumption) (by assumption) (by simp) ?_ ?_ (fun _ _ _ _ _ _ => ?_))
    | (with_reducible refine T_sI_22 (by assumption) (by assumption) (by assumption) (by simp) ?_ ?_ (fun _ _ _ _ _ _ => ?_))
    | (with_reducible refine T_sI_23 (by assumption) (by assumption) (by assumption) (by simp) ?_ ?_ (fun _ _ _ _ _ _ => ?_))
    | (with_reducible refine T_sI_24 (by assumption) (by assumption) (by assumption) (by simp) ?_ ?_ (fun _ _ _ _ _ _ => ?_))
    | (with_reducible refine kc_J6_bitCount (fun _ => ?_))
    | (with_reducible refine kc_X4_firstBestGiver (by assumption) (by assumption) (by assumption) ?_ (fun _ _ => ?_))
    | (with_reducible refine kc_X4_mostIfGives (by assumption) (by assumption) (by assumption) ?_ (fun _ => ?_))
    | (unfold w_X4_findExchange_b129)
    | (with_reducible refine T_y (fun _ _ _ => ?_))
    | (refine ⟨fun _ => ?_, fun _ => ?_⟩)
    | fail)
      all_goals (first
    | (with_reducible assumption)
    | omega
    | (simp only [← Int32.toInt_inj, Int32.toInt_add, Int32.toInt_mul, Int32.toInt_sub, Int32.toInt_neg, apply_ite Int32.toInt, Int32.reduceToInt, Int32.le_iff_toInt_le, Int32.lt_iff_toInt_lt] at *; (try simp only [Int.bmod_add_bmod, Int.add_bmod_bmod, Int.bmod_mul_bmod, Int.mul_bmod_bmod, Int.sub_bmod_bmod, Int.bmod_sub_bmod] at *); (try simp (disch := omega) only [fb_bmod, true_and, and_true] at *); all_goals (first | omega | (simp only [Int.bmod_def] at *; omega) | omega)))
    · (first
    | (with_reducible assumption)
    | omega
    | (simp only [← Int32.toInt_inj, Int32.toInt_add, Int32.toInt_mul, Int32.toInt_sub, Int32.toInt_neg, apply_ite Int32.toInt, Int32.reduceToInt, Int32.le_iff_toInt_le, Int32.lt_iff_toInt_lt] at *; (try simp only [Int.bmod_add_bmod, Int.add_bmod_bmod, Int.bmod_mul_bmod, Int.mul_bmod_bmod, Int.sub_bmod_bmod, Int.bmod_sub_bmod] at *); (try simp (disch := omega) only [fb_bmod, true_and, and_true] at *); all_goals (first | omega | (simp only [Int.bmod_def] at *; omega) | omega)))
    have hv : 0 ≤ x.toInt ∧ x.toInt < 8 := by (first
    | (with_reducible assumption)
    | omega
    | (simp only [← Int32.toInt_inj, Int32.toInt_add, Int32.toInt_mul, Int32.toInt_sub, Int32.toInt_neg, apply_ite Int32.toInt, Int32.reduceToInt, Int32.le_iff_toInt_le, Int32.lt_iff_toInt_lt] at *; (try simp only [Int.bmod_add_bmod, Int.add_bmod_bmod, Int.bmod_mul_bmod, Int.mul_bmod_bmod, Int.sub_bmod_bmod, Int.bmod_sub_bmod] at *); (try simp (disch := omega) only [fb_bmod, true_and, and_true] at *); all_goals (first | omega | (simp only [Int.bmod_def] at *; omega) | omega)))
    have k129 : ∀ t0, w_X4_findExchange_b129 q (fun S v0 v1 v2 v4 v5 => w_X4_findExchange_b92 q t S v0 v1 v2 v4 v5) S a b x1 g x r t0 x p := by
      intro t0
      refine T_sI_20 h hf hp (by simp) hv (fun S' h' _ _ _ _ y1 e1 y2 e2 => go S' y1 y2 h' (by rw [e1]; exact orIx hg hr) ⟨?_, hv.2⟩)
      subst e2
      (first
    | (with_reducible assumption)
    | omega
    | (simp only [← Int32.toInt_inj, Int32.toInt_add, Int32.toInt_mul, Int32.toInt_sub, Int32.toInt_neg, apply_ite Int32.toInt, Int32.reduceToInt, Int32.le_iff_toInt_le, Int32.lt_iff_toInt_lt] at *; (try simp only [Int.bmod_add_bmod, Int.add_bmod_bmod, Int.bmod_mul_bmod, Int.mul_bmod_bmod, Int.sub_bmod_bmod, Int.bmod_sub_bmod] at *); (try simp (disch := omega) only [fb_bmod, true_and, and_true] at *); all_goals (first | omega | (simp only [Int.bmod_def] at *; omega) | omega)))
    exact ⟨fun _ => k129 _, fun _ => k129 _⟩
  refine T_gP_4_5 h ha (fun x12 _ h12 => T_sI_20 h hf h12 (by simp) hy10 (fun S' h' _ _ _ _ y21 e21 => ?_))
  have hy21 : -1 ≤ y21.toInt ∧ y21.toInt < 256 := by
    subst e21
    (first
    | (with_reducible assumption)
    | omega
    | (simp only [← Int32.toInt_inj, Int32.toInt_add, Int32.toInt_mul, Int32.toInt_sub, Int32.toInt_neg, apply_ite Int32.toInt, Int32.reduceToInt, Int32.le_iff_toInt_le, Int32.lt_iff_toInt_lt] at *; (try simp only [Int.bmod_add_bmod, Int.add_bmod_bmod, Int.bmod_mul_bmod, Int.mul_bmod_bmod, Int.sub_bmod_bmod, Int.bmod_sub_bmod] at *); (try simp (disch := omega) only [fb_bmod, true_and, and_true] at *); all_goals (first | omega | (simp only [Int.bmod_def] at *; omega) | omega)))
  refine loop_m (σ := hS × Int32) (fun t s => w_X4_findExchange_b23 q t s.1 a b x1 s.2) (fun s => St Γ Φ s.1 ∧ -1 ≤ s.2.toInt ∧ s.2.toInt < 256) (fun s => (1 + s.2.toInt).toNat) ?_ (S', y21) ⟨h', hy21⟩
  rintro t ⟨S, x⟩ ⟨h, hx⟩ ih
  dsimp only at h hx ih ⊢
  have go : ∀ (S' : hS) (y : Int32), St Γ Φ S' → (y.toInt = x.toInt - 1 ∧ 0 ≤ x.toInt) → w_X4_findExchange_b23 q t S' a b x1 y := fun S' y h' hy => ih (S', y) ⟨h', by dsimp only; omega⟩ (by dsimp only; omega)
  rw [w_X4_findExchange_b23]
  refine ⟨fun _ => k92 S h, fun c0 => kc_J6_bitCount (fun r => ?_)⟩
  have hx0 : 0 ≤ x.toInt := by (first
    | (with_reducible assumption)
    | omega
    | (simp only [← Int32.toInt_inj, Int32.toInt_add, Int32.toInt_mul, Int32.toInt_sub, Int32.toInt_neg, apply_ite Int32.toInt, Int32.reduceToInt, Int32.le_iff_toInt_le, Int32.lt_iff_toInt_lt] at *; (try simp only [Int.bmod_add_bmod, Int.add_bmod_bmod, Int.bmod_mul_bmod, Int.mul_bmod_bmod, Int.sub_bmod_bmod, Int.bmod_sub_bmod] at *); (try simp (disch := omega) only [fb_bmod, true_and, and_true] at *); all_goals (first | omega | (simp only [Int.bmod_def] at *; omega) | omega)))
  refine loop_m (σ := Int32 × Int32) (fun t' s => w_X4_findExchange_b41 q (fun S v0 v1 v2 v4 => w_X4_findExchange_b23 q t S v0 v1 v2 v4) t' S a b x1 x r s.1 s.2) (fun s => 0 ≤ s.2.toInt ∧ s.2.toInt ≤ 8) (fun s => (8 - s.2.toInt).toNat) ?_ (-1, 0) (by dsimp only; rw [z0I]; omega)
  rintro t' ⟨m, y⟩ hy ih'
  dsimp only at hy ih' ⊢
  have go' : ∀ m z : Int32, z.toInt = y.toInt + 1 ∧ y.toInt < 8 → w_X4_findExchange_b41 q (fun S v0 v1 v2 v4 => w_X4_findExchange_b23 q t S v0 v1 v2 v4) t' S a b x1 x r m z := fun m z hz => ih' (m, z) (by dsimp only; omega) (by dsimp only; omega)
  rw [w_X4_findExchange_b41]
  repeat' (first
    | (exact absurd rfl ‹¬ (0 : Int32) = 0›)
    | (exact absurd ‹(1 : Int32) = 0› (by decide))
    | refine go _ _ (by assumption) ?_
    | refine go' _ _ ?_
    | (with_reducible refine T_gP_4_5 (by assumption) (by assumption) (fun _ _ _ => ?_))
    | (with_reducible refine T_gP_4_6 (by assumption) (by assumption) (fun _ _ _ => ?_))
    | (with_reducible refine T_gI_8_4 (by assumption) (by assumption) (fun _ _ _ => ?_))
    | (with_reducible refine T_oK_4 (by assumption) (by assumption) ?_)
    | (with_reducible refine T_aI_20 (by assumption) (by assumption) ?_ (fun _ _ _ => ?_))
    | (with_reducible refine T_aI_21 (by assumption) (by assumption) ?_ (fun _ _ _ => ?_))
    | (with_reducible refine T_aI_22 (by assumption) (by assumption) ?_ (fun _ _ _ => ?_))
    | (with_reducible refine T_aI_23 (by assumption) (by assumption) ?_ (fun _ _ _ => ?_))
    | (with_reducible refine T_aI_24 (by assumption) (by assumption) ?_ (fun _ _ _ => ?_))
    | (with_reducible refine T_sI_20 (by assumption) (by assumption) (by assumption) (by simp) ?_ (fun _ _ _ _ _ _ => ?_))
    | (with_reducible refine T_sI_21 (by assumption) (by assumption) (by assumption) (by simp) ?_ ?_ (fun _ _ _ _ _ _ => ?_))
    | (with_reducible refine T_sI_22 (by assumption) (by assumption) (by assumption) (by simp) ?_ ?_ (fun _ _ _ _ _ _ => ?_))
    | (with_reducible refine T_sI_23 (by assumption) (by assumption) (by assumption) (by simp) ?_ ?_ (fun _ _ _ _ _ _ => ?_))
    | (with_reducible refine T_sI_24 (by assumption) (by assumption) (by assumption) (by simp) ?_ ?_ (fun _ _ _ _ _ _ => ?_))
    | (with_reducible refine kc_J6_bitCount (fun _ => ?_))
    | (with_reducible refine kc_X4_firstBestGiver (by assumption) (by assumption) (by assumption) ?_ (fun _ _ => ?_))
    | (with_reducible refine kc_X4_mostIfGives (by assumption) (by assumption) (by assumption) ?_ (fun _ => ?_))
    | (unfold w_X4_findExchange_b129)
    | (with_reducible refine T_y (fun _ _ _ => ?_))
    | (refine ⟨fun _ => ?_, fun _ => ?_⟩)
    | fail)
  all_goals (first
    | (with_reducible assumption)
    | omega
    | (simp only [← Int32.toInt_inj, Int32.toInt_add, Int32.toInt_mul, Int32.toInt_sub, Int32.toInt_neg, apply_ite Int32.toInt, Int32.reduceToInt, Int32.le_iff_toInt_le, Int32.lt_iff_toInt_lt] at *; (try simp only [Int.bmod_add_bmod, Int.add_bmod_bmod, Int.bmod_mul_bmod, Int.mul_bmod_bmod, Int.sub_bmod_bmod, Int.bmod_sub_bmod] at *); (try simp (disch := omega) only [fb_bmod, true_and, and_true] at *); all_goals (first | omega | (simp only [Int.bmod_def] at *; omega) | omega)))
theorem kc_X4_toGoBy {q : Int32 → hS → Prop} {p o : Int32} (h : St Γ Φ S) (ha : Γ a = some (4, 4, 0, 0, ρa)) (hp : (0 ≤ p.toInt ∧ p.toInt < 8) ∧ 0 ≤ o.toInt ∧ o.toInt < 8) (k : ∀ r, q r S) : w_X4_toGoBy q S a p o := by
  unfold w_X4_toGoBy
  repeat' (first
    | (exact absurd rfl ‹¬ (0 : Int32) = 0›)
    | (exact absurd ‹(1 : Int32) = 0› (by decide))
    | exact k _
    | (with_reducible refine T_gP_4_7 (by assumption) (by assumption) (fun _ _ _ => ?_))
    | (with_reducible refine T_gP_4_8 (by assumption) (by assumption) (fun _ _ _ => ?_))
    | (with_reducible refine T_aI_20 (by assumption) (by assumption) ?_ (fun _ _ _ => ?_))
    | (with_reducible refine T_aI_21 (by assumption) (by assumption) ?_ (fun _ _ _ => ?_))
    | (with_reducible refine T_aI_22 (by assumption) (by assumption) ?_ (fun _ _ _ => ?_))
    | (with_reducible refine T_aI_23 (by assumption) (by assumption) ?_ (fun _ _ _ => ?_))
    | (with_reducible refine T_aI_24 (by assumption) (by assumption) ?_ (fun _ _ _ => ?_))
    | (unfold w_X4_toGoBy_b28)
    | (refine ⟨fun _ => ?_, fun _ => ?_⟩)
    | fail)
  all_goals (first
    | (with_reducible assumption)
    | omega
    | (simp only [← Int32.toInt_inj, Int32.toInt_add, Int32.toInt_mul, Int32.toInt_sub, Int32.toInt_neg, apply_ite Int32.toInt, Int32.reduceToInt, Int32.le_iff_toInt_le, Int32.lt_iff_toInt_lt] at *; (try simp only [Int.bmod_add_bmod, Int.add_bmod_bmod, Int.bmod_mul_bmod, Int.mul_bmod_bmod, Int.sub_bmod_bmod, Int.bmod_sub_bmod] at *); (try simp (disch := omega) only [fb_bmod, true_and, and_true] at *); all_goals (first | omega | (simp only [Int.bmod_def] at *; omega) | omega)))
theorem kc_X4_firstBestBuyer {q : Int32 → hS → Prop} {s m : Int32} (h : St Γ Φ S) (ha : Γ a = some (4, 4, 0, 0, ρa)) (hp : (0 ≤ s.toInt ∧ s.toInt < 8) ∧ m.toInt ≤ 8) (k : ∀ r : Int32, (0 ≤ r.toInt ∧ r.toInt < 8) → q r S) : w_X4_firstBestBuyer q S a s m := by
  refine loop_m (σ := Int32) (fun t x => w_X4_firstBestBuyer_b2 q t S a s m x) (fun s => 0 ≤ s.toInt ∧ s.toInt ≤ 8) (fun s => (8 - s.toInt).toNat) ?_ 0 (by rw [z0I]; omega)
  intro t x hx ih
  have go : ∀ y : Int32, y.toInt = x.toInt + 1 ∧ x.toInt < 8 → w_X4_firstBestBuyer_b2 q t S a s m y := fun y hy => ih y (by omega) (by omega)
  rw [w_X4_firstBestBuyer_b2]
  repeat' (first
    | (exact absurd rfl ‹¬ (0 : Int32) = 0›)
    | (exact absurd ‹(1 : Int32) = 0› (by decide))
    | refine k _ ?_
    | refine go _ ?_
    | (with_reducible refine T_gP_4_8 (by assumption) (by assumption) (fun _ _ _ => ?_))
    | (with_reducible refine T_oK_4 (by assumption) (by assumption) ?_)
    | (with_reducible refine T_aI_20 (by assumption) (by assumption) ?_ (fun _ _ _ => ?_))
    | (with_reducible refine T_aI_21 (by assumption) (by assumption) ?_ (fun _ _ _ => ?_))
    | (with_reducible refine T_aI_22 (by assumption) (by assumption) ?_ (fun _ _ _ => ?_))
    | (with_reducible refine T_aI_23 (by assumption) (by assumption) ?_ (fun _ _ _ => ?_))
    | (with_reducible refine T_aI_24 (by assumption) (by assumption) ?_ (fun _ _ _ => ?_))
    | (with_reducible refine kc_X4_toGoBy (by assumption) (by assumption) ?_ (fun _ => ?_))
    | (with_reducible refine T_y (fun _ _ _ => ?_))
    | (refine ⟨fun _ => ?_, fun _ => ?_⟩)
    | fail)
  all_goals (first
    | (with_reducible assumption)
    | omega
    | (simp only [← Int32.toInt_inj, Int32.toInt_add, Int32.toInt_mul, Int32.toInt_sub, Int32.toInt_neg, apply_ite Int32.toInt, Int32.reduceToInt, Int32.le_iff_toInt_le, Int32.lt_iff_toInt_lt] at *; (try simp only [Int.bmod_add_bmod, Int.add_bmod_bmod, Int.bmod_mul_bmod, Int.mul_bmod_bmod, Int.sub_bmod_bmod, Int.bmod_sub_bmod] at *); (try simp (disch := omega) only [fb_bmod, true_and, and_true] at *); all_goals (first | omega | (simp only [Int.bmod_def] at *; omega) | omega)))
theorem kc_findChain128 {q : Int32 → hS → Prop} {f o m s : Int32} (h : St Γ Φ S) (hf : fre Γ Φ [4, 508, 509]) (ha : Γ a = some (4, 4, 0, 0, ρa)) (hp : ((0 ≤ f.toInt ∧ f.toInt < 8) ∧ 0 ≤ o.toInt ∧ o.toInt < 8) ∧ m.toInt ≤ 8) (hs : 0 ≤ s.toInt ∧ s.toInt < 8) (h10 : (fI S a 10).toInt = 0) (k : ∀ r S', St Γ Φ S' → q r S') : ∃ n, w_X4_findChain_b128 q n S a f o m s 0 := by
  refine loop_m (σ := hS × Int32 × Int32) (fun t s => w_X4_findChain_b128 q t s.1 a f o m s.2.1 s.2.2) (fun s => St Γ Φ s.1 ∧ (0 ≤ s.2.1.toInt ∧ s.2.1.toInt < 8) ∧ (fI s.1 a 10).toInt = s.2.2.toInt ∧ 0 ≤ s.2.2.toInt ∧ s.2.2.toInt ≤ 8) (fun s => (8 - s.2.2.toInt).toNat) ?_ (S, s, 0) ⟨h, hs, by dsimp only; rw [z0I]; exact ⟨h10, by omega⟩⟩
  rintro t ⟨S, s, x⟩ ⟨h, hs, h10, hx⟩ ih
  dsimp only at h hs h10 hx ih ⊢
  have go : ∀ (S' : hS) (z y : Int32), St Γ Φ S' → (0 ≤ z.toInt ∧ z.toInt < 8) → (fI S' a 10).toInt = x.toInt + 1 → (y.toInt = x.toInt + 1 ∧ x.toInt < 8) → w_X4_findChain_b128 q t S' a f o m z y := fun S' z y h' hz h1 hy => ih (S', z, y) ⟨h', hz, by dsimp only; omega, by dsimp only; omega⟩ (by dsimp only; omega)
  rw [w_X4_findChain_b128]
  refine ⟨fun _ => ?_, fun c0 => ⟨fun _ => ?_, fun _ => T_oK_4 h ha (kc_X4_firstBestBuyer h ha ⟨hs, hp.2⟩ (fun r hr => ?_))⟩⟩
  · repeat' (first
    | (exact absurd rfl ‹¬ (0 : Int32) = 0›)
    | (exact absurd ‹(1 : Int32) = 0› (by decide))
    | exact k _ _ (by assumption)
    | (with_reducible refine T_gP_4_8 (by assumption) (by assumption) (fun _ _ _ => ?_))
    | (with_reducible refine T_gP_4_9 (by assumption) (by assumption) (fun _ _ _ => ?_))
    | (with_reducible refine T_gI_4_10 (by assumption) (by assumption) (fun _ _ _ => ?_))
    | (with_reducible refine T_pI_4_10 (by assumption) (by assumption) (by assumption) (by simp) ?_ (fun _ _ _ _ _ => ?_))
    | (with_reducible refine T_oK_4 (by assumption) (by assumption) ?_)
    | (with_reducible refine T_aI_20 (by assumption) (by assumption) ?_ (fun _ _ _ => ?_))
    | (with_reducible refine T_aI_21 (by assumption) (by assumption) ?_ (fun _ _ _ => ?_))
    | (with_reducible refine T_aI_22 (by assumption) (by assumption) ?_ (fun _ _ _ => ?_))
    | (with_reducible refine T_aI_23 (by assumption) (by assumption) ?_ (fun _ _ _ => ?_))
    | (with_reducible refine T_aI_24 (by assumption) (by assumption) ?_ (fun _ _ _ => ?_))
    | (with_reducible refine T_sI_20 (by assumption) (by assumption) (by assumption) (by simp) ?_ (fun _ _ _ _ _ _ => ?_))
    | (with_reducible refine T_sI_21 (by assumption) (by assumption) (by assumption) (by simp) ?_ ?_ (fun _ _ _ _ _ _ => ?_))
    | (with_reducible refine T_sI_22 (by assumption) (by assumption) (by assumption) (by simp) ?_ ?_ (fun _ _ _ _ _ _ => ?_))
    | (with_reducible refine T_sI_23 (by assumption) (by assumption) (by assumption) (by simp) ?_ ?_ (fun _ _ _ _ _ _ => ?_))
    | (with_reducible refine T_sI_24 (by assumption) (by assumption) (by assumption) (by simp) ?_ ?_ (fun _ _ _ _ _ _ => ?_))
    | (with_reducible refine kc_X4_firstBestBuyer (by assumption) (by assumption) ?_ (fun _ _ => ?_))
    | (with_reducible refine kc_X4_toGoBy (by assumption) (by assumption) ?_ (fun _ => ?_))
    | (unfold w_X4_findChain_b27)
    | (unfold w_X4_findChain_b174)
    | (with_reducible refine T_y (fun _ _ _ => ?_))
    | (refine ⟨fun _ => ?_, fun _ => ?_⟩)
    | fail)
    all_goals (first
    | (with_reducible assumption)
    | omega
    | (simp only [← Int32.toInt_inj, Int32.toInt_add, Int32.toInt_mul, Int32.toInt_sub, Int32.toInt_neg, apply_ite Int32.toInt, Int32.reduceToInt, Int32.le_iff_toInt_le, Int32.lt_iff_toInt_lt] at *; (try simp only [Int.bmod_add_bmod, Int.add_bmod_bmod, Int.bmod_mul_bmod, Int.mul_bmod_bmod, Int.sub_bmod_bmod, Int.bmod_sub_bmod] at *); (try simp (disch := omega) only [fb_bmod, true_and, and_true] at *); all_goals (first | omega | (simp only [Int.bmod_def] at *; omega) | omega)))
  · repeat' (first
    | (exact absurd rfl ‹¬ (0 : Int32) = 0›)
    | (exact absurd ‹(1 : Int32) = 0› (by decide))
    | exact k _ _ (by assumption)
    | (with_reducible refine T_gP_4_8 (by assumption) (by assumption) (fun _ _ _ => ?_))
    | (with_reducible refine T_gP_4_9 (by assumption) (by assumption) (fun _ _ _ => ?_))
    | (with_reducible refine T_gI_4_10 (by assumption) (by assumption) (fun _ _ _ => ?_))
    | (with_reducible refine T_pI_4_10 (by assumption) (by assumption) (by assumption) (by simp) ?_ (fun _ _ _ _ _ => ?_))
    | (with_reducible refine T_oK_4 (by assumption) (by assumption) ?_)
    | (with_reducible refine T_aI_20 (by assumption) (by assumption) ?_ (fun _ _ _ => ?_))
    | (with_reducible refine T_aI_21 (by assumption) (by assumption) ?_ (fun _ _ _ => ?_))
    | (with_reducible refine T_aI_22 (by assumption) (by assumption) ?_ (fun _ _ _ => ?_))
    | (with_reducible refine T_aI_23 (by assumption) (by assumption) ?_ (fun _ _ _ => ?_))
    | (with_reducible refine T_aI_24 (by assumption) (by assumption) ?_ (fun _ _ _ => ?_))
    | (with_reducible refine T_sI_20 (by assumption) (by assumption) (by assumption) (by simp) ?_ (fun _ _ _ _ _ _ => ?_))
    | (with_reducible refine T_sI_21 (by assumption) (by assumption) (by assumption) (by simp) ?_ ?_ (fun _ _ _ _ _ _ => ?_))
    | (with_reducible refine T_sI_22 (by assumption) (by assumption) (by assumption) (by simp) ?_ ?_ (fun _ _ _ _ _ _ => ?_))
    | (with_reducible refine T_sI_23 (by assumption) (by assumption) (by assumption) (by simp) ?_ ?_ (fun _ _ _ _ _ _ => ?_))
    | (with_reducible refine T_sI_24 (by assumption) (by assumption) (by assumption) (by simp) ?_ ?_ (fun _ _ _ _ _ _ => ?_))
    | (with_reducible refine kc_X4_firstBestBuyer (by assumption) (by assumption) ?_ (fun _ _ => ?_))
    | (with_reducible refine kc_X4_toGoBy (by assumption) (by assumption) ?_ (fun _ => ?_))
    | (unfold w_X4_findChain_b27)
    | (unfold w_X4_findChain_b174)
    | (with_reducible refine T_y (fun _ _ _ => ?_))
    | (refine ⟨fun _ => ?_, fun _ => ?_⟩)
    | fail)
    all_goals (first
    | (with_reducible assumption)
    | omega
    | (simp only [← Int32.toInt_inj, Int32.toInt_add, Int32.toInt_mul, Int32.toInt_sub, Int32.toInt_neg, apply_ite Int32.toInt, Int32.reduceToInt, Int32.le_iff_toInt_le, Int32.lt_iff_toInt_lt] at *; (try simp only [Int.bmod_add_bmod, Int.add_bmod_bmod, Int.bmod_mul_bmod, Int.mul_bmod_bmod, Int.sub_bmod_bmod, Int.bmod_sub_bmod] at *); (try simp (disch := omega) only [fb_bmod, true_and, and_true] at *); all_goals (first | omega | (simp only [Int.bmod_def] at *; omega) | omega)))
  have hv : 0 ≤ x.toInt ∧ x.toInt < 8 := by (first
    | (with_reducible assumption)
    | omega
    | (simp only [← Int32.toInt_inj, Int32.toInt_add, Int32.toInt_mul, Int32.toInt_sub, Int32.toInt_neg, apply_ite Int32.toInt, Int32.reduceToInt, Int32.le_iff_toInt_le, Int32.lt_iff_toInt_lt] at *; (try simp only [Int.bmod_add_bmod, Int.add_bmod_bmod, Int.bmod_mul_bmod, Int.mul_bmod_bmod, Int.sub_bmod_bmod, Int.bmod_sub_bmod] at *); (try simp (disch := omega) only [fb_bmod, true_and, and_true] at *); all_goals (first | omega | (simp only [Int.bmod_def] at *; omega) | omega)))
  refine T_gP_4_9 h ha (fun p _ hp => T_sI_20 h hf hp (by simp) hv (fun S1 h1 e1 _ _ _ => T_gI_4_10 h1 ha (fun x160 e160 h160 => T_pI_4_10 h1 hf ha (by simp) ?_ (fun S2 h2 e2 _ _ y ey => go S2 r y h2 hr ?_ ⟨?_, hv.2⟩))))
  · rw [e1.I] at h160
    (first
    | (with_reducible assumption)
    | omega
    | (simp only [← Int32.toInt_inj, Int32.toInt_add, Int32.toInt_mul, Int32.toInt_sub, Int32.toInt_neg, apply_ite Int32.toInt, Int32.reduceToInt, Int32.le_iff_toInt_le, Int32.lt_iff_toInt_lt] at *; (try simp only [Int.bmod_add_bmod, Int.add_bmod_bmod, Int.bmod_mul_bmod, Int.mul_bmod_bmod, Int.sub_bmod_bmod, Int.bmod_sub_bmod] at *); (try simp (disch := omega) only [fb_bmod, true_and, and_true] at *); all_goals (first | omega | (simp only [Int.bmod_def] at *; omega) | omega)))
  · rw [e2]
    rw [e1.I] at h160
    (first
    | (with_reducible assumption)
    | omega
    | (simp only [← Int32.toInt_inj, Int32.toInt_add, Int32.toInt_mul, Int32.toInt_sub, Int32.toInt_neg, apply_ite Int32.toInt, Int32.reduceToInt, Int32.le_iff_toInt_le, Int32.lt_iff_toInt_lt] at *; (try simp only [Int.bmod_add_bmod, Int.add_bmod_bmod, Int.bmod_mul_bmod, Int.mul_bmod_bmod, Int.sub_bmod_bmod, Int.bmod_sub_bmod] at *); (try simp (disch := omega) only [fb_bmod, true_and, and_true] at *); all_goals (first | omega | (simp only [Int.bmod_def] at *; omega) | omega)))
  · subst ey
    (first
    | (with_reducible assumption)
    | omega
    | (simp only [← Int32.toInt_inj, Int32.toInt_add, Int32.toInt_mul, Int32.toInt_sub, Int32.toInt_neg, apply_ite Int32.toInt, Int32.reduceToInt, Int32.le_iff_toInt_le, Int32.lt_iff_toInt_lt] at *; (try simp only [Int.bmod_add_bmod, Int.add_bmod_bmod, Int.bmod_mul_bmod, Int.mul_bmod_bmod, Int.sub_bmod_bmod, Int.bmod_sub_bmod] at *); (try simp (disch := omega) only [fb_bmod, true_and, and_true] at *); all_goals (first | omega | (simp only [Int.bmod_def] at *; omega) | omega)))
theorem kc_X4_findChain {q : Int32 → hS → Prop} {f o m : Int32} (h : St Γ Φ S) (hf : fre Γ Φ [4, 508, 509]) (ha : Γ a = some (4, 4, 0, 0, ρa)) (hp : ((0 ≤ f.toInt ∧ f.toInt < 8) ∧ 0 ≤ o.toInt ∧ o.toInt < 8) ∧ m.toInt ≤ 8) (k : ∀ r S', St Γ Φ S' → q r S') : w_X4_findChain q S a f o m := by
  have k37 : ∀ S', St Γ Φ S' → ∃ n, w_X4_findChain_b37 q n S' a f o m 0 := by
    intro S' h'
    refine loop_m (σ := hS × Int32) (fun t s => w_X4_findChain_b37 q t s.1 a f o m s.2) (fun s => St Γ Φ s.1 ∧ 0 ≤ s.2.toInt ∧ s.2.toInt ≤ 8) (fun s => (8 - s.2.toInt).toNat) ?_ (S', 0) ⟨h', by dsimp only; rw [z0I]; omega⟩
    rintro t ⟨S, x⟩ ⟨h, hx⟩ ih
    dsimp only at h hx ih ⊢
    have go : ∀ (S' : hS) (y : Int32), St Γ Φ S' → (y.toInt = x.toInt + 1 ∧ x.toInt < 8) → w_X4_findChain_b37 q t S' a f o m y := fun S' y h' hy => ih (S', y) ⟨h', by dsimp only; omega⟩ (by dsimp only; omega)
    rw [w_X4_findChain_b37]
    refine ⟨fun _ => T_pI_4_10 h hf ha (by simp) (by rw [z0I]; omega) (fun S1 h1 e1 _ _ => T_gP_4_8 h1 ha (fun p _ hp' => T_aI_20 h1 hp' (by omega) (fun x114 _ _ => ⟨fun _ => kc_findChain128 h1 hf ha hp hp.1.1 (by rw [e1]; rfl) k, fun _ => k _ _ h1⟩))), fun c0 => ?_⟩
    have hv : 0 ≤ x.toInt ∧ x.toInt < 8 := by (first
    | (with_reducible assumption)
    | omega
    | (simp only [← Int32.toInt_inj, Int32.toInt_add, Int32.toInt_mul, Int32.toInt_sub, Int32.toInt_neg, apply_ite Int32.toInt, Int32.reduceToInt, Int32.le_iff_toInt_le, Int32.lt_iff_toInt_lt] at *; (try simp only [Int.bmod_add_bmod, Int.add_bmod_bmod, Int.bmod_mul_bmod, Int.mul_bmod_bmod, Int.sub_bmod_bmod, Int.bmod_sub_bmod] at *); (try simp (disch := omega) only [fb_bmod, true_and, and_true] at *); all_goals (first | omega | (simp only [Int.bmod_def] at *; omega) | omega)))
    refine loop_m (σ := hS × Int32) (fun t' s => w_X4_findChain_b46 q (fun S v0 v1 v2 v3 v4 => w_X4_findChain_b37 q t S v0 v1 v2 v3 v4) t' s.1 a f o m x s.2) (fun s => St Γ Φ s.1 ∧ 0 ≤ s.2.toInt ∧ s.2.toInt ≤ 8) (fun s => (8 - s.2.toInt).toNat) ?_ (S, 0) ⟨h, by dsimp only; rw [z0I]; omega⟩
    rintro t' ⟨S, y⟩ ⟨h, hy⟩ ih'
    dsimp only at h hy ih' ⊢
    have go' : ∀ (S' : hS) (z : Int32), St Γ Φ S' → (z.toInt = y.toInt + 1 ∧ y.toInt < 8) → w_X4_findChain_b46 q (fun S v0 v1 v2 v3 v4 => w_X4_findChain_b37 q t S v0 v1 v2 v3 v4) t' S' a f o m x z := fun S' z h' hz => ih' (S', z) ⟨h', by dsimp only; omega⟩ (by dsimp only; omega)
    rw [w_X4_findChain_b46]
    refine ⟨fun _ z ez => go S z h ⟨by subst ez; (first
    | (with_reducible assumption)
    | omega
    | (simp only [← Int32.toInt_inj, Int32.toInt_add, Int32.toInt_mul, Int32.toInt_sub, Int32.toInt_neg, apply_ite Int32.toInt, Int32.reduceToInt, Int32.le_iff_toInt_le, Int32.lt_iff_toInt_lt] at *; (try simp only [Int.bmod_add_bmod, Int.add_bmod_bmod, Int.bmod_mul_bmod, Int.mul_bmod_bmod, Int.sub_bmod_bmod, Int.bmod_sub_bmod] at *); (try simp (disch := omega) only [fb_bmod, true_and, and_true] at *); all_goals (first | omega | (simp only [Int.bmod_def] at *; omega) | omega))), hv.2⟩, fun c1 => ?_⟩
    have hv' : 0 ≤ y.toInt ∧ y.toInt < 8 := by (first
    | (with_reducible assumption)
    | omega
    | (simp only [← Int32.toInt_inj, Int32.toInt_add, Int32.toInt_mul, Int32.toInt_sub, Int32.toInt_neg, apply_ite Int32.toInt, Int32.reduceToInt, Int32.le_iff_toInt_le, Int32.lt_iff_toInt_lt] at *; (try simp only [Int.bmod_add_bmod, Int.add_bmod_bmod, Int.bmod_mul_bmod, Int.mul_bmod_bmod, Int.sub_bmod_bmod, Int.bmod_sub_bmod] at *); (try simp (disch := omega) only [fb_bmod, true_and, and_true] at *); all_goals (first | omega | (simp only [Int.bmod_def] at *; omega) | omega)))
    refine loop_m (σ := hS × Int32) (fun t2 s => w_X4_findChain_b55 q (fun S v0 v1 v2 v3 v4 => w_X4_findChain_b37 q t S v0 v1 v2 v3 v4) (fun S v0 v1 v2 v3 v4 v5 => w_X4_findChain_b46 q (fun S v0 v1 v2 v3 v4 => w_X4_findChain_b37 q t S v0 v1 v2 v3 v4) t' S v0 v1 v2 v3 v4 v5) t2 s.1 a f o m x y s.2) (fun s => St Γ Φ s.1 ∧ 0 ≤ s.2.toInt ∧ s.2.toInt ≤ 8) (fun s => (8 - s.2.toInt).toNat) ?_ (S, 0) ⟨h, by dsimp only; rw [z0I]; omega⟩
    rintro t2 ⟨S, z⟩ ⟨h, hz⟩ ih2
    dsimp only at h hz ih2 ⊢
    have go2 : ∀ (S' : hS) (z' : Int32), St Γ Φ S' → (z'.toInt = z.toInt + 1 ∧ z.toInt < 8) → w_X4_findChain_b55 q (fun S v0 v1 v2 v3 v4 => w_X4_findChain_b37 q t S v0 v1 v2 v3 v4) (fun S v0 v1 v2 v3 v4 v5 => w_X4_findChain_b46 q (fun S v0 v1 v2 v3 v4 => w_X4_findChain_b37 q t S v0 v1 v2 v3 v4) t' S v0 v1 v2 v3 v4 v5) t2 S' a f o m x y z' := fun S' z' h' hz' => ih2 (S', z') ⟨h', by dsimp only; omega⟩ (by dsimp only; omega)
    rw [w_X4_findChain_b55]
    repeat' (first
    | (exact absurd rfl ‹¬ (0 : Int32) = 0›)
    | (exact absurd ‹(1 : Int32) = 0› (by decide))
    | refine go' _ _ (by assumption) ?_
    | refine go2 _ _ (by assumption) ?_
    | (with_reducible refine T_gP_4_8 (by assumption) (by assumption) (fun _ _ _ => ?_))
    | (with_reducible refine T_gP_4_9 (by assumption) (by assumption) (fun _ _ _ => ?_))
    | (with_reducible refine T_gI_4_10 (by assumption) (by assumption) (fun _ _ _ => ?_))
    | (with_reducible refine T_pI_4_10 (by assumption) (by assumption) (by assumption) (by simp) ?_ (fun _ _ _ _ _ => ?_))
    | (with_reducible refine T_oK_4 (by assumption) (by assumption) ?_)
    | (with_reducible refine T_aI_20 (by assumption) (by assumption) ?_ (fun _ _ _ => ?_))
    | (with_reducible refine T_aI_21 (by assumption) (by assumption) ?_ (fun _ _ _ => ?_))
    | (with_reducible refine T_aI_22 (by assumption) (by assumption) ?_ (fun _ _ _ => ?_))
    | (with_reducible refine T_aI_23 (by assumption) (by assumption) ?_ (fun _ _ _ => ?_))
    | (with_reducible refine T_aI_24 (by assumption) (by assumption) ?_ (fun _ _ _ => ?_))
    | (with_reducible refine T_sI_20 (by assumption) (by assumption) (by assumption) (by simp) ?_ (fun _ _ _ _ _ _ => ?_))
    | (with_reducible refine T_sI_21 (by assumption) (by assumption) (by assumption) (by simp) ?_ ?_ (fun _ _ _ _ _ _ => ?_))
    | (with_reducible refine T_sI_22 (by assumption) (by assumption) (by assumption) (by simp) ?_ ?_ (fun _ _ _ _ _ _ => ?_))
    | (with_reducible refine T_sI_23 (by assumption) (by assumption) (by assumption) (by simp) ?_ ?_ (fun _ _ _ _ _ _ => ?_))
    | (with_reducible refine T_sI_24 (by assumption) (by assumption) (by assumption) (by simp) ?_ ?_ (fun _ _ _ _ _ _ => ?_))
    | (with_reducible refine kc_X4_firstBestBuyer (by assumption) (by assumption) ?_ (fun _ _ => ?_))
    | (with_reducible refine kc_X4_toGoBy (by assumption) (by assumption) ?_ (fun _ => ?_))
    | (unfold w_X4_findChain_b27)
    | (unfold w_X4_findChain_b174)
    | (with_reducible refine T_y (fun _ _ _ => ?_))
    | (refine ⟨fun _ => ?_, fun _ => ?_⟩)
    | fail)
    all_goals (first
    | (with_reducible assumption)
    | omega
    | (simp only [← Int32.toInt_inj, Int32.toInt_add, Int32.toInt_mul, Int32.toInt_sub, Int32.toInt_neg, apply_ite Int32.toInt, Int32.reduceToInt, Int32.le_iff_toInt_le, Int32.lt_iff_toInt_lt] at *; (try simp only [Int.bmod_add_bmod, Int.add_bmod_bmod, Int.bmod_mul_bmod, Int.mul_bmod_bmod, Int.sub_bmod_bmod, Int.bmod_sub_bmod] at *); (try simp (disch := omega) only [fb_bmod, true_and, and_true] at *); all_goals (first | omega | (simp only [Int.bmod_def] at *; omega) | omega)))
  refine loop_m (σ := hS × Int32) (fun t s => w_X4_findChain_b3 q t s.1 a f o m s.2) (fun s => St Γ Φ s.1 ∧ 0 ≤ s.2.toInt ∧ s.2.toInt ≤ 8) (fun s => (8 - s.2.toInt).toNat) ?_ (S, 0) ⟨h, by dsimp only; rw [z0I]; omega⟩
  rintro t ⟨S, x⟩ ⟨h, hx⟩ ih
  dsimp only at h hx ih ⊢
  have go : ∀ (S' : hS) (y : Int32), St Γ Φ S' → (y.toInt = x.toInt + 1 ∧ x.toInt < 8) → w_X4_findChain_b3 q t S' a f o m y := fun S' y h' hy => ih (S', y) ⟨h', by dsimp only; omega⟩ (by dsimp only; omega)
  rw [w_X4_findChain_b3]
  repeat' (first
    | (exact absurd rfl ‹¬ (0 : Int32) = 0›)
    | (exact absurd ‹(1 : Int32) = 0› (by decide))
    | exact k37 _ (by assumption)
    | refine go _ _ (by assumption) ?_
    | (with_reducible refine T_gP_4_8 (by assumption) (by assumption) (fun _ _ _ => ?_))
    | (with_reducible refine T_gP_4_9 (by assumption) (by assumption) (fun _ _ _ => ?_))
    | (with_reducible refine T_gI_4_10 (by assumption) (by assumption) (fun _ _ _ => ?_))
    | (with_reducible refine T_pI_4_10 (by assumption) (by assumption) (by assumption) (by simp) ?_ (fun _ _ _ _ _ => ?_))
    | (with_reducible refine T_oK_4 (by assumption) (by assumption) ?_)
    | (with_reducible refine T_aI_20 (by assumption) (by assumption) ?_ (fun _ _ _ => ?_))
    | (with_reducible refine T_aI_21 (by assumption) (by assumption) ?_ (fun _ _ _ => ?_))
    | (with_reducible refine T_aI_22 (by assumption) (by assumption) ?_ (fun _ _ _ => ?_))
    | (with_reducible refine T_aI_23 (by assumption) (by assumption) ?_ (fun _ _ _ => ?_))
    | (with_reducible refine T_aI_24 (by assumption) (by assumption) ?_ (fun _ _ _ => ?_))
    | (with_reducible refine T_sI_20 (by assumption) (by assumption) (by assumption) (by simp) ?_ (fun _ _ _ _ _ _ => ?_))
    | (with_reducible refine T_sI_21 (by assumption) (by assumption) (by assumption) (by simp) ?_ ?_ (fun _ _ _ _ _ _ => ?_))
    | (with_reducible refine T_sI_22 (by assumption) (by assumption) (by assumption) (by simp) ?_ ?_ (fun _ _ _ _ _ _ => ?_))
    | (with_reducible refine T_sI_23 (by assumption) (by assumption) (by assumption) (by simp) ?_ ?_ (fun _ _ _ _ _ _ => ?_))
    | (with_reducible refine T_sI_24 (by assumption) (by assumption) (by assumption) (by simp) ?_ ?_ (fun _ _ _ _ _ _ => ?_))
    | (with_reducible refine kc_X4_firstBestBuyer (by assumption) (by assumption) ?_ (fun _ _ => ?_))
    | (with_reducible refine kc_X4_toGoBy (by assumption) (by assumption) ?_ (fun _ => ?_))
    | (unfold w_X4_findChain_b27)
    | (unfold w_X4_findChain_b174)
    | (with_reducible refine T_y (fun _ _ _ => ?_))
    | (refine ⟨fun _ => ?_, fun _ => ?_⟩)
    | fail)
  all_goals (first
    | (with_reducible assumption)
    | omega
    | (simp only [← Int32.toInt_inj, Int32.toInt_add, Int32.toInt_mul, Int32.toInt_sub, Int32.toInt_neg, apply_ite Int32.toInt, Int32.reduceToInt, Int32.le_iff_toInt_le, Int32.lt_iff_toInt_lt] at *; (try simp only [Int.bmod_add_bmod, Int.add_bmod_bmod, Int.bmod_mul_bmod, Int.mul_bmod_bmod, Int.sub_bmod_bmod, Int.bmod_sub_bmod] at *); (try simp (disch := omega) only [fb_bmod, true_and, and_true] at *); all_goals (first | omega | (simp only [Int.bmod_def] at *; omega) | omega)))
end PLANS
