/-! LAYER 2, the class: shares -/
section SHARES
variable {Γ : kG} {Φ : kF} {S : hS} {a b i c n : Nat} {ρa ρb ρd ρg : Nat → Nat} {κ rs : Nat}
theorem kc_X7_struckOut {q : Int32 → hS → Prop} {v : Int32} (h : St Γ Φ S) (hb : Γ b = some (8, 8 + 10000 * i, i, 0, ρb)) (k : ∀ r, q r S) : w_X7_struckOut q S a b v := by
  have k27 : ∀ x t0 : Int32, x.toInt ≤ 256 → w_X7_struckOut_b27 q S b v x t0 := by
    intro x t0 hx
    unfold w_X7_struckOut_b27
    refine loop_m (σ := Int32 × Int32) (fun t s => w_X7_struckOut_b32 q t S b v s.1 t0 s.2) (fun s => s.2.toInt ≤ 256) (fun s => (1 + s.2.toInt).toNat) ?_ (x, x) hx
    rintro t ⟨y, z⟩ hz ih
    dsimp only at hz ih ⊢
    have go : ∀ y w : Int32, w.toInt = z.toInt - 1 ∧ 0 ≤ z.toInt → w_X7_struckOut_b32 q t S b v y t0 w := fun y w hw => ih (y, w) (by dsimp only; omega) (by dsimp only; omega)
    rw [w_X7_struckOut_b32]
    refine ⟨fun _ => k _, fun c0 => ?_⟩
    have hz0 : 0 ≤ z.toInt := by (first
    | (with_reducible assumption)
    | omega
    | (simp only [← Int32.toInt_inj, Int32.toInt_add, Int32.toInt_mul, Int32.toInt_sub, Int32.toInt_neg, apply_ite Int32.toInt, Int32.reduceToInt, Int32.le_iff_toInt_le, Int32.lt_iff_toInt_lt] at *; (try simp only [Int.bmod_add_bmod, Int.add_bmod_bmod, Int.bmod_mul_bmod, Int.mul_bmod_bmod, Int.sub_bmod_bmod, Int.bmod_sub_bmod] at *); (try simp (disch := omega) only [fb_bmod, true_and, and_true] at *); all_goals (first | omega | (simp only [Int.bmod_def] at *; omega) | omega)))
    refine loop_m (σ := Int32 × Int32) (fun t' s => w_X7_struckOut_b43 q (fun S v1 v2 v3 v4 v5 => w_X7_struckOut_b32 q t S v1 v2 v3 v4 v5) t' S b v y t0 z s.1 s.2) (fun s => 0 ≤ s.2.toInt ∧ s.2.toInt ≤ 8) (fun s => (8 - s.2.toInt).toNat) ?_ (0, 0) (by dsimp only; rw [z0I]; omega)
    rintro t' ⟨u, w⟩ hw ih'
    dsimp only at hw ih' ⊢
    have go' : ∀ u w' : Int32, w'.toInt = w.toInt + 1 ∧ w.toInt < 8 → w_X7_struckOut_b43 q (fun S v1 v2 v3 v4 v5 => w_X7_struckOut_b32 q t S v1 v2 v3 v4 v5) t' S b v y t0 z u w' := fun u w' hw' => ih' (u, w') (by dsimp only; omega) (by dsimp only; omega)
    rw [w_X7_struckOut_b43]
    repeat' (first
    | (exact absurd rfl ‹¬ (0 : Int32) = 0›)
    | (exact absurd ‹(1 : Int32) = 0› (by decide))
    | refine go _ _ ?_
    | refine go' _ _ ?_
    | (with_reducible refine T_gP_8_3 (by assumption) (by assumption) (fun _ _ _ => ?_))
    | (with_reducible refine T_gI_8_4 (by assumption) (by assumption) (fun _ _ _ => ?_))
    | (with_reducible refine T_oK_8 (by assumption) (by assumption) ?_)
    | (with_reducible refine T_aI_20 (by assumption) (by assumption) ?_ (fun _ _ _ => ?_))
    | (with_reducible refine T_aI_21 (by assumption) (by assumption) ?_ (fun _ _ _ => ?_))
    | (with_reducible refine T_aI_22 (by assumption) (by assumption) ?_ (fun _ _ _ => ?_))
    | (with_reducible refine T_aI_23 (by assumption) (by assumption) ?_ (fun _ _ _ => ?_))
    | (with_reducible refine T_aI_24 (by assumption) (by assumption) ?_ (fun _ _ _ => ?_))
    | (with_reducible refine kc_J6_bitCount (fun _ => ?_))
    | (with_reducible refine kc_X11_hasBit ?_ ?_)
    | (with_reducible refine kc_X8_hasHouse (by assumption) (by assumption) ?_ (fun _ => ?_))
    | (with_reducible refine kc_X8_rightsOf (by assumption) (by assumption) (fun _ => ?_))
    | (unfold w_X7_struckOut_b75)
    | (unfold w_X7_struckOut_b106)
    | (unfold w_X7_struckOut_b27)
    | (with_reducible refine T_y (fun _ _ _ => ?_))
    | (refine ⟨fun _ => ?_, fun _ => ?_⟩)
    | fail)
    all_goals (first
    | (with_reducible assumption)
    | omega
    | (simp only [← Int32.toInt_inj, Int32.toInt_add, Int32.toInt_mul, Int32.toInt_sub, Int32.toInt_neg, apply_ite Int32.toInt, Int32.reduceToInt, Int32.le_iff_toInt_le, Int32.lt_iff_toInt_lt] at *; (try simp only [Int.bmod_add_bmod, Int.add_bmod_bmod, Int.bmod_mul_bmod, Int.mul_bmod_bmod, Int.sub_bmod_bmod, Int.bmod_sub_bmod] at *); (try simp (disch := omega) only [fb_bmod, true_and, and_true] at *); all_goals (first | omega | (simp only [Int.bmod_def] at *; omega) | omega)))
  refine T_gI_8_4 h hb (fun x1 _ h1 y ey => ?_)
  have hs := shIx h1.2
  have hy : y.toInt ≤ 256 := by
    subst ey
    (first
    | (with_reducible assumption)
    | omega
    | (simp only [← Int32.toInt_inj, Int32.toInt_add, Int32.toInt_mul, Int32.toInt_sub, Int32.toInt_neg, apply_ite Int32.toInt, Int32.reduceToInt, Int32.le_iff_toInt_le, Int32.lt_iff_toInt_lt] at *; (try simp only [Int.bmod_add_bmod, Int.add_bmod_bmod, Int.bmod_mul_bmod, Int.mul_bmod_bmod, Int.sub_bmod_bmod, Int.bmod_sub_bmod] at *); (try simp (disch := omega) only [fb_bmod, true_and, and_true] at *); all_goals (first | omega | (simp only [Int.bmod_def] at *; omega) | omega)))
  repeat' (first
    | (exact absurd rfl ‹¬ (0 : Int32) = 0›)
    | (exact absurd ‹(1 : Int32) = 0› (by decide))
    | exact k27 _ _ hy
    | (with_reducible refine T_gP_8_3 (by assumption) (by assumption) (fun _ _ _ => ?_))
    | (with_reducible refine T_gI_8_4 (by assumption) (by assumption) (fun _ _ _ => ?_))
    | (with_reducible refine T_oK_8 (by assumption) (by assumption) ?_)
    | (with_reducible refine T_aI_20 (by assumption) (by assumption) ?_ (fun _ _ _ => ?_))
    | (with_reducible refine T_aI_21 (by assumption) (by assumption) ?_ (fun _ _ _ => ?_))
    | (with_reducible refine T_aI_22 (by assumption) (by assumption) ?_ (fun _ _ _ => ?_))
    | (with_reducible refine T_aI_23 (by assumption) (by assumption) ?_ (fun _ _ _ => ?_))
    | (with_reducible refine T_aI_24 (by assumption) (by assumption) ?_ (fun _ _ _ => ?_))
    | (with_reducible refine kc_J6_bitCount (fun _ => ?_))
    | (with_reducible refine kc_X11_hasBit ?_ ?_)
    | (with_reducible refine kc_X8_hasHouse (by assumption) (by assumption) ?_ (fun _ => ?_))
    | (with_reducible refine kc_X8_rightsOf (by assumption) (by assumption) (fun _ => ?_))
    | (unfold w_X7_struckOut_b75)
    | (unfold w_X7_struckOut_b106)
    | (unfold w_X7_struckOut_b27)
    | (with_reducible refine T_y (fun _ _ _ => ?_))
    | (refine ⟨fun _ => ?_, fun _ => ?_⟩)
    | fail)
  all_goals (first
    | (with_reducible assumption)
    | omega
    | (simp only [← Int32.toInt_inj, Int32.toInt_add, Int32.toInt_mul, Int32.toInt_sub, Int32.toInt_neg, apply_ite Int32.toInt, Int32.reduceToInt, Int32.le_iff_toInt_le, Int32.lt_iff_toInt_lt] at *; (try simp only [Int.bmod_add_bmod, Int.add_bmod_bmod, Int.bmod_mul_bmod, Int.mul_bmod_bmod, Int.sub_bmod_bmod, Int.bmod_sub_bmod] at *); (try simp (disch := omega) only [fb_bmod, true_and, and_true] at *); all_goals (first | omega | (simp only [Int.bmod_def] at *; omega) | omega)))
theorem kc_X7_giveOut {q : hS → Prop} {v w : Int32} (h : St Γ Φ S) (hf : fre Γ Φ [800]) (ha : Γ a = some (7, 7, 0, 0, ρa)) (hb : Γ b = some (8, 8 + 10000 * i, i, 0, ρb)) (hw : w.toInt ≤ 99) (k : ∀ S', St Γ Φ S' → q S') : w_X7_giveOut q S a b v w := by
  have k27 : ∀ S', St Γ Φ S' → ∃ n, w_X7_giveOut_b27 q n S' a b v w 0 := by
    intro S' h'
    refine loop_m (σ := hS × Int32) (fun t s => w_X7_giveOut_b27 q t s.1 a b v w s.2) (fun s => St Γ Φ s.1 ∧ 0 ≤ s.2.toInt ∧ s.2.toInt ≤ 99) (fun s => (99 - s.2.toInt).toNat) ?_ (S', 0) ⟨h', by dsimp only; rw [z0I]; omega⟩
    rintro t ⟨S, x⟩ ⟨h, hx⟩ ih
    dsimp only at h hx ih ⊢
    have go : ∀ (S' : hS) (y : Int32), St Γ Φ S' → y.toInt = x.toInt + 1 ∧ x.toInt < 99 → w_X7_giveOut_b27 q t S' a b v w y := fun S' y h' hy => ih (S', y) ⟨h', by dsimp only; omega⟩ (by dsimp only; omega)
    rw [w_X7_giveOut_b27]
    refine ⟨fun _ => k _ h, fun c0 => ?_⟩
    refine loop_m (σ := Int32 × Int32) (fun t' s => w_X7_giveOut_b39 q (fun S v0 v1 v2 v3 v4 => w_X7_giveOut_b27 q t S v0 v1 v2 v3 v4) t' S a b v w x s.1 s.2) (fun s => (-1 ≤ s.1.toInt ∧ s.1.toInt < 8) ∧ 0 ≤ s.2.toInt ∧ s.2.toInt ≤ 8) (fun s => (8 - s.2.toInt).toNat) ?_ (-1, 0) (by dsimp only; rw [z0I]; exact ⟨by decide, by omega⟩)
    rintro t' ⟨m, y⟩ ⟨hm, hy⟩ ih'
    dsimp only at hm hy ih' ⊢
    have go' : ∀ m z : Int32, (-1 ≤ m.toInt ∧ m.toInt < 8) → (z.toInt = y.toInt + 1 ∧ y.toInt < 8) → w_X7_giveOut_b39 q (fun S v0 v1 v2 v3 v4 => w_X7_giveOut_b27 q t S v0 v1 v2 v3 v4) t' S a b v w x m z := fun m z hm hz => ih' (m, z) ⟨hm, by dsimp only; omega⟩ (by dsimp only; omega)
    rw [w_X7_giveOut_b39]
    repeat' (first
    | (exact absurd rfl ‹¬ (0 : Int32) = 0›)
    | (exact absurd ‹(1 : Int32) = 0› (by decide))
    | exact k _ (by assumption)
    | refine go _ _ (by assumption) ?_
    | refine go' _ _ ?_ ?_
    | (with_reducible refine T_gP_7_0 (by assumption) (by assumption) (fun _ _ _ => ?_))
    | (with_reducible refine T_gI_8_4 (by assumption) (by assumption) (fun _ _ _ => ?_))
    | (with_reducible refine T_oK_8 (by assumption) (by assumption) ?_)
    | (with_reducible refine T_aI_20 (by assumption) (by assumption) ?_ (fun _ _ _ => ?_))
    | (with_reducible refine T_aI_21 (by assumption) (by assumption) ?_ (fun _ _ _ => ?_))
    | (with_reducible refine T_aI_22 (by assumption) (by assumption) ?_ (fun _ _ _ => ?_))
    | (with_reducible refine T_aI_23 (by assumption) (by assumption) ?_ (fun _ _ _ => ?_))
    | (with_reducible refine T_aI_24 (by assumption) (by assumption) ?_ (fun _ _ _ => ?_))
    | (with_reducible refine T_sI_20 (by assumption) (by assumption) (by assumption) (by simp) ?_ (fun _ _ _ _ _ _ => ?_))
    | (with_reducible refine T_sI_21 (by assumption) (by assumption) (by assumption) (by simp) ?_ ?_ (fun _ _ _ _ _ _ => ?_))
    | (with_reducible refine T_sI_22 (by assumption) (by assumption) (by assumption) (by simp) ?_ ?_ (fun _ _ _ _ _ _ => ?_))
    | (with_reducible refine T_sI_23 (by assumption) (by assumption) (by assumption) (by simp) ?_ ?_ (fun _ _ _ _ _ _ => ?_))
    | (with_reducible refine T_sI_24 (by assumption) (by assumption) (by assumption) (by simp) ?_ ?_ (fun _ _ _ _ _ _ => ?_))
    | (with_reducible refine kc_X8_rightsOf (by assumption) (by assumption) (fun _ => ?_))
    | (unfold w_X7_giveOut_b104)
    | (unfold w_X7_giveOut_b100)
    | (with_reducible refine T_y (fun _ _ _ => ?_))
    | (refine ⟨fun _ => ?_, fun _ => ?_⟩)
    | fail)
    all_goals (first
    | (with_reducible assumption)
    | omega
    | (simp only [← Int32.toInt_inj, Int32.toInt_add, Int32.toInt_mul, Int32.toInt_sub, Int32.toInt_neg, apply_ite Int32.toInt, Int32.reduceToInt, Int32.le_iff_toInt_le, Int32.lt_iff_toInt_lt] at *; (try simp only [Int.bmod_add_bmod, Int.add_bmod_bmod, Int.bmod_mul_bmod, Int.mul_bmod_bmod, Int.sub_bmod_bmod, Int.bmod_sub_bmod] at *); (try simp (disch := omega) only [fb_bmod, true_and, and_true] at *); all_goals (first | omega | (simp only [Int.bmod_def] at *; omega) | omega)))
  refine loop_m (σ := hS × Int32) (fun t s => w_X7_giveOut_b3 q t s.1 a b v w s.2) (fun s => St Γ Φ s.1 ∧ 0 ≤ s.2.toInt ∧ s.2.toInt ≤ 8) (fun s => (8 - s.2.toInt).toNat) ?_ (S, 0) ⟨h, by dsimp only; rw [z0I]; omega⟩
  rintro t ⟨S, x⟩ ⟨h, hx⟩ ih
  dsimp only at h hx ih ⊢
  have go : ∀ (S' : hS) (y : Int32), St Γ Φ S' → y.toInt = x.toInt + 1 ∧ x.toInt < 8 → w_X7_giveOut_b3 q t S' a b v w y := fun S' y h' hy => ih (S', y) ⟨h', by dsimp only; omega⟩ (by dsimp only; omega)
  rw [w_X7_giveOut_b3]
  repeat' (first
    | (exact absurd rfl ‹¬ (0 : Int32) = 0›)
    | (exact absurd ‹(1 : Int32) = 0› (by decide))
    | exact k27 _ (by assumption)
    | refine go _ _ (by assumption) ?_
    | (with_reducible refine T_gP_7_0 (by assumption) (by assumption) (fun _ _ _ => ?_))
    | (with_reducible refine T_gI_8_4 (by assumption) (by assumption) (fun _ _ _ => ?_))
    | (with_reducible refine T_oK_8 (by assumption) (by assumption) ?_)
    | (with_reducible refine T_aI_20 (by assumption) (by assumption) ?_ (fun _ _ _ => ?_))
    | (with_reducible refine T_aI_21 (by assumption) (by assumption) ?_ (fun _ _ _ => ?_))
    | (with_reducible refine T_aI_22 (by assumption) (by assumption) ?_ (fun _ _ _ => ?_))
    | (with_reducible refine T_aI_23 (by assumption) (by assumption) ?_ (fun _ _ _ => ?_))
    | (with_reducible refine T_aI_24 (by assumption) (by assumption) ?_ (fun _ _ _ => ?_))
    | (with_reducible refine T_sI_20 (by assumption) (by assumption) (by assumption) (by simp) ?_ (fun _ _ _ _ _ _ => ?_))
    | (with_reducible refine T_sI_21 (by assumption) (by assumption) (by assumption) (by simp) ?_ ?_ (fun _ _ _ _ _ _ => ?_))
    | (with_reducible refine T_sI_22 (by assumption) (by assumption) (by assumption) (by simp) ?_ ?_ (fun _ _ _ _ _ _ => ?_))
    | (with_reducible refine T_sI_23 (by assumption) (by assumption) (by assumption) (by simp) ?_ ?_ (fun _ _ _ _ _ _ => ?_))
    | (with_reducible refine T_sI_24 (by assumption) (by assumption) (by assumption) (by simp) ?_ ?_ (fun _ _ _ _ _ _ => ?_))
    | (with_reducible refine kc_X8_rightsOf (by assumption) (by assumption) (fun _ => ?_))
    | (unfold w_X7_giveOut_b104)
    | (unfold w_X7_giveOut_b100)
    | (with_reducible refine T_y (fun _ _ _ => ?_))
    | (refine ⟨fun _ => ?_, fun _ => ?_⟩)
    | fail)
  all_goals (first
    | (with_reducible assumption)
    | omega
    | (simp only [← Int32.toInt_inj, Int32.toInt_add, Int32.toInt_mul, Int32.toInt_sub, Int32.toInt_neg, apply_ite Int32.toInt, Int32.reduceToInt, Int32.le_iff_toInt_le, Int32.lt_iff_toInt_lt] at *; (try simp only [Int.bmod_add_bmod, Int.add_bmod_bmod, Int.bmod_mul_bmod, Int.mul_bmod_bmod, Int.sub_bmod_bmod, Int.bmod_sub_bmod] at *); (try simp (disch := omega) only [fb_bmod, true_and, and_true] at *); all_goals (first | omega | (simp only [Int.bmod_def] at *; omega) | omega)))
theorem kc_X7_entry {q : Int32 → hS → Prop} {v w : Int32} (hv : (0 ≤ v.toInt ∧ v.toInt ≤ 8) ∧ 0 ≤ w.toInt ∧ w.toInt ≤ 20) (k : ∀ r : Int32, (0 ≤ r.toInt ∧ r.toInt < 189) → q r S) : w_X7_entry q S v w := by
  unfold w_X7_entry
  refine k _ ?_
  (first
    | (with_reducible assumption)
    | omega
    | (simp only [← Int32.toInt_inj, Int32.toInt_add, Int32.toInt_mul, Int32.toInt_sub, Int32.toInt_neg, apply_ite Int32.toInt, Int32.reduceToInt, Int32.le_iff_toInt_le, Int32.lt_iff_toInt_lt] at *; (try simp only [Int.bmod_add_bmod, Int.add_bmod_bmod, Int.bmod_mul_bmod, Int.mul_bmod_bmod, Int.sub_bmod_bmod, Int.bmod_sub_bmod] at *); (try simp (disch := omega) only [fb_bmod, true_and, and_true] at *); all_goals (first | omega | (simp only [Int.bmod_def] at *; omega) | omega)))
theorem kc_X7_gain {q : Int32 → hS → Prop} {v w : Int32} (h : St Γ Φ S) (ha : Γ a = some (7, 7, 0, 0, ρa)) (hv : 0 ≤ v.toInt ∧ v.toInt < 8) (k : ∀ r, q r S) : w_X7_gain q S a v w := by
  unfold w_X7_gain
  repeat' (first
    | (exact absurd rfl ‹¬ (0 : Int32) = 0›)
    | (exact absurd ‹(1 : Int32) = 0› (by decide))
    | exact k _
    | (with_reducible refine T_gP_7_1 (by assumption) (by assumption) (fun _ _ _ => ?_))
    | (with_reducible refine T_aI_20 (by assumption) (by assumption) ?_ (fun _ _ _ => ?_))
    | (with_reducible refine T_aI_21 (by assumption) (by assumption) ?_ (fun _ _ _ => ?_))
    | (with_reducible refine T_aI_22 (by assumption) (by assumption) ?_ (fun _ _ _ => ?_))
    | (with_reducible refine T_aI_23 (by assumption) (by assumption) ?_ (fun _ _ _ => ?_))
    | (with_reducible refine T_aI_24 (by assumption) (by assumption) ?_ (fun _ _ _ => ?_))
    | (with_reducible refine T_y (fun _ _ _ => ?_))
    | (refine ⟨fun _ => ?_, fun _ => ?_⟩)
    | fail)
  all_goals (first
    | (with_reducible assumption)
    | omega
    | (simp only [← Int32.toInt_inj, Int32.toInt_add, Int32.toInt_mul, Int32.toInt_sub, Int32.toInt_neg, apply_ite Int32.toInt, Int32.reduceToInt, Int32.le_iff_toInt_le, Int32.lt_iff_toInt_lt] at *; (try simp only [Int.bmod_add_bmod, Int.add_bmod_bmod, Int.bmod_mul_bmod, Int.mul_bmod_bmod, Int.sub_bmod_bmod, Int.bmod_sub_bmod] at *); (try simp (disch := omega) only [fb_bmod, true_and, and_true] at *); all_goals (first | omega | (simp only [Int.bmod_def] at *; omega) | omega)))
theorem kc_X7_firstBestUse {q : Int32 → hS → Prop} {v w : Int32} (h : St Γ Φ S) (ha : Γ a = some (7, 7, 0, 0, ρa)) (hv : (0 ≤ v.toInt ∧ v.toInt < 8) ∧ 0 ≤ w.toInt ∧ w.toInt ≤ 20) (k : ∀ r : Int32, (0 ≤ r.toInt ∧ r.toInt ≤ w.toInt) → q r S) : w_X7_firstBestUse q S a v w := by
  refine loop_m (σ := Int32) (fun t s => w_X7_firstBestUse_b2 q t S a v w s) (fun s => 0 ≤ s.toInt ∧ s.toInt ≤ w.toInt) (fun s => (20 - s.toInt).toNat) ?_ 0 (by rw [z0I]; omega)
  intro t x hx ih
  have go : ∀ y : Int32, y.toInt = x.toInt + 1 ∧ x.toInt < w.toInt → w_X7_firstBestUse_b2 q t S a v w y := fun y hy => ih y (by omega) (by omega)
  rw [w_X7_firstBestUse_b2]
  repeat' (first
    | (exact absurd rfl ‹¬ (0 : Int32) = 0›)
    | (exact absurd ‹(1 : Int32) = 0› (by decide))
    | refine k _ ?_
    | refine go _ ?_
    | (with_reducible refine T_gP_7_3 (by assumption) (by assumption) (fun _ _ _ => ?_))
    | (with_reducible refine T_oK_7 (by assumption) (by assumption) ?_)
    | (with_reducible refine T_aI_20 (by assumption) (by assumption) ?_ (fun _ _ _ => ?_))
    | (with_reducible refine T_aI_21 (by assumption) (by assumption) ?_ (fun _ _ _ => ?_))
    | (with_reducible refine T_aI_22 (by assumption) (by assumption) ?_ (fun _ _ _ => ?_))
    | (with_reducible refine T_aI_23 (by assumption) (by assumption) ?_ (fun _ _ _ => ?_))
    | (with_reducible refine T_aI_24 (by assumption) (by assumption) ?_ (fun _ _ _ => ?_))
    | (with_reducible refine kc_X7_entry ?_ (fun _ _ => ?_))
    | (with_reducible refine kc_X7_gain (by assumption) (by assumption) ?_ (fun _ => ?_))
    | (with_reducible refine T_y (fun _ _ _ => ?_))
    | (refine ⟨fun _ => ?_, fun _ => ?_⟩)
    | fail)
  all_goals (first
    | (with_reducible assumption)
    | omega
    | (simp only [← Int32.toInt_inj, Int32.toInt_add, Int32.toInt_mul, Int32.toInt_sub, Int32.toInt_neg, apply_ite Int32.toInt, Int32.reduceToInt, Int32.le_iff_toInt_le, Int32.lt_iff_toInt_lt] at *; (try simp only [Int.bmod_add_bmod, Int.add_bmod_bmod, Int.bmod_mul_bmod, Int.mul_bmod_bmod, Int.sub_bmod_bmod, Int.bmod_sub_bmod] at *); (try simp (disch := omega) only [fb_bmod, true_and, and_true] at *); all_goals (first | omega | (simp only [Int.bmod_def] at *; omega) | omega)))
theorem kc_X7_keepRings {q : Int32 → hS → Prop} {v w : Int32} (h : St Γ Φ S) (hf : fre Γ Φ [802, 803]) (ha : Γ a = some (7, 7, 0, 0, ρa)) (hv : (0 ≤ v.toInt ∧ v.toInt ≤ 20) ∧ 1 ≤ w.toInt ∧ w.toInt ≤ 8) (k : ∀ r S', St Γ Φ S' → q r S') : w_X7_keepRings q S a v w := by
  have k121 : ∀ S', St Γ Φ S' → ∃ n, w_X7_keepRings_b121 q n S' a v w v 0 := by
    intro S' h'
    refine loop_m (σ := hS × Int32 × Int32) (fun t s => w_X7_keepRings_b121 q t s.1 a v w s.2.1 s.2.2) (fun s => St Γ Φ s.1 ∧ (0 ≤ s.2.1.toInt ∧ s.2.1.toInt ≤ 20) ∧ 0 ≤ s.2.2.toInt ∧ s.2.2.toInt ≤ 8) (fun s => (8 - s.2.2.toInt).toNat) ?_ (S', v, 0) ⟨h', hv.1, by dsimp only; rw [z0I]; omega⟩
    rintro t ⟨S, g, x⟩ ⟨h, hg, hx⟩ ih
    dsimp only at h hg hx ih ⊢
    have go : ∀ (S' : hS) (z y : Int32), St Γ Φ S' → (0 ≤ z.toInt ∧ z.toInt ≤ 20) → (y.toInt = x.toInt + 1 ∧ x.toInt < 8) → w_X7_keepRings_b121 q t S' a v w z y := fun S' z y h' hz hy => ih (S', z, y) ⟨h', hz, by dsimp only; omega⟩ (by dsimp only; omega)
    rw [w_X7_keepRings_b121]
    refine ⟨fun _ => ?_, fun c0 => ?_⟩
    · repeat' (first
    | (exact absurd rfl ‹¬ (0 : Int32) = 0›)
    | (exact absurd ‹(1 : Int32) = 0› (by decide))
    | exact k _ _ (by assumption)
    | (with_reducible refine T_gP_7_2 (by assumption) (by assumption) (fun _ _ _ => ?_))
    | (with_reducible refine T_gP_7_3 (by assumption) (by assumption) (fun _ _ _ => ?_))
    | (with_reducible refine T_oK_7 (by assumption) (by assumption) ?_)
    | (with_reducible refine T_aI_20 (by assumption) (by assumption) ?_ (fun _ _ _ => ?_))
    | (with_reducible refine T_aI_21 (by assumption) (by assumption) ?_ (fun _ _ _ => ?_))
    | (with_reducible refine T_aI_22 (by assumption) (by assumption) ?_ (fun _ _ _ => ?_))
    | (with_reducible refine T_aI_23 (by assumption) (by assumption) ?_ (fun _ _ _ => ?_))
    | (with_reducible refine T_aI_24 (by assumption) (by assumption) ?_ (fun _ _ _ => ?_))
    | (with_reducible refine T_sI_20 (by assumption) (by assumption) (by assumption) (by simp) ?_ (fun _ _ _ _ _ _ => ?_))
    | (with_reducible refine T_sI_21 (by assumption) (by assumption) (by assumption) (by simp) ?_ ?_ (fun _ _ _ _ _ _ => ?_))
    | (with_reducible refine T_sI_22 (by assumption) (by assumption) (by assumption) (by simp) ?_ ?_ (fun _ _ _ _ _ _ => ?_))
    | (with_reducible refine T_sI_23 (by assumption) (by assumption) (by assumption) (by simp) ?_ ?_ (fun _ _ _ _ _ _ => ?_))
    | (with_reducible refine T_sI_24 (by assumption) (by assumption) (by assumption) (by simp) ?_ ?_ (fun _ _ _ _ _ _ => ?_))
    | (with_reducible refine kc_X7_entry ?_ (fun _ _ => ?_))
    | (with_reducible refine kc_X7_firstBestUse (by assumption) (by assumption) ?_ (fun _ _ => ?_))
    | (with_reducible refine kc_X7_gain (by assumption) (by assumption) ?_ (fun _ => ?_))
    | (with_reducible refine T_y (fun _ _ _ => ?_))
    | (refine ⟨fun _ => ?_, fun _ => ?_⟩)
    | fail)
      all_goals (first
    | (with_reducible assumption)
    | omega
    | (simp only [← Int32.toInt_inj, Int32.toInt_add, Int32.toInt_mul, Int32.toInt_sub, Int32.toInt_neg, apply_ite Int32.toInt, Int32.reduceToInt, Int32.le_iff_toInt_le, Int32.lt_iff_toInt_lt] at *; (try simp only [Int.bmod_add_bmod, Int.add_bmod_bmod, Int.bmod_mul_bmod, Int.mul_bmod_bmod, Int.sub_bmod_bmod, Int.bmod_sub_bmod] at *); (try simp (disch := omega) only [fb_bmod, true_and, and_true] at *); all_goals (first | omega | (simp only [Int.bmod_def] at *; omega) | omega)))
    have hx8 : 0 ≤ x.toInt ∧ x.toInt < 8 := by (first
    | (with_reducible assumption)
    | omega
    | (simp only [← Int32.toInt_inj, Int32.toInt_add, Int32.toInt_mul, Int32.toInt_sub, Int32.toInt_neg, apply_ite Int32.toInt, Int32.reduceToInt, Int32.le_iff_toInt_le, Int32.lt_iff_toInt_lt] at *; (try simp only [Int.bmod_add_bmod, Int.add_bmod_bmod, Int.bmod_mul_bmod, Int.mul_bmod_bmod, Int.sub_bmod_bmod, Int.bmod_sub_bmod] at *); (try simp (disch := omega) only [fb_bmod, true_and, and_true] at *); all_goals (first | omega | (simp only [Int.bmod_def] at *; omega) | omega)))
    refine T_gP_7_2 h ha (fun p ep hp => T_oK_7 h ha (kc_X7_firstBestUse h ha ⟨hx8, hg⟩ (fun r hr => T_sI_20 h hf hp (by simp) hx8 (fun S1 h1 e1 _ _ e2 => T_gP_7_2 h1 ha (fun p2 ep2 hp2 => T_aI_20 h1 hp2 hx8 (fun x148 e148 _ y1 ey1 y2 ey2 => go S1 y1 y2 h1 ?_ ?_))))))
    · have : x148 = r := by
        rw [e148, ep2, e1.P, ← ep, e2, if_pos rfl]
      rw [ey1, this, fb_subI (by omega) (by omega)]
      omega
    · subst ey2
      (first
    | (with_reducible assumption)
    | omega
    | (simp only [← Int32.toInt_inj, Int32.toInt_add, Int32.toInt_mul, Int32.toInt_sub, Int32.toInt_neg, apply_ite Int32.toInt, Int32.reduceToInt, Int32.le_iff_toInt_le, Int32.lt_iff_toInt_lt] at *; (try simp only [Int.bmod_add_bmod, Int.add_bmod_bmod, Int.bmod_mul_bmod, Int.mul_bmod_bmod, Int.sub_bmod_bmod, Int.bmod_sub_bmod] at *); (try simp (disch := omega) only [fb_bmod, true_and, and_true] at *); all_goals (first | omega | (simp only [Int.bmod_def] at *; omega) | omega)))
  have k28 : ∀ (S' : hS) (z : Int32), St Γ Φ S' → (-1 ≤ z.toInt ∧ z.toInt < 8) → ∃ n, w_X7_keepRings_b28 q n S' a v w z := by
    intro S' z h' hz
    refine loop_m (σ := hS × Int32) (fun t s => w_X7_keepRings_b28 q t s.1 a v w s.2) (fun s => St Γ Φ s.1 ∧ -1 ≤ s.2.toInt ∧ s.2.toInt < 8) (fun s => (1 + s.2.toInt).toNat) ?_ (S', z) ⟨h', hz⟩
    rintro t ⟨S, x⟩ ⟨h, hx⟩ ih
    dsimp only at h hx ih ⊢
    have go : ∀ (S' : hS) (y : Int32), St Γ Φ S' → (y.toInt = x.toInt - 1 ∧ 0 ≤ x.toInt) → w_X7_keepRings_b28 q t S' a v w y := fun S' y h' hy => ih (S', y) ⟨h', by dsimp only; omega⟩ (by dsimp only; omega)
    rw [w_X7_keepRings_b28]
    refine ⟨fun _ => k121 S h, fun c0 => ?_⟩
    have hx0 : 0 ≤ x.toInt ∧ x.toInt < 8 := by (first
    | (with_reducible assumption)
    | omega
    | (simp only [← Int32.toInt_inj, Int32.toInt_add, Int32.toInt_mul, Int32.toInt_sub, Int32.toInt_neg, apply_ite Int32.toInt, Int32.reduceToInt, Int32.le_iff_toInt_le, Int32.lt_iff_toInt_lt] at *; (try simp only [Int.bmod_add_bmod, Int.add_bmod_bmod, Int.bmod_mul_bmod, Int.mul_bmod_bmod, Int.sub_bmod_bmod, Int.bmod_sub_bmod] at *); (try simp (disch := omega) only [fb_bmod, true_and, and_true] at *); all_goals (first | omega | (simp only [Int.bmod_def] at *; omega) | omega)))
    refine loop_m (σ := hS × Int32) (fun t' s => w_X7_keepRings_b35 q (fun S v0 v1 v2 v3 => w_X7_keepRings_b28 q t S v0 v1 v2 v3) t' s.1 a v w x s.2) (fun s => St Γ Φ s.1 ∧ 0 ≤ s.2.toInt ∧ s.2.toInt ≤ 21) (fun s => (21 - s.2.toInt).toNat) ?_ (S, 0) ⟨h, by dsimp only; rw [z0I]; omega⟩
    rintro t' ⟨S, y⟩ ⟨h, hy⟩ ih'
    dsimp only at h hy ih' ⊢
    have go' : ∀ (S' : hS) (z : Int32), St Γ Φ S' → (z.toInt = y.toInt + 1 ∧ y.toInt < 21) → w_X7_keepRings_b35 q (fun S v0 v1 v2 v3 => w_X7_keepRings_b28 q t S v0 v1 v2 v3) t' S' a v w x z := fun S' z h' hz => ih' (S', z) ⟨h', by dsimp only; omega⟩ (by dsimp only; omega)
    rw [w_X7_keepRings_b35]
    refine ⟨fun _ z ez => go S z h ⟨by subst ez; (first
    | (with_reducible assumption)
    | omega
    | (simp only [← Int32.toInt_inj, Int32.toInt_add, Int32.toInt_mul, Int32.toInt_sub, Int32.toInt_neg, apply_ite Int32.toInt, Int32.reduceToInt, Int32.le_iff_toInt_le, Int32.lt_iff_toInt_lt] at *; (try simp only [Int.bmod_add_bmod, Int.add_bmod_bmod, Int.bmod_mul_bmod, Int.mul_bmod_bmod, Int.sub_bmod_bmod, Int.bmod_sub_bmod] at *); (try simp (disch := omega) only [fb_bmod, true_and, and_true] at *); all_goals (first | omega | (simp only [Int.bmod_def] at *; omega) | omega))), hx0.1⟩, fun c1 => ?_⟩
    have hy2 : 0 ≤ y.toInt ∧ y.toInt ≤ 20 := by (first
    | (with_reducible assumption)
    | omega
    | (simp only [← Int32.toInt_inj, Int32.toInt_add, Int32.toInt_mul, Int32.toInt_sub, Int32.toInt_neg, apply_ite Int32.toInt, Int32.reduceToInt, Int32.le_iff_toInt_le, Int32.lt_iff_toInt_lt] at *; (try simp only [Int.bmod_add_bmod, Int.add_bmod_bmod, Int.bmod_mul_bmod, Int.mul_bmod_bmod, Int.sub_bmod_bmod, Int.bmod_sub_bmod] at *); (try simp (disch := omega) only [fb_bmod, true_and, and_true] at *); all_goals (first | omega | (simp only [Int.bmod_def] at *; omega) | omega)))
    refine loop_m (σ := Int32 × Int32) (fun t2 s => w_X7_keepRings_b47 q (fun S v0 v1 v2 v3 => w_X7_keepRings_b28 q t S v0 v1 v2 v3) (fun S v0 v1 v2 v3 v4 => w_X7_keepRings_b35 q (fun S v0 v1 v2 v3 => w_X7_keepRings_b28 q t S v0 v1 v2 v3) t' S v0 v1 v2 v3 v4) t2 S a v w x y s.1 s.2) (fun s => 0 ≤ s.2.toInt ∧ s.2.toInt ≤ 21) (fun s => (21 - s.2.toInt).toNat) ?_ (0, 0) (by dsimp only; rw [z0I]; omega)
    rintro t2 ⟨m, z⟩ hz ih2
    dsimp only at hz ih2 ⊢
    have go2 : ∀ (m z' : Int32), (z'.toInt = z.toInt + 1 ∧ z.toInt < 21) → w_X7_keepRings_b47 q (fun S v0 v1 v2 v3 => w_X7_keepRings_b28 q t S v0 v1 v2 v3) (fun S v0 v1 v2 v3 v4 => w_X7_keepRings_b35 q (fun S v0 v1 v2 v3 => w_X7_keepRings_b28 q t S v0 v1 v2 v3) t' S v0 v1 v2 v3 v4) t2 S a v w x y m z' := fun m z' hz' => ih2 (m, z') (by dsimp only; omega) (by dsimp only; omega)
    rw [w_X7_keepRings_b47]
    repeat' (first
    | (exact absurd rfl ‹¬ (0 : Int32) = 0›)
    | (exact absurd ‹(1 : Int32) = 0› (by decide))
    | refine go' _ _ (by assumption) ?_
    | refine go2 _ _ ?_
    | (with_reducible refine T_gP_7_2 (by assumption) (by assumption) (fun _ _ _ => ?_))
    | (with_reducible refine T_gP_7_3 (by assumption) (by assumption) (fun _ _ _ => ?_))
    | (with_reducible refine T_oK_7 (by assumption) (by assumption) ?_)
    | (with_reducible refine T_aI_20 (by assumption) (by assumption) ?_ (fun _ _ _ => ?_))
    | (with_reducible refine T_aI_21 (by assumption) (by assumption) ?_ (fun _ _ _ => ?_))
    | (with_reducible refine T_aI_22 (by assumption) (by assumption) ?_ (fun _ _ _ => ?_))
    | (with_reducible refine T_aI_23 (by assumption) (by assumption) ?_ (fun _ _ _ => ?_))
    | (with_reducible refine T_aI_24 (by assumption) (by assumption) ?_ (fun _ _ _ => ?_))
    | (with_reducible refine T_sI_20 (by assumption) (by assumption) (by assumption) (by simp) ?_ (fun _ _ _ _ _ _ => ?_))
    | (with_reducible refine T_sI_21 (by assumption) (by assumption) (by assumption) (by simp) ?_ ?_ (fun _ _ _ _ _ _ => ?_))
    | (with_reducible refine T_sI_22 (by assumption) (by assumption) (by assumption) (by simp) ?_ ?_ (fun _ _ _ _ _ _ => ?_))
    | (with_reducible refine T_sI_23 (by assumption) (by assumption) (by assumption) (by simp) ?_ ?_ (fun _ _ _ _ _ _ => ?_))
    | (with_reducible refine T_sI_24 (by assumption) (by assumption) (by assumption) (by simp) ?_ ?_ (fun _ _ _ _ _ _ => ?_))
    | (with_reducible refine kc_X7_entry ?_ (fun _ _ => ?_))
    | (with_reducible refine kc_X7_firstBestUse (by assumption) (by assumption) ?_ (fun _ _ => ?_))
    | (with_reducible refine kc_X7_gain (by assumption) (by assumption) ?_ (fun _ => ?_))
    | (with_reducible refine T_y (fun _ _ _ => ?_))
    | (refine ⟨fun _ => ?_, fun _ => ?_⟩)
    | fail)
    all_goals (first
    | (with_reducible assumption)
    | omega
    | (simp only [← Int32.toInt_inj, Int32.toInt_add, Int32.toInt_mul, Int32.toInt_sub, Int32.toInt_neg, apply_ite Int32.toInt, Int32.reduceToInt, Int32.le_iff_toInt_le, Int32.lt_iff_toInt_lt] at *; (try simp only [Int.bmod_add_bmod, Int.add_bmod_bmod, Int.bmod_mul_bmod, Int.mul_bmod_bmod, Int.sub_bmod_bmod, Int.bmod_sub_bmod] at *); (try simp (disch := omega) only [fb_bmod, true_and, and_true] at *); all_goals (first | omega | (simp only [Int.bmod_def] at *; omega) | omega)))
  refine loop_m (σ := hS × Int32) (fun t s => w_X7_keepRings_b2 q t s.1 a v w s.2) (fun s => St Γ Φ s.1 ∧ 0 ≤ s.2.toInt ∧ s.2.toInt ≤ 21) (fun s => (21 - s.2.toInt).toNat) ?_ (S, 0) ⟨h, by dsimp only; rw [z0I]; omega⟩
  rintro t ⟨S, x⟩ ⟨h, hx⟩ ih
  dsimp only at h hx ih ⊢
  have go : ∀ (S' : hS) (y : Int32), St Γ Φ S' → y.toInt = x.toInt + 1 ∧ x.toInt < 21 → w_X7_keepRings_b2 q t S' a v w y := fun S' y h' hy => ih (S', y) ⟨h', by dsimp only; omega⟩ (by dsimp only; omega)
  rw [w_X7_keepRings_b2]
  repeat' (first
    | (exact absurd rfl ‹¬ (0 : Int32) = 0›)
    | (exact absurd ‹(1 : Int32) = 0› (by decide))
    | refine k28 _ _ (by assumption) ?_
    | refine go _ _ (by assumption) ?_
    | (with_reducible refine T_gP_7_2 (by assumption) (by assumption) (fun _ _ _ => ?_))
    | (with_reducible refine T_gP_7_3 (by assumption) (by assumption) (fun _ _ _ => ?_))
    | (with_reducible refine T_oK_7 (by assumption) (by assumption) ?_)
    | (with_reducible refine T_aI_20 (by assumption) (by assumption) ?_ (fun _ _ _ => ?_))
    | (with_reducible refine T_aI_21 (by assumption) (by assumption) ?_ (fun _ _ _ => ?_))
    | (with_reducible refine T_aI_22 (by assumption) (by assumption) ?_ (fun _ _ _ => ?_))
    | (with_reducible refine T_aI_23 (by assumption) (by assumption) ?_ (fun _ _ _ => ?_))
    | (with_reducible refine T_aI_24 (by assumption) (by assumption) ?_ (fun _ _ _ => ?_))
    | (with_reducible refine T_sI_20 (by assumption) (by assumption) (by assumption) (by simp) ?_ (fun _ _ _ _ _ _ => ?_))
    | (with_reducible refine T_sI_21 (by assumption) (by assumption) (by assumption) (by simp) ?_ ?_ (fun _ _ _ _ _ _ => ?_))
    | (with_reducible refine T_sI_22 (by assumption) (by assumption) (by assumption) (by simp) ?_ ?_ (fun _ _ _ _ _ _ => ?_))
    | (with_reducible refine T_sI_23 (by assumption) (by assumption) (by assumption) (by simp) ?_ ?_ (fun _ _ _ _ _ _ => ?_))
    | (with_reducible refine T_sI_24 (by assumption) (by assumption) (by assumption) (by simp) ?_ ?_ (fun _ _ _ _ _ _ => ?_))
    | (with_reducible refine kc_X7_entry ?_ (fun _ _ => ?_))
    | (with_reducible refine kc_X7_firstBestUse (by assumption) (by assumption) ?_ (fun _ _ => ?_))
    | (with_reducible refine kc_X7_gain (by assumption) (by assumption) ?_ (fun _ => ?_))
    | (with_reducible refine T_y (fun _ _ _ => ?_))
    | (refine ⟨fun _ => ?_, fun _ => ?_⟩)
    | fail)
  all_goals (first
    | (with_reducible assumption)
    | omega
    | (simp only [← Int32.toInt_inj, Int32.toInt_add, Int32.toInt_mul, Int32.toInt_sub, Int32.toInt_neg, apply_ite Int32.toInt, Int32.reduceToInt, Int32.le_iff_toInt_le, Int32.lt_iff_toInt_lt] at *; (try simp only [Int.bmod_add_bmod, Int.add_bmod_bmod, Int.bmod_mul_bmod, Int.mul_bmod_bmod, Int.sub_bmod_bmod, Int.bmod_sub_bmod] at *); (try simp (disch := omega) only [fb_bmod, true_and, and_true] at *); all_goals (first | omega | (simp only [Int.bmod_def] at *; omega) | omega)))
theorem kc_X7_chance {q : Int64 → hS → Prop} {v w s : Int32} (h : St Γ Φ S) (hf : fre Γ Φ [804]) (ha : Γ a = some (7, 7, 0, 0, ρa)) (hv : (0 ≤ v.toInt ∧ v.toInt ≤ 20) ∧ w.toInt ≤ 60) (k : ∀ r S', St Γ Φ S' → q r S') : w_X7_chance q S a v w s := by
  have k35 : ∀ S', St Γ Φ S' → ∃ n, w_X7_chance_b35 q n S' a v w s 0 := by
    intro S' h'
    refine loop_m (σ := hS × Int32) (fun t u => w_X7_chance_b35 q t u.1 a v w s u.2) (fun s => St Γ Φ s.1 ∧ 0 ≤ s.2.toInt ∧ s.2.toInt ≤ 60) (fun s => (60 - s.2.toInt).toNat) ?_ (S', 0) ⟨h', by dsimp only; rw [z0I]; omega⟩
    rintro t ⟨S, x⟩ ⟨h, hx⟩ ih
    dsimp only at h hx ih ⊢
    have go : ∀ (S' : hS) (y : Int32), St Γ Φ S' → y.toInt = x.toInt + 1 ∧ x.toInt < 60 → w_X7_chance_b35 q t S' a v w s y := fun S' y h' hy => ih (S', y) ⟨h', by dsimp only; omega⟩ (by dsimp only; omega)
    rw [w_X7_chance_b35]
    refine ⟨fun _ => ?_, fun c0 => ?_⟩
    · repeat' (first
    | (exact absurd rfl ‹¬ (0 : Int32) = 0›)
    | (exact absurd ‹(1 : Int32) = 0› (by decide))
    | exact k _ _ (by assumption)
    | (with_reducible refine T_gP_7_4 (by assumption) (by assumption) (fun _ _ _ => ?_))
    | (with_reducible refine T_aJ (by assumption) (by assumption) ?_ (fun _ => ?_))
    | (with_reducible refine T_sJ (by assumption) (by assumption) (by assumption) (by simp) ?_ (fun _ _ _ => ?_))
    | (with_reducible refine T_y (fun _ _ _ => ?_))
    | (refine ⟨fun _ => ?_, fun _ => ?_⟩)
    | fail)
      all_goals (first
    | (with_reducible assumption)
    | omega
    | (simp only [← Int32.toInt_inj, Int32.toInt_add, Int32.toInt_mul, Int32.toInt_sub, Int32.toInt_neg, apply_ite Int32.toInt, Int32.reduceToInt, Int32.le_iff_toInt_le, Int32.lt_iff_toInt_lt] at *; (try simp only [Int.bmod_add_bmod, Int.add_bmod_bmod, Int.bmod_mul_bmod, Int.mul_bmod_bmod, Int.sub_bmod_bmod, Int.bmod_sub_bmod] at *); (try simp (disch := omega) only [fb_bmod, true_and, and_true] at *); all_goals (first | omega | (simp only [Int.bmod_def] at *; omega) | omega)))
    have hx6 : 0 ≤ x.toInt ∧ x.toInt < 60 := by (first
    | (with_reducible assumption)
    | omega
    | (simp only [← Int32.toInt_inj, Int32.toInt_add, Int32.toInt_mul, Int32.toInt_sub, Int32.toInt_neg, apply_ite Int32.toInt, Int32.reduceToInt, Int32.le_iff_toInt_le, Int32.lt_iff_toInt_lt] at *; (try simp only [Int.bmod_add_bmod, Int.add_bmod_bmod, Int.bmod_mul_bmod, Int.mul_bmod_bmod, Int.sub_bmod_bmod, Int.bmod_sub_bmod] at *); (try simp (disch := omega) only [fb_bmod, true_and, and_true] at *); all_goals (first | omega | (simp only [Int.bmod_def] at *; omega) | omega)))
    refine loop_m (σ := hS × Int32) (fun t' u => w_X7_chance_b44 q (fun S v0 v1 v2 v3 v4 => w_X7_chance_b35 q t S v0 v1 v2 v3 v4) t' u.1 a v w s x u.2) (fun s => St Γ Φ s.1 ∧ 0 ≤ s.2.toInt ∧ s.2.toInt ≤ 20) (fun s => (s.2.toInt).toNat) ?_ (S, v) ⟨h, hv.1⟩
    rintro t' ⟨S, y⟩ ⟨h, hy⟩ ih'
    dsimp only at h hy ih' ⊢
    have go' : ∀ (S' : hS) (z : Int32), St Γ Φ S' → z.toInt = y.toInt - 1 ∧ 1 ≤ y.toInt → w_X7_chance_b44 q (fun S v0 v1 v2 v3 v4 => w_X7_chance_b35 q t S v0 v1 v2 v3 v4) t' S' a v w s x z := fun S' z h' hz => ih' (S', z) ⟨h', by dsimp only; omega⟩ (by dsimp only; omega)
    rw [w_X7_chance_b44]
    repeat' (first
    | (exact absurd rfl ‹¬ (0 : Int32) = 0›)
    | (exact absurd ‹(1 : Int32) = 0› (by decide))
    | refine go _ _ (by assumption) ?_
    | refine go' _ _ (by assumption) ?_
    | (with_reducible refine T_gP_7_4 (by assumption) (by assumption) (fun _ _ _ => ?_))
    | (with_reducible refine T_aJ (by assumption) (by assumption) ?_ (fun _ => ?_))
    | (with_reducible refine T_sJ (by assumption) (by assumption) (by assumption) (by simp) ?_ (fun _ _ _ => ?_))
    | (with_reducible refine T_y (fun _ _ _ => ?_))
    | (refine ⟨fun _ => ?_, fun _ => ?_⟩)
    | fail)
    all_goals (first
    | (with_reducible assumption)
    | omega
    | (simp only [← Int32.toInt_inj, Int32.toInt_add, Int32.toInt_mul, Int32.toInt_sub, Int32.toInt_neg, apply_ite Int32.toInt, Int32.reduceToInt, Int32.le_iff_toInt_le, Int32.lt_iff_toInt_lt] at *; (try simp only [Int.bmod_add_bmod, Int.add_bmod_bmod, Int.bmod_mul_bmod, Int.mul_bmod_bmod, Int.sub_bmod_bmod, Int.bmod_sub_bmod] at *); (try simp (disch := omega) only [fb_bmod, true_and, and_true] at *); all_goals (first | omega | (simp only [Int.bmod_def] at *; omega) | omega)))
  have k12 : ∀ S', St Γ Φ S' → ∃ n, w_X7_chance_b12 q n S' a v w s 1 := by
    intro S' h'
    refine loop_m (σ := hS × Int32) (fun t u => w_X7_chance_b12 q t u.1 a v w s u.2) (fun s => St Γ Φ s.1 ∧ 0 ≤ s.2.toInt ∧ s.2.toInt ≤ 21) (fun s => (21 - s.2.toInt).toNat) ?_ (S', 1) ⟨h', (show 0 ≤ (1 : Int32).toInt ∧ (1 : Int32).toInt ≤ 21 from by decide)⟩
    rintro t ⟨S, x⟩ ⟨h, hx⟩ ih
    dsimp only at h hx ih ⊢
    have go : ∀ (S' : hS) (y : Int32), St Γ Φ S' → y.toInt = x.toInt + 1 ∧ x.toInt < 21 → w_X7_chance_b12 q t S' a v w s y := fun S' y h' hy => ih (S', y) ⟨h', by dsimp only; omega⟩ (by dsimp only; omega)
    rw [w_X7_chance_b12]
    repeat' (first
    | (exact absurd rfl ‹¬ (0 : Int32) = 0›)
    | (exact absurd ‹(1 : Int32) = 0› (by decide))
    | exact k35 _ (by assumption)
    | refine go _ _ (by assumption) ?_
    | (with_reducible refine T_gP_7_4 (by assumption) (by assumption) (fun _ _ _ => ?_))
    | (with_reducible refine T_aJ (by assumption) (by assumption) ?_ (fun _ => ?_))
    | (with_reducible refine T_sJ (by assumption) (by assumption) (by assumption) (by simp) ?_ (fun _ _ _ => ?_))
    | (with_reducible refine T_y (fun _ _ _ => ?_))
    | (refine ⟨fun _ => ?_, fun _ => ?_⟩)
    | fail)
    all_goals (first
    | (with_reducible assumption)
    | omega
    | (simp only [← Int32.toInt_inj, Int32.toInt_add, Int32.toInt_mul, Int32.toInt_sub, Int32.toInt_neg, apply_ite Int32.toInt, Int32.reduceToInt, Int32.le_iff_toInt_le, Int32.lt_iff_toInt_lt] at *; (try simp only [Int.bmod_add_bmod, Int.add_bmod_bmod, Int.bmod_mul_bmod, Int.mul_bmod_bmod, Int.sub_bmod_bmod, Int.bmod_sub_bmod] at *); (try simp (disch := omega) only [fb_bmod, true_and, and_true] at *); all_goals (first | omega | (simp only [Int.bmod_def] at *; omega) | omega)))
  unfold w_X7_chance
  repeat' (first
    | (exact absurd rfl ‹¬ (0 : Int32) = 0›)
    | (exact absurd ‹(1 : Int32) = 0› (by decide))
    | exact k12 _ (by assumption)
    | (with_reducible refine T_gP_7_4 (by assumption) (by assumption) (fun _ _ _ => ?_))
    | (with_reducible refine T_aJ (by assumption) (by assumption) ?_ (fun _ => ?_))
    | (with_reducible refine T_sJ (by assumption) (by assumption) (by assumption) (by simp) ?_ (fun _ _ _ => ?_))
    | (with_reducible refine T_y (fun _ _ _ => ?_))
    | (refine ⟨fun _ => ?_, fun _ => ?_⟩)
    | fail)
  all_goals (first
    | (with_reducible assumption)
    | omega
    | (simp only [← Int32.toInt_inj, Int32.toInt_add, Int32.toInt_mul, Int32.toInt_sub, Int32.toInt_neg, apply_ite Int32.toInt, Int32.reduceToInt, Int32.le_iff_toInt_le, Int32.lt_iff_toInt_lt] at *; (try simp only [Int.bmod_add_bmod, Int.add_bmod_bmod, Int.bmod_mul_bmod, Int.mul_bmod_bmod, Int.sub_bmod_bmod, Int.bmod_sub_bmod] at *); (try simp (disch := omega) only [fb_bmod, true_and, and_true] at *); all_goals (first | omega | (simp only [Int.bmod_def] at *; omega) | omega)))
end SHARES
