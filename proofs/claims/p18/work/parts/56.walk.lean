/-! LAYER 2, the class: the round of visits -/
section WALK
variable {Γ : kG} {Φ : kF} {S : hS} {a b i c n : Nat} {ρa ρb ρd ρg : Nat → Nat} {κ rs : Nat}
theorem kc_walk (hf : fre Γ Φ [4, 500, 503]) (ha : Γ a = some (4, 4, 0, 0, ρa)) (hb : Γ b = some (8, 8 + 10000 * i, i, 0, ρb)) : ∀ (d : Nat) (S : hS) (q : hS → Prop) (v2 v3 v4 v5 v6 : Int32), St Γ Φ S → (0 ≤ v6.toInt ∧ v6.toInt ≤ 6 ∧ 7 ≤ d + v6.toInt) → (∀ S', St Γ Φ S' → q S') → wr_W d 0 q S a b v2 v3 v4 v5 v6 := by
  intro d
  induction d with
  | zero => intro S q v2 v3 v4 v5 v6 h hd k; omega
  | succ d ihd =>
    intro S q v2 v3 v4 v5 v6 h hd k
    have k54 : ∀ S', St Γ Φ S' → w_X4_walk_b54 (wr_W d) q S' a b v2 v3 v4 v5 v6 := by
      intro S' h'
      unfold w_X4_walk_b54
      refine ⟨fun c6 => ?_, fun _ => k _ h'⟩
      have h6 : 0 ≤ v6.toInt ∧ v6.toInt < 6 := by (first
    | (with_reducible assumption)
    | omega
    | (simp only [← Int32.toInt_inj, Int32.toInt_add, Int32.toInt_mul, Int32.toInt_sub, Int32.toInt_neg, apply_ite Int32.toInt, Int32.reduceToInt, Int32.le_iff_toInt_le, Int32.lt_iff_toInt_lt] at *; (try simp only [Int.bmod_add_bmod, Int.add_bmod_bmod, Int.bmod_mul_bmod, Int.mul_bmod_bmod, Int.sub_bmod_bmod, Int.bmod_sub_bmod] at *); (try simp (disch := omega) only [fb_bmod, true_and, and_true] at *); all_goals (first | omega | (simp only [Int.bmod_def] at *; omega) | omega)))
      refine loop_m (σ := hS × Int32) (fun t s => w_X4_walk_b65 (wr_W d) q t s.1 a b v2 v3 v4 v5 v6 s.2) (fun s => St Γ Φ s.1 ∧ 0 ≤ s.2.toInt ∧ s.2.toInt ≤ 6) (fun s => (6 - s.2.toInt).toNat) ?_ (S', 0) ⟨h', by dsimp only; rw [z0I]; omega⟩
      rintro t ⟨S, x⟩ ⟨h, hx⟩ ih
      dsimp only at h hx ih ⊢
      have go : ∀ (S' : hS) (y : Int32), St Γ Φ S' → y.toInt = x.toInt + 1 ∧ x.toInt < 6 → w_X4_walk_b65 (wr_W d) q t S' a b v2 v3 v4 v5 v6 y := fun S' y h' hy => ih (S', y) ⟨h', by dsimp only; omega⟩ (by dsimp only; omega)
      rw [w_X4_walk_b65]
      repeat' (first
    | (exact absurd rfl ‹¬ (0 : Int32) = 0›)
    | (exact absurd ‹(1 : Int32) = 0› (by decide))
    | exact k _ (by assumption)
    | refine go _ _ (by assumption) ?_
    | refine ihd _ _ _ _ _ _ _ (by assumption) ?_ (fun _ _ => ?_)
    | (with_reducible refine T_gP_4_0 (by assumption) (by assumption) (fun _ _ _ => ?_))
    | (with_reducible refine T_gP_4_3 (by assumption) (by assumption) (fun _ _ _ => ?_))
    | (with_reducible refine T_gP_8_2 (by assumption) (by assumption) (fun _ _ _ => ?_))
    | (with_reducible refine T_gI_4_1 (by assumption) (by assumption) (fun _ _ _ => ?_))
    | (with_reducible refine T_gI_8_1 (by assumption) (by assumption) (fun _ _ _ => ?_))
    | (with_reducible refine T_pI_4_2 (by assumption) (by assumption) (by assumption) (by simp) (fun _ _ _ _ _ => ?_))
    | (with_reducible refine T_pI_4_4 (by assumption) (by assumption) (by assumption) (by simp) ?_ (fun _ _ _ _ _ => ?_))
    | (with_reducible refine T_oK_4 (by assumption) (by assumption) ?_)
    | (with_reducible refine T_oK_8 (by assumption) (by assumption) ?_)
    | (with_reducible refine T_aI_20 (by assumption) (by assumption) ?_ (fun _ _ _ => ?_))
    | (with_reducible refine T_aI_21 (by assumption) (by assumption) ?_ (fun _ _ _ => ?_))
    | (with_reducible refine T_aI_22 (by assumption) (by assumption) ?_ (fun _ _ _ => ?_))
    | (with_reducible refine T_aI_23 (by assumption) (by assumption) ?_ (fun _ _ _ => ?_))
    | (with_reducible refine T_aI_24 (by assumption) (by assumption) ?_ (fun _ _ _ => ?_))
    | (with_reducible refine T_sI_20 (by assumption) (by assumption) (by assumption) (by simp) ?_ (fun _ _ _ _ _ _ => ?_))
    | (with_reducible refine T_sI_21 (by assumption) (by assumption) (by assumption) (by simp) ?_ ?_ (fun _ _ _ _ _ _ => ?_))
    | (with_reducible refine T_sI_22 (by assumption) (by assumption) (by assumption) (by simp) ?_ ?_ (fun _ _ _ _ _ _ => ?_))
    | (with_reducible refine T_sI_23 (by assumption) (by assumption) (by assumption) (by simp) ?_ ?_ (fun _ _ _ _ _ _ => ?_))
    | (with_reducible refine T_sI_24 (by assumption) (by assumption) (by assumption) (by simp) ?_ ?_ (fun _ _ _ _ _ _ => ?_))
    | (with_reducible refine T_cI_20 (by assumption) (by assumption) (by assumption) (by assumption) (by simp) ?_ (fun _ _ _ _ _ _ => ?_))
    | (with_reducible refine T_cI_21 (by assumption) (by assumption) (by assumption) (by assumption) (by simp) ?_ (fun _ _ _ _ _ _ => ?_))
    | (with_reducible refine T_cI_22 (by assumption) (by assumption) (by assumption) (by assumption) (by simp) ?_ (fun _ _ _ _ _ _ => ?_))
    | (with_reducible refine T_cI_23 (by assumption) (by assumption) (by assumption) (by assumption) (by simp) ?_ (fun _ _ _ _ _ _ => ?_))
    | (with_reducible refine T_cI_24 (by assumption) (by assumption) (by assumption) (by assumption) (by simp) ?_ (fun _ _ _ _ _ _ => ?_))
    | (with_reducible refine kc_X11_hasBit ?_ ?_)
    | (with_reducible refine kc_X11_stepsBetween (fun _ => ?_))
    | (with_reducible refine kc_X8_leftOf (by assumption) (by assumption) (fun _ => ?_))
    | (unfold w_X4_walk_b155)
    | (unfold w_X4_walk_b54)
    | (unfold w_X4_walk_b27)
    | (with_reducible refine T_y (fun _ _ _ => ?_))
    | (refine ⟨fun _ => ?_, fun _ => ?_⟩)
    | fail)
      all_goals (first
    | (with_reducible assumption)
    | omega
    | (simp only [← Int32.toInt_inj, Int32.toInt_add, Int32.toInt_mul, Int32.toInt_sub, Int32.toInt_neg, apply_ite Int32.toInt, Int32.reduceToInt, Int32.le_iff_toInt_le, Int32.lt_iff_toInt_lt] at *; (try simp only [Int.bmod_add_bmod, Int.add_bmod_bmod, Int.bmod_mul_bmod, Int.mul_bmod_bmod, Int.sub_bmod_bmod, Int.bmod_sub_bmod] at *); (try simp (disch := omega) only [fb_bmod, true_and, and_true] at *); all_goals (first | omega | (simp only [Int.bmod_def] at *; omega) | omega)))
    have k27 : w_X4_walk_b27 (wr_W d) q S a b v2 v3 v4 v5 v6 := by
      unfold w_X4_walk_b27
      repeat' (first
    | (exact absurd rfl ‹¬ (0 : Int32) = 0›)
    | (exact absurd ‹(1 : Int32) = 0› (by decide))
    | exact k54 _ (by assumption)
    | (with_reducible refine T_gP_4_0 (by assumption) (by assumption) (fun _ _ _ => ?_))
    | (with_reducible refine T_gP_4_3 (by assumption) (by assumption) (fun _ _ _ => ?_))
    | (with_reducible refine T_gP_8_2 (by assumption) (by assumption) (fun _ _ _ => ?_))
    | (with_reducible refine T_gP_8_5 (by assumption) (by assumption) (fun _ _ _ => ?_))
    | (with_reducible refine T_gI_4_1 (by assumption) (by assumption) (fun _ _ _ => ?_))
    | (with_reducible refine T_gI_8_1 (by assumption) (by assumption) (fun _ _ _ => ?_))
    | (with_reducible refine T_pI_4_1 (by assumption) (by assumption) (by assumption) (by simp) (fun _ _ _ _ _ => ?_))
    | (with_reducible refine T_pI_4_2 (by assumption) (by assumption) (by assumption) (by simp) (fun _ _ _ _ _ => ?_))
    | (with_reducible refine T_pI_4_4 (by assumption) (by assumption) (by assumption) (by simp) ?_ (fun _ _ _ _ _ => ?_))
    | (with_reducible refine T_oK_4 (by assumption) (by assumption) ?_)
    | (with_reducible refine T_oK_8 (by assumption) (by assumption) ?_)
    | (with_reducible refine T_aI_20 (by assumption) (by assumption) ?_ (fun _ _ _ => ?_))
    | (with_reducible refine T_aI_21 (by assumption) (by assumption) ?_ (fun _ _ _ => ?_))
    | (with_reducible refine T_aI_22 (by assumption) (by assumption) ?_ (fun _ _ _ => ?_))
    | (with_reducible refine T_aI_23 (by assumption) (by assumption) ?_ (fun _ _ _ => ?_))
    | (with_reducible refine T_aI_24 (by assumption) (by assumption) ?_ (fun _ _ _ => ?_))
    | (with_reducible refine T_sI_20 (by assumption) (by assumption) (by assumption) (by simp) ?_ (fun _ _ _ _ _ _ => ?_))
    | (with_reducible refine T_sI_21 (by assumption) (by assumption) (by assumption) (by simp) ?_ ?_ (fun _ _ _ _ _ _ => ?_))
    | (with_reducible refine T_sI_22 (by assumption) (by assumption) (by assumption) (by simp) ?_ ?_ (fun _ _ _ _ _ _ => ?_))
    | (with_reducible refine T_sI_23 (by assumption) (by assumption) (by assumption) (by simp) ?_ ?_ (fun _ _ _ _ _ _ => ?_))
    | (with_reducible refine T_sI_24 (by assumption) (by assumption) (by assumption) (by simp) ?_ ?_ (fun _ _ _ _ _ _ => ?_))
    | (with_reducible refine T_cI_20 (by assumption) (by assumption) (by assumption) (by assumption) (by simp) ?_ (fun _ _ _ _ _ _ => ?_))
    | (with_reducible refine T_cI_21 (by assumption) (by assumption) (by assumption) (by assumption) (by simp) ?_ (fun _ _ _ _ _ _ => ?_))
    | (with_reducible refine T_cI_22 (by assumption) (by assumption) (by assumption) (by assumption) (by simp) ?_ (fun _ _ _ _ _ _ => ?_))
    | (with_reducible refine T_cI_23 (by assumption) (by assumption) (by assumption) (by assumption) (by simp) ?_ (fun _ _ _ _ _ _ => ?_))
    | (with_reducible refine T_cI_24 (by assumption) (by assumption) (by assumption) (by assumption) (by simp) ?_ (fun _ _ _ _ _ _ => ?_))
    | (with_reducible refine kc_X11_hasBit ?_ ?_)
    | (with_reducible refine kc_X11_stepsBetween (fun _ => ?_))
    | (with_reducible refine kc_X8_hasPerson (by assumption) (by assumption) ?_ (fun _ => ?_))
    | (with_reducible refine kc_X8_leftOf (by assumption) (by assumption) (fun _ => ?_))
    | (unfold w_X4_walk_b155)
    | (unfold w_X4_walk_b54)
    | (unfold w_X4_walk_b27)
    | (with_reducible refine T_y (fun _ _ _ => ?_))
    | (refine ⟨fun _ => ?_, fun _ => ?_⟩)
    | fail)
      all_goals (first
    | (with_reducible assumption)
    | omega
    | (simp only [← Int32.toInt_inj, Int32.toInt_add, Int32.toInt_mul, Int32.toInt_sub, Int32.toInt_neg, apply_ite Int32.toInt, Int32.reduceToInt, Int32.le_iff_toInt_le, Int32.lt_iff_toInt_lt] at *; (try simp only [Int.bmod_add_bmod, Int.add_bmod_bmod, Int.bmod_mul_bmod, Int.mul_bmod_bmod, Int.sub_bmod_bmod, Int.bmod_sub_bmod] at *); (try simp (disch := omega) only [fb_bmod, true_and, and_true] at *); all_goals (first | omega | (simp only [Int.bmod_def] at *; omega) | omega)))
    show wb_X4_walk (wr_W d) q S a b v2 v3 v4 v5 v6
    unfold wb_X4_walk
    exact T_gI_4_4 h ha (fun _ _ _ => ⟨fun _ => k27, fun _ => T_gI_4_4 h ha (fun _ _ _ => ⟨fun _ => k54 S h, fun _ => T_gI_4_2 h ha (fun _ _ _ => ⟨fun _ => k54 S h, fun _ => k27⟩)⟩)⟩)
theorem kc_X4_findVisits {q : hS → Prop} {v w : Int32} (h : St Γ Φ S) (hf : fre Γ Φ [4, 500, 503]) (ha : Γ a = some (4, 4, 0, 0, ρa)) (hb : Γ b = some (8, 8 + 10000 * i, i, 0, ρb)) (k : ∀ S', St Γ Φ S' → q S') : w_X4_findVisits q S a b v w := by
  unfold w_X4_findVisits w_X4_walk
  repeat' (first
    | (exact absurd rfl ‹¬ (0 : Int32) = 0›)
    | (exact absurd ‹(1 : Int32) = 0› (by decide))
    | exact k _ (by assumption)
    | refine kc_walk hf ha hb _ _ _ _ _ _ _ _ (by assumption) ?_ (fun _ _ => ?_)
    | (with_reducible refine T_gP_8_5 (by assumption) (by assumption) (fun _ _ _ => ?_))
    | (with_reducible refine T_pI_4_1 (by assumption) (by assumption) (by assumption) (by simp) (fun _ _ _ _ _ => ?_))
    | (with_reducible refine T_pI_4_2 (by assumption) (by assumption) (by assumption) (by simp) (fun _ _ _ _ _ => ?_))
    | (with_reducible refine T_pI_4_4 (by assumption) (by assumption) (by assumption) (by simp) ?_ (fun _ _ _ _ _ => ?_))
    | (with_reducible refine T_oK_4 (by assumption) (by assumption) ?_)
    | (with_reducible refine T_oK_8 (by assumption) (by assumption) ?_)
    | (with_reducible refine T_aI_20 (by assumption) (by assumption) ?_ (fun _ _ _ => ?_))
    | (with_reducible refine T_aI_21 (by assumption) (by assumption) ?_ (fun _ _ _ => ?_))
    | (with_reducible refine T_aI_22 (by assumption) (by assumption) ?_ (fun _ _ _ => ?_))
    | (with_reducible refine T_aI_23 (by assumption) (by assumption) ?_ (fun _ _ _ => ?_))
    | (with_reducible refine T_aI_24 (by assumption) (by assumption) ?_ (fun _ _ _ => ?_))
    | (with_reducible refine kc_X8_hasPerson (by assumption) (by assumption) ?_ (fun _ => ?_))
    | (refine ⟨fun _ => ?_, fun _ => ?_⟩)
    | fail)
  all_goals (first
    | (with_reducible assumption)
    | omega
    | (simp only [← Int32.toInt_inj, Int32.toInt_add, Int32.toInt_mul, Int32.toInt_sub, Int32.toInt_neg, apply_ite Int32.toInt, Int32.reduceToInt, Int32.le_iff_toInt_le, Int32.lt_iff_toInt_lt] at *; (try simp only [Int.bmod_add_bmod, Int.add_bmod_bmod, Int.bmod_mul_bmod, Int.mul_bmod_bmod, Int.sub_bmod_bmod, Int.bmod_sub_bmod] at *); (try simp (disch := omega) only [fb_bmod, true_and, and_true] at *); all_goals (first | omega | (simp only [Int.bmod_def] at *; omega) | omega)))
end WALK
