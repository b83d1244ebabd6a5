/-! LAYER 2, the class: asking a suburb -/
section SUB
variable {Γ : kG} {Φ : kF} {S : hS} {a b i c n : Nat} {ρa ρb ρd ρg : Nat → Nat} {κ rs : Nat}
theorem kc_X8_hasPerson {q : Int32 → hS → Prop} {v : Int32} (h : St Γ Φ S) (ha : Γ a = some (8, 8 + 10000 * i, i, 0, ρa)) (h0 : q 0 S) (h1 : 0 ≤ v.toInt ∧ v.toInt < (fI S a 4).toInt ∧ v.toInt < 8 → q 1 S) : w_X8_hasPerson q S a v := by
  unfold w_X8_hasPerson
  repeat' (first
    | (exact absurd rfl ‹¬ (0 : Int32) = 0›)
    | (exact absurd ‹(1 : Int32) = 0› (by decide))
    | exact h0
    | refine h1 ?_
    | (with_reducible refine T_gI_8_4 (by assumption) (by assumption) (fun _ _ _ => ?_))
    | (refine ⟨fun _ => ?_, fun _ => ?_⟩)
    | fail)
  all_goals (first
    | (with_reducible assumption)
    | omega
    | (simp only [← Int32.toInt_inj, Int32.toInt_add, Int32.toInt_mul, Int32.toInt_sub, Int32.toInt_neg, apply_ite Int32.toInt, Int32.reduceToInt, Int32.le_iff_toInt_le, Int32.lt_iff_toInt_lt] at *; (try simp only [Int.bmod_add_bmod, Int.add_bmod_bmod, Int.bmod_mul_bmod, Int.mul_bmod_bmod, Int.sub_bmod_bmod, Int.bmod_sub_bmod] at *); (try simp (disch := omega) only [fb_bmod, true_and, and_true] at *); all_goals (first | omega | (simp only [Int.bmod_def] at *; omega) | omega)))
theorem kc_X8_hasHouse {q : Int32 → hS → Prop} {v : Int32} (h : St Γ Φ S) (ha : Γ a = some (8, 8 + 10000 * i, i, 0, ρa)) (h0 : q 0 S) (h1 : 0 ≤ v.toInt ∧ v.toInt < (fI S a 1).toInt ∧ v.toInt < 6 → q 1 S) : w_X8_hasHouse q S a v := by
  unfold w_X8_hasHouse
  repeat' (first
    | (exact absurd rfl ‹¬ (0 : Int32) = 0›)
    | (exact absurd ‹(1 : Int32) = 0› (by decide))
    | exact h0
    | refine h1 ?_
    | (with_reducible refine T_gI_8_1 (by assumption) (by assumption) (fun _ _ _ => ?_))
    | (refine ⟨fun _ => ?_, fun _ => ?_⟩)
    | fail)
  all_goals (first
    | (with_reducible assumption)
    | omega
    | (simp only [← Int32.toInt_inj, Int32.toInt_add, Int32.toInt_mul, Int32.toInt_sub, Int32.toInt_neg, apply_ite Int32.toInt, Int32.reduceToInt, Int32.le_iff_toInt_le, Int32.lt_iff_toInt_lt] at *; (try simp only [Int.bmod_add_bmod, Int.add_bmod_bmod, Int.bmod_mul_bmod, Int.mul_bmod_bmod, Int.sub_bmod_bmod, Int.bmod_sub_bmod] at *); (try simp (disch := omega) only [fb_bmod, true_and, and_true] at *); all_goals (first | omega | (simp only [Int.bmod_def] at *; omega) | omega)))
theorem kc_X11_slot {q : Int32 → hS → Prop} {v w : Int32} (hv : (0 ≤ v.toInt ∧ v.toInt < 8) ∧ 0 ≤ w.toInt ∧ w.toInt < 6) (k : ∀ r : Int32, (0 ≤ r.toInt ∧ r.toInt < 48) → q r S) : w_X11_slot q S v w := by
  unfold w_X11_slot
  refine k _ ?_
  (first
    | (with_reducible assumption)
    | omega
    | (simp only [← Int32.toInt_inj, Int32.toInt_add, Int32.toInt_mul, Int32.toInt_sub, Int32.toInt_neg, apply_ite Int32.toInt, Int32.reduceToInt, Int32.le_iff_toInt_le, Int32.lt_iff_toInt_lt] at *; (try simp only [Int.bmod_add_bmod, Int.add_bmod_bmod, Int.bmod_mul_bmod, Int.mul_bmod_bmod, Int.sub_bmod_bmod, Int.bmod_sub_bmod] at *); (try simp (disch := omega) only [fb_bmod, true_and, and_true] at *); all_goals (first | omega | (simp only [Int.bmod_def] at *; omega) | omega)))
theorem kc_X11_hasBit {q : Int32 → hS → Prop} {v w : Int32} (h0 : q 0 S) (h1 : q 1 S) : w_X11_hasBit q S v w := by
  unfold w_X11_hasBit
  repeat' (first
    | (exact absurd rfl ‹¬ (0 : Int32) = 0›)
    | (exact absurd ‹(1 : Int32) = 0› (by decide))
    | exact h0
    | exact h1
    | (refine ⟨fun _ => ?_, fun _ => ?_⟩)
    | fail)
theorem kc_X8_leftOf {q : Int32 → hS → Prop} {v w : Int32} (h : St Γ Φ S) (ha : Γ a = some (8, 8 + 10000 * i, i, 0, ρa)) (k : ∀ r, q r S) : w_X8_leftOf q S a v w := by
  unfold w_X8_leftOf
  repeat' (first
    | (exact absurd rfl ‹¬ (0 : Int32) = 0›)
    | (exact absurd ‹(1 : Int32) = 0› (by decide))
    | exact k _
    | (with_reducible refine T_gP_2_0 (by assumption) (by assumption) (fun _ _ _ => ?_))
    | (with_reducible refine T_gP_2_1 (by assumption) (by assumption) (fun _ _ _ => ?_))
    | (with_reducible refine T_gP_8_0 (by assumption) (by assumption) (fun _ _ _ => ?_))
    | (with_reducible refine T_oK_8 (by assumption) (by assumption) ?_)
    | (with_reducible refine T_aI_20 (by assumption) (by assumption) ?_ (fun _ _ _ => ?_))
    | (with_reducible refine T_aI_21 (by assumption) (by assumption) ?_ (fun _ _ _ => ?_))
    | (with_reducible refine T_aI_22 (by assumption) (by assumption) ?_ (fun _ _ _ => ?_))
    | (with_reducible refine T_aI_23 (by assumption) (by assumption) ?_ (fun _ _ _ => ?_))
    | (with_reducible refine T_aI_24 (by assumption) (by assumption) ?_ (fun _ _ _ => ?_))
    | (with_reducible refine kc_X11_slot ?_ (fun _ _ => ?_))
    | (with_reducible refine kc_X8_hasHouse (by assumption) (by assumption) ?_ (fun _ => ?_))
    | (with_reducible refine kc_X8_hasPerson (by assumption) (by assumption) ?_ (fun _ => ?_))
    | (refine ⟨fun _ => ?_, fun _ => ?_⟩)
    | fail)
  all_goals (first
    | (with_reducible assumption)
    | omega
    | (simp only [← Int32.toInt_inj, Int32.toInt_add, Int32.toInt_mul, Int32.toInt_sub, Int32.toInt_neg, apply_ite Int32.toInt, Int32.reduceToInt, Int32.le_iff_toInt_le, Int32.lt_iff_toInt_lt] at *; (try simp only [Int.bmod_add_bmod, Int.add_bmod_bmod, Int.bmod_mul_bmod, Int.mul_bmod_bmod, Int.sub_bmod_bmod, Int.bmod_sub_bmod] at *); (try simp (disch := omega) only [fb_bmod, true_and, and_true] at *); all_goals (first | omega | (simp only [Int.bmod_def] at *; omega) | omega)))
theorem kc_X8_rightsOf {q : Int32 → hS → Prop} {v w : Int32} (h : St Γ Φ S) (ha : Γ a = some (8, 8 + 10000 * i, i, 0, ρa)) (k : ∀ r, q r S) : w_X8_rightsOf q S a v w := by
  unfold w_X8_rightsOf
  repeat' (first
    | (exact absurd rfl ‹¬ (0 : Int32) = 0›)
    | (exact absurd ‹(1 : Int32) = 0› (by decide))
    | exact k _
    | (with_reducible refine T_gP_2_0 (by assumption) (by assumption) (fun _ _ _ => ?_))
    | (with_reducible refine T_gP_8_0 (by assumption) (by assumption) (fun _ _ _ => ?_))
    | (with_reducible refine T_oK_8 (by assumption) (by assumption) ?_)
    | (with_reducible refine T_aI_20 (by assumption) (by assumption) ?_ (fun _ _ _ => ?_))
    | (with_reducible refine T_aI_21 (by assumption) (by assumption) ?_ (fun _ _ _ => ?_))
    | (with_reducible refine T_aI_22 (by assumption) (by assumption) ?_ (fun _ _ _ => ?_))
    | (with_reducible refine T_aI_23 (by assumption) (by assumption) ?_ (fun _ _ _ => ?_))
    | (with_reducible refine T_aI_24 (by assumption) (by assumption) ?_ (fun _ _ _ => ?_))
    | (with_reducible refine kc_X11_slot ?_ (fun _ _ => ?_))
    | (with_reducible refine kc_X8_hasHouse (by assumption) (by assumption) ?_ (fun _ => ?_))
    | (with_reducible refine kc_X8_hasPerson (by assumption) (by assumption) ?_ (fun _ => ?_))
    | (refine ⟨fun _ => ?_, fun _ => ?_⟩)
    | fail)
  all_goals (first
    | (with_reducible assumption)
    | omega
    | (simp only [← Int32.toInt_inj, Int32.toInt_add, Int32.toInt_mul, Int32.toInt_sub, Int32.toInt_neg, apply_ite Int32.toInt, Int32.reduceToInt, Int32.le_iff_toInt_le, Int32.lt_iff_toInt_lt] at *; (try simp only [Int.bmod_add_bmod, Int.add_bmod_bmod, Int.bmod_mul_bmod, Int.mul_bmod_bmod, Int.sub_bmod_bmod, Int.bmod_sub_bmod] at *); (try simp (disch := omega) only [fb_bmod, true_and, and_true] at *); all_goals (first | omega | (simp only [Int.bmod_def] at *; omega) | omega)))
theorem kc_X8_usedOf {q : Int32 → hS → Prop} {v w : Int32} (h : St Γ Φ S) (ha : Γ a = some (8, 8 + 10000 * i, i, 0, ρa)) (k : ∀ r, q r S) : w_X8_usedOf q S a v w := by
  unfold w_X8_usedOf
  repeat' (first
    | (exact absurd rfl ‹¬ (0 : Int32) = 0›)
    | (exact absurd ‹(1 : Int32) = 0› (by decide))
    | exact k _
    | (with_reducible refine T_gP_2_1 (by assumption) (by assumption) (fun _ _ _ => ?_))
    | (with_reducible refine T_gP_8_0 (by assumption) (by assumption) (fun _ _ _ => ?_))
    | (with_reducible refine T_oK_8 (by assumption) (by assumption) ?_)
    | (with_reducible refine T_aI_20 (by assumption) (by assumption) ?_ (fun _ _ _ => ?_))
    | (with_reducible refine T_aI_21 (by assumption) (by assumption) ?_ (fun _ _ _ => ?_))
    | (with_reducible refine T_aI_22 (by assumption) (by assumption) ?_ (fun _ _ _ => ?_))
    | (with_reducible refine T_aI_23 (by assumption) (by assumption) ?_ (fun _ _ _ => ?_))
    | (with_reducible refine T_aI_24 (by assumption) (by assumption) ?_ (fun _ _ _ => ?_))
    | (with_reducible refine kc_X11_slot ?_ (fun _ _ => ?_))
    | (with_reducible refine kc_X8_hasHouse (by assumption) (by assumption) ?_ (fun _ => ?_))
    | (with_reducible refine kc_X8_hasPerson (by assumption) (by assumption) ?_ (fun _ => ?_))
    | (refine ⟨fun _ => ?_, fun _ => ?_⟩)
    | fail)
  all_goals (first
    | (with_reducible assumption)
    | omega
    | (simp only [← Int32.toInt_inj, Int32.toInt_add, Int32.toInt_mul, Int32.toInt_sub, Int32.toInt_neg, apply_ite Int32.toInt, Int32.reduceToInt, Int32.le_iff_toInt_le, Int32.lt_iff_toInt_lt] at *; (try simp only [Int.bmod_add_bmod, Int.add_bmod_bmod, Int.bmod_mul_bmod, Int.mul_bmod_bmod, Int.sub_bmod_bmod, Int.bmod_sub_bmod] at *); (try simp (disch := omega) only [fb_bmod, true_and, and_true] at *); all_goals (first | omega | (simp only [Int.bmod_def] at *; omega) | omega)))
theorem kc_X8_lives {q : Int32 → hS → Prop} {v : Int32} (h : St Γ Φ S) (ha : Γ a = some (8, 8 + 10000 * i, i, 0, ρa)) (h0 : q 0 S) (h1 : 0 ≤ v.toInt ∧ v.toInt < (fI S a 4).toInt ∧ v.toInt < 8 → q 1 S) : w_X8_lives q S a v := by
  unfold w_X8_lives
  repeat' (first
    | (exact absurd rfl ‹¬ (0 : Int32) = 0›)
    | (exact absurd ‹(1 : Int32) = 0› (by decide))
    | exact h0
    | exact h1 (by assumption)
    | (with_reducible refine T_gP_8_0 (by assumption) (by assumption) (fun _ _ _ => ?_))
    | (with_reducible refine T_gI_2_4 (by assumption) (by assumption) (fun _ _ _ => ?_))
    | (with_reducible refine T_oK_8 (by assumption) (by assumption) ?_)
    | (with_reducible refine kc_X11_hasBit ?_ ?_)
    | (with_reducible refine kc_X8_hasPerson (by assumption) (by assumption) ?_ (fun _ => ?_))
    | (refine ⟨fun _ => ?_, fun _ => ?_⟩)
    | fail)
theorem kc_X8_lawInForce {q : Option Nat → hS → Prop} (h : St Γ Φ S) (ha : Γ a = some (8, 8 + 10000 * i, i, 0, ρa)) (k : ∀ r, (∀ b, r = some b → isTx Γ b) → q r S) : w_X8_lawInForce q S a := by
  unfold w_X8_lawInForce
  repeat' (first
    | (exact absurd rfl ‹¬ (0 : Int32) = 0›)
    | (exact absurd ‹(1 : Int32) = 0› (by decide))
    | exact k none (fun b hb => by cases hb)
    | exact k _ (by assumption)
    | (with_reducible refine T_gP_8_15 (by assumption) (by assumption) (fun _ _ _ => ?_))
    | (with_reducible refine T_gI_8_14 (by assumption) (by assumption) (fun _ _ _ => ?_))
    | (with_reducible refine T_gI_8_16 (by assumption) (by assumption) (fun _ _ _ => ?_))
    | (with_reducible refine T_aR_28 (by assumption) (by assumption) ?_ (fun _ _ _ => ?_))
    | (refine ⟨fun _ => ?_, fun _ => ?_⟩)
    | fail)
  all_goals (first
    | (with_reducible assumption)
    | omega
    | (simp only [← Int32.toInt_inj, Int32.toInt_add, Int32.toInt_mul, Int32.toInt_sub, Int32.toInt_neg, apply_ite Int32.toInt, Int32.reduceToInt, Int32.le_iff_toInt_le, Int32.lt_iff_toInt_lt] at *; (try simp only [Int.bmod_add_bmod, Int.add_bmod_bmod, Int.bmod_mul_bmod, Int.mul_bmod_bmod, Int.sub_bmod_bmod, Int.bmod_sub_bmod] at *); (try simp (disch := omega) only [fb_bmod, true_and, and_true] at *); all_goals (first | omega | (simp only [Int.bmod_def] at *; omega) | omega)))
theorem kc_X0_setWords {q : hS → Prop} {v w t : Int32} (h : St Γ Φ S) (hf : fre Γ Φ [101]) (ha : Γ a = some (0, 0, 0, 0, ρa)) (hb : Γ b = some (8, 8 + 10000 * i, i, 0, ρb)) (k : ∀ S', St Γ Φ S' → q S') : w_X0_setWords q S a b v w t := by
  unfold w_X0_setWords
  repeat' (first
    | (exact absurd rfl ‹¬ (0 : Int32) = 0›)
    | (exact absurd ‹(1 : Int32) = 0› (by decide))
    | exact k _ (by assumption)
    | (with_reducible refine T_gP_0_1 (by assumption) (by assumption) (fun _ _ _ => ?_))
    | (with_reducible refine T_gP_2_2 (by assumption) (by assumption) (fun _ _ _ => ?_))
    | (with_reducible refine T_gP_2_3 (by assumption) (by assumption) (fun _ _ _ => ?_))
    | (with_reducible refine T_gP_8_0 (by assumption) (by assumption) (fun _ _ _ => ?_))
    | (with_reducible refine T_gP_8_6 (by assumption) (by assumption) (fun _ _ _ => ?_))
    | (with_reducible refine T_gI_2_5 (by assumption) (by assumption) (fun _ _ _ => ?_))
    | (with_reducible refine T_gI_8_13 (by assumption) (by assumption) (fun _ _ _ => ?_))
    | (with_reducible refine T_oK_8 (by assumption) (by assumption) ?_)
    | (with_reducible refine T_aI_20 (by assumption) (by assumption) ?_ (fun _ _ _ => ?_))
    | (with_reducible refine T_aI_21 (by assumption) (by assumption) ?_ (fun _ _ _ => ?_))
    | (with_reducible refine T_aI_22 (by assumption) (by assumption) ?_ (fun _ _ _ => ?_))
    | (with_reducible refine T_aI_23 (by assumption) (by assumption) ?_ (fun _ _ _ => ?_))
    | (with_reducible refine T_aI_24 (by assumption) (by assumption) ?_ (fun _ _ _ => ?_))
    | (with_reducible refine T_sI_20 (by assumption) (by assumption) (by assumption) (by simp) ?_ (fun _ _ _ _ _ _ => ?_))
    | (with_reducible refine T_sI_21 (by assumption) (by assumption) (by assumption) (by simp) ?_ ?_ (fun _ _ _ _ _ _ => ?_))
    | (with_reducible refine T_sI_22 (by assumption) (by assumption) (by assumption) (by simp) ?_ ?_ (fun _ _ _ _ _ _ => ?_))
    | (with_reducible refine T_sI_23 (by assumption) (by assumption) (by assumption) (by simp) ?_ ?_ (fun _ _ _ _ _ _ => ?_))
    | (with_reducible refine T_sI_24 (by assumption) (by assumption) (by assumption) (by simp) ?_ ?_ (fun _ _ _ _ _ _ => ?_))
    | (with_reducible refine kc_X8_hasHouse (by assumption) (by assumption) ?_ (fun _ => ?_))
    | (with_reducible refine kc_X8_hasPerson (by assumption) (by assumption) ?_ (fun _ => ?_))
    | (with_reducible refine kc_X8_leftOf (by assumption) (by assumption) (fun _ => ?_))
    | (unfold w_X0_setWords_b113)
    | (unfold w_X0_setWords_b92)
    | (unfold w_X0_setWords_b58)
    | (unfold w_X0_setWords_b34)
    | (refine ⟨fun _ => ?_, fun _ => ?_⟩)
    | fail)
  all_goals (first
    | (with_reducible assumption)
    | omega
    | (simp only [← Int32.toInt_inj, Int32.toInt_add, Int32.toInt_mul, Int32.toInt_sub, Int32.toInt_neg, apply_ite Int32.toInt, Int32.reduceToInt, Int32.le_iff_toInt_le, Int32.lt_iff_toInt_lt] at *; (try simp only [Int.bmod_add_bmod, Int.add_bmod_bmod, Int.bmod_mul_bmod, Int.mul_bmod_bmod, Int.sub_bmod_bmod, Int.bmod_sub_bmod] at *); (try simp (disch := omega) only [fb_bmod, true_and, and_true] at *); all_goals (first | omega | (simp only [Int.bmod_def] at *; omega) | omega)))
end SUB
