/-! LAYER 2, the class: its own methods -/
section MAIN
variable {Γ : kG} {Φ : kF} {S : hS} {a b c n o i : Nat} {ρa ρb ρd ρg : Nat → Nat} {κ rs : Nat} {tx : Nat → Nat}
theorem kc_X11_isWithin {q : Int32 → hS → Prop} {v w : Int32} (k0 : q 0 S) (k1 : (0 ≤ v.toInt ∧ v.toInt ≤ w.toInt) → q 1 S) : w_X11_isWithin q S v w := by
  unfold w_X11_isWithin
  repeat' (first
    | (exact absurd rfl ‹¬ (0 : Int32) = 0›)
    | (exact absurd ‹(1 : Int32) = 0› (by decide))
    | exact k0
    | refine k1 ?_
    | (refine ⟨fun _ => ?_, fun _ => ?_⟩)
    | fail)
  all_goals (first
    | (with_reducible assumption)
    | omega
    | (simp only [← Int32.toInt_inj, Int32.toInt_add, Int32.toInt_mul, Int32.toInt_sub, Int32.toInt_neg, apply_ite Int32.toInt, Int32.reduceToInt, Int32.le_iff_toInt_le, Int32.lt_iff_toInt_lt] at *; (try simp only [Int.bmod_add_bmod, Int.add_bmod_bmod, Int.bmod_mul_bmod, Int.mul_bmod_bmod, Int.sub_bmod_bmod, Int.bmod_sub_bmod] at *); (try simp (disch := omega) only [fb_bmod, true_and, and_true] at *); all_goals (first | omega | (simp only [Int.bmod_def] at *; omega) | omega)))
theorem kc_X11_refuse {q : Int32 → hS → Prop} {v : Int32} (h : St Γ Φ S) (hf : fre Γ Φ [11, 1216]) (ha : Γ a = some (11, 11, 0, rs, ρa)) (k : ∀ S', St Γ Φ S' → q v S') : w_X11_refuse q S a v := by
  unfold w_X11_refuse
  repeat' (first
    | (exact absurd rfl ‹¬ (0 : Int32) = 0›)
    | (exact absurd ‹(1 : Int32) = 0› (by decide))
    | exact k _ (by assumption)
    | (with_reducible refine T_gP_11_16 (by assumption) (by assumption) (fun _ _ _ => ?_))
    | (with_reducible refine T_pI_11_17 (by assumption) (by assumption) (by assumption) (by simp) (fun _ _ _ _ _ => ?_))
    | (with_reducible refine T_aI_20 (by assumption) (by assumption) ?_ (fun _ _ _ => ?_))
    | (with_reducible refine T_aI_21 (by assumption) (by assumption) ?_ (fun _ _ _ => ?_))
    | (with_reducible refine T_aI_22 (by assumption) (by assumption) ?_ (fun _ _ _ => ?_))
    | (with_reducible refine T_aI_23 (by assumption) (by assumption) ?_ (fun _ _ _ => ?_))
    | (with_reducible refine T_aI_24 (by assumption) (by assumption) ?_ (fun _ _ _ => ?_))
    | (with_reducible refine T_sI_20 (by assumption) (by assumption) (by assumption) (by simp) ?_ (fun _ _ _ _ _ _ => ?_))
    | (with_reducible refine T_sI_21 (by assumption) (by assumption) (by assumption) (by simp) ?_ ?_ (fun _ _ _ _ _ _ => ?_))
    | (with_reducible refine T_sI_22 (by assumption) (by assumption) (by assumption) (by simp) ?_ ?_ (fun _ _ _ _ _ _ => ?_))
    | (with_reducible refine T_sI_23 (by assumption) (by assumption) (by assumption) (by simp) ?_ ?_ (fun _ _ _ _ _ _ => ?_))
    | (with_reducible refine T_sI_24 (by assumption) (by assumption) (by assumption) (by simp) ?_ ?_ (fun _ _ _ _ _ _ => ?_))
    | (with_reducible refine T_aN_20 (by assumption) (by assumption) (fun _ _ => ?_))
    | (with_reducible refine T_aN_21 (by assumption) (by assumption) (fun _ _ => ?_))
    | (with_reducible refine T_aN_22 (by assumption) (by assumption) (fun _ _ => ?_))
    | (with_reducible refine T_aN_23 (by assumption) (by assumption) (fun _ _ => ?_))
    | (with_reducible refine T_aN_24 (by assumption) (by assumption) (fun _ _ => ?_))
    | (refine ⟨fun _ => ?_, fun _ => ?_⟩)
    | fail)
  all_goals (first
    | (with_reducible assumption)
    | omega
    | (simp only [← Int32.toInt_inj, Int32.toInt_add, Int32.toInt_mul, Int32.toInt_sub, Int32.toInt_neg, apply_ite Int32.toInt, Int32.reduceToInt, Int32.le_iff_toInt_le, Int32.lt_iff_toInt_lt] at *; (try simp only [Int.bmod_add_bmod, Int.add_bmod_bmod, Int.bmod_mul_bmod, Int.mul_bmod_bmod, Int.sub_bmod_bmod, Int.bmod_sub_bmod] at *); (try simp (disch := omega) only [fb_bmod, true_and, and_true] at *); all_goals (first | omega | (simp only [Int.bmod_def] at *; omega) | omega)))
theorem kc_X11_accept {q : Int32 → hS → Prop} {v : Int32} (h : St Γ Φ S) (hf : fre Γ Φ [11]) (ha : Γ a = some (11, 11, 0, rs, ρa)) (k : ∀ S', St Γ Φ S' → q v S') : w_X11_accept q S a v := by
  unfold w_X11_accept
  repeat' (first
    | (exact absurd rfl ‹¬ (0 : Int32) = 0›)
    | (exact absurd ‹(1 : Int32) = 0› (by decide))
    | exact k _ (by assumption)
    | (with_reducible refine T_pI_11_17 (by assumption) (by assumption) (by assumption) (by simp) (fun _ _ _ _ _ => ?_))
    | (refine ⟨fun _ => ?_, fun _ => ?_⟩)
    | fail)
theorem kc_X11_tell {q : Int32 → hS → Prop} {v : Int32} (h : St Γ Φ S) (hf : fre Γ Φ [11, 1216]) (ha : Γ a = some (11, 11, 0, rs, ρa)) (k : ∀ S', St Γ Φ S' → q v S') : w_X11_tell q S a v := by
  unfold w_X11_tell
  repeat' (first
    | (exact absurd rfl ‹¬ (0 : Int32) = 0›)
    | (exact absurd ‹(1 : Int32) = 0› (by decide))
    | exact k _ (by assumption)
    | (with_reducible refine T_oK_11 (by assumption) (by assumption) ?_)
    | (with_reducible refine kc_X11_accept (by assumption) (fre.sub (by assumption) (by simp)) (by assumption) (fun _ _ => ?_))
    | (with_reducible refine kc_X11_refuse (by assumption) (fre.sub (by assumption) (by simp)) (by assumption) (fun _ _ => ?_))
    | (refine ⟨fun _ => ?_, fun _ => ?_⟩)
    | fail)
theorem kc_X11_canSell {q : Int32 → hS → Prop} {v w t : Int32} (h : St Γ Φ S) (hf : fre Γ Φ [101, 700]) (ha : Γ a = some (11, 11, 0, rs, ρa)) (k : ∀ r S', St Γ Φ S' → q r S') : w_X11_canSell q S a v w t := by
  unfold w_X11_canSell
  repeat' (first
    | (exact absurd rfl ‹¬ (0 : Int32) = 0›)
    | (exact absurd ‹(1 : Int32) = 0› (by decide))
    | exact k _ _ (by assumption)
    | (with_reducible refine T_gP_11_0 (by assumption) (by assumption) (fun _ _ _ => ?_))
    | (with_reducible refine T_gP_11_7 (by assumption) (by assumption) (fun _ _ _ => ?_))
    | (with_reducible refine T_oK_1 (by assumption) (by assumption) ?_)
    | (with_reducible refine T_oK_8 (by assumption) (by assumption) ?_)
    | (with_reducible refine kc_X1_canBuy (by assumption) (fre.sub (by assumption) (by simp)) (by assumption) (by assumption) (fun _ _ => ?_) (fun _ _ _ => ?_))
    | (with_reducible refine kc_X8_leftOf (by assumption) (by assumption) (fun _ => ?_))
    | (refine ⟨fun _ => ?_, fun _ => ?_⟩)
    | fail)
theorem kc_X11_let {q : Int32 → hS → Prop} {v : Int32} (h : St Γ Φ S) (hf : fre Γ Φ [8, 2, 300, 301, 303, 905, 906, 907, 908]) (ha : Γ a = some (11, 11, 0, rs, ρa)) (hv : 0 ≤ v.toInt ∧ v.toInt < 400) (k : ∀ r S', St Γ Φ S' → q r S') : w_X11_let q S a v := by
  unfold w_X11_let
  repeat' (first
    | (exact absurd rfl ‹¬ (0 : Int32) = 0›)
    | (exact absurd ‹(1 : Int32) = 0› (by decide))
    | exact k _ _ (by assumption)
    | (with_reducible refine T_gP_11_0 (by assumption) (by assumption) (fun _ _ _ => ?_))
    | (with_reducible refine T_gP_11_4 (by assumption) (by assumption) (fun _ _ _ => ?_))
    | (with_reducible refine T_gP_9_0 (by assumption) (by assumption) (fun _ _ _ => ?_))
    | (with_reducible refine T_gI_8_4 (by assumption) (by assumption) (fun _ _ _ => ?_))
    | (with_reducible refine T_gI_9_1 (by assumption) (by assumption) (fun _ _ _ => ?_))
    | (with_reducible refine T_oK_8 (by assumption) (by assumption) ?_)
    | (with_reducible refine T_aI_20 (by assumption) (by assumption) ?_ (fun _ _ _ => ?_))
    | (with_reducible refine T_aI_21 (by assumption) (by assumption) ?_ (fun _ _ _ => ?_))
    | (with_reducible refine T_aI_22 (by assumption) (by assumption) ?_ (fun _ _ _ => ?_))
    | (with_reducible refine T_aI_23 (by assumption) (by assumption) ?_ (fun _ _ _ => ?_))
    | (with_reducible refine T_aI_24 (by assumption) (by assumption) ?_ (fun _ _ _ => ?_))
    | (with_reducible refine kc_X8_addPerson (by assumption) (by assumption) (fre.sub (by assumption) (by simp)) (fun _ _ _ => ?_))
    | (with_reducible refine T_y (fun _ _ _ => ?_))
    | (refine ⟨fun _ => ?_, fun _ => ?_⟩)
    | fail)
  all_goals (first
    | (with_reducible assumption)
    | omega
    | (simp only [← Int32.toInt_inj, Int32.toInt_add, Int32.toInt_mul, Int32.toInt_sub, Int32.toInt_neg, apply_ite Int32.toInt, Int32.reduceToInt, Int32.le_iff_toInt_le, Int32.lt_iff_toInt_lt] at *; (try simp only [Int.bmod_add_bmod, Int.add_bmod_bmod, Int.bmod_mul_bmod, Int.mul_bmod_bmod, Int.sub_bmod_bmod, Int.bmod_sub_bmod] at *); (try simp (disch := omega) only [fb_bmod, true_and, and_true] at *); all_goals (first | omega | (simp only [Int.bmod_def] at *; omega) | omega)))
theorem kc_X11_house {q : Int32 → hS → Prop} {v w : Int32} (h : St Γ Φ S) (hf : fre Γ Φ [11, 1216, 3, 8, 902, 903, 300, 301, 302]) (ha : Γ a = some (11, 11, 0, rs, ρa)) (k : ∀ r Γ' S', gro Γ Φ Γ' → St Γ' Φ S' → q r S') : w_X11_house q S a v w := by
  unfold w_X11_house
  repeat' (first
    | (exact absurd rfl ‹¬ (0 : Int32) = 0›)
    | (exact absurd ‹(1 : Int32) = 0› (by decide))
    | exact k _ _ _ gro_rf (by assumption)
    | (with_reducible refine T_gP_11_0 (by assumption) (by assumption) (fun _ _ _ => ?_))
    | (with_reducible refine T_gP_11_3 (by assumption) (by assumption) (fun _ _ _ => ?_))
    | (with_reducible refine T_gI_8_1 (by assumption) (by assumption) (fun _ _ _ => ?_))
    | (with_reducible refine T_oK_11 (by assumption) (by assumption) ?_)
    | (with_reducible refine T_oK_3 (by assumption) (by assumption) ?_)
    | (with_reducible refine T_oK_8 (by assumption) (by assumption) ?_)
    | (with_reducible refine kc_X11_accept (by assumption) (fre.sub (by assumption) (by simp)) (by assumption) (fun _ _ => ?_))
    | (with_reducible refine kc_X11_isWithin ?_ (fun _ => ?_))
    | (with_reducible refine kc_X11_refuse (by assumption) (fre.sub (by assumption) (by simp)) (by assumption) (fun _ _ => ?_))
    | (with_reducible refine kc_X3_clear (by assumption) (fre.sub (by assumption) (by simp)) (by assumption) (fun _ _ => ?_))
    | (with_reducible refine kc_X8_addHouse (by assumption) (by assumption) (fre.sub (by assumption) (by simp)) (fun _ _ _ => ?_))
    | (unfold w_X11_house_b18)
    | (refine ⟨fun _ => ?_, fun _ => ?_⟩)
    | fail)
  all_goals (first
    | (with_reducible assumption)
    | omega
    | (simp only [← Int32.toInt_inj, Int32.toInt_add, Int32.toInt_mul, Int32.toInt_sub, Int32.toInt_neg, apply_ite Int32.toInt, Int32.reduceToInt, Int32.le_iff_toInt_le, Int32.lt_iff_toInt_lt] at *; (try simp only [Int.bmod_add_bmod, Int.add_bmod_bmod, Int.bmod_mul_bmod, Int.mul_bmod_bmod, Int.sub_bmod_bmod, Int.bmod_sub_bmod] at *); (try simp (disch := omega) only [fb_bmod, true_and, and_true] at *); all_goals (first | omega | (simp only [Int.bmod_def] at *; omega) | omega)))
theorem kc_X11_at {q : Int32 → hS → Prop} {v w : Int32} (h : St Γ Φ S) (hf : fre Γ Φ [101, 700]) (ha : Γ a = some (11, 11, 0, rs, ρa)) (k : ∀ r Γ' S', gro Γ Φ Γ' → St Γ' Φ S' → q r S') : w_X11_at q S a v w := by
  unfold w_X11_at
  repeat' (first
    | (exact absurd rfl ‹¬ (0 : Int32) = 0›)
    | (exact absurd ‹(1 : Int32) = 0› (by decide))
    | exact k _ _ _ gro_rf (by assumption)
    | (with_reducible refine T_gP_11_0 (by assumption) (by assumption) (fun _ _ _ => ?_))
    | (with_reducible refine T_gP_11_6 (by assumption) (by assumption) (fun _ _ _ => ?_))
    | (with_reducible refine T_gP_2_2 (by assumption) (by assumption) (fun _ _ _ => ?_))
    | (with_reducible refine T_gP_8_0 (by assumption) (by assumption) (fun _ _ _ => ?_))
    | (with_reducible refine T_gP_8_2 (by assumption) (by assumption) (fun _ _ _ => ?_))
    | (with_reducible refine T_gP_8_3 (by assumption) (by assumption) (fun _ _ _ => ?_))
    | (with_reducible refine T_gI_2_5 (by assumption) (by assumption) (fun _ _ _ => ?_))
    | (with_reducible refine T_oK_0 (by assumption) (by assumption) ?_)
    | (with_reducible refine T_oK_8 (by assumption) (by assumption) ?_)
    | (with_reducible refine T_aI_20 (by assumption) (by assumption) ?_ (fun _ _ _ => ?_))
    | (with_reducible refine T_aI_21 (by assumption) (by assumption) ?_ (fun _ _ _ => ?_))
    | (with_reducible refine T_aI_22 (by assumption) (by assumption) ?_ (fun _ _ _ => ?_))
    | (with_reducible refine T_aI_23 (by assumption) (by assumption) ?_ (fun _ _ _ => ?_))
    | (with_reducible refine T_aI_24 (by assumption) (by assumption) ?_ (fun _ _ _ => ?_))
    | (with_reducible refine kc_X0_worthIn (by assumption) (fre.sub (by assumption) (by simp)) (by assumption) (by assumption) (fun _ _ _ => ?_))
    | (with_reducible refine kc_X8_allRightsTo (by assumption) (by assumption) (fun _ => ?_))
    | (with_reducible refine kc_X8_hasHouse (by assumption) (by assumption) ?_ (fun _ => ?_))
    | (with_reducible refine T_y (fun _ _ _ => ?_))
    | (refine ⟨fun _ => ?_, fun _ => ?_⟩)
    | (refine ⟨fun _ => ?_, ?_⟩)
    | (refine fun (_ : _ ∨ _) => ?_)
    | fail)
  all_goals (first
    | (with_reducible assumption)
    | omega
    | (simp only [← Int32.toInt_inj, Int32.toInt_add, Int32.toInt_mul, Int32.toInt_sub, Int32.toInt_neg, apply_ite Int32.toInt, Int32.reduceToInt, Int32.le_iff_toInt_le, Int32.lt_iff_toInt_lt] at *; (try simp only [Int.bmod_add_bmod, Int.add_bmod_bmod, Int.bmod_mul_bmod, Int.mul_bmod_bmod, Int.sub_bmod_bmod, Int.bmod_sub_bmod] at *); (try simp (disch := omega) only [fb_bmod, true_and, and_true] at *); all_goals (first | omega | (simp only [Int.bmod_def] at *; omega) | omega)))
theorem kc_X11_person {q : Int32 → hS → Prop} {v w t : Int32} (h : St Γ Φ S) (hf : fre Γ Φ [11, 1216, 3, 8, 2, 300, 301, 303, 905, 906, 907, 908]) (ha : Γ a = some (11, 11, 0, rs, ρa)) (k : ∀ r Γ' S', gro Γ Φ Γ' → St Γ' Φ S' → q r S') : w_X11_person q S a v w t := by
  unfold w_X11_person
  repeat' (first
    | (exact absurd rfl ‹¬ (0 : Int32) = 0›)
    | (exact absurd ‹(1 : Int32) = 0› (by decide))
    | exact k _ _ _ gro_rf (by assumption)
    | (with_reducible refine T_gP_11_0 (by assumption) (by assumption) (fun _ _ _ => ?_))
    | (with_reducible refine T_gP_11_3 (by assumption) (by assumption) (fun _ _ _ => ?_))
    | (with_reducible refine T_gI_8_4 (by assumption) (by assumption) (fun _ _ _ => ?_))
    | (with_reducible refine T_oK_11 (by assumption) (by assumption) ?_)
    | (with_reducible refine T_oK_3 (by assumption) (by assumption) ?_)
    | (with_reducible refine T_oK_8 (by assumption) (by assumption) ?_)
    | (with_reducible refine kc_X11_accept (by assumption) (fre.sub (by assumption) (by simp)) (by assumption) (fun _ _ => ?_))
    | (with_reducible refine kc_X11_isWithin ?_ (fun _ => ?_))
    | (with_reducible refine kc_X11_refuse (by assumption) (fre.sub (by assumption) (by simp)) (by assumption) (fun _ _ => ?_))
    | (with_reducible refine kc_X3_clear (by assumption) (fre.sub (by assumption) (by simp)) (by assumption) (fun _ _ => ?_))
    | (with_reducible refine kc_X8_addPerson (by assumption) (by assumption) (fre.sub (by assumption) (by simp)) (fun _ _ _ => ?_))
    | (unfold w_X11_person_b28)
    | (refine ⟨fun _ => ?_, fun _ => ?_⟩)
    | fail)
  all_goals (first
    | (with_reducible assumption)
    | omega
    | (simp only [← Int32.toInt_inj, Int32.toInt_add, Int32.toInt_mul, Int32.toInt_sub, Int32.toInt_neg, apply_ite Int32.toInt, Int32.reduceToInt, Int32.le_iff_toInt_le, Int32.lt_iff_toInt_lt] at *; (try simp only [Int.bmod_add_bmod, Int.add_bmod_bmod, Int.bmod_mul_bmod, Int.mul_bmod_bmod, Int.sub_bmod_bmod, Int.bmod_sub_bmod] at *); (try simp (disch := omega) only [fb_bmod, true_and, and_true] at *); all_goals (first | omega | (simp only [Int.bmod_def] at *; omega) | omega)))
theorem kc_X11_of {q : Int32 → hS → Prop} {v w : Int32} (h : St Γ Φ S) (hf : fre Γ Φ []) (ha : Γ a = some (11, 11, 0, rs, ρa)) (k : ∀ r Γ' S', gro Γ Φ Γ' → St Γ' Φ S' → q r S') : w_X11_of q S a v w := by
  unfold w_X11_of
  repeat' (first
    | (exact absurd rfl ‹¬ (0 : Int32) = 0›)
    | (exact absurd ‹(1 : Int32) = 0› (by decide))
    | exact k _ _ _ gro_rf (by assumption)
    | (with_reducible refine T_gP_11_0 (by assumption) (by assumption) (fun _ _ _ => ?_))
    | (with_reducible refine T_gP_2_3 (by assumption) (by assumption) (fun _ _ _ => ?_))
    | (with_reducible refine T_gP_8_0 (by assumption) (by assumption) (fun _ _ _ => ?_))
    | (with_reducible refine T_gP_8_5 (by assumption) (by assumption) (fun _ _ _ => ?_))
    | (with_reducible refine T_gP_8_6 (by assumption) (by assumption) (fun _ _ _ => ?_))
    | (with_reducible refine T_gP_8_7 (by assumption) (by assumption) (fun _ _ _ => ?_))
    | (with_reducible refine T_gP_8_8 (by assumption) (by assumption) (fun _ _ _ => ?_))
    | (with_reducible refine T_oK_8 (by assumption) (by assumption) ?_)
    | (with_reducible refine T_aI_20 (by assumption) (by assumption) ?_ (fun _ _ _ => ?_))
    | (with_reducible refine T_aI_21 (by assumption) (by assumption) ?_ (fun _ _ _ => ?_))
    | (with_reducible refine T_aI_22 (by assumption) (by assumption) ?_ (fun _ _ _ => ?_))
    | (with_reducible refine T_aI_23 (by assumption) (by assumption) ?_ (fun _ _ _ => ?_))
    | (with_reducible refine T_aI_24 (by assumption) (by assumption) ?_ (fun _ _ _ => ?_))
    | (with_reducible refine kc_X8_hasPerson (by assumption) (by assumption) ?_ (fun _ => ?_))
    | (with_reducible refine kc_X8_lives (by assumption) (by assumption) ?_ (fun _ => ?_))
    | (with_reducible refine T_y (fun _ _ _ => ?_))
    | (refine ⟨fun _ => ?_, fun _ => ?_⟩)
    | (refine ⟨fun _ => ?_, ?_⟩)
    | (refine fun (_ : _ ∨ _) => ?_)
    | fail)
  all_goals (first
    | (with_reducible assumption)
    | omega
    | (simp only [← Int32.toInt_inj, Int32.toInt_add, Int32.toInt_mul, Int32.toInt_sub, Int32.toInt_neg, apply_ite Int32.toInt, Int32.reduceToInt, Int32.le_iff_toInt_le, Int32.lt_iff_toInt_lt] at *; (try simp only [Int.bmod_add_bmod, Int.add_bmod_bmod, Int.bmod_mul_bmod, Int.mul_bmod_bmod, Int.sub_bmod_bmod, Int.bmod_sub_bmod] at *); (try simp (disch := omega) only [fb_bmod, true_and, and_true] at *); all_goals (first | omega | (simp only [Int.bmod_def] at *; omega) | omega)))
theorem kc_X11_want {q : Int32 → hS → Prop} {v w : Int32} (h : St Γ Φ S) (hf : fre Γ Φ [11, 1216, 907]) (ha : Γ a = some (11, 11, 0, rs, ρa)) (k : ∀ r Γ' S', gro Γ Φ Γ' → St Γ' Φ S' → q r S') : w_X11_want q S a v w := by
  unfold w_X11_want
  repeat' (first
    | (exact absurd rfl ‹¬ (0 : Int32) = 0›)
    | (exact absurd ‹(1 : Int32) = 0› (by decide))
    | exact k _ _ _ gro_rf (by assumption)
    | (with_reducible refine T_gP_11_0 (by assumption) (by assumption) (fun _ _ _ => ?_))
    | (with_reducible refine T_gP_8_7 (by assumption) (by assumption) (fun _ _ _ => ?_))
    | (with_reducible refine T_oK_11 (by assumption) (by assumption) ?_)
    | (with_reducible refine T_oK_8 (by assumption) (by assumption) ?_)
    | (with_reducible refine T_sI_20 (by assumption) (by assumption) (by assumption) (by simp) ?_ (fun _ _ _ _ _ _ => ?_))
    | (with_reducible refine T_sI_21 (by assumption) (by assumption) (by assumption) (by simp) ?_ ?_ (fun _ _ _ _ _ _ => ?_))
    | (with_reducible refine T_sI_22 (by assumption) (by assumption) (by assumption) (by simp) ?_ ?_ (fun _ _ _ _ _ _ => ?_))
    | (with_reducible refine T_sI_23 (by assumption) (by assumption) (by assumption) (by simp) ?_ ?_ (fun _ _ _ _ _ _ => ?_))
    | (with_reducible refine T_sI_24 (by assumption) (by assumption) (by assumption) (by simp) ?_ ?_ (fun _ _ _ _ _ _ => ?_))
    | (with_reducible refine kc_X11_accept (by assumption) (fre.sub (by assumption) (by simp)) (by assumption) (fun _ _ => ?_))
    | (with_reducible refine kc_X11_refuse (by assumption) (fre.sub (by assumption) (by simp)) (by assumption) (fun _ _ => ?_))
    | (with_reducible refine kc_X8_hasHouse (by assumption) (by assumption) ?_ (fun _ => ?_))
    | (with_reducible refine kc_X8_hasPerson (by assumption) (by assumption) ?_ (fun _ => ?_))
    | (unfold w_X11_want_b22)
    | (refine ⟨fun _ => ?_, fun _ => ?_⟩)
    | fail)
  all_goals (first
    | (with_reducible assumption)
    | omega
    | (simp only [← Int32.toInt_inj, Int32.toInt_add, Int32.toInt_mul, Int32.toInt_sub, Int32.toInt_neg, apply_ite Int32.toInt, Int32.reduceToInt, Int32.le_iff_toInt_le, Int32.lt_iff_toInt_lt] at *; (try simp only [Int.bmod_add_bmod, Int.add_bmod_bmod, Int.bmod_mul_bmod, Int.mul_bmod_bmod, Int.sub_bmod_bmod, Int.bmod_sub_bmod] at *); (try simp (disch := omega) only [fb_bmod, true_and, and_true] at *); all_goals (first | omega | (simp only [Int.bmod_def] at *; omega) | omega)))
theorem kc_X11_will {q : Int32 → hS → Prop} {v w : Int32} (h : St Γ Φ S) (hf : fre Γ Φ [11, 1216, 908]) (ha : Γ a = some (11, 11, 0, rs, ρa)) (k : ∀ r Γ' S', gro Γ Φ Γ' → St Γ' Φ S' → q r S') : w_X11_will q S a v w := by
  unfold w_X11_will
  repeat' (first
    | (exact absurd rfl ‹¬ (0 : Int32) = 0›)
    | (exact absurd ‹(1 : Int32) = 0› (by decide))
    | exact k _ _ _ gro_rf (by assumption)
    | (with_reducible refine T_gP_11_0 (by assumption) (by assumption) (fun _ _ _ => ?_))
    | (with_reducible refine T_gP_8_8 (by assumption) (by assumption) (fun _ _ _ => ?_))
    | (with_reducible refine T_gI_8_4 (by assumption) (by assumption) (fun _ _ _ => ?_))
    | (with_reducible refine T_oK_11 (by assumption) (by assumption) ?_)
    | (with_reducible refine T_oK_8 (by assumption) (by assumption) ?_)
    | (with_reducible refine T_aI_20 (by assumption) (by assumption) ?_ (fun _ _ _ => ?_))
    | (with_reducible refine T_aI_21 (by assumption) (by assumption) ?_ (fun _ _ _ => ?_))
    | (with_reducible refine T_aI_22 (by assumption) (by assumption) ?_ (fun _ _ _ => ?_))
    | (with_reducible refine T_aI_23 (by assumption) (by assumption) ?_ (fun _ _ _ => ?_))
    | (with_reducible refine T_aI_24 (by assumption) (by assumption) ?_ (fun _ _ _ => ?_))
    | (with_reducible refine T_sI_20 (by assumption) (by assumption) (by assumption) (by simp) ?_ (fun _ _ _ _ _ _ => ?_))
    | (with_reducible refine T_sI_21 (by assumption) (by assumption) (by assumption) (by simp) ?_ ?_ (fun _ _ _ _ _ _ => ?_))
    | (with_reducible refine T_sI_22 (by assumption) (by assumption) (by assumption) (by simp) ?_ ?_ (fun _ _ _ _ _ _ => ?_))
    | (with_reducible refine T_sI_23 (by assumption) (by assumption) (by assumption) (by simp) ?_ ?_ (fun _ _ _ _ _ _ => ?_))
    | (with_reducible refine T_sI_24 (by assumption) (by assumption) (by assumption) (by simp) ?_ ?_ (fun _ _ _ _ _ _ => ?_))
    | (with_reducible refine kc_X11_accept (by assumption) (fre.sub (by assumption) (by simp)) (by assumption) (fun _ _ => ?_))
    | (with_reducible refine kc_X11_hasBit ?_ ?_)
    | (with_reducible refine kc_X11_refuse (by assumption) (fre.sub (by assumption) (by simp)) (by assumption) (fun _ _ => ?_))
    | (with_reducible refine kc_X8_hasPerson (by assumption) (by assumption) ?_ (fun _ => ?_))
    | (unfold w_X11_will_b50)
    | (unfold w_X11_will_b56)
    | (unfold w_X11_will_b31)
    | (unfold w_X11_will_b26)
    | (refine ⟨fun _ => ?_, fun _ => ?_⟩)
    | fail)
  all_goals (first
    | (with_reducible assumption)
    | omega
    | (simp only [← Int32.toInt_inj, Int32.toInt_add, Int32.toInt_mul, Int32.toInt_sub, Int32.toInt_neg, apply_ite Int32.toInt, Int32.reduceToInt, Int32.le_iff_toInt_le, Int32.lt_iff_toInt_lt] at *; (try simp only [Int.bmod_add_bmod, Int.add_bmod_bmod, Int.bmod_mul_bmod, Int.mul_bmod_bmod, Int.sub_bmod_bmod, Int.bmod_sub_bmod] at *); (try simp (disch := omega) only [fb_bmod, true_and, and_true] at *); all_goals (first | omega | (simp only [Int.bmod_def] at *; omega) | omega)))
theorem kc_X11_right {q : Int32 → hS → Prop} {v w t : Int32} (h : St Γ Φ S) (hf : fre Γ Φ [11, 1216, 300, 3]) (ha : Γ a = some (11, 11, 0, rs, ρa)) (k : ∀ r Γ' S', gro Γ Φ Γ' → St Γ' Φ S' → q r S') : w_X11_right q S a v w t := by
  unfold w_X11_right
  repeat' (first
    | (exact absurd rfl ‹¬ (0 : Int32) = 0›)
    | (exact absurd ‹(1 : Int32) = 0› (by decide))
    | exact k _ _ _ gro_rf (by assumption)
    | (with_reducible refine T_gP_11_0 (by assumption) (by assumption) (fun _ _ _ => ?_))
    | (with_reducible refine T_gP_11_3 (by assumption) (by assumption) (fun _ _ _ => ?_))
    | (with_reducible refine T_gP_2_0 (by assumption) (by assumption) (fun _ _ _ => ?_))
    | (with_reducible refine T_gP_8_0 (by assumption) (by assumption) (fun _ _ _ => ?_))
    | (with_reducible refine T_oK_11 (by assumption) (by assumption) ?_)
    | (with_reducible refine T_oK_3 (by assumption) (by assumption) ?_)
    | (with_reducible refine T_oK_8 (by assumption) (by assumption) ?_)
    | (with_reducible refine T_sI_20 (by assumption) (by assumption) (by assumption) (by simp) ?_ (fun _ _ _ _ _ _ => ?_))
    | (with_reducible refine T_sI_21 (by assumption) (by assumption) (by assumption) (by simp) ?_ ?_ (fun _ _ _ _ _ _ => ?_))
    | (with_reducible refine T_sI_22 (by assumption) (by assumption) (by assumption) (by simp) ?_ ?_ (fun _ _ _ _ _ _ => ?_))
    | (with_reducible refine T_sI_23 (by assumption) (by assumption) (by assumption) (by simp) ?_ ?_ (fun _ _ _ _ _ _ => ?_))
    | (with_reducible refine T_sI_24 (by assumption) (by assumption) (by assumption) (by simp) ?_ ?_ (fun _ _ _ _ _ _ => ?_))
    | (with_reducible refine kc_X11_accept (by assumption) (fre.sub (by assumption) (by simp)) (by assumption) (fun _ _ => ?_))
    | (with_reducible refine kc_X11_isWithin ?_ (fun _ => ?_))
    | (with_reducible refine kc_X11_refuse (by assumption) (fre.sub (by assumption) (by simp)) (by assumption) (fun _ _ => ?_))
    | (with_reducible refine kc_X11_slot ?_ (fun _ _ => ?_))
    | (with_reducible refine kc_X3_clear (by assumption) (fre.sub (by assumption) (by simp)) (by assumption) (fun _ _ => ?_))
    | (with_reducible refine kc_X8_hasHouse (by assumption) (by assumption) ?_ (fun _ => ?_))
    | (with_reducible refine kc_X8_hasPerson (by assumption) (by assumption) ?_ (fun _ => ?_))
    | (with_reducible refine kc_X8_lives (by assumption) (by assumption) ?_ (fun _ => ?_))
    | (with_reducible refine kc_X8_rightsOf (by assumption) (by assumption) (fun _ => ?_))
    | (with_reducible refine kc_X8_usedOf (by assumption) (by assumption) (fun _ => ?_))
    | (unfold w_X11_right_b37)
    | (unfold w_X11_right_b68)
    | (refine ⟨fun _ => ?_, fun _ => ?_⟩)
    | fail)
  all_goals (first
    | (with_reducible assumption)
    | omega
    | (simp only [← Int32.toInt_inj, Int32.toInt_add, Int32.toInt_mul, Int32.toInt_sub, Int32.toInt_neg, apply_ite Int32.toInt, Int32.reduceToInt, Int32.le_iff_toInt_le, Int32.lt_iff_toInt_lt] at *; (try simp only [Int.bmod_add_bmod, Int.add_bmod_bmod, Int.bmod_mul_bmod, Int.mul_bmod_bmod, Int.sub_bmod_bmod, Int.bmod_sub_bmod] at *); (try simp (disch := omega) only [fb_bmod, true_and, and_true] at *); all_goals (first | omega | (simp only [Int.bmod_def] at *; omega) | omega)))
theorem kc_X11_has {q : Int32 → hS → Prop} {v w t : Int32} (h : St Γ Φ S) (hf : fre Γ Φ [101, 700]) (ha : Γ a = some (11, 11, 0, rs, ρa)) (k : ∀ r Γ' S', gro Γ Φ Γ' → St Γ' Φ S' → q r S') : w_X11_has q S a v w t := by
  unfold w_X11_has
  repeat' (first
    | (exact absurd rfl ‹¬ (0 : Int32) = 0›)
    | (exact absurd ‹(1 : Int32) = 0› (by decide))
    | exact k _ _ _ gro_rf (by assumption)
    | (with_reducible refine T_gP_11_0 (by assumption) (by assumption) (fun _ _ _ => ?_))
    | (with_reducible refine T_gP_11_6 (by assumption) (by assumption) (fun _ _ _ => ?_))
    | (with_reducible refine T_oK_0 (by assumption) (by assumption) ?_)
    | (with_reducible refine T_oK_8 (by assumption) (by assumption) ?_)
    | (with_reducible refine kc_X0_opensTo (by assumption) (fre.sub (by assumption) (by simp)) (by assumption) (by assumption) (fun _ _ => ?_) (fun _ _ => ?_))
    | (with_reducible refine kc_X0_tiring (by assumption) (fre.sub (by assumption) (by simp)) (by assumption) (by assumption) (fun _ _ _ => ?_))
    | (with_reducible refine kc_X8_hasHouse (by assumption) (by assumption) ?_ (fun _ => ?_))
    | (with_reducible refine kc_X8_hasPerson (by assumption) (by assumption) ?_ (fun _ => ?_))
    | (with_reducible refine kc_X8_leftOf (by assumption) (by assumption) (fun _ => ?_))
    | (with_reducible refine kc_X8_rightsOf (by assumption) (by assumption) (fun _ => ?_))
    | (with_reducible refine kc_X8_usedOf (by assumption) (by assumption) (fun _ => ?_))
    | (with_reducible refine T_y (fun _ _ _ => ?_))
    | (refine ⟨fun _ => ?_, fun _ => ?_⟩)
    | (refine ⟨fun _ => ?_, ?_⟩)
    | (refine fun (_ : _ ∨ _) => ?_)
    | fail)
  all_goals (first
    | (with_reducible assumption)
    | omega
    | (simp only [← Int32.toInt_inj, Int32.toInt_add, Int32.toInt_mul, Int32.toInt_sub, Int32.toInt_neg, apply_ite Int32.toInt, Int32.reduceToInt, Int32.le_iff_toInt_le, Int32.lt_iff_toInt_lt] at *; (try simp only [Int.bmod_add_bmod, Int.add_bmod_bmod, Int.bmod_mul_bmod, Int.mul_bmod_bmod, Int.sub_bmod_bmod, Int.bmod_sub_bmod] at *); (try simp (disch := omega) only [fb_bmod, true_and, and_true] at *); all_goals (first | omega | (simp only [Int.bmod_def] at *; omega) | omega)))
theorem kc_X11_asks {q : Int32 → hS → Prop} {v w t e : Int32} (h : St Γ Φ S) (hf : fre Γ Φ [101, 700]) (ha : Γ a = some (11, 11, 0, rs, ρa)) (k : ∀ r Γ' S', gro Γ Φ Γ' → St Γ' Φ S' → q r S') : w_X11_asks q S a v w t e := by
  unfold w_X11_asks
  repeat' (first
    | (exact absurd rfl ‹¬ (0 : Int32) = 0›)
    | (exact absurd ‹(1 : Int32) = 0› (by decide))
    | exact k _ _ _ gro_rf (by assumption)
    | (with_reducible refine T_gP_11_0 (by assumption) (by assumption) (fun _ _ _ => ?_))
    | (with_reducible refine T_gP_11_6 (by assumption) (by assumption) (fun _ _ _ => ?_))
    | (with_reducible refine T_oK_0 (by assumption) (by assumption) ?_)
    | (with_reducible refine T_oK_11 (by assumption) (by assumption) ?_)
    | (with_reducible refine T_oK_8 (by assumption) (by assumption) ?_)
    | (with_reducible refine kc_X0_isBarred (by assumption) (fre.sub (by assumption) (by simp)) (by assumption) (by assumption) (fun _ _ => ?_) (fun _ _ => ?_))
    | (with_reducible refine kc_X0_price (by assumption) (fre.sub (by assumption) (by simp)) (by assumption) (by assumption) (fun _ _ _ => ?_))
    | (with_reducible refine kc_X11_canSell (by assumption) (fre.sub (by assumption) (by simp)) (by assumption) (fun _ _ _ => ?_))
    | (with_reducible refine kc_X8_hasHouse (by assumption) (by assumption) ?_ (fun _ => ?_))
    | (with_reducible refine kc_X8_hasPerson (by assumption) (by assumption) ?_ (fun _ => ?_))
    | (with_reducible refine T_y (fun _ _ _ => ?_))
    | (refine ⟨fun _ => ?_, fun _ => ?_⟩)
    | (refine ⟨fun _ => ?_, ?_⟩)
    | (refine fun (_ : _ ∨ _) => ?_)
    | fail)
  all_goals (first
    | (with_reducible assumption)
    | omega
    | (simp only [← Int32.toInt_inj, Int32.toInt_add, Int32.toInt_mul, Int32.toInt_sub, Int32.toInt_neg, apply_ite Int32.toInt, Int32.reduceToInt, Int32.le_iff_toInt_le, Int32.lt_iff_toInt_lt] at *; (try simp only [Int.bmod_add_bmod, Int.add_bmod_bmod, Int.bmod_mul_bmod, Int.mul_bmod_bmod, Int.sub_bmod_bmod, Int.bmod_sub_bmod] at *); (try simp (disch := omega) only [fb_bmod, true_and, and_true] at *); all_goals (first | omega | (simp only [Int.bmod_def] at *; omega) | omega)))
theorem kc_X11_terms {q : Int32 → hS → Prop} {v w : Int32} (h : St Γ Φ S) (hf : fre Γ Φ [11, 1216, 2, 8, 3]) (ha : Γ a = some (11, 11, 0, rs, ρa)) (k : ∀ r Γ' S', gro Γ Φ Γ' → St Γ' Φ S' → q r S') : w_X11_terms q S a v w := by
  unfold w_X11_terms
  repeat' (first
    | (exact absurd rfl ‹¬ (0 : Int32) = 0›)
    | (exact absurd ‹(1 : Int32) = 0› (by decide))
    | exact k _ _ _ gro_rf (by assumption)
    | (with_reducible refine T_gP_11_0 (by assumption) (by assumption) (fun _ _ _ => ?_))
    | (with_reducible refine T_gP_11_3 (by assumption) (by assumption) (fun _ _ _ => ?_))
    | (with_reducible refine T_gP_8_0 (by assumption) (by assumption) (fun _ _ _ => ?_))
    | (with_reducible refine T_gI_2_5 (by assumption) (by assumption) (fun _ _ _ => ?_))
    | (with_reducible refine T_gI_8_12 (by assumption) (by assumption) (fun _ _ _ => ?_))
    | (with_reducible refine T_gI_8_13 (by assumption) (by assumption) (fun _ _ _ => ?_))
    | (with_reducible refine T_pI_2_5 (by assumption) (by assumption) (by assumption) (by simp) (fun _ _ _ _ _ => ?_))
    | (with_reducible refine T_pI_8_12 (by assumption) (by assumption) (by assumption) (by simp) (fun _ _ _ _ _ => ?_))
    | (with_reducible refine T_pI_8_13 (by assumption) (by assumption) (by assumption) (by simp) (fun _ _ _ _ _ => ?_))
    | (with_reducible refine T_oK_11 (by assumption) (by assumption) ?_)
    | (with_reducible refine T_oK_3 (by assumption) (by assumption) ?_)
    | (with_reducible refine kc_X11_accept (by assumption) (fre.sub (by assumption) (by simp)) (by assumption) (fun _ _ => ?_))
    | (with_reducible refine kc_X11_isWithin ?_ (fun _ => ?_))
    | (with_reducible refine kc_X11_refuse (by assumption) (fre.sub (by assumption) (by simp)) (by assumption) (fun _ _ => ?_))
    | (with_reducible refine kc_X3_clear (by assumption) (fre.sub (by assumption) (by simp)) (by assumption) (fun _ _ => ?_))
    | (unfold w_X11_terms_b105)
    | (unfold w_X11_terms_b111)
    | (unfold w_X11_terms_b72)
    | (unfold w_X11_terms_b39)
    | (refine ⟨fun _ => ?_, fun _ => ?_⟩)
    | fail)
  all_goals (first
    | (with_reducible assumption)
    | omega
    | (simp only [← Int32.toInt_inj, Int32.toInt_add, Int32.toInt_mul, Int32.toInt_sub, Int32.toInt_neg, apply_ite Int32.toInt, Int32.reduceToInt, Int32.le_iff_toInt_le, Int32.lt_iff_toInt_lt] at *; (try simp only [Int.bmod_add_bmod, Int.add_bmod_bmod, Int.bmod_mul_bmod, Int.mul_bmod_bmod, Int.sub_bmod_bmod, Int.bmod_sub_bmod] at *); (try simp (disch := omega) only [fb_bmod, true_and, and_true] at *); all_goals (first | omega | (simp only [Int.bmod_def] at *; omega) | omega)))
theorem kc_X11_feed {q : Int32 → hS → Prop} {v w t e f : Int32} (h : St Γ Φ S) (hf : fre Γ Φ [9, 1000]) (ha : Γ a = some (11, 11, 0, rs, ρa)) (k : ∀ r Γ' S', gro Γ Φ Γ' → St Γ' Φ S' → q r S') : w_X11_feed q S a v w t e f := by
  unfold w_X11_feed
  repeat' (first
    | (exact absurd rfl ‹¬ (0 : Int32) = 0›)
    | (exact absurd ‹(1 : Int32) = 0› (by decide))
    | exact k _ _ _ gro_rf (by assumption)
    | (with_reducible refine T_gP_11_4 (by assumption) (by assumption) (fun _ _ _ => ?_))
    | (with_reducible refine T_gI_9_1 (by assumption) (by assumption) (fun _ _ _ => ?_))
    | (with_reducible refine T_oK_9 (by assumption) (by assumption) ?_)
    | (with_reducible refine kc_X9_addFour (by assumption) (fre.sub (by assumption) (by simp)) (by assumption) (fun _ _ => ?_))
    | (refine ⟨fun _ => ?_, fun _ => ?_⟩)
    | fail)
  all_goals (first
    | (with_reducible assumption)
    | omega
    | (simp only [← Int32.toInt_inj, Int32.toInt_add, Int32.toInt_mul, Int32.toInt_sub, Int32.toInt_neg, apply_ite Int32.toInt, Int32.reduceToInt, Int32.le_iff_toInt_le, Int32.lt_iff_toInt_lt] at *; (try simp only [Int.bmod_add_bmod, Int.add_bmod_bmod, Int.bmod_mul_bmod, Int.mul_bmod_bmod, Int.sub_bmod_bmod, Int.bmod_sub_bmod] at *); (try simp (disch := omega) only [fb_bmod, true_and, and_true] at *); all_goals (first | omega | (simp only [Int.bmod_def] at *; omega) | omega)))
theorem kc_X11_end {q : Int32 → hS → Prop} {v : Int32} (h : St Γ Φ S) (hf : fre Γ Φ [9]) (ha : Γ a = some (11, 11, 0, rs, ρa)) (k : ∀ r Γ' S', gro Γ Φ Γ' → St Γ' Φ S' → q r S') : w_X11_end q S a v := by
  unfold w_X11_end
  repeat' (first
    | (exact absurd rfl ‹¬ (0 : Int32) = 0›)
    | (exact absurd ‹(1 : Int32) = 0› (by decide))
    | exact k _ _ _ gro_rf (by assumption)
    | (with_reducible refine T_gP_11_4 (by assumption) (by assumption) (fun _ _ _ => ?_))
    | (with_reducible refine T_gI_9_1 (by assumption) (by assumption) (fun _ _ _ => ?_))
    | (with_reducible refine T_pI_9_1 (by assumption) (by assumption) (by assumption) (by simp) ?_ (fun _ _ _ _ _ => ?_))
    | (with_reducible refine kc_X11_isWithin ?_ (fun _ => ?_))
    | (refine ⟨fun _ => ?_, fun _ => ?_⟩)
    | fail)
  all_goals (first
    | (with_reducible assumption)
    | omega
    | (simp only [← Int32.toInt_inj, Int32.toInt_add, Int32.toInt_mul, Int32.toInt_sub, Int32.toInt_neg, apply_ite Int32.toInt, Int32.reduceToInt, Int32.le_iff_toInt_le, Int32.lt_iff_toInt_lt] at *; (try simp only [Int.bmod_add_bmod, Int.add_bmod_bmod, Int.bmod_mul_bmod, Int.mul_bmod_bmod, Int.sub_bmod_bmod, Int.bmod_sub_bmod] at *); (try simp (disch := omega) only [fb_bmod, true_and, and_true] at *); all_goals (first | omega | (simp only [Int.bmod_def] at *; omega) | omega)))
theorem kc_X11_rust {q : Int32 → hS → Prop} (h : St Γ Φ S) (hf : fre Γ Φ []) (ha : Γ a = some (11, 11, 0, rs, ρa)) (k : ∀ r Γ' S', gro Γ Φ Γ' → St Γ' Φ S' → q r S') : w_X11_rust q S a := by
  unfold w_X11_rust
  repeat' (first
    | (exact absurd rfl ‹¬ (0 : Int32) = 0›)
    | (exact absurd ‹(1 : Int32) = 0› (by decide))
    | exact k _ _ _ gro_rf (by assumption)
    | (with_reducible refine T_gI_11_15 (by assumption) (by assumption) (fun _ _ _ => ?_))
    | (refine ⟨fun _ => ?_, fun _ => ?_⟩)
    | fail)
  all_goals (first
    | (with_reducible assumption)
    | omega
    | (simp only [← Int32.toInt_inj, Int32.toInt_add, Int32.toInt_mul, Int32.toInt_sub, Int32.toInt_neg, apply_ite Int32.toInt, Int32.reduceToInt, Int32.le_iff_toInt_le, Int32.lt_iff_toInt_lt] at *; (try simp only [Int.bmod_add_bmod, Int.add_bmod_bmod, Int.bmod_mul_bmod, Int.mul_bmod_bmod, Int.sub_bmod_bmod, Int.bmod_sub_bmod] at *); (try simp (disch := omega) only [fb_bmod, true_and, and_true] at *); all_goals (first | omega | (simp only [Int.bmod_def] at *; omega) | omega)))
theorem kc_X11_fault {q : Int32 → hS → Prop} (h : St Γ Φ S) (hf : fre Γ Φ []) (ha : Γ a = some (11, 11, 0, rs, ρa)) (k : ∀ r Γ' S', gro Γ Φ Γ' → St Γ' Φ S' → q r S') : w_X11_fault q S a := by
  unfold w_X11_fault
  repeat' (first
    | (exact absurd rfl ‹¬ (0 : Int32) = 0›)
    | (exact absurd ‹(1 : Int32) = 0› (by decide))
    | exact k _ _ _ gro_rf (by assumption)
    | (with_reducible refine T_gI_11_13 (by assumption) (by assumption) (fun _ _ _ => ?_))
    | (refine ⟨fun _ => ?_, fun _ => ?_⟩)
    | fail)
  all_goals (first
    | (with_reducible assumption)
    | omega
    | (simp only [← Int32.toInt_inj, Int32.toInt_add, Int32.toInt_mul, Int32.toInt_sub, Int32.toInt_neg, apply_ite Int32.toInt, Int32.reduceToInt, Int32.le_iff_toInt_le, Int32.lt_iff_toInt_lt] at *; (try simp only [Int.bmod_add_bmod, Int.add_bmod_bmod, Int.bmod_mul_bmod, Int.mul_bmod_bmod, Int.sub_bmod_bmod, Int.bmod_sub_bmod] at *); (try simp (disch := omega) only [fb_bmod, true_and, and_true] at *); all_goals (first | omega | (simp only [Int.bmod_def] at *; omega) | omega)))
theorem kc_X11_stopped {q : Int32 → hS → Prop} (h : St Γ Φ S) (hf : fre Γ Φ []) (ha : Γ a = some (11, 11, 0, rs, ρa)) (k : ∀ r Γ' S', gro Γ Φ Γ' → St Γ' Φ S' → q r S') : w_X11_stopped q S a := by
  unfold w_X11_stopped
  repeat' (first
    | (exact absurd rfl ‹¬ (0 : Int32) = 0›)
    | (exact absurd ‹(1 : Int32) = 0› (by decide))
    | exact k _ _ _ gro_rf (by assumption)
    | (with_reducible refine T_gI_11_14 (by assumption) (by assumption) (fun _ _ _ => ?_))
    | (refine ⟨fun _ => ?_, fun _ => ?_⟩)
    | fail)
  all_goals (first
    | (with_reducible assumption)
    | omega
    | (simp only [← Int32.toInt_inj, Int32.toInt_add, Int32.toInt_mul, Int32.toInt_sub, Int32.toInt_neg, apply_ite Int32.toInt, Int32.reduceToInt, Int32.le_iff_toInt_le, Int32.lt_iff_toInt_lt] at *; (try simp only [Int.bmod_add_bmod, Int.add_bmod_bmod, Int.bmod_mul_bmod, Int.mul_bmod_bmod, Int.sub_bmod_bmod, Int.bmod_sub_bmod] at *); (try simp (disch := omega) only [fb_bmod, true_and, and_true] at *); all_goals (first | omega | (simp only [Int.bmod_def] at *; omega) | omega)))
theorem kc_X11_force {q : Int32 → hS → Prop} {v : Int32} (h : St Γ Φ S) (hf : fre Γ Φ [11, 1216, 8]) (ha : Γ a = some (11, 11, 0, rs, ρa)) (k : ∀ r Γ' S', gro Γ Φ Γ' → St Γ' Φ S' → q r S') : w_X11_force q S a v := by
  unfold w_X11_force
  repeat' (first
    | (exact absurd rfl ‹¬ (0 : Int32) = 0›)
    | (exact absurd ‹(1 : Int32) = 0› (by decide))
    | exact k _ _ _ gro_rf (by assumption)
    | (with_reducible refine T_gP_11_0 (by assumption) (by assumption) (fun _ _ _ => ?_))
    | (with_reducible refine T_gI_8_14 (by assumption) (by assumption) (fun _ _ _ => ?_))
    | (with_reducible refine T_gI_8_16 (by assumption) (by assumption) (fun _ _ _ => ?_))
    | (with_reducible refine T_pI_8_16 (by assumption) (by assumption) (by assumption) (by simp) (fun _ _ _ _ _ => ?_))
    | (with_reducible refine T_oK_11 (by assumption) (by assumption) ?_)
    | (with_reducible refine kc_X11_accept (by assumption) (fre.sub (by assumption) (by simp)) (by assumption) (fun _ _ => ?_))
    | (with_reducible refine kc_X11_refuse (by assumption) (fre.sub (by assumption) (by simp)) (by assumption) (fun _ _ => ?_))
    | (unfold w_X11_force_b20)
    | (unfold w_X11_force_b27)
    | (refine ⟨fun _ => ?_, fun _ => ?_⟩)
    | fail)
  all_goals (first
    | (with_reducible assumption)
    | omega
    | (simp only [← Int32.toInt_inj, Int32.toInt_add, Int32.toInt_mul, Int32.toInt_sub, Int32.toInt_neg, apply_ite Int32.toInt, Int32.reduceToInt, Int32.le_iff_toInt_le, Int32.lt_iff_toInt_lt] at *; (try simp only [Int.bmod_add_bmod, Int.add_bmod_bmod, Int.bmod_mul_bmod, Int.mul_bmod_bmod, Int.sub_bmod_bmod, Int.bmod_sub_bmod] at *); (try simp (disch := omega) only [fb_bmod, true_and, and_true] at *); all_goals (first | omega | (simp only [Int.bmod_def] at *; omega) | omega)))
theorem kc_X11_undo {q : Int32 → hS → Prop} (h : St Γ Φ S) (hf : fre Γ Φ [11, 1216, 3, 2, 300, 301, 302, 303]) (ha : Γ a = some (11, 11, 0, rs, ρa)) (k : ∀ r Γ' S', gro Γ Φ Γ' → St Γ' Φ S' → q r S') : w_X11_undo q S a := by
  unfold w_X11_undo
  repeat' (first
    | (exact absurd rfl ‹¬ (0 : Int32) = 0›)
    | (exact absurd ‹(1 : Int32) = 0› (by decide))
    | exact k _ _ _ gro_rf (by assumption)
    | (with_reducible refine T_gP_11_0 (by assumption) (by assumption) (fun _ _ _ => ?_))
    | (with_reducible refine T_gP_11_3 (by assumption) (by assumption) (fun _ _ _ => ?_))
    | (with_reducible refine T_gP_8_0 (by assumption) (by assumption) (fun _ _ _ => ?_))
    | (with_reducible refine T_oK_11 (by assumption) (by assumption) ?_)
    | (with_reducible refine T_oK_3 (by assumption) (by assumption) ?_)
    | (with_reducible refine kc_X11_accept (by assumption) (fre.sub (by assumption) (by simp)) (by assumption) (fun _ _ => ?_))
    | (with_reducible refine kc_X11_refuse (by assumption) (fre.sub (by assumption) (by simp)) (by assumption) (fun _ _ => ?_))
    | (with_reducible refine kc_X3_takeBack (by assumption) (by assumption) (by assumption) (fre.sub (by assumption) (by simp)) (fun _ _ _ => ?_))
    | (refine ⟨fun _ => ?_, fun _ => ?_⟩)
    | fail)
  all_goals (first
    | (with_reducible assumption)
    | omega
    | (simp only [← Int32.toInt_inj, Int32.toInt_add, Int32.toInt_mul, Int32.toInt_sub, Int32.toInt_neg, apply_ite Int32.toInt, Int32.reduceToInt, Int32.le_iff_toInt_le, Int32.lt_iff_toInt_lt] at *; (try simp only [Int.bmod_add_bmod, Int.add_bmod_bmod, Int.bmod_mul_bmod, Int.mul_bmod_bmod, Int.sub_bmod_bmod, Int.bmod_sub_bmod] at *); (try simp (disch := omega) only [fb_bmod, true_and, and_true] at *); all_goals (first | omega | (simp only [Int.bmod_def] at *; omega) | omega)))
theorem kc_X11_visits {q : Int32 → hS → Prop} {v w t : Int32} (h : St Γ Φ S) (hf : fre Γ Φ [4, 500, 503]) (ha : Γ a = some (11, 11, 0, rs, ρa)) (k : ∀ r Γ' S', gro Γ Φ Γ' → St Γ' Φ S' → q r S') : w_X11_visits q S a v w t := by
  unfold w_X11_visits
  repeat' (first
    | (exact absurd rfl ‹¬ (0 : Int32) = 0›)
    | (exact absurd ‹(1 : Int32) = 0› (by decide))
    | exact k _ _ _ gro_rf (by assumption)
    | (with_reducible refine T_gP_11_0 (by assumption) (by assumption) (fun _ _ _ => ?_))
    | (with_reducible refine T_gP_11_8 (by assumption) (by assumption) (fun _ _ _ => ?_))
    | (with_reducible refine T_gP_4_3 (by assumption) (by assumption) (fun _ _ _ => ?_))
    | (with_reducible refine T_gI_4_4 (by assumption) (by assumption) (fun _ _ _ => ?_))
    | (with_reducible refine T_oK_4 (by assumption) (by assumption) ?_)
    | (with_reducible refine T_oK_8 (by assumption) (by assumption) ?_)
    | (with_reducible refine T_aI_20 (by assumption) (by assumption) ?_ (fun _ _ _ => ?_))
    | (with_reducible refine T_aI_21 (by assumption) (by assumption) ?_ (fun _ _ _ => ?_))
    | (with_reducible refine T_aI_22 (by assumption) (by assumption) ?_ (fun _ _ _ => ?_))
    | (with_reducible refine T_aI_23 (by assumption) (by assumption) ?_ (fun _ _ _ => ?_))
    | (with_reducible refine T_aI_24 (by assumption) (by assumption) ?_ (fun _ _ _ => ?_))
    | (with_reducible refine kc_X11_isWithin ?_ (fun _ => ?_))
    | (with_reducible refine kc_X4_findVisits (by assumption) (fre.sub (by assumption) (by simp)) (by assumption) (by assumption) (fun _ _ => ?_))
    | (with_reducible refine kc_X8_lives (by assumption) (by assumption) ?_ (fun _ => ?_))
    | (refine ⟨fun _ => ?_, fun _ => ?_⟩)
    | fail)
  all_goals (first
    | (with_reducible assumption)
    | omega
    | (simp only [← Int32.toInt_inj, Int32.toInt_add, Int32.toInt_mul, Int32.toInt_sub, Int32.toInt_neg, apply_ite Int32.toInt, Int32.reduceToInt, Int32.le_iff_toInt_le, Int32.lt_iff_toInt_lt] at *; (try simp only [Int.bmod_add_bmod, Int.add_bmod_bmod, Int.bmod_mul_bmod, Int.mul_bmod_bmod, Int.sub_bmod_bmod, Int.bmod_sub_bmod] at *); (try simp (disch := omega) only [fb_bmod, true_and, and_true] at *); all_goals (first | omega | (simp only [Int.bmod_def] at *; omega) | omega)))
theorem kc_X11_exchange {q : Int32 → hS → Prop} {v : Int32} (h : St Γ Φ S) (hf : fre Γ Φ [4, 505, 506]) (ha : Γ a = some (11, 11, 0, rs, ρa)) (k : ∀ r Γ' S', gro Γ Φ Γ' → St Γ' Φ S' → q r S') : w_X11_exchange q S a v := by
  unfold w_X11_exchange
  repeat' (first
    | (exact absurd rfl ‹¬ (0 : Int32) = 0›)
    | (exact absurd ‹(1 : Int32) = 0› (by decide))
    | exact k _ _ _ gro_rf (by assumption)
    | (with_reducible refine T_gP_11_0 (by assumption) (by assumption) (fun _ _ _ => ?_))
    | (with_reducible refine T_gP_11_8 (by assumption) (by assumption) (fun _ _ _ => ?_))
    | (with_reducible refine T_gP_4_6 (by assumption) (by assumption) (fun _ _ _ => ?_))
    | (with_reducible refine T_oK_4 (by assumption) (by assumption) ?_)
    | (with_reducible refine T_oK_8 (by assumption) (by assumption) ?_)
    | (with_reducible refine T_aI_20 (by assumption) (by assumption) ?_ (fun _ _ _ => ?_))
    | (with_reducible refine T_aI_21 (by assumption) (by assumption) ?_ (fun _ _ _ => ?_))
    | (with_reducible refine T_aI_22 (by assumption) (by assumption) ?_ (fun _ _ _ => ?_))
    | (with_reducible refine T_aI_23 (by assumption) (by assumption) ?_ (fun _ _ _ => ?_))
    | (with_reducible refine T_aI_24 (by assumption) (by assumption) ?_ (fun _ _ _ => ?_))
    | (with_reducible refine kc_X4_findExchange (by assumption) (fre.sub (by assumption) (by simp)) (by assumption) (by assumption) (fun _ _ _ => ?_))
    | (with_reducible refine kc_X8_hasPerson (by assumption) (by assumption) ?_ (fun _ => ?_))
    | (refine ⟨fun _ => ?_, fun _ => ?_⟩)
    | fail)
  all_goals (first
    | (with_reducible assumption)
    | omega
    | (simp only [← Int32.toInt_inj, Int32.toInt_add, Int32.toInt_mul, Int32.toInt_sub, Int32.toInt_neg, apply_ite Int32.toInt, Int32.reduceToInt, Int32.le_iff_toInt_le, Int32.lt_iff_toInt_lt] at *; (try simp only [Int.bmod_add_bmod, Int.add_bmod_bmod, Int.bmod_mul_bmod, Int.mul_bmod_bmod, Int.sub_bmod_bmod, Int.bmod_sub_bmod] at *); (try simp (disch := omega) only [fb_bmod, true_and, and_true] at *); all_goals (first | omega | (simp only [Int.bmod_def] at *; omega) | omega)))
theorem kc_X11_forget {q : Int32 → hS → Prop} (h : St Γ Φ S) (hf : fre Γ Φ [8]) (ha : Γ a = some (11, 11, 0, rs, ρa)) (k : ∀ r Γ' S', gro Γ Φ Γ' → St Γ' Φ S' → q r S') : w_X11_forget q S a := by
  unfold w_X11_forget
  repeat' (first
    | (exact absurd rfl ‹¬ (0 : Int32) = 0›)
    | (exact absurd ‹(1 : Int32) = 0› (by decide))
    | exact k _ _ _ gro_rf (by assumption)
    | (with_reducible refine T_gP_11_0 (by assumption) (by assumption) (fun _ _ _ => ?_))
    | (with_reducible refine T_gI_8_9 (by assumption) (by assumption) (fun _ _ _ => ?_))
    | (with_reducible refine T_pI_8_9 (by assumption) (by assumption) (by assumption) (by simp) ?_ (fun _ _ _ _ _ => ?_))
    | (refine ⟨fun _ => ?_, fun _ => ?_⟩)
    | fail)
  all_goals (first
    | (with_reducible assumption)
    | omega
    | (simp only [← Int32.toInt_inj, Int32.toInt_add, Int32.toInt_mul, Int32.toInt_sub, Int32.toInt_neg, apply_ite Int32.toInt, Int32.reduceToInt, Int32.le_iff_toInt_le, Int32.lt_iff_toInt_lt] at *; (try simp only [Int.bmod_add_bmod, Int.add_bmod_bmod, Int.bmod_mul_bmod, Int.mul_bmod_bmod, Int.sub_bmod_bmod, Int.bmod_sub_bmod] at *); (try simp (disch := omega) only [fb_bmod, true_and, and_true] at *); all_goals (first | omega | (simp only [Int.bmod_def] at *; omega) | omega)))
theorem kc_X11_who {q : Int32 → hS → Prop} (h : St Γ Φ S) (hf : fre Γ Φ []) (ha : Γ a = some (11, 11, 0, rs, ρa)) (k : ∀ r Γ' S', gro Γ Φ Γ' → St Γ' Φ S' → q r S') : w_X11_who q S a := by
  unfold w_X11_who
  repeat' (first
    | (exact absurd rfl ‹¬ (0 : Int32) = 0›)
    | (exact absurd ‹(1 : Int32) = 0› (by decide))
    | exact k _ _ _ gro_rf (by assumption)
    | (with_reducible refine T_gP_11_0 (by assumption) (by assumption) (fun _ _ _ => ?_))
    | (with_reducible refine T_oK_8 (by assumption) (by assumption) ?_)
    | (with_reducible refine kc_X8_suspects (by assumption) (by assumption) (fun _ => ?_))
    | (refine ⟨fun _ => ?_, fun _ => ?_⟩)
    | fail)
  all_goals (first
    | (with_reducible assumption)
    | omega
    | (simp only [← Int32.toInt_inj, Int32.toInt_add, Int32.toInt_mul, Int32.toInt_sub, Int32.toInt_neg, apply_ite Int32.toInt, Int32.reduceToInt, Int32.le_iff_toInt_le, Int32.lt_iff_toInt_lt] at *; (try simp only [Int.bmod_add_bmod, Int.add_bmod_bmod, Int.bmod_mul_bmod, Int.mul_bmod_bmod, Int.sub_bmod_bmod, Int.bmod_sub_bmod] at *); (try simp (disch := omega) only [fb_bmod, true_and, and_true] at *); all_goals (first | omega | (simp only [Int.bmod_def] at *; omega) | omega)))
theorem kc_X11_amend {q : Int32 → hS → Prop} {v w : Int32} (h : St Γ Φ S) (hf : fre Γ Φ []) (ha : Γ a = some (11, 11, 0, rs, ρa)) (k : ∀ r Γ' S', gro Γ Φ Γ' → St Γ' Φ S' → q r S') : w_X11_amend q S a v w := by
  unfold w_X11_amend
  repeat' (first
    | (exact absurd rfl ‹¬ (0 : Int32) = 0›)
    | (exact absurd ‹(1 : Int32) = 0› (by decide))
    | exact k _ _ _ gro_rf (by assumption)
    | (with_reducible refine T_gP_11_0 (by assumption) (by assumption) (fun _ _ _ => ?_))
    | (with_reducible refine T_gP_11_9 (by assumption) (by assumption) (fun _ _ _ => ?_))
    | (with_reducible refine T_oK_7 (by assumption) (by assumption) ?_)
    | (with_reducible refine T_oK_8 (by assumption) (by assumption) ?_)
    | (with_reducible refine kc_J6_bitCount (fun _ => ?_))
    | (with_reducible refine kc_X7_struckOut (by assumption) (by assumption) (fun _ => ?_))
    | (with_reducible refine kc_X8_hasHouse (by assumption) (by assumption) ?_ (fun _ => ?_))
    | (unfold w_X11_amend_b22)
    | (refine ⟨fun _ => ?_, fun _ => ?_⟩)
    | fail)
  all_goals (first
    | (with_reducible assumption)
    | omega
    | (simp only [← Int32.toInt_inj, Int32.toInt_add, Int32.toInt_mul, Int32.toInt_sub, Int32.toInt_neg, apply_ite Int32.toInt, Int32.reduceToInt, Int32.le_iff_toInt_le, Int32.lt_iff_toInt_lt] at *; (try simp only [Int.bmod_add_bmod, Int.add_bmod_bmod, Int.bmod_mul_bmod, Int.mul_bmod_bmod, Int.sub_bmod_bmod, Int.bmod_sub_bmod] at *); (try simp (disch := omega) only [fb_bmod, true_and, and_true] at *); all_goals (first | omega | (simp only [Int.bmod_def] at *; omega) | omega)))
theorem kc_X11_given {q : Int32 → hS → Prop} {v w t : Int32} (h : St Γ Φ S) (hf : fre Γ Φ [800]) (ha : Γ a = some (11, 11, 0, rs, ρa)) (k : ∀ r Γ' S', gro Γ Φ Γ' → St Γ' Φ S' → q r S') : w_X11_given q S a v w t := by
  unfold w_X11_given
  repeat' (first
    | (exact absurd rfl ‹¬ (0 : Int32) = 0›)
    | (exact absurd ‹(1 : Int32) = 0› (by decide))
    | exact k _ _ _ gro_rf (by assumption)
    | (with_reducible refine T_gP_11_0 (by assumption) (by assumption) (fun _ _ _ => ?_))
    | (with_reducible refine T_gP_11_9 (by assumption) (by assumption) (fun _ _ _ => ?_))
    | (with_reducible refine T_gP_7_0 (by assumption) (by assumption) (fun _ _ _ => ?_))
    | (with_reducible refine T_oK_7 (by assumption) (by assumption) ?_)
    | (with_reducible refine T_oK_8 (by assumption) (by assumption) ?_)
    | (with_reducible refine T_aI_20 (by assumption) (by assumption) ?_ (fun _ _ _ => ?_))
    | (with_reducible refine T_aI_21 (by assumption) (by assumption) ?_ (fun _ _ _ => ?_))
    | (with_reducible refine T_aI_22 (by assumption) (by assumption) ?_ (fun _ _ _ => ?_))
    | (with_reducible refine T_aI_23 (by assumption) (by assumption) ?_ (fun _ _ _ => ?_))
    | (with_reducible refine T_aI_24 (by assumption) (by assumption) ?_ (fun _ _ _ => ?_))
    | (with_reducible refine kc_X11_isWithin ?_ (fun _ => ?_))
    | (with_reducible refine kc_X7_giveOut (by assumption) (fre.sub (by assumption) (by simp)) (by assumption) (by assumption) ?_ (fun _ _ => ?_))
    | (with_reducible refine kc_X8_hasHouse (by assumption) (by assumption) ?_ (fun _ => ?_))
    | (with_reducible refine kc_X8_hasPerson (by assumption) (by assumption) ?_ (fun _ => ?_))
    | (refine ⟨fun _ => ?_, fun _ => ?_⟩)
    | fail)
  all_goals (first
    | (with_reducible assumption)
    | omega
    | (simp only [← Int32.toInt_inj, Int32.toInt_add, Int32.toInt_mul, Int32.toInt_sub, Int32.toInt_neg, apply_ite Int32.toInt, Int32.reduceToInt, Int32.le_iff_toInt_le, Int32.lt_iff_toInt_lt] at *; (try simp only [Int.bmod_add_bmod, Int.add_bmod_bmod, Int.bmod_mul_bmod, Int.mul_bmod_bmod, Int.sub_bmod_bmod, Int.bmod_sub_bmod] at *); (try simp (disch := omega) only [fb_bmod, true_and, and_true] at *); all_goals (first | omega | (simp only [Int.bmod_def] at *; omega) | omega)))
theorem kc_X11_drawn {q : Int32 → hS → Prop} {v w : Int32} (h : St Γ Φ S) (hf : fre Γ Φ []) (ha : Γ a = some (11, 11, 0, rs, ρa)) (k : ∀ r Γ' S', gro Γ Φ Γ' → St Γ' Φ S' → q r S') : w_X11_drawn q S a v w := by
  unfold w_X11_drawn
  repeat' (first
    | (exact absurd rfl ‹¬ (0 : Int32) = 0›)
    | (exact absurd ‹(1 : Int32) = 0› (by decide))
    | exact k _ _ _ gro_rf (by assumption)
    | (with_reducible refine T_gP_11_10 (by assumption) (by assumption) (fun _ _ _ => ?_))
    | (with_reducible refine T_gI_11_11 (by assumption) (by assumption) (fun _ _ _ => ?_))
    | (with_reducible refine T_gI_11_12 (by assumption) (by assumption) (fun _ _ _ => ?_))
    | (with_reducible refine T_aI_20 (by assumption) (by assumption) ?_ (fun _ _ _ => ?_))
    | (with_reducible refine T_aI_21 (by assumption) (by assumption) ?_ (fun _ _ _ => ?_))
    | (with_reducible refine T_aI_22 (by assumption) (by assumption) ?_ (fun _ _ _ => ?_))
    | (with_reducible refine T_aI_23 (by assumption) (by assumption) ?_ (fun _ _ _ => ?_))
    | (with_reducible refine T_aI_24 (by assumption) (by assumption) ?_ (fun _ _ _ => ?_))
    | (with_reducible refine kc_X11_slot ?_ (fun _ _ => ?_))
    | (refine ⟨fun _ => ?_, fun _ => ?_⟩)
    | fail)
  all_goals (first
    | (with_reducible assumption)
    | omega
    | (simp only [← Int32.toInt_inj, Int32.toInt_add, Int32.toInt_mul, Int32.toInt_sub, Int32.toInt_neg, apply_ite Int32.toInt, Int32.reduceToInt, Int32.le_iff_toInt_le, Int32.lt_iff_toInt_lt] at *; (try simp only [Int.bmod_add_bmod, Int.add_bmod_bmod, Int.bmod_mul_bmod, Int.mul_bmod_bmod, Int.sub_bmod_bmod, Int.bmod_sub_bmod] at *); (try simp (disch := omega) only [fb_bmod, true_and, and_true] at *); all_goals (first | omega | (simp only [Int.bmod_def] at *; omega) | omega)))
theorem kc_X11_count {q : Int32 → hS → Prop} {v : Int32} (h : St Γ Φ S) (hf : fre Γ Φ []) (ha : Γ a = some (11, 11, 0, rs, ρa)) (k : ∀ r Γ' S', gro Γ Φ Γ' → St Γ' Φ S' → q r S') : w_X11_count q S a v := by
  unfold w_X11_count
  repeat' (first
    | (exact absurd rfl ‹¬ (0 : Int32) = 0›)
    | (exact absurd ‹(1 : Int32) = 0› (by decide))
    | exact k _ _ _ gro_rf (by assumption)
    | (with_reducible refine T_gP_11_0 (by assumption) (by assumption) (fun _ _ _ => ?_))
    | (with_reducible refine T_gP_11_16 (by assumption) (by assumption) (fun _ _ _ => ?_))
    | (with_reducible refine T_gP_11_3 (by assumption) (by assumption) (fun _ _ _ => ?_))
    | (with_reducible refine T_gP_11_4 (by assumption) (by assumption) (fun _ _ _ => ?_))
    | (with_reducible refine T_gP_8_0 (by assumption) (by assumption) (fun _ _ _ => ?_))
    | (with_reducible refine T_gI_2_5 (by assumption) (by assumption) (fun _ _ _ => ?_))
    | (with_reducible refine T_gI_3_3 (by assumption) (by assumption) (fun _ _ _ => ?_))
    | (with_reducible refine T_gI_8_1 (by assumption) (by assumption) (fun _ _ _ => ?_))
    | (with_reducible refine T_gI_8_12 (by assumption) (by assumption) (fun _ _ _ => ?_))
    | (with_reducible refine T_gI_8_13 (by assumption) (by assumption) (fun _ _ _ => ?_))
    | (with_reducible refine T_gI_8_14 (by assumption) (by assumption) (fun _ _ _ => ?_))
    | (with_reducible refine T_gI_8_16 (by assumption) (by assumption) (fun _ _ _ => ?_))
    | (with_reducible refine T_gI_8_4 (by assumption) (by assumption) (fun _ _ _ => ?_))
    | (with_reducible refine T_gI_8_9 (by assumption) (by assumption) (fun _ _ _ => ?_))
    | (with_reducible refine T_gI_9_1 (by assumption) (by assumption) (fun _ _ _ => ?_))
    | (with_reducible refine T_oK_8 (by assumption) (by assumption) ?_)
    | (with_reducible refine T_aI_20 (by assumption) (by assumption) ?_ (fun _ _ _ => ?_))
    | (with_reducible refine T_aI_21 (by assumption) (by assumption) ?_ (fun _ _ _ => ?_))
    | (with_reducible refine T_aI_22 (by assumption) (by assumption) ?_ (fun _ _ _ => ?_))
    | (with_reducible refine T_aI_23 (by assumption) (by assumption) ?_ (fun _ _ _ => ?_))
    | (with_reducible refine T_aI_24 (by assumption) (by assumption) ?_ (fun _ _ _ => ?_))
    | (with_reducible refine kc_X8_livingPeople (by assumption) (by assumption) (fun _ => ?_))
    | (with_reducible refine T_y (fun _ _ _ => ?_))
    | (refine ⟨fun _ => ?_, fun _ => ?_⟩)
    | (refine ⟨fun _ => ?_, ?_⟩)
    | (refine fun (_ : _ ∨ _) => ?_)
    | fail)
  all_goals (first
    | (with_reducible assumption)
    | omega
    | (simp only [← Int32.toInt_inj, Int32.toInt_add, Int32.toInt_mul, Int32.toInt_sub, Int32.toInt_neg, apply_ite Int32.toInt, Int32.reduceToInt, Int32.le_iff_toInt_le, Int32.lt_iff_toInt_lt] at *; (try simp only [Int.bmod_add_bmod, Int.add_bmod_bmod, Int.bmod_mul_bmod, Int.mul_bmod_bmod, Int.sub_bmod_bmod, Int.bmod_sub_bmod] at *); (try simp (disch := omega) only [fb_bmod, true_and, and_true] at *); all_goals (first | omega | (simp only [Int.bmod_def] at *; omega) | omega)))
theorem kc_X11_status {q : Int32 → hS → Prop} (h : St Γ Φ S) (hf : fre Γ Φ []) (ha : Γ a = some (11, 11, 0, rs, ρa)) (k : ∀ r Γ' S', gro Γ Φ Γ' → St Γ' Φ S' → q r S') : w_X11_status q S a := by
  unfold w_X11_status
  repeat' (first
    | (exact absurd rfl ‹¬ (0 : Int32) = 0›)
    | (exact absurd ‹(1 : Int32) = 0› (by decide))
    | exact k _ _ _ gro_rf (by assumption)
    | (with_reducible refine T_gI_11_17 (by assumption) (by assumption) (fun _ _ _ => ?_))
    | (refine ⟨fun _ => ?_, fun _ => ?_⟩)
    | fail)
  all_goals (first
    | (with_reducible assumption)
    | omega
    | (simp only [← Int32.toInt_inj, Int32.toInt_add, Int32.toInt_mul, Int32.toInt_sub, Int32.toInt_neg, apply_ite Int32.toInt, Int32.reduceToInt, Int32.le_iff_toInt_le, Int32.lt_iff_toInt_lt] at *; (try simp only [Int.bmod_add_bmod, Int.add_bmod_bmod, Int.bmod_mul_bmod, Int.mul_bmod_bmod, Int.sub_bmod_bmod, Int.bmod_sub_bmod] at *); (try simp (disch := omega) only [fb_bmod, true_and, and_true] at *); all_goals (first | omega | (simp only [Int.bmod_def] at *; omega) | omega)))
theorem kc_X11_likely {q : Int64 → hS → Prop} {v w : Int32} (h : St Γ Φ S) (hf : fre Γ Φ [804]) (ha : Γ a = some (11, 11, 0, rs, ρa)) (k : ∀ r Γ' S', gro Γ Φ Γ' → St Γ' Φ S' → q r S') : w_X11_likely q S a v w := by
  unfold w_X11_likely
  repeat' (first
    | (exact absurd rfl ‹¬ (0 : Int32) = 0›)
    | (exact absurd ‹(1 : Int32) = 0› (by decide))
    | exact k _ _ _ gro_rf (by assumption)
    | (with_reducible refine T_gP_11_0 (by assumption) (by assumption) (fun _ _ _ => ?_))
    | (with_reducible refine T_gP_11_9 (by assumption) (by assumption) (fun _ _ _ => ?_))
    | (with_reducible refine T_gI_8_12 (by assumption) (by assumption) (fun _ _ _ => ?_))
    | (with_reducible refine T_oK_7 (by assumption) (by assumption) ?_)
    | (with_reducible refine kc_X11_isWithin ?_ (fun _ => ?_))
    | (with_reducible refine kc_X7_chance (by assumption) (fre.sub (by assumption) (by simp)) (by assumption) ?_ (fun _ _ _ => ?_))
    | (refine ⟨fun _ => ?_, fun _ => ?_⟩)
    | fail)
  all_goals (first
    | (with_reducible assumption)
    | omega
    | (simp only [← Int32.toInt_inj, Int32.toInt_add, Int32.toInt_mul, Int32.toInt_sub, Int32.toInt_neg, apply_ite Int32.toInt, Int32.reduceToInt, Int32.le_iff_toInt_le, Int32.lt_iff_toInt_lt] at *; (try simp only [Int.bmod_add_bmod, Int.add_bmod_bmod, Int.bmod_mul_bmod, Int.mul_bmod_bmod, Int.sub_bmod_bmod, Int.bmod_sub_bmod] at *); (try simp (disch := omega) only [fb_bmod, true_and, and_true] at *); all_goals (first | omega | (simp only [Int.bmod_def] at *; omega) | omega)))
theorem kc_X11_clue {q : Int32 → hS → Prop} {v w : Int32} (h : St Γ Φ S) (hf : fre Γ Φ [11, 1216, 8, 910, 911]) (ha : Γ a = some (11, 11, 0, rs, ρa)) (k : ∀ r Γ' S', gro Γ Φ Γ' → St Γ' Φ S' → q r S') : w_X11_clue q S a v w := by
  have k1 : ∀ r S', St Γ Φ S' → q r S' := fun r S' h' => k r _ _ gro_rf h'
  unfold w_X11_clue
  refine kc_X11_isWithin ⟨fun z => absurd rfl z, fun _ => T_oK_11 h ha (kc_X11_refuse h (hf.sub (by simp)) ha (fun S' h' => k1 _ _ h'))⟩ (fun hw => ⟨fun _ => T_gP_11_0 h ha (fun x16 e16 h16 => T_oK_8 h h16 (kc_X8_hasHouse h h16 ⟨fun z => absurd rfl z, fun _ => T_oK_11 h ha (kc_X11_refuse h (hf.sub (by simp)) ha (fun S' h' => k1 _ _ h'))⟩ (fun hv => ⟨fun _ => T_gP_11_0 h ha (fun x34 e34 h34 => T_gI_8_9 h h34 (fun x37 e37 h37 => ⟨fun c6 => T_gP_11_0 h ha (fun x53 _ h53 => T_gP_8_10 h h53 (fun x56 _ h56 => T_gP_11_0 h ha (fun x60 e60 h60 => T_gI_8_9 h h60 (fun x63 e63 h63 => ?_)))), fun _ => T_oK_11 h ha (kc_X11_refuse h (hf.sub (by simp)) ha (fun S' h' => k1 _ _ h'))⟩)), fun z => absurd z (by decide)⟩))), fun z => absurd z (by decide)⟩)
  have c6 : x37.toInt < 6 := by rw [Int32.lt_iff_toInt_lt] at c6; exact c6
  have e1 : x63 = x37 := by rw [e63, e37, e60, e34]
  subst e1
  refine T_sI_21 h hf h56 (by simp) (by omega) (by omega) (fun S1 h1 q1 _ _ _ => T_gP_11_0 h1 ha (fun x69 _ h69 => T_gP_8_11 h1 h69 (fun x72 _ h72 => T_gP_11_0 h1 ha (fun x76 e76 h76 => T_gI_8_9 h1 h76 (fun x79 e79 h79 => ?_)))))
  have e2 : x79 = x63 := by rw [e79, q1.I, e63, e76, q1.P, e60]
  subst e2
  refine T_sI_20 h1 hf h72 (by simp) (by omega) (fun S2 h2 q2 _ _ _ => T_gP_11_0 h2 ha (fun x85 e85 h85 => T_gI_8_9 h2 h85 (fun x89 e89 h89 => ?_)))
  have e3 : x89 = x79 := by rw [e89, q2.I, e79, e85, q2.P, e76]
  subst e3
  refine T_pI_8_9 h2 hf h85 (by simp) ?_ (fun S3 h3 _ _ _ => T_gP_11_0 h3 ha (fun x99 _ h99 => T_gI_8_9 h3 h99 (fun x102 _ _ => T_oK_11 h3 ha (kc_X11_accept h3 (hf.sub (by simp)) ha (fun S' h' => k1 _ _ h')))))
  rw [fb_addI] <;> rw [show (1 : Int32).toInt = 1 from by decide] <;> omega
theorem kc_X11_look {q : Int32 → hS → Prop} {v : Int32} (h : St Γ Φ S) (hf : fre Γ Φ []) (ha : Γ a = some (11, 11, 0, rs, ρa)) (k : ∀ r Γ' S', gro Γ Φ Γ' → St Γ' Φ S' → q r S') : w_X11_look q S a v := by
  have k23 : ∀ x4, w_X11_look_b23 q S a v x4 := by
    intro x4
    unfold w_X11_look_b23
    refine loop_m (σ := Int32 × Int32 × Int32) (fun t s => w_X11_look_b32 q t S a v x4 s.1 s.2.1 s.2.2) (fun s => 0 ≤ s.2.2.toInt ∧ s.2.2.toInt ≤ 6) (fun s => (6 - s.2.2.toInt).toNat) ?_ (-1, 9, 0) (by dsimp only; rw [z0I]; omega)
    rintro t ⟨x1, x2, x⟩ hx ih
    dsimp only at hx ih ⊢
    have go : ∀ (y1 y2 y : Int32), y.toInt = x.toInt + 1 ∧ x.toInt < 6 → w_X11_look_b32 q t S a v x4 y1 y2 y := fun y1 y2 y hy => ih (y1, y2, y) (by dsimp only; omega) (by dsimp only; omega)
    rw [w_X11_look_b32]
    repeat' (first
    | (exact absurd rfl ‹¬ (0 : Int32) = 0›)
    | (exact absurd ‹(1 : Int32) = 0› (by decide))
    | exact k _ _ _ gro_rf (by assumption)
    | refine go _ _ _ ?_
    | (with_reducible refine T_gP_11_0 (by assumption) (by assumption) (fun _ _ _ => ?_))
    | (with_reducible refine T_gI_8_1 (by assumption) (by assumption) (fun _ _ _ => ?_))
    | (with_reducible refine T_oK_8 (by assumption) (by assumption) ?_)
    | (with_reducible refine kc_X8_remainAtMost (by assumption) (by assumption) (fun _ => ?_))
    | (with_reducible refine kc_X8_suspects (by assumption) (by assumption) (fun _ => ?_))
    | (unfold w_X11_look_b70)
    | (unfold w_X11_look_b85)
    | (unfold w_X11_look_b23)
    | (with_reducible refine T_y (fun _ _ _ => ?_))
    | (refine ⟨fun _ => ?_, fun _ => ?_⟩)
    | fail)
    all_goals (first
    | (with_reducible assumption)
    | omega
    | (simp only [← Int32.toInt_inj, Int32.toInt_add, Int32.toInt_mul, Int32.toInt_sub, Int32.toInt_neg, apply_ite Int32.toInt, Int32.reduceToInt, Int32.le_iff_toInt_le, Int32.lt_iff_toInt_lt] at *; (try simp only [Int.bmod_add_bmod, Int.add_bmod_bmod, Int.bmod_mul_bmod, Int.mul_bmod_bmod, Int.sub_bmod_bmod, Int.bmod_sub_bmod] at *); (try simp (disch := omega) only [fb_bmod, true_and, and_true] at *); all_goals (first | omega | (simp only [Int.bmod_def] at *; omega) | omega)))
  unfold w_X11_look
  repeat' (first
    | (exact absurd rfl ‹¬ (0 : Int32) = 0›)
    | (exact absurd ‹(1 : Int32) = 0› (by decide))
    | exact k23 _
    | exact k _ _ _ gro_rf (by assumption)
    | (with_reducible refine T_gP_11_0 (by assumption) (by assumption) (fun _ _ _ => ?_))
    | (with_reducible refine T_gI_8_1 (by assumption) (by assumption) (fun _ _ _ => ?_))
    | (with_reducible refine T_oK_8 (by assumption) (by assumption) ?_)
    | (with_reducible refine kc_X8_remainAtMost (by assumption) (by assumption) (fun _ => ?_))
    | (with_reducible refine kc_X8_suspects (by assumption) (by assumption) (fun _ => ?_))
    | (unfold w_X11_look_b70)
    | (unfold w_X11_look_b85)
    | (unfold w_X11_look_b23)
    | (with_reducible refine T_y (fun _ _ _ => ?_))
    | (refine ⟨fun _ => ?_, fun _ => ?_⟩)
    | fail)
theorem kc_X11_keep {q : Int32 → hS → Prop} {v w t e : Int32} (h : St Γ Φ S) (hf : fre Γ Φ [101, 700, 801, 802, 803]) (ha : Γ a = some (11, 11, 0, rs, ρa)) (k : ∀ r Γ' S', gro Γ Φ Γ' → St Γ' Φ S' → q r S') : w_X11_keep q S a v w t e := by
  have k50 : (0 ≤ w.toInt ∧ w.toInt ≤ 20) ∧ (1 ≤ t.toInt ∧ t.toInt ≤ 8) ∧ (-1 ≤ e.toInt ∧ e.toInt < t.toInt) → ∃ n, w_X11_keep_b50 q n S a v w t e 0 := by
    intro hv
    refine loop_m (σ := hS × Int32) (fun m s => w_X11_keep_b50 q m s.1 a v w t e s.2) (fun s => St Γ Φ s.1 ∧ 0 ≤ s.2.toInt ∧ s.2.toInt ≤ 8) (fun s => (8 - s.2.toInt).toNat) ?_ (S, 0) ⟨h, by dsimp only; rw [z0I]; omega⟩
    rintro m ⟨S, x⟩ ⟨h, hx⟩ ih
    dsimp only at h hx ih ⊢
    have go : ∀ (S' : hS) (y : Int32), St Γ Φ S' → y.toInt = x.toInt + 1 ∧ x.toInt < 8 → w_X11_keep_b50 q m S' a v w t e y := fun S' y h' hy => ih (S', y) ⟨h', by dsimp only; omega⟩ (by dsimp only; omega)
    rw [w_X11_keep_b50]
    repeat' (first
    | (exact absurd rfl ‹¬ (0 : Int32) = 0›)
    | (exact absurd ‹(1 : Int32) = 0› (by decide))
    | exact k _ _ _ gro_rf (by assumption)
    | refine go _ _ (by assumption) ?_
    | (with_reducible refine T_gP_11_0 (by assumption) (by assumption) (fun _ _ _ => ?_))
    | (with_reducible refine T_gP_11_6 (by assumption) (by assumption) (fun _ _ _ => ?_))
    | (with_reducible refine T_gP_11_9 (by assumption) (by assumption) (fun _ _ _ => ?_))
    | (with_reducible refine T_gP_7_1 (by assumption) (by assumption) (fun _ _ _ => ?_))
    | (with_reducible refine T_gP_7_2 (by assumption) (by assumption) (fun _ _ _ => ?_))
    | (with_reducible refine T_gP_8_0 (by assumption) (by assumption) (fun _ _ _ => ?_))
    | (with_reducible refine T_gI_2_5 (by assumption) (by assumption) (fun _ _ _ => ?_))
    | (with_reducible refine T_oK_0 (by assumption) (by assumption) ?_)
    | (with_reducible refine T_oK_7 (by assumption) (by assumption) ?_)
    | (with_reducible refine T_oK_8 (by assumption) (by assumption) ?_)
    | (with_reducible refine T_aI_20 (by assumption) (by assumption) ?_ (fun _ _ _ => ?_))
    | (with_reducible refine T_aI_21 (by assumption) (by assumption) ?_ (fun _ _ _ => ?_))
    | (with_reducible refine T_aI_22 (by assumption) (by assumption) ?_ (fun _ _ _ => ?_))
    | (with_reducible refine T_aI_23 (by assumption) (by assumption) ?_ (fun _ _ _ => ?_))
    | (with_reducible refine T_aI_24 (by assumption) (by assumption) ?_ (fun _ _ _ => ?_))
    | (with_reducible refine T_sI_20 (by assumption) (by assumption) (by assumption) (by simp) ?_ (fun _ _ _ _ _ _ => ?_))
    | (with_reducible refine T_sI_21 (by assumption) (by assumption) (by assumption) (by simp) ?_ ?_ (fun _ _ _ _ _ _ => ?_))
    | (with_reducible refine T_sI_22 (by assumption) (by assumption) (by assumption) (by simp) ?_ ?_ (fun _ _ _ _ _ _ => ?_))
    | (with_reducible refine T_sI_23 (by assumption) (by assumption) (by assumption) (by simp) ?_ ?_ (fun _ _ _ _ _ _ => ?_))
    | (with_reducible refine T_sI_24 (by assumption) (by assumption) (by assumption) (by simp) ?_ ?_ (fun _ _ _ _ _ _ => ?_))
    | (with_reducible refine kc_X0_worthIn (by assumption) (fre.sub (by assumption) (by simp)) (by assumption) (by assumption) (fun _ _ _ => ?_))
    | (with_reducible refine kc_X11_isWithin ?_ (fun _ => ?_))
    | (with_reducible refine kc_X7_keepRings (by assumption) (fre.sub (by assumption) (by simp)) (by assumption) ?_ (fun _ _ _ => ?_))
    | (with_reducible refine kc_X8_hasHouse (by assumption) (by assumption) ?_ (fun _ => ?_))
    | (with_reducible refine T_y (fun _ _ _ => ?_))
    | (refine ⟨fun _ => ?_, fun _ => ?_⟩)
    | fail)
    all_goals (first
    | (with_reducible assumption)
    | omega
    | (simp only [← Int32.toInt_inj, Int32.toInt_add, Int32.toInt_mul, Int32.toInt_sub, Int32.toInt_neg, apply_ite Int32.toInt, Int32.reduceToInt, Int32.le_iff_toInt_le, Int32.lt_iff_toInt_lt] at *; (try simp only [Int.bmod_add_bmod, Int.add_bmod_bmod, Int.bmod_mul_bmod, Int.mul_bmod_bmod, Int.sub_bmod_bmod, Int.bmod_sub_bmod] at *); (try simp (disch := omega) only [fb_bmod, true_and, and_true] at *); all_goals (first | omega | (simp only [Int.bmod_def] at *; omega) | omega)))
  unfold w_X11_keep
  repeat' (first
    | (exact absurd rfl ‹¬ (0 : Int32) = 0›)
    | (exact absurd ‹(1 : Int32) = 0› (by decide))
    | refine k50 ?_
    | exact k _ _ _ gro_rf (by assumption)
    | (with_reducible refine T_gP_11_0 (by assumption) (by assumption) (fun _ _ _ => ?_))
    | (with_reducible refine T_gP_11_6 (by assumption) (by assumption) (fun _ _ _ => ?_))
    | (with_reducible refine T_gP_11_9 (by assumption) (by assumption) (fun _ _ _ => ?_))
    | (with_reducible refine T_gP_7_1 (by assumption) (by assumption) (fun _ _ _ => ?_))
    | (with_reducible refine T_gP_7_2 (by assumption) (by assumption) (fun _ _ _ => ?_))
    | (with_reducible refine T_gP_8_0 (by assumption) (by assumption) (fun _ _ _ => ?_))
    | (with_reducible refine T_gI_2_5 (by assumption) (by assumption) (fun _ _ _ => ?_))
    | (with_reducible refine T_oK_0 (by assumption) (by assumption) ?_)
    | (with_reducible refine T_oK_7 (by assumption) (by assumption) ?_)
    | (with_reducible refine T_oK_8 (by assumption) (by assumption) ?_)
    | (with_reducible refine T_aI_20 (by assumption) (by assumption) ?_ (fun _ _ _ => ?_))
    | (with_reducible refine T_aI_21 (by assumption) (by assumption) ?_ (fun _ _ _ => ?_))
    | (with_reducible refine T_aI_22 (by assumption) (by assumption) ?_ (fun _ _ _ => ?_))
    | (with_reducible refine T_aI_23 (by assumption) (by assumption) ?_ (fun _ _ _ => ?_))
    | (with_reducible refine T_aI_24 (by assumption) (by assumption) ?_ (fun _ _ _ => ?_))
    | (with_reducible refine T_sI_20 (by assumption) (by assumption) (by assumption) (by simp) ?_ (fun _ _ _ _ _ _ => ?_))
    | (with_reducible refine T_sI_21 (by assumption) (by assumption) (by assumption) (by simp) ?_ ?_ (fun _ _ _ _ _ _ => ?_))
    | (with_reducible refine T_sI_22 (by assumption) (by assumption) (by assumption) (by simp) ?_ ?_ (fun _ _ _ _ _ _ => ?_))
    | (with_reducible refine T_sI_23 (by assumption) (by assumption) (by assumption) (by simp) ?_ ?_ (fun _ _ _ _ _ _ => ?_))
    | (with_reducible refine T_sI_24 (by assumption) (by assumption) (by assumption) (by simp) ?_ ?_ (fun _ _ _ _ _ _ => ?_))
    | (with_reducible refine kc_X0_worthIn (by assumption) (fre.sub (by assumption) (by simp)) (by assumption) (by assumption) (fun _ _ _ => ?_))
    | (with_reducible refine kc_X11_isWithin ?_ (fun _ => ?_))
    | (with_reducible refine kc_X7_keepRings (by assumption) (fre.sub (by assumption) (by simp)) (by assumption) ?_ (fun _ _ _ => ?_))
    | (with_reducible refine kc_X8_hasHouse (by assumption) (by assumption) ?_ (fun _ => ?_))
    | (with_reducible refine T_y (fun _ _ _ => ?_))
    | (refine ⟨fun _ => ?_, fun _ => ?_⟩)
    | fail)
  all_goals (first
    | (with_reducible assumption)
    | omega
    | (simp only [← Int32.toInt_inj, Int32.toInt_add, Int32.toInt_mul, Int32.toInt_sub, Int32.toInt_neg, apply_ite Int32.toInt, Int32.reduceToInt, Int32.le_iff_toInt_le, Int32.lt_iff_toInt_lt] at *; (try simp only [Int.bmod_add_bmod, Int.add_bmod_bmod, Int.bmod_mul_bmod, Int.mul_bmod_bmod, Int.sub_bmod_bmod, Int.bmod_sub_bmod] at *); (try simp (disch := omega) only [fb_bmod, true_and, and_true] at *); all_goals (first | omega | (simp only [Int.bmod_def] at *; omega) | omega)))
theorem kc_X11_setSales {q : hS → Prop} {v : Int32} (h : St Γ Φ S) (hf : fre Γ Φ [101, 700, 507]) (ha : Γ a = some (11, 11, 0, rs, ρa)) (k : ∀ S', St Γ Φ S' → q S') : w_X11_setSales q S a v := by
  unfold w_X11_setSales
  refine loop_m (σ := hS × Int32) (fun m s => w_X11_setSales_b2 q m s.1 a v s.2) (fun s => St Γ Φ s.1 ∧ 0 ≤ s.2.toInt ∧ s.2.toInt ≤ 8) (fun s => (8 - s.2.toInt).toNat) ?_ (S, 0) ⟨h, by dsimp only; rw [z0I]; omega⟩
  rintro m ⟨S, x⟩ ⟨h, hx⟩ ih
  dsimp only at h hx ih ⊢
  have go : ∀ (S' : hS) (y : Int32), St Γ Φ S' → y.toInt = x.toInt + 1 ∧ x.toInt < 8 → w_X11_setSales_b2 q m S' a v y := fun S' y h' hy => ih (S', y) ⟨h', by dsimp only; omega⟩ (by dsimp only; omega)
  have k15 : ∀ S', St Γ Φ S' → x.toInt < 8 → ∃ n, w_X11_setSales_b15 q (fun S v0 v1 v2 => w_X11_setSales_b2 q m S v0 v1 v2) n S' a v x 0 := by
    intro S' h' hx8
    refine loop_m (σ := hS × Int32) (fun j s => w_X11_setSales_b15 q (fun S v0 v1 v2 => w_X11_setSales_b2 q m S v0 v1 v2) j s.1 a v x s.2) (fun s => St Γ Φ s.1 ∧ 0 ≤ s.2.toInt ∧ s.2.toInt ≤ 8) (fun s => (8 - s.2.toInt).toNat) ?_ (S', 0) ⟨h', by dsimp only; rw [z0I]; omega⟩
    rintro j ⟨S, z⟩ ⟨h, hz⟩ ih2
    dsimp only at h hz ih2 ⊢
    have go2 : ∀ (S' : hS) (y : Int32), St Γ Φ S' → y.toInt = z.toInt + 1 ∧ z.toInt < 8 → w_X11_setSales_b15 q (fun S v0 v1 v2 => w_X11_setSales_b2 q m S v0 v1 v2) j S' a v x y := fun S' y h' hy => ih2 (S', y) ⟨h', by dsimp only; omega⟩ (by dsimp only; omega)
    have k67 : ∀ (S' : hS) (r : Int32), St Γ Φ S' → z.toInt < 8 → w_X11_setSales_b67 q (fun S v0 v1 v2 => w_X11_setSales_b2 q m S v0 v1 v2) (fun S v0 v1 v2 v3 => w_X11_setSales_b15 q (fun S v0 v1 v2 => w_X11_setSales_b2 q m S v0 v1 v2) j S v0 v1 v2 v3) S' a v x z r := by
      intro S' r h' hz8
      clear ih ih2 h
      unfold w_X11_setSales_b67
      repeat' (first
    | (exact absurd rfl ‹¬ (0 : Int32) = 0›)
    | (exact absurd ‹(1 : Int32) = 0› (by decide))
    | refine go2 _ _ (by assumption) ?_
    | (with_reducible refine T_gP_11_0 (by assumption) (by assumption) (fun _ _ _ => ?_))
    | (with_reducible refine T_gP_11_6 (by assumption) (by assumption) (fun _ _ _ => ?_))
    | (with_reducible refine T_gP_11_7 (by assumption) (by assumption) (fun _ _ _ => ?_))
    | (with_reducible refine T_gP_11_8 (by assumption) (by assumption) (fun _ _ _ => ?_))
    | (with_reducible refine T_gP_4_7 (by assumption) (by assumption) (fun _ _ _ => ?_))
    | (with_reducible refine T_gI_8_4 (by assumption) (by assumption) (fun _ _ _ => ?_))
    | (with_reducible refine T_oK_0 (by assumption) (by assumption) ?_)
    | (with_reducible refine T_oK_1 (by assumption) (by assumption) ?_)
    | (with_reducible refine T_sI_20 (by assumption) (by assumption) (by assumption) (by simp) ?_ (fun _ _ _ _ _ _ => ?_))
    | (with_reducible refine T_sI_21 (by assumption) (by assumption) (by assumption) (by simp) ?_ ?_ (fun _ _ _ _ _ _ => ?_))
    | (with_reducible refine T_sI_22 (by assumption) (by assumption) (by assumption) (by simp) ?_ ?_ (fun _ _ _ _ _ _ => ?_))
    | (with_reducible refine T_sI_23 (by assumption) (by assumption) (by assumption) (by simp) ?_ ?_ (fun _ _ _ _ _ _ => ?_))
    | (with_reducible refine T_sI_24 (by assumption) (by assumption) (by assumption) (by simp) ?_ ?_ (fun _ _ _ _ _ _ => ?_))
    | (with_reducible refine kc_X0_price (by assumption) (fre.sub (by assumption) (by simp)) (by assumption) (by assumption) (fun _ _ _ => ?_))
    | (with_reducible refine kc_X1_canBuy (by assumption) (fre.sub (by assumption) (by simp)) (by assumption) (by assumption) (fun _ _ => ?_) (fun _ _ _ => ?_))
    | (unfold w_X11_setSales_b67)
    | (with_reducible refine T_y (fun _ _ _ => ?_))
    | (refine ⟨fun _ => ?_, fun _ => ?_⟩)
    | fail)
      all_goals (first
    | (with_reducible assumption)
    | omega
    | (simp only [← Int32.toInt_inj, Int32.toInt_add, Int32.toInt_mul, Int32.toInt_sub, Int32.toInt_neg, apply_ite Int32.toInt, Int32.reduceToInt, Int32.le_iff_toInt_le, Int32.lt_iff_toInt_lt] at *; (try simp only [Int.bmod_add_bmod, Int.add_bmod_bmod, Int.bmod_mul_bmod, Int.mul_bmod_bmod, Int.sub_bmod_bmod, Int.bmod_sub_bmod] at *); (try simp (disch := omega) only [fb_bmod, true_and, and_true] at *); all_goals (first | omega | (simp only [Int.bmod_def] at *; omega) | omega)))
    rw [w_X11_setSales_b15]
    repeat' (first
    | (exact absurd rfl ‹¬ (0 : Int32) = 0›)
    | (exact absurd ‹(1 : Int32) = 0› (by decide))
    | refine go _ _ (by assumption) ?_
    | refine k67 _ _ (by assumption) ?_
    | (with_reducible refine T_gP_11_0 (by assumption) (by assumption) (fun _ _ _ => ?_))
    | (with_reducible refine T_gP_11_6 (by assumption) (by assumption) (fun _ _ _ => ?_))
    | (with_reducible refine T_gP_11_7 (by assumption) (by assumption) (fun _ _ _ => ?_))
    | (with_reducible refine T_gP_11_8 (by assumption) (by assumption) (fun _ _ _ => ?_))
    | (with_reducible refine T_gP_4_7 (by assumption) (by assumption) (fun _ _ _ => ?_))
    | (with_reducible refine T_gI_8_4 (by assumption) (by assumption) (fun _ _ _ => ?_))
    | (with_reducible refine T_oK_0 (by assumption) (by assumption) ?_)
    | (with_reducible refine T_oK_1 (by assumption) (by assumption) ?_)
    | (with_reducible refine T_sI_20 (by assumption) (by assumption) (by assumption) (by simp) ?_ (fun _ _ _ _ _ _ => ?_))
    | (with_reducible refine T_sI_21 (by assumption) (by assumption) (by assumption) (by simp) ?_ ?_ (fun _ _ _ _ _ _ => ?_))
    | (with_reducible refine T_sI_22 (by assumption) (by assumption) (by assumption) (by simp) ?_ ?_ (fun _ _ _ _ _ _ => ?_))
    | (with_reducible refine T_sI_23 (by assumption) (by assumption) (by assumption) (by simp) ?_ ?_ (fun _ _ _ _ _ _ => ?_))
    | (with_reducible refine T_sI_24 (by assumption) (by assumption) (by assumption) (by simp) ?_ ?_ (fun _ _ _ _ _ _ => ?_))
    | (with_reducible refine kc_X0_price (by assumption) (fre.sub (by assumption) (by simp)) (by assumption) (by assumption) (fun _ _ _ => ?_))
    | (with_reducible refine kc_X1_canBuy (by assumption) (fre.sub (by assumption) (by simp)) (by assumption) (by assumption) (fun _ _ => ?_) (fun _ _ _ => ?_))
    | (unfold w_X11_setSales_b67)
    | (with_reducible refine T_y (fun _ _ _ => ?_))
    | (refine ⟨fun _ => ?_, fun _ => ?_⟩)
    | fail)
    all_goals (first
    | (with_reducible assumption)
    | omega
    | (simp only [← Int32.toInt_inj, Int32.toInt_add, Int32.toInt_mul, Int32.toInt_sub, Int32.toInt_neg, apply_ite Int32.toInt, Int32.reduceToInt, Int32.le_iff_toInt_le, Int32.lt_iff_toInt_lt] at *; (try simp only [Int.bmod_add_bmod, Int.add_bmod_bmod, Int.bmod_mul_bmod, Int.mul_bmod_bmod, Int.sub_bmod_bmod, Int.bmod_sub_bmod] at *); (try simp (disch := omega) only [fb_bmod, true_and, and_true] at *); all_goals (first | omega | (simp only [Int.bmod_def] at *; omega) | omega)))
  rw [w_X11_setSales_b2]
  repeat' (first
    | (exact absurd rfl ‹¬ (0 : Int32) = 0›)
    | (exact absurd ‹(1 : Int32) = 0› (by decide))
    | exact k _ (by assumption)
    | refine k15 _ (by assumption) ?_
    | (with_reducible refine T_gP_11_0 (by assumption) (by assumption) (fun _ _ _ => ?_))
    | (with_reducible refine T_gP_11_6 (by assumption) (by assumption) (fun _ _ _ => ?_))
    | (with_reducible refine T_gP_11_7 (by assumption) (by assumption) (fun _ _ _ => ?_))
    | (with_reducible refine T_gP_11_8 (by assumption) (by assumption) (fun _ _ _ => ?_))
    | (with_reducible refine T_gP_4_7 (by assumption) (by assumption) (fun _ _ _ => ?_))
    | (with_reducible refine T_gI_8_4 (by assumption) (by assumption) (fun _ _ _ => ?_))
    | (with_reducible refine T_oK_0 (by assumption) (by assumption) ?_)
    | (with_reducible refine T_oK_1 (by assumption) (by assumption) ?_)
    | (with_reducible refine T_sI_20 (by assumption) (by assumption) (by assumption) (by simp) ?_ (fun _ _ _ _ _ _ => ?_))
    | (with_reducible refine T_sI_21 (by assumption) (by assumption) (by assumption) (by simp) ?_ ?_ (fun _ _ _ _ _ _ => ?_))
    | (with_reducible refine T_sI_22 (by assumption) (by assumption) (by assumption) (by simp) ?_ ?_ (fun _ _ _ _ _ _ => ?_))
    | (with_reducible refine T_sI_23 (by assumption) (by assumption) (by assumption) (by simp) ?_ ?_ (fun _ _ _ _ _ _ => ?_))
    | (with_reducible refine T_sI_24 (by assumption) (by assumption) (by assumption) (by simp) ?_ ?_ (fun _ _ _ _ _ _ => ?_))
    | (with_reducible refine kc_X0_price (by assumption) (fre.sub (by assumption) (by simp)) (by assumption) (by assumption) (fun _ _ _ => ?_))
    | (with_reducible refine kc_X1_canBuy (by assumption) (fre.sub (by assumption) (by simp)) (by assumption) (by assumption) (fun _ _ => ?_) (fun _ _ _ => ?_))
    | (unfold w_X11_setSales_b67)
    | (with_reducible refine T_y (fun _ _ _ => ?_))
    | (refine ⟨fun _ => ?_, fun _ => ?_⟩)
    | fail)
  all_goals (first
    | (with_reducible assumption)
    | omega
    | (simp only [← Int32.toInt_inj, Int32.toInt_add, Int32.toInt_mul, Int32.toInt_sub, Int32.toInt_neg, apply_ite Int32.toInt, Int32.reduceToInt, Int32.le_iff_toInt_le, Int32.lt_iff_toInt_lt] at *; (try simp only [Int.bmod_add_bmod, Int.add_bmod_bmod, Int.bmod_mul_bmod, Int.mul_bmod_bmod, Int.sub_bmod_bmod, Int.bmod_sub_bmod] at *); (try simp (disch := omega) only [fb_bmod, true_and, and_true] at *); all_goals (first | omega | (simp only [Int.bmod_def] at *; omega) | omega)))
theorem kc_X11_chain {q : Int32 → hS → Prop} {v w t e : Int32} (h : St Γ Φ S) (hf : fre Γ Φ [101, 700, 4, 507, 508, 509]) (ha : Γ a = some (11, 11, 0, rs, ρa)) (k : ∀ r Γ' S', gro Γ Φ Γ' → St Γ' Φ S' → q r S') : w_X11_chain q S a v w t e := by
  unfold w_X11_chain
  repeat' (first
    | (exact absurd rfl ‹¬ (0 : Int32) = 0›)
    | (exact absurd ‹(1 : Int32) = 0› (by decide))
    | exact k _ _ _ gro_rf (by assumption)
    | (with_reducible refine T_gP_11_0 (by assumption) (by assumption) (fun _ _ _ => ?_))
    | (with_reducible refine T_gP_11_8 (by assumption) (by assumption) (fun _ _ _ => ?_))
    | (with_reducible refine T_gP_4_9 (by assumption) (by assumption) (fun _ _ _ => ?_))
    | (with_reducible refine T_gI_4_10 (by assumption) (by assumption) (fun _ _ _ => ?_))
    | (with_reducible refine T_gI_8_4 (by assumption) (by assumption) (fun _ _ _ => ?_))
    | (with_reducible refine T_oK_11 (by assumption) (by assumption) ?_)
    | (with_reducible refine T_oK_4 (by assumption) (by assumption) ?_)
    | (with_reducible refine T_oK_8 (by assumption) (by assumption) ?_)
    | (with_reducible refine T_aI_20 (by assumption) (by assumption) ?_ (fun _ _ _ => ?_))
    | (with_reducible refine T_aI_21 (by assumption) (by assumption) ?_ (fun _ _ _ => ?_))
    | (with_reducible refine T_aI_22 (by assumption) (by assumption) ?_ (fun _ _ _ => ?_))
    | (with_reducible refine T_aI_23 (by assumption) (by assumption) ?_ (fun _ _ _ => ?_))
    | (with_reducible refine T_aI_24 (by assumption) (by assumption) ?_ (fun _ _ _ => ?_))
    | (with_reducible refine kc_X11_setSales (by assumption) (fre.sub (by assumption) (by simp)) (by assumption) (fun _ _ => ?_))
    | (with_reducible refine kc_X4_findChain (by assumption) (fre.sub (by assumption) (by simp)) (by assumption) ?_ (fun _ _ _ => ?_))
    | (with_reducible refine kc_X8_hasHouse (by assumption) (by assumption) ?_ (fun _ => ?_))
    | (with_reducible refine kc_X8_hasPerson (by assumption) (by assumption) ?_ (fun _ => ?_))
    | (with_reducible refine kc_X8_leftOf (by assumption) (by assumption) (fun _ => ?_))
    | (refine ⟨fun _ => ?_, fun _ => ?_⟩)
    | fail)
  all_goals (first
    | (with_reducible assumption)
    | omega
    | (simp only [← Int32.toInt_inj, Int32.toInt_add, Int32.toInt_mul, Int32.toInt_sub, Int32.toInt_neg, apply_ite Int32.toInt, Int32.reduceToInt, Int32.le_iff_toInt_le, Int32.lt_iff_toInt_lt] at *; (try simp only [Int.bmod_add_bmod, Int.add_bmod_bmod, Int.bmod_mul_bmod, Int.mul_bmod_bmod, Int.sub_bmod_bmod, Int.bmod_sub_bmod] at *); (try simp (disch := omega) only [fb_bmod, true_and, and_true] at *); all_goals (first | omega | (simp only [Int.bmod_def] at *; omega) | omega)))
end MAIN
