/-! LAYER 2, the class: the reader -/
def rdK (t : Nat) : Int := if t = 0 then 7 else if t = 1 then 6 else if t = 2 then 5 else if t = 3 then 1 else if t = 4 then 4 else if t = 5 then 3 else if t = 6 then 2 else 1
section READER
variable {Γ : kG} {Φ : kF} {S : hS} {a b j : Nat} {ρa ρb ρd ρg : Nat → Nat} {κ rs : Nat} {tx : Nat → Nat}
theorem kc_X5_takeWord {q : Int32 → hS → Prop} (h : St Γ Φ S) (hf : fre Γ Φ [9]) (ha : Γ a = some (5, 5, 0, 0, ρa)) (hj : j < 28) (k0 : q 0 S) (k1 : ∀ S', St Γ Φ S' → q 1 S') : w_X5_takeWord tx q S a (tx j) := by
  unfold w_X5_takeWord
  repeat' (first
    | (exact absurd rfl ‹¬ (0 : Int32) = 0›)
    | (exact absurd ‹(1 : Int32) = 0› (by decide))
    | exact k0
    | exact k1 _ (by assumption)
    | (with_reducible refine T_gP_5_1 (by assumption) (by assumption) (fun _ _ _ => ?_))
    | (with_reducible refine T_oK_9 (by assumption) (by assumption) ?_)
    | (with_reducible refine kc_X9_advance (by assumption) (fre.sub (by assumption) (by simp)) (by assumption) (fun _ _ => ?_))
    | (with_reducible refine kc_X9_isWord (by assumption) (by assumption) (by first | omega | assumption) ?_ ?_)
    | (refine ⟨fun _ => ?_, fun _ => ?_⟩)
    | fail)
theorem kc_X5_takeSign {q : Int32 → hS → Prop} {v : Int32} (h : St Γ Φ S) (hf : fre Γ Φ [9]) (ha : Γ a = some (5, 5, 0, 0, ρa)) (k0 : q 0 S) (k1 : ∀ S', St Γ Φ S' → q 1 S') : w_X5_takeSign q S a v := by
  unfold w_X5_takeSign
  repeat' (first
    | (exact absurd rfl ‹¬ (0 : Int32) = 0›)
    | (exact absurd ‹(1 : Int32) = 0› (by decide))
    | exact k0
    | exact k1 _ (by assumption)
    | (with_reducible refine T_gP_5_1 (by assumption) (by assumption) (fun _ _ _ => ?_))
    | (with_reducible refine T_oK_9 (by assumption) (by assumption) ?_)
    | (with_reducible refine kc_X9_advance (by assumption) (fre.sub (by assumption) (by simp)) (by assumption) (fun _ _ => ?_))
    | (with_reducible refine kc_X9_isSign (by assumption) (by assumption) ?_ ?_)
    | (refine ⟨fun _ => ?_, fun _ => ?_⟩)
    | fail)
theorem kc_X5_isTermSign {q : Int32 → hS → Prop} (h : St Γ Φ S) (ha : Γ a = some (5, 5, 0, 0, ρa)) (k0 : q 0 S) (k1 : q 1 S) : w_X5_isTermSign q S a := by
  unfold w_X5_isTermSign
  repeat' (first
    | (exact absurd rfl ‹¬ (0 : Int32) = 0›)
    | (exact absurd ‹(1 : Int32) = 0› (by decide))
    | exact k0
    | exact k1
    | (with_reducible refine T_gP_5_1 (by assumption) (by assumption) (fun _ _ _ => ?_))
    | (with_reducible refine T_oK_9 (by assumption) (by assumption) ?_)
    | (with_reducible refine kc_X9_isSign (by assumption) (by assumption) ?_ ?_)
    | (unfold w_X5_isTermSign_b36)
    | (refine ⟨fun _ => ?_, fun _ => ?_⟩)
    | fail)
theorem kc_X5_lawKind {q : Int32 → hS → Prop} (h : St Γ Φ S) (ha : Γ a = some (5, 5, 0, 0, ρa)) (k : ∀ r, q r S) : w_X5_lawKind tx q S a := by
  unfold w_X5_lawKind
  repeat' (first
    | (exact absurd rfl ‹¬ (0 : Int32) = 0›)
    | (exact absurd ‹(1 : Int32) = 0› (by decide))
    | exact k _
    | (with_reducible refine T_gP_5_1 (by assumption) (by assumption) (fun _ _ _ => ?_))
    | (with_reducible refine T_oK_9 (by assumption) (by assumption) ?_)
    | (with_reducible refine kc_X9_isWord (by assumption) (by assumption) (by first | omega | assumption) ?_ ?_)
    | (refine ⟨fun _ => ?_, fun _ => ?_⟩)
    | fail)
theorem kc_X5_lawWord {q : Int32 → hS → Prop} (h : St Γ Φ S) (ha : Γ a = some (5, 5, 0, 0, ρa)) (k : ∀ r : Int32, (r = -1 ∨ (0 ≤ r.toInt ∧ r.toInt ≤ 20)) → q r S) : w_X5_lawWord tx q S a := by
  unfold w_X5_lawWord
  repeat' (first
    | (exact absurd rfl ‹¬ (0 : Int32) = 0›)
    | (exact absurd ‹(1 : Int32) = 0› (by decide))
    | exact k _ (by decide)
    | (with_reducible refine T_gP_5_1 (by assumption) (by assumption) (fun _ _ _ => ?_))
    | (with_reducible refine T_oK_9 (by assumption) (by assumption) ?_)
    | (with_reducible refine kc_X9_isWord (by assumption) (by assumption) (by first | omega | assumption) ?_ ?_)
    | (refine ⟨fun _ => ?_, fun _ => ?_⟩)
    | fail)
theorem kc_X5_orderWord {q : Int32 → hS → Prop} (h : St Γ Φ S) (ha : Γ a = some (5, 5, 0, 0, ρa)) (k : ∀ r : Int32, (r = -1 ∨ (0 ≤ r.toInt ∧ r.toInt ≤ 20)) → q r S) : w_X5_orderWord tx q S a := by
  unfold w_X5_orderWord
  repeat' (first
    | (exact absurd rfl ‹¬ (0 : Int32) = 0›)
    | (exact absurd ‹(1 : Int32) = 0› (by decide))
    | exact k _ (by decide)
    | (with_reducible refine T_gP_5_1 (by assumption) (by assumption) (fun _ _ _ => ?_))
    | (with_reducible refine T_oK_9 (by assumption) (by assumption) ?_)
    | (with_reducible refine kc_X9_isWord (by assumption) (by assumption) (by first | omega | assumption) ?_ ?_)
    | (refine ⟨fun _ => ?_, fun _ => ?_⟩)
    | fail)
theorem kc_X5_addWord {q : Int32 → hS → Prop} {v : Int32} (h : St Γ Φ S) (hf : fre Γ Φ [5, 9, 10, 1103, 1104, 1105, 1106]) (ha : Γ a = some (5, 5, 0, 0, ρa)) (hv : 0 ≤ v.toInt ∧ v.toInt ≤ 20) (k : ∀ S', St Γ Φ S' → q 1 S') : w_X5_addWord q S a v := by
  unfold w_X5_addWord
  repeat' (first
    | (exact absurd rfl ‹¬ (0 : Int32) = 0›)
    | (exact absurd ‹(1 : Int32) = 0› (by decide))
    | exact k _ (by assumption)
    | (with_reducible refine T_gP_5_0 (by assumption) (by assumption) (fun _ _ _ => ?_))
    | (with_reducible refine T_oK_10 (by assumption) (by assumption) ?_)
    | (with_reducible refine kc_X10_add (by assumption) (fre.sub (by assumption) (by simp)) (by assumption) ?_ (fun _ _ _ => ?_))
    | (refine ⟨fun _ => ?_, fun _ => ?_⟩)
    | fail)
  all_goals (first
    | (with_reducible assumption)
    | omega
    | (simp only [← Int32.toInt_inj, Int32.toInt_add, Int32.toInt_mul, Int32.toInt_sub, Int32.toInt_neg, apply_ite Int32.toInt, Int32.reduceToInt, Int32.le_iff_toInt_le, Int32.lt_iff_toInt_lt] at *; (try simp only [Int.bmod_add_bmod, Int.add_bmod_bmod, Int.bmod_mul_bmod, Int.mul_bmod_bmod, Int.sub_bmod_bmod, Int.bmod_sub_bmod] at *); (try simp (disch := omega) only [fb_bmod, true_and, and_true] at *); all_goals (first | omega | (simp only [Int.bmod_def] at *; omega) | omega)))
theorem kc_X5_readWhose {q : Int32 → hS → Prop} {v : Int32} (h : St Γ Φ S) (hf : fre Γ Φ [5, 9, 10, 1103, 1104, 1105, 1106]) (ha : Γ a = some (5, 5, 0, 0, ρa)) (hv : 0 ≤ v.toInt ∧ v.toInt ≤ 20) (k0 : ∀ S', St Γ Φ S' → q 0 S') (k1 : ∀ S', St Γ Φ S' → q 1 S') : w_X5_readWhose q S a v := by
  unfold w_X5_readWhose
  repeat' (first
    | (exact absurd rfl ‹¬ (0 : Int32) = 0›)
    | (exact absurd ‹(1 : Int32) = 0› (by decide))
    | exact k0 _ (by assumption)
    | exact k1 _ (by assumption)
    | (with_reducible refine T_gP_5_0 (by assumption) (by assumption) (fun _ _ _ => ?_))
    | (with_reducible refine T_gP_5_1 (by assumption) (by assumption) (fun _ _ _ => ?_))
    | (with_reducible refine T_gI_9_4 (by assumption) (by assumption) (fun _ _ _ => ?_))
    | (with_reducible refine T_oK_10 (by assumption) (by assumption) ?_)
    | (with_reducible refine T_oK_9 (by assumption) (by assumption) ?_)
    | (with_reducible refine kc_X10_add (by assumption) (fre.sub (by assumption) (by simp)) (by assumption) ?_ (fun _ _ _ => ?_))
    | (with_reducible refine kc_X9_advance (by assumption) (fre.sub (by assumption) (by simp)) (by assumption) (fun _ _ => ?_))
    | (with_reducible refine kc_X9_isNumber (by assumption) (by assumption) ?_ ?_)
    | (unfold w_X5_readWhose_b12)
    | (refine ⟨fun _ => ?_, fun _ => ?_⟩)
    | fail)
  all_goals (first
    | (with_reducible assumption)
    | omega
    | (simp only [← Int32.toInt_inj, Int32.toInt_add, Int32.toInt_mul, Int32.toInt_sub, Int32.toInt_neg, apply_ite Int32.toInt, Int32.reduceToInt, Int32.le_iff_toInt_le, Int32.lt_iff_toInt_lt] at *; (try simp only [Int.bmod_add_bmod, Int.add_bmod_bmod, Int.bmod_mul_bmod, Int.mul_bmod_bmod, Int.sub_bmod_bmod, Int.bmod_sub_bmod] at *); (try simp (disch := omega) only [fb_bmod, true_and, and_true] at *); all_goals (first | omega | (simp only [Int.bmod_def] at *; omega) | omega)))
theorem kc_rd (hf : fre Γ Φ [5, 9, 10, 1103, 1104, 1105, 1106]) (ha : Γ a = some (5, 5, 0, 0, ρa)) : ∀ (d t : Nat) (S : hS) (q : Int32 → hS → Prop) (v : Int32), St Γ Φ S → (0 ≤ v.toInt ∧ v.toInt ≤ 8) → (rdK t + 7 * (8 - v.toInt) ≤ (d : Int) ∧ t < 8) → (∀ S', St Γ Φ S' → q 0 S') → (∀ S', St Γ Φ S' → q 1 S') → wr_R tx d t q S a v := by
  have r0 : rdK 0 = 7 := rfl
  have r1 : rdK 1 = 6 := rfl
  have r2 : rdK 2 = 5 := rfl
  have r3 : rdK 3 = 1 := rfl
  have r4 : rdK 4 = 4 := rfl
  have r5 : rdK 5 = 3 := rfl
  have r6 : rdK 6 = 2 := rfl
  have r7 : rdK 7 = 1 := rfl
  intro d
  induction d with
  | zero =>
    intro t S q v h hv hd
    have : 1 ≤ rdK t := by unfold rdK; split <;> omega
    omega
  | succ d ihd =>
    intro t S q v h hv hd k0 k1
    have ev := inc1 (x := v) (by omega)
    obtain ⟨hd, ht⟩ := hd
    have hT : t = 0 ∨ t = 1 ∨ t = 2 ∨ t = 3 ∨ t = 4 ∨ t = 5 ∨ t = 6 ∨ t = 7 := by omega
    clear ht
    rcases hT with rfl | rfl | rfl | rfl | rfl | rfl | rfl | rfl
    · have k12 : ∀ S', St Γ Φ S' → ∃ n, w_X5_readTest_b12 tx (wr_R tx d) q n S' a v 0 := by
        intro S' h'
        refine loop_m (σ := hS × Int32) (fun t s => w_X5_readTest_b12 tx (wr_R tx d) q t s.1 a v s.2) (fun s => St Γ Φ s.1 ∧ 0 ≤ s.2.toInt ∧ s.2.toInt ≤ 400) (fun s => (400 - s.2.toInt).toNat) ?_ (S', 0) ⟨h', by dsimp only; rw [z0I]; omega⟩
        rintro t ⟨S, x⟩ ⟨h, hx⟩ ih
        dsimp only at h hx ih ⊢
        have go : ∀ (S' : hS) (y : Int32), St Γ Φ S' → y.toInt = x.toInt + 1 ∧ x.toInt < 400 → w_X5_readTest_b12 tx (wr_R tx d) q t S' a v y := fun S' y h' hy => ih (S', y) ⟨h', by dsimp only; omega⟩ (by dsimp only; omega)
        rw [w_X5_readTest_b12]
        repeat' (first
    | (exact absurd rfl ‹¬ (0 : Int32) = 0›)
    | (exact absurd ‹(1 : Int32) = 0› (by decide))
    | exact k0 _ (by assumption)
    | exact k1 _ (by assumption)
    | exact ⟨Or.inl rfl, k0 _ (by assumption)⟩
    | exact ⟨Or.inr rfl, k1 _ (by assumption)⟩
    | refine go _ _ (by assumption) ?_
    | refine ihd _ _ _ _ (by assumption) ?_ ?_ (fun _ _ => ?_) (fun _ _ => ?_)
    | (with_reducible refine T_gP_5_0 (by assumption) (by assumption) (fun _ _ _ => ?_))
    | (with_reducible refine T_oK_10 (by assumption) (by assumption) ?_)
    | (with_reducible refine T_oK_5 (by assumption) (by assumption) ?_)
    | (with_reducible refine kc_X10_add (by assumption) (fre.sub (by assumption) (by simp)) (by assumption) ?_ (fun _ _ _ => ?_))
    | (with_reducible refine kc_X10_landSkip (by assumption) (fre.sub (by assumption) (by simp)) (by assumption) (fun _ _ => ?_))
    | (with_reducible refine kc_X5_takeWord (by assumption) (fre.sub (by assumption) (by simp)) (by assumption) (by first | omega | assumption) ?_ (fun _ _ => ?_))
    | (with_reducible refine T_y (fun _ _ _ => ?_))
    | (refine ⟨fun _ => ?_, fun _ => ?_⟩)
    | fail)
        all_goals (first | decide | (first
    | (with_reducible assumption)
    | omega
    | (simp only [← Int32.toInt_inj, Int32.toInt_add, Int32.toInt_mul, Int32.toInt_sub, Int32.toInt_neg, apply_ite Int32.toInt, Int32.reduceToInt, Int32.le_iff_toInt_le, Int32.lt_iff_toInt_lt] at *; (try simp only [Int.bmod_add_bmod, Int.add_bmod_bmod, Int.bmod_mul_bmod, Int.mul_bmod_bmod, Int.sub_bmod_bmod, Int.bmod_sub_bmod] at *); (try simp (disch := omega) only [fb_bmod, true_and, and_true] at *); all_goals (first | omega | (simp only [Int.bmod_def] at *; omega) | omega))))
      show wb_X5_readTest tx (wr_R tx d) q S a v
      unfold wb_X5_readTest
      repeat' (first
    | (exact absurd rfl ‹¬ (0 : Int32) = 0›)
    | (exact absurd ‹(1 : Int32) = 0› (by decide))
    | exact k12 _ (by assumption)
    | exact k0 _ (by assumption)
    | exact k1 _ (by assumption)
    | exact ⟨Or.inl rfl, k0 _ (by assumption)⟩
    | exact ⟨Or.inr rfl, k1 _ (by assumption)⟩
    | refine ihd _ _ _ _ (by assumption) ?_ ?_ (fun _ _ => ?_) (fun _ _ => ?_)
    | (with_reducible refine T_gP_5_0 (by assumption) (by assumption) (fun _ _ _ => ?_))
    | (with_reducible refine T_oK_10 (by assumption) (by assumption) ?_)
    | (with_reducible refine T_oK_5 (by assumption) (by assumption) ?_)
    | (with_reducible refine kc_X10_add (by assumption) (fre.sub (by assumption) (by simp)) (by assumption) ?_ (fun _ _ _ => ?_))
    | (with_reducible refine kc_X10_landSkip (by assumption) (fre.sub (by assumption) (by simp)) (by assumption) (fun _ _ => ?_))
    | (with_reducible refine kc_X5_takeWord (by assumption) (fre.sub (by assumption) (by simp)) (by assumption) (by first | omega | assumption) ?_ (fun _ _ => ?_))
    | (with_reducible refine T_y (fun _ _ _ => ?_))
    | (refine ⟨fun _ => ?_, fun _ => ?_⟩)
    | fail)
      all_goals (first | decide | (first
    | (with_reducible assumption)
    | omega
    | (simp only [← Int32.toInt_inj, Int32.toInt_add, Int32.toInt_mul, Int32.toInt_sub, Int32.toInt_neg, apply_ite Int32.toInt, Int32.reduceToInt, Int32.le_iff_toInt_le, Int32.lt_iff_toInt_lt] at *; (try simp only [Int.bmod_add_bmod, Int.add_bmod_bmod, Int.bmod_mul_bmod, Int.mul_bmod_bmod, Int.sub_bmod_bmod, Int.bmod_sub_bmod] at *); (try simp (disch := omega) only [fb_bmod, true_and, and_true] at *); all_goals (first | omega | (simp only [Int.bmod_def] at *; omega) | omega))))
    · have k12 : ∀ S', St Γ Φ S' → ∃ n, w_X5_readBoth_b12 tx (wr_R tx d) q n S' a v 0 := by
        intro S' h'
        refine loop_m (σ := hS × Int32) (fun t s => w_X5_readBoth_b12 tx (wr_R tx d) q t s.1 a v s.2) (fun s => St Γ Φ s.1 ∧ 0 ≤ s.2.toInt ∧ s.2.toInt ≤ 400) (fun s => (400 - s.2.toInt).toNat) ?_ (S', 0) ⟨h', by dsimp only; rw [z0I]; omega⟩
        rintro t ⟨S, x⟩ ⟨h, hx⟩ ih
        dsimp only at h hx ih ⊢
        have go : ∀ (S' : hS) (y : Int32), St Γ Φ S' → y.toInt = x.toInt + 1 ∧ x.toInt < 400 → w_X5_readBoth_b12 tx (wr_R tx d) q t S' a v y := fun S' y h' hy => ih (S', y) ⟨h', by dsimp only; omega⟩ (by dsimp only; omega)
        rw [w_X5_readBoth_b12]
        repeat' (first
    | (exact absurd rfl ‹¬ (0 : Int32) = 0›)
    | (exact absurd ‹(1 : Int32) = 0› (by decide))
    | exact k0 _ (by assumption)
    | exact k1 _ (by assumption)
    | exact ⟨Or.inl rfl, k0 _ (by assumption)⟩
    | exact ⟨Or.inr rfl, k1 _ (by assumption)⟩
    | refine go _ _ (by assumption) ?_
    | refine ihd _ _ _ _ (by assumption) ?_ ?_ (fun _ _ => ?_) (fun _ _ => ?_)
    | (with_reducible refine T_gP_5_0 (by assumption) (by assumption) (fun _ _ _ => ?_))
    | (with_reducible refine T_oK_10 (by assumption) (by assumption) ?_)
    | (with_reducible refine T_oK_5 (by assumption) (by assumption) ?_)
    | (with_reducible refine kc_X10_add (by assumption) (fre.sub (by assumption) (by simp)) (by assumption) ?_ (fun _ _ _ => ?_))
    | (with_reducible refine kc_X10_landSkip (by assumption) (fre.sub (by assumption) (by simp)) (by assumption) (fun _ _ => ?_))
    | (with_reducible refine kc_X5_takeWord (by assumption) (fre.sub (by assumption) (by simp)) (by assumption) (by first | omega | assumption) ?_ (fun _ _ => ?_))
    | (with_reducible refine T_y (fun _ _ _ => ?_))
    | (refine ⟨fun _ => ?_, fun _ => ?_⟩)
    | fail)
        all_goals (first | decide | (first
    | (with_reducible assumption)
    | omega
    | (simp only [← Int32.toInt_inj, Int32.toInt_add, Int32.toInt_mul, Int32.toInt_sub, Int32.toInt_neg, apply_ite Int32.toInt, Int32.reduceToInt, Int32.le_iff_toInt_le, Int32.lt_iff_toInt_lt] at *; (try simp only [Int.bmod_add_bmod, Int.add_bmod_bmod, Int.bmod_mul_bmod, Int.mul_bmod_bmod, Int.sub_bmod_bmod, Int.bmod_sub_bmod] at *); (try simp (disch := omega) only [fb_bmod, true_and, and_true] at *); all_goals (first | omega | (simp only [Int.bmod_def] at *; omega) | omega))))
      show wb_X5_readBoth tx (wr_R tx d) q S a v
      unfold wb_X5_readBoth
      repeat' (first
    | (exact absurd rfl ‹¬ (0 : Int32) = 0›)
    | (exact absurd ‹(1 : Int32) = 0› (by decide))
    | exact k12 _ (by assumption)
    | exact k0 _ (by assumption)
    | exact k1 _ (by assumption)
    | exact ⟨Or.inl rfl, k0 _ (by assumption)⟩
    | exact ⟨Or.inr rfl, k1 _ (by assumption)⟩
    | refine ihd _ _ _ _ (by assumption) ?_ ?_ (fun _ _ => ?_) (fun _ _ => ?_)
    | (with_reducible refine T_gP_5_0 (by assumption) (by assumption) (fun _ _ _ => ?_))
    | (with_reducible refine T_oK_10 (by assumption) (by assumption) ?_)
    | (with_reducible refine T_oK_5 (by assumption) (by assumption) ?_)
    | (with_reducible refine kc_X10_add (by assumption) (fre.sub (by assumption) (by simp)) (by assumption) ?_ (fun _ _ _ => ?_))
    | (with_reducible refine kc_X10_landSkip (by assumption) (fre.sub (by assumption) (by simp)) (by assumption) (fun _ _ => ?_))
    | (with_reducible refine kc_X5_takeWord (by assumption) (fre.sub (by assumption) (by simp)) (by assumption) (by first | omega | assumption) ?_ (fun _ _ => ?_))
    | (with_reducible refine T_y (fun _ _ _ => ?_))
    | (refine ⟨fun _ => ?_, fun _ => ?_⟩)
    | fail)
      all_goals (first | decide | (first
    | (with_reducible assumption)
    | omega
    | (simp only [← Int32.toInt_inj, Int32.toInt_add, Int32.toInt_mul, Int32.toInt_sub, Int32.toInt_neg, apply_ite Int32.toInt, Int32.reduceToInt, Int32.le_iff_toInt_le, Int32.lt_iff_toInt_lt] at *; (try simp only [Int.bmod_add_bmod, Int.add_bmod_bmod, Int.bmod_mul_bmod, Int.mul_bmod_bmod, Int.sub_bmod_bmod, Int.bmod_sub_bmod] at *); (try simp (disch := omega) only [fb_bmod, true_and, and_true] at *); all_goals (first | omega | (simp only [Int.bmod_def] at *; omega) | omega))))
    · have k36 : ∀ S' w, St Γ Φ S' → w_X5_readPlain_b36 tx (wr_R tx d) q S' a v w := by
        intro S' w h'
        unfold w_X5_readPlain_b36
        repeat' (first
    | (exact absurd rfl ‹¬ (0 : Int32) = 0›)
    | (exact absurd ‹(1 : Int32) = 0› (by decide))
    | exact k0 _ (by assumption)
    | exact k1 _ (by assumption)
    | exact ⟨Or.inl rfl, k0 _ (by assumption)⟩
    | exact ⟨Or.inr rfl, k1 _ (by assumption)⟩
    | refine ihd _ _ _ _ (by assumption) ?_ ?_ (fun _ _ => ?_) (fun _ _ => ?_)
    | (with_reducible refine T_gP_5_0 (by assumption) (by assumption) (fun _ _ _ => ?_))
    | (with_reducible refine T_gP_5_1 (by assumption) (by assumption) (fun _ _ _ => ?_))
    | (with_reducible refine T_oK_10 (by assumption) (by assumption) ?_)
    | (with_reducible refine T_oK_5 (by assumption) (by assumption) ?_)
    | (with_reducible refine T_oK_9 (by assumption) (by assumption) ?_)
    | (with_reducible refine kc_X10_add (by assumption) (fre.sub (by assumption) (by simp)) (by assumption) ?_ (fun _ _ _ => ?_))
    | (with_reducible refine kc_X5_takeWord (by assumption) (fre.sub (by assumption) (by simp)) (by assumption) (by first | omega | assumption) ?_ (fun _ _ => ?_))
    | (with_reducible refine kc_X9_isSign (by assumption) (by assumption) ?_ ?_)
    | (unfold w_X5_readPlain_b29)
    | (unfold w_X5_readPlain_b61)
    | (unfold w_X5_readPlain_b36)
    | (with_reducible refine T_y (fun _ _ _ => ?_))
    | (refine ⟨fun _ => ?_, fun _ => ?_⟩)
    | fail)
        all_goals (first | decide | (first
    | (with_reducible assumption)
    | omega
    | (simp only [← Int32.toInt_inj, Int32.toInt_add, Int32.toInt_mul, Int32.toInt_sub, Int32.toInt_neg, apply_ite Int32.toInt, Int32.reduceToInt, Int32.le_iff_toInt_le, Int32.lt_iff_toInt_lt] at *; (try simp only [Int.bmod_add_bmod, Int.add_bmod_bmod, Int.bmod_mul_bmod, Int.mul_bmod_bmod, Int.sub_bmod_bmod, Int.bmod_sub_bmod] at *); (try simp (disch := omega) only [fb_bmod, true_and, and_true] at *); all_goals (first | omega | (simp only [Int.bmod_def] at *; omega) | omega))))
      show wb_X5_readPlain tx (wr_R tx d) q S a v
      unfold wb_X5_readPlain
      refine loop_m (σ := hS × Int32 × Int32) (fun t s => w_X5_readPlain_b4 tx (wr_R tx d) q t s.1 a v s.2.1 s.2.2) (fun s => St Γ Φ s.1 ∧ 0 ≤ s.2.2.toInt ∧ s.2.2.toInt ≤ 400) (fun s => (400 - s.2.2.toInt).toNat) ?_ (S, 0, 0) ⟨h, by dsimp only; rw [z0I]; omega⟩
      rintro t ⟨S, w, x⟩ ⟨h, hx⟩ ih
      dsimp only at h hx ih ⊢
      have go : ∀ (S' : hS) (w y : Int32), St Γ Φ S' → y.toInt = x.toInt + 1 ∧ x.toInt < 400 → w_X5_readPlain_b4 tx (wr_R tx d) q t S' a v w y := fun S' w y h' hy => ih (S', w, y) ⟨h', by dsimp only; omega⟩ (by dsimp only; omega)
      rw [w_X5_readPlain_b4]
      repeat' (first
    | (exact absurd rfl ‹¬ (0 : Int32) = 0›)
    | (exact absurd ‹(1 : Int32) = 0› (by decide))
    | exact k36 _ _ (by assumption)
    | refine go _ _ _ (by assumption) ?_
    | (with_reducible refine T_gP_5_0 (by assumption) (by assumption) (fun _ _ _ => ?_))
    | (with_reducible refine T_gP_5_1 (by assumption) (by assumption) (fun _ _ _ => ?_))
    | (with_reducible refine T_oK_10 (by assumption) (by assumption) ?_)
    | (with_reducible refine T_oK_5 (by assumption) (by assumption) ?_)
    | (with_reducible refine T_oK_9 (by assumption) (by assumption) ?_)
    | (with_reducible refine kc_X10_add (by assumption) (fre.sub (by assumption) (by simp)) (by assumption) ?_ (fun _ _ _ => ?_))
    | (with_reducible refine kc_X5_takeWord (by assumption) (fre.sub (by assumption) (by simp)) (by assumption) (by first | omega | assumption) ?_ (fun _ _ => ?_))
    | (with_reducible refine kc_X9_isSign (by assumption) (by assumption) ?_ ?_)
    | (unfold w_X5_readPlain_b29)
    | (unfold w_X5_readPlain_b61)
    | (unfold w_X5_readPlain_b36)
    | (with_reducible refine T_y (fun _ _ _ => ?_))
    | (refine ⟨fun _ => ?_, fun _ => ?_⟩)
    | fail)
      all_goals (first | decide | (first
    | (with_reducible assumption)
    | omega
    | (simp only [← Int32.toInt_inj, Int32.toInt_add, Int32.toInt_mul, Int32.toInt_sub, Int32.toInt_neg, apply_ite Int32.toInt, Int32.reduceToInt, Int32.le_iff_toInt_le, Int32.lt_iff_toInt_lt] at *; (try simp only [Int.bmod_add_bmod, Int.add_bmod_bmod, Int.bmod_mul_bmod, Int.mul_bmod_bmod, Int.sub_bmod_bmod, Int.bmod_sub_bmod] at *); (try simp (disch := omega) only [fb_bmod, true_and, and_true] at *); all_goals (first | omega | (simp only [Int.bmod_def] at *; omega) | omega))))
    · show wb_X5_readBracketedTest tx (wr_R tx d) q S a v
      unfold wb_X5_readBracketedTest
      repeat' (first
    | (exact absurd rfl ‹¬ (0 : Int32) = 0›)
    | (exact absurd ‹(1 : Int32) = 0› (by decide))
    | exact k0 _ (by assumption)
    | exact k1 _ (by assumption)
    | exact ⟨Or.inl rfl, k0 _ (by assumption)⟩
    | exact ⟨Or.inr rfl, k1 _ (by assumption)⟩
    | refine ihd _ _ _ _ (by assumption) ?_ ?_ (fun _ _ => ?_) (fun _ _ => ?_)
    | (with_reducible refine T_oK_5 (by assumption) (by assumption) ?_)
    | (with_reducible refine kc_X5_takeSign (by assumption) (fre.sub (by assumption) (by simp)) (by assumption) ?_ (fun _ _ => ?_))
    | (refine ⟨fun _ => ?_, fun _ => ?_⟩)
    | fail)
      all_goals (first | decide | (first
    | (with_reducible assumption)
    | omega
    | (simp only [← Int32.toInt_inj, Int32.toInt_add, Int32.toInt_mul, Int32.toInt_sub, Int32.toInt_neg, apply_ite Int32.toInt, Int32.reduceToInt, Int32.le_iff_toInt_le, Int32.lt_iff_toInt_lt] at *; (try simp only [Int.bmod_add_bmod, Int.add_bmod_bmod, Int.bmod_mul_bmod, Int.mul_bmod_bmod, Int.sub_bmod_bmod, Int.bmod_sub_bmod] at *); (try simp (disch := omega) only [fb_bmod, true_and, and_true] at *); all_goals (first | omega | (simp only [Int.bmod_def] at *; omega) | omega))))
    · show wb_X5_readComparison tx (wr_R tx d) q S a v
      unfold wb_X5_readComparison
      repeat' (first
    | (exact absurd rfl ‹¬ (0 : Int32) = 0›)
    | (exact absurd ‹(1 : Int32) = 0› (by decide))
    | exact k0 _ (by assumption)
    | exact k1 _ (by assumption)
    | exact ⟨Or.inl rfl, k0 _ (by assumption)⟩
    | exact ⟨Or.inr rfl, k1 _ (by assumption)⟩
    | refine ihd _ _ _ _ (by assumption) ?_ ?_ (fun _ _ => ?_) (fun _ _ => ?_)
    | (with_reducible refine T_gP_5_0 (by assumption) (by assumption) (fun _ _ _ => ?_))
    | (with_reducible refine T_gP_5_1 (by assumption) (by assumption) (fun _ _ _ => ?_))
    | (with_reducible refine T_oK_10 (by assumption) (by assumption) ?_)
    | (with_reducible refine T_oK_5 (by assumption) (by assumption) ?_)
    | (with_reducible refine T_oK_9 (by assumption) (by assumption) ?_)
    | (with_reducible refine kc_X10_add (by assumption) (fre.sub (by assumption) (by simp)) (by assumption) ?_ (fun _ _ _ => ?_))
    | (with_reducible refine kc_X9_advance (by assumption) (fre.sub (by assumption) (by simp)) (by assumption) (fun _ _ => ?_))
    | (with_reducible refine kc_X9_isSign (by assumption) (by assumption) ?_ ?_)
    | (unfold w_X5_readComparison_b67)
    | (unfold w_X5_readComparison_b46)
    | (refine ⟨fun _ => ?_, fun _ => ?_⟩)
    | fail)
      all_goals (first | decide | (first
    | (with_reducible assumption)
    | omega
    | (simp only [← Int32.toInt_inj, Int32.toInt_add, Int32.toInt_mul, Int32.toInt_sub, Int32.toInt_neg, apply_ite Int32.toInt, Int32.reduceToInt, Int32.le_iff_toInt_le, Int32.lt_iff_toInt_lt] at *; (try simp only [Int.bmod_add_bmod, Int.add_bmod_bmod, Int.bmod_mul_bmod, Int.mul_bmod_bmod, Int.sub_bmod_bmod, Int.bmod_sub_bmod] at *); (try simp (disch := omega) only [fb_bmod, true_and, and_true] at *); all_goals (first | omega | (simp only [Int.bmod_def] at *; omega) | omega))))
    · have k12 : ∀ S', St Γ Φ S' → ∃ n, w_X5_readSum_b12 tx (wr_R tx d) q n S' a v 0 := by
        intro S' h'
        refine loop_m (σ := hS × Int32) (fun t s => w_X5_readSum_b12 tx (wr_R tx d) q t s.1 a v s.2) (fun s => St Γ Φ s.1 ∧ 0 ≤ s.2.toInt ∧ s.2.toInt ≤ 400) (fun s => (400 - s.2.toInt).toNat) ?_ (S', 0) ⟨h', by dsimp only; rw [z0I]; omega⟩
        rintro t ⟨S, x⟩ ⟨h, hx⟩ ih
        dsimp only at h hx ih ⊢
        have go : ∀ (S' : hS) (y : Int32), St Γ Φ S' → y.toInt = x.toInt + 1 ∧ x.toInt < 400 → w_X5_readSum_b12 tx (wr_R tx d) q t S' a v y := fun S' y h' hy => ih (S', y) ⟨h', by dsimp only; omega⟩ (by dsimp only; omega)
        rw [w_X5_readSum_b12]
        repeat' (first
    | (exact absurd rfl ‹¬ (0 : Int32) = 0›)
    | (exact absurd ‹(1 : Int32) = 0› (by decide))
    | exact k0 _ (by assumption)
    | exact k1 _ (by assumption)
    | exact ⟨Or.inl rfl, k0 _ (by assumption)⟩
    | exact ⟨Or.inr rfl, k1 _ (by assumption)⟩
    | refine go _ _ (by assumption) ?_
    | refine ihd _ _ _ _ (by assumption) ?_ ?_ (fun _ _ => ?_) (fun _ _ => ?_)
    | (with_reducible refine T_gP_5_0 (by assumption) (by assumption) (fun _ _ _ => ?_))
    | (with_reducible refine T_gP_5_1 (by assumption) (by assumption) (fun _ _ _ => ?_))
    | (with_reducible refine T_oK_10 (by assumption) (by assumption) ?_)
    | (with_reducible refine T_oK_5 (by assumption) (by assumption) ?_)
    | (with_reducible refine T_oK_9 (by assumption) (by assumption) ?_)
    | (with_reducible refine kc_X10_add (by assumption) (fre.sub (by assumption) (by simp)) (by assumption) ?_ (fun _ _ _ => ?_))
    | (with_reducible refine kc_X9_advance (by assumption) (fre.sub (by assumption) (by simp)) (by assumption) (fun _ _ => ?_))
    | (with_reducible refine kc_X9_isSign (by assumption) (by assumption) ?_ ?_)
    | (unfold w_X5_readSum_b60)
    | (unfold w_X5_readSum_b43)
    | (with_reducible refine T_y (fun _ _ _ => ?_))
    | (refine ⟨fun _ => ?_, fun _ => ?_⟩)
    | fail)
        all_goals (first | decide | (first
    | (with_reducible assumption)
    | omega
    | (simp only [← Int32.toInt_inj, Int32.toInt_add, Int32.toInt_mul, Int32.toInt_sub, Int32.toInt_neg, apply_ite Int32.toInt, Int32.reduceToInt, Int32.le_iff_toInt_le, Int32.lt_iff_toInt_lt] at *; (try simp only [Int.bmod_add_bmod, Int.add_bmod_bmod, Int.bmod_mul_bmod, Int.mul_bmod_bmod, Int.sub_bmod_bmod, Int.bmod_sub_bmod] at *); (try simp (disch := omega) only [fb_bmod, true_and, and_true] at *); all_goals (first | omega | (simp only [Int.bmod_def] at *; omega) | omega))))
      show wb_X5_readSum tx (wr_R tx d) q S a v
      unfold wb_X5_readSum
      repeat' (first
    | (exact absurd rfl ‹¬ (0 : Int32) = 0›)
    | (exact absurd ‹(1 : Int32) = 0› (by decide))
    | exact k12 _ (by assumption)
    | exact k0 _ (by assumption)
    | exact k1 _ (by assumption)
    | exact ⟨Or.inl rfl, k0 _ (by assumption)⟩
    | exact ⟨Or.inr rfl, k1 _ (by assumption)⟩
    | refine ihd _ _ _ _ (by assumption) ?_ ?_ (fun _ _ => ?_) (fun _ _ => ?_)
    | (with_reducible refine T_gP_5_0 (by assumption) (by assumption) (fun _ _ _ => ?_))
    | (with_reducible refine T_gP_5_1 (by assumption) (by assumption) (fun _ _ _ => ?_))
    | (with_reducible refine T_oK_10 (by assumption) (by assumption) ?_)
    | (with_reducible refine T_oK_5 (by assumption) (by assumption) ?_)
    | (with_reducible refine T_oK_9 (by assumption) (by assumption) ?_)
    | (with_reducible refine kc_X10_add (by assumption) (fre.sub (by assumption) (by simp)) (by assumption) ?_ (fun _ _ _ => ?_))
    | (with_reducible refine kc_X9_advance (by assumption) (fre.sub (by assumption) (by simp)) (by assumption) (fun _ _ => ?_))
    | (with_reducible refine kc_X9_isSign (by assumption) (by assumption) ?_ ?_)
    | (unfold w_X5_readSum_b60)
    | (unfold w_X5_readSum_b43)
    | (with_reducible refine T_y (fun _ _ _ => ?_))
    | (refine ⟨fun _ => ?_, fun _ => ?_⟩)
    | fail)
      all_goals (first | decide | (first
    | (with_reducible assumption)
    | omega
    | (simp only [← Int32.toInt_inj, Int32.toInt_add, Int32.toInt_mul, Int32.toInt_sub, Int32.toInt_neg, apply_ite Int32.toInt, Int32.reduceToInt, Int32.le_iff_toInt_le, Int32.lt_iff_toInt_lt] at *; (try simp only [Int.bmod_add_bmod, Int.add_bmod_bmod, Int.bmod_mul_bmod, Int.mul_bmod_bmod, Int.sub_bmod_bmod, Int.bmod_sub_bmod] at *); (try simp (disch := omega) only [fb_bmod, true_and, and_true] at *); all_goals (first | omega | (simp only [Int.bmod_def] at *; omega) | omega))))
    · have k12 : ∀ S', St Γ Φ S' → ∃ n, w_X5_readTerm_b12 tx (wr_R tx d) q n S' a v 0 := by
        intro S' h'
        refine loop_m (σ := hS × Int32) (fun t s => w_X5_readTerm_b12 tx (wr_R tx d) q t s.1 a v s.2) (fun s => St Γ Φ s.1 ∧ 0 ≤ s.2.toInt ∧ s.2.toInt ≤ 400) (fun s => (400 - s.2.toInt).toNat) ?_ (S', 0) ⟨h', by dsimp only; rw [z0I]; omega⟩
        rintro t ⟨S, x⟩ ⟨h, hx⟩ ih
        dsimp only at h hx ih ⊢
        have go : ∀ (S' : hS) (y : Int32), St Γ Φ S' → y.toInt = x.toInt + 1 ∧ x.toInt < 400 → w_X5_readTerm_b12 tx (wr_R tx d) q t S' a v y := fun S' y h' hy => ih (S', y) ⟨h', by dsimp only; omega⟩ (by dsimp only; omega)
        rw [w_X5_readTerm_b12]
        repeat' (first
    | (exact absurd rfl ‹¬ (0 : Int32) = 0›)
    | (exact absurd ‹(1 : Int32) = 0› (by decide))
    | exact k0 _ (by assumption)
    | exact k1 _ (by assumption)
    | exact ⟨Or.inl rfl, k0 _ (by assumption)⟩
    | exact ⟨Or.inr rfl, k1 _ (by assumption)⟩
    | refine go _ _ (by assumption) ?_
    | refine ihd _ _ _ _ (by assumption) ?_ ?_ (fun _ _ => ?_) (fun _ _ => ?_)
    | (with_reducible refine T_gP_5_0 (by assumption) (by assumption) (fun _ _ _ => ?_))
    | (with_reducible refine T_gP_5_1 (by assumption) (by assumption) (fun _ _ _ => ?_))
    | (with_reducible refine T_oK_10 (by assumption) (by assumption) ?_)
    | (with_reducible refine T_oK_5 (by assumption) (by assumption) ?_)
    | (with_reducible refine T_oK_9 (by assumption) (by assumption) ?_)
    | (with_reducible refine kc_X10_add (by assumption) (fre.sub (by assumption) (by simp)) (by assumption) ?_ (fun _ _ _ => ?_))
    | (with_reducible refine kc_X5_isTermSign (by assumption) (by assumption) ?_ ?_)
    | (with_reducible refine kc_X9_advance (by assumption) (fre.sub (by assumption) (by simp)) (by assumption) (fun _ _ => ?_))
    | (with_reducible refine kc_X9_isSign (by assumption) (by assumption) ?_ ?_)
    | (unfold w_X5_readTerm_b60)
    | (with_reducible refine T_y (fun _ _ _ => ?_))
    | (refine ⟨fun _ => ?_, fun _ => ?_⟩)
    | fail)
        all_goals (first | decide | (first
    | (with_reducible assumption)
    | omega
    | (simp only [← Int32.toInt_inj, Int32.toInt_add, Int32.toInt_mul, Int32.toInt_sub, Int32.toInt_neg, apply_ite Int32.toInt, Int32.reduceToInt, Int32.le_iff_toInt_le, Int32.lt_iff_toInt_lt] at *; (try simp only [Int.bmod_add_bmod, Int.add_bmod_bmod, Int.bmod_mul_bmod, Int.mul_bmod_bmod, Int.sub_bmod_bmod, Int.bmod_sub_bmod] at *); (try simp (disch := omega) only [fb_bmod, true_and, and_true] at *); all_goals (first | omega | (simp only [Int.bmod_def] at *; omega) | omega))))
      show wb_X5_readTerm tx (wr_R tx d) q S a v
      unfold wb_X5_readTerm
      repeat' (first
    | (exact absurd rfl ‹¬ (0 : Int32) = 0›)
    | (exact absurd ‹(1 : Int32) = 0› (by decide))
    | exact k12 _ (by assumption)
    | exact k0 _ (by assumption)
    | exact k1 _ (by assumption)
    | exact ⟨Or.inl rfl, k0 _ (by assumption)⟩
    | exact ⟨Or.inr rfl, k1 _ (by assumption)⟩
    | refine ihd _ _ _ _ (by assumption) ?_ ?_ (fun _ _ => ?_) (fun _ _ => ?_)
    | (with_reducible refine T_gP_5_0 (by assumption) (by assumption) (fun _ _ _ => ?_))
    | (with_reducible refine T_gP_5_1 (by assumption) (by assumption) (fun _ _ _ => ?_))
    | (with_reducible refine T_oK_10 (by assumption) (by assumption) ?_)
    | (with_reducible refine T_oK_5 (by assumption) (by assumption) ?_)
    | (with_reducible refine T_oK_9 (by assumption) (by assumption) ?_)
    | (with_reducible refine kc_X10_add (by assumption) (fre.sub (by assumption) (by simp)) (by assumption) ?_ (fun _ _ _ => ?_))
    | (with_reducible refine kc_X5_isTermSign (by assumption) (by assumption) ?_ ?_)
    | (with_reducible refine kc_X9_advance (by assumption) (fre.sub (by assumption) (by simp)) (by assumption) (fun _ _ => ?_))
    | (with_reducible refine kc_X9_isSign (by assumption) (by assumption) ?_ ?_)
    | (unfold w_X5_readTerm_b60)
    | (with_reducible refine T_y (fun _ _ _ => ?_))
    | (refine ⟨fun _ => ?_, fun _ => ?_⟩)
    | fail)
      all_goals (first | decide | (first
    | (with_reducible assumption)
    | omega
    | (simp only [← Int32.toInt_inj, Int32.toInt_add, Int32.toInt_mul, Int32.toInt_sub, Int32.toInt_neg, apply_ite Int32.toInt, Int32.reduceToInt, Int32.le_iff_toInt_le, Int32.lt_iff_toInt_lt] at *; (try simp only [Int.bmod_add_bmod, Int.add_bmod_bmod, Int.bmod_mul_bmod, Int.mul_bmod_bmod, Int.sub_bmod_bmod, Int.bmod_sub_bmod] at *); (try simp (disch := omega) only [fb_bmod, true_and, and_true] at *); all_goals (first | omega | (simp only [Int.bmod_def] at *; omega) | omega))))
    · show wb_X5_readFactor tx (wr_R tx d) q S a v
      unfold wb_X5_readFactor
      repeat' (first
    | (exact absurd rfl ‹¬ (0 : Int32) = 0›)
    | (exact absurd ‹(1 : Int32) = 0› (by decide))
    | exact k0 _ (by assumption)
    | exact k1 _ (by assumption)
    | exact ⟨Or.inl rfl, k0 _ (by assumption)⟩
    | exact ⟨Or.inr rfl, k1 _ (by assumption)⟩
    | refine ihd _ _ _ _ (by assumption) ?_ ?_ (fun _ _ => ?_) (fun _ _ => ?_)
    | (with_reducible refine T_gP_5_0 (by assumption) (by assumption) (fun _ _ _ => ?_))
    | (with_reducible refine T_gP_5_1 (by assumption) (by assumption) (fun _ _ _ => ?_))
    | (with_reducible refine T_gI_5_2 (by assumption) (by assumption) (fun _ _ _ => ?_))
    | (with_reducible refine T_gI_5_3 (by assumption) (by assumption) (fun _ _ _ => ?_))
    | (with_reducible refine T_gI_9_4 (by assumption) (by assumption) (fun _ _ _ => ?_))
    | (with_reducible refine T_pI_5_3 (by assumption) (by assumption) (by assumption) (by simp) (fun _ _ _ _ _ => ?_))
    | (with_reducible refine T_oK_10 (by assumption) (by assumption) ?_)
    | (with_reducible refine T_oK_5 (by assumption) (by assumption) ?_)
    | (with_reducible refine T_oK_9 (by assumption) (by assumption) ?_)
    | (with_reducible refine kc_X10_add (by assumption) (fre.sub (by assumption) (by simp)) (by assumption) ?_ (fun _ _ _ => ?_))
    | (with_reducible refine kc_X5_addWord (by assumption) (fre.sub (by assumption) (by simp)) (by assumption) ?_ (fun _ _ => ?_))
    | (with_reducible refine kc_X5_lawWord (by assumption) (by assumption) (fun _ _ => ?_))
    | (with_reducible refine kc_X5_orderWord (by assumption) (by assumption) (fun _ _ => ?_))
    | (with_reducible refine kc_X5_readWhose (by assumption) (fre.sub (by assumption) (by simp)) (by assumption) ?_ (fun _ _ => ?_) (fun _ _ => ?_))
    | (with_reducible refine kc_X5_takeSign (by assumption) (fre.sub (by assumption) (by simp)) (by assumption) ?_ (fun _ _ => ?_))
    | (with_reducible refine kc_X9_advance (by assumption) (fre.sub (by assumption) (by simp)) (by assumption) (fun _ _ => ?_))
    | (with_reducible refine kc_X9_isNumber (by assumption) (by assumption) ?_ ?_)
    | (with_reducible refine kc_X9_isSign (by assumption) (by assumption) ?_ ?_)
    | (unfold w_X5_readFactor_b157)
    | (unfold w_X5_readFactor_b130)
    | (refine ⟨fun _ => ?_, fun _ => ?_⟩)
    | fail)
      all_goals (first | decide | (first
    | (with_reducible assumption)
    | omega
    | (simp only [← Int32.toInt_inj, Int32.toInt_add, Int32.toInt_mul, Int32.toInt_sub, Int32.toInt_neg, apply_ite Int32.toInt, Int32.reduceToInt, Int32.le_iff_toInt_le, Int32.lt_iff_toInt_lt] at *; (try simp only [Int.bmod_add_bmod, Int.add_bmod_bmod, Int.bmod_mul_bmod, Int.mul_bmod_bmod, Int.sub_bmod_bmod, Int.bmod_sub_bmod] at *); (try simp (disch := omega) only [fb_bmod, true_and, and_true] at *); all_goals (first | omega | (simp only [Int.bmod_def] at *; omega) | omega))))
theorem kc_X5_readTest {q : Int32 → hS → Prop} (h : St Γ Φ S) (hf : fre Γ Φ [5, 9, 10, 1103, 1104, 1105, 1106]) (ha : Γ a = some (5, 5, 0, 0, ρa)) (k0 : ∀ S', St Γ Φ S' → q 0 S') (k1 : ∀ S', St Γ Φ S' → q 1 S') : w_X5_readTest tx q S a 0 := kc_rd hf ha 64 0 S q 0 h (by decide) (by decide) k0 k1
theorem kc_X5_readSum {q : Int32 → hS → Prop} (h : St Γ Φ S) (hf : fre Γ Φ [5, 9, 10, 1103, 1104, 1105, 1106]) (ha : Γ a = some (5, 5, 0, 0, ρa)) (k0 : ∀ S', St Γ Φ S' → q 0 S') (k1 : ∀ S', St Γ Φ S' → q 1 S') : w_X5_readSum tx q S a 0 := kc_rd hf ha 64 5 S q 0 h (by decide) (by decide) k0 k1
theorem kc_X5_readIf {q : Int32 → hS → Prop} (h : St Γ Φ S) (hf : fre Γ Φ [5, 9, 10, 1103, 1104, 1105, 1106]) (ha : Γ a = some (5, 5, 0, 0, ρa)) (k0 : ∀ S', St Γ Φ S' → q 0 S') (k1 : ∀ S', St Γ Φ S' → q 1 S') : w_X5_readIf tx q S a := by
  unfold w_X5_readIf
  repeat' (first
    | (exact absurd rfl ‹¬ (0 : Int32) = 0›)
    | (exact absurd ‹(1 : Int32) = 0› (by decide))
    | exact k0 _ (by assumption)
    | exact k1 _ (by assumption)
    | exact ⟨Or.inl rfl, k0 _ (by assumption)⟩
    | exact ⟨Or.inr rfl, k1 _ (by assumption)⟩
    | (with_reducible refine T_gP_5_0 (by assumption) (by assumption) (fun _ _ _ => ?_))
    | (with_reducible refine T_oK_10 (by assumption) (by assumption) ?_)
    | (with_reducible refine T_oK_5 (by assumption) (by assumption) ?_)
    | (with_reducible refine kc_X10_openPart (by assumption) (fre.sub (by assumption) (by simp)) (by assumption) (fun _ _ => ?_))
    | (with_reducible refine kc_X5_readTest (by assumption) (by assumption) (by assumption) (fun _ _ => ?_) (fun _ _ => ?_))
    | (with_reducible refine kc_X5_takeWord (by assumption) (fre.sub (by assumption) (by simp)) (by assumption) (by first | omega | assumption) ?_ (fun _ _ => ?_))
    | (unfold w_X5_readIf_b25)
    | (refine ⟨fun _ => ?_, fun _ => ?_⟩)
    | fail)
  all_goals (first | decide | (first
    | (with_reducible assumption)
    | omega
    | (simp only [← Int32.toInt_inj, Int32.toInt_add, Int32.toInt_mul, Int32.toInt_sub, Int32.toInt_neg, apply_ite Int32.toInt, Int32.reduceToInt, Int32.le_iff_toInt_le, Int32.lt_iff_toInt_lt] at *; (try simp only [Int.bmod_add_bmod, Int.add_bmod_bmod, Int.bmod_mul_bmod, Int.mul_bmod_bmod, Int.sub_bmod_bmod, Int.bmod_sub_bmod] at *); (try simp (disch := omega) only [fb_bmod, true_and, and_true] at *); all_goals (first | omega | (simp only [Int.bmod_def] at *; omega) | omega))))
theorem kc_X5_readLawClause {q : Int32 → hS → Prop} (h : St Γ Φ S) (hf : fre Γ Φ [5, 9, 10, 1103, 1104, 1105, 1106]) (ha : Γ a = some (5, 5, 0, 0, ρa)) (k0 : ∀ S', St Γ Φ S' → q 0 S') (k1 : ∀ S', St Γ Φ S' → q 1 S') : w_X5_readLawClause tx q S a := by
  unfold w_X5_readLawClause
  repeat' (first
    | (exact absurd rfl ‹¬ (0 : Int32) = 0›)
    | (exact absurd ‹(1 : Int32) = 0› (by decide))
    | exact k0 _ (by assumption)
    | exact k1 _ (by assumption)
    | exact ⟨Or.inl rfl, k0 _ (by assumption)⟩
    | exact ⟨Or.inr rfl, k1 _ (by assumption)⟩
    | (with_reducible refine T_gP_5_0 (by assumption) (by assumption) (fun _ _ _ => ?_))
    | (with_reducible refine T_gP_5_1 (by assumption) (by assumption) (fun _ _ _ => ?_))
    | (with_reducible refine T_oK_10 (by assumption) (by assumption) ?_)
    | (with_reducible refine T_oK_5 (by assumption) (by assumption) ?_)
    | (with_reducible refine T_oK_9 (by assumption) (by assumption) ?_)
    | (with_reducible refine kc_X10_beginClause (by assumption) (fre.sub (by assumption) (by simp)) (by assumption) (fun _ _ => ?_))
    | (with_reducible refine kc_X5_lawKind (by assumption) (by assumption) (fun _ => ?_))
    | (with_reducible refine kc_X5_readIf (by assumption) (by assumption) (by assumption) (fun _ _ => ?_) (fun _ _ => ?_))
    | (with_reducible refine kc_X5_readSum (by assumption) (by assumption) (by assumption) (fun _ _ => ?_) (fun _ _ => ?_))
    | (with_reducible refine kc_X9_advance (by assumption) (fre.sub (by assumption) (by simp)) (by assumption) (fun _ _ => ?_))
    | (unfold w_X5_readLawClause_b40)
    | (refine ⟨fun _ => ?_, fun _ => ?_⟩)
    | fail)
  all_goals (first | decide | (first
    | (with_reducible assumption)
    | omega
    | (simp only [← Int32.toInt_inj, Int32.toInt_add, Int32.toInt_mul, Int32.toInt_sub, Int32.toInt_neg, apply_ite Int32.toInt, Int32.reduceToInt, Int32.le_iff_toInt_le, Int32.lt_iff_toInt_lt] at *; (try simp only [Int.bmod_add_bmod, Int.add_bmod_bmod, Int.bmod_mul_bmod, Int.mul_bmod_bmod, Int.sub_bmod_bmod, Int.bmod_sub_bmod] at *); (try simp (disch := omega) only [fb_bmod, true_and, and_true] at *); all_goals (first | omega | (simp only [Int.bmod_def] at *; omega) | omega))))
theorem kc_X5_readNextSum {q : Int32 → hS → Prop} {w : Int32} (h : St Γ Φ S) (hf : fre Γ Φ [5, 9, 10, 1103, 1104, 1105, 1106]) (ha : Γ a = some (5, 5, 0, 0, ρa)) (hj : j < 28) (k0 : ∀ S', St Γ Φ S' → q 0 S') (k1 : ∀ S', St Γ Φ S' → q 1 S') : w_X5_readNextSum tx q S a (tx j) w := by
  unfold w_X5_readNextSum
  repeat' (first
    | (exact absurd rfl ‹¬ (0 : Int32) = 0›)
    | (exact absurd ‹(1 : Int32) = 0› (by decide))
    | exact k0 _ (by assumption)
    | exact k1 _ (by assumption)
    | exact ⟨Or.inl rfl, k0 _ (by assumption)⟩
    | exact ⟨Or.inr rfl, k1 _ (by assumption)⟩
    | (with_reducible refine T_gP_5_0 (by assumption) (by assumption) (fun _ _ _ => ?_))
    | (with_reducible refine T_oK_10 (by assumption) (by assumption) ?_)
    | (with_reducible refine T_oK_5 (by assumption) (by assumption) ?_)
    | (with_reducible refine kc_X10_openPart (by assumption) (fre.sub (by assumption) (by simp)) (by assumption) (fun _ _ => ?_))
    | (with_reducible refine kc_X5_readSum (by assumption) (by assumption) (by assumption) (fun _ _ => ?_) (fun _ _ => ?_))
    | (with_reducible refine kc_X5_takeWord (by assumption) (fre.sub (by assumption) (by simp)) (by assumption) (by first | omega | assumption) ?_ (fun _ _ => ?_))
    | (refine ⟨fun _ => ?_, fun _ => ?_⟩)
    | fail)
  all_goals (first | decide | (first
    | (with_reducible assumption)
    | omega
    | (simp only [← Int32.toInt_inj, Int32.toInt_add, Int32.toInt_mul, Int32.toInt_sub, Int32.toInt_neg, apply_ite Int32.toInt, Int32.reduceToInt, Int32.le_iff_toInt_le, Int32.lt_iff_toInt_lt] at *; (try simp only [Int.bmod_add_bmod, Int.add_bmod_bmod, Int.bmod_mul_bmod, Int.mul_bmod_bmod, Int.sub_bmod_bmod, Int.bmod_sub_bmod] at *); (try simp (disch := omega) only [fb_bmod, true_and, and_true] at *); all_goals (first | omega | (simp only [Int.bmod_def] at *; omega) | omega))))
theorem kc_X5_readTimes {q : Int32 → hS → Prop} (h : St Γ Φ S) (hf : fre Γ Φ [5, 9, 10, 1103, 1104, 1105, 1106]) (ha : Γ a = some (5, 5, 0, 0, ρa)) (k0 : ∀ S', St Γ Φ S' → q 0 S') (k1 : ∀ S', St Γ Φ S' → q 1 S') : w_X5_readTimes tx q S a := by
  unfold w_X5_readTimes
  repeat' (first
    | (exact absurd rfl ‹¬ (0 : Int32) = 0›)
    | (exact absurd ‹(1 : Int32) = 0› (by decide))
    | exact k0 _ (by assumption)
    | exact k1 _ (by assumption)
    | exact ⟨Or.inl rfl, k0 _ (by assumption)⟩
    | exact ⟨Or.inr rfl, k1 _ (by assumption)⟩
    | (with_reducible refine T_gP_5_0 (by assumption) (by assumption) (fun _ _ _ => ?_))
    | (with_reducible refine T_gP_5_1 (by assumption) (by assumption) (fun _ _ _ => ?_))
    | (with_reducible refine T_gI_9_4 (by assumption) (by assumption) (fun _ _ _ => ?_))
    | (with_reducible refine T_oK_10 (by assumption) (by assumption) ?_)
    | (with_reducible refine T_oK_5 (by assumption) (by assumption) ?_)
    | (with_reducible refine T_oK_9 (by assumption) (by assumption) ?_)
    | (with_reducible refine kc_X10_setTimes (by assumption) (fre.sub (by assumption) (by simp)) (by assumption) (fun _ _ => ?_))
    | (with_reducible refine kc_X5_takeWord (by assumption) (fre.sub (by assumption) (by simp)) (by assumption) (by first | omega | assumption) ?_ (fun _ _ => ?_))
    | (with_reducible refine kc_X9_advance (by assumption) (fre.sub (by assumption) (by simp)) (by assumption) (fun _ _ => ?_))
    | (with_reducible refine kc_X9_isNumber (by assumption) (by assumption) ?_ ?_)
    | (refine ⟨fun _ => ?_, fun _ => ?_⟩)
    | fail)
  all_goals (first | decide | (first
    | (with_reducible assumption)
    | omega
    | (simp only [← Int32.toInt_inj, Int32.toInt_add, Int32.toInt_mul, Int32.toInt_sub, Int32.toInt_neg, apply_ite Int32.toInt, Int32.reduceToInt, Int32.le_iff_toInt_le, Int32.lt_iff_toInt_lt] at *; (try simp only [Int.bmod_add_bmod, Int.add_bmod_bmod, Int.bmod_mul_bmod, Int.mul_bmod_bmod, Int.sub_bmod_bmod, Int.bmod_sub_bmod] at *); (try simp (disch := omega) only [fb_bmod, true_and, and_true] at *); all_goals (first | omega | (simp only [Int.bmod_def] at *; omega) | omega))))
theorem kc_X5_readOrderClause {q : Int32 → hS → Prop} (h : St Γ Φ S) (hf : fre Γ Φ [5, 9, 10, 1103, 1104, 1105, 1106]) (ha : Γ a = some (5, 5, 0, 0, ρa)) (k0 : ∀ S', St Γ Φ S' → q 0 S') (k1 : ∀ S', St Γ Φ S' → q 1 S') : w_X5_readOrderClause tx q S a := by
  unfold w_X5_readOrderClause
  repeat' (first
    | (exact absurd rfl ‹¬ (0 : Int32) = 0›)
    | (exact absurd ‹(1 : Int32) = 0› (by decide))
    | exact k0 _ (by assumption)
    | exact k1 _ (by assumption)
    | exact ⟨Or.inl rfl, k0 _ (by assumption)⟩
    | exact ⟨Or.inr rfl, k1 _ (by assumption)⟩
    | (with_reducible refine T_gP_5_0 (by assumption) (by assumption) (fun _ _ _ => ?_))
    | (with_reducible refine T_oK_10 (by assumption) (by assumption) ?_)
    | (with_reducible refine T_oK_5 (by assumption) (by assumption) ?_)
    | (with_reducible refine kc_X10_beginClause (by assumption) (fre.sub (by assumption) (by simp)) (by assumption) (fun _ _ => ?_))
    | (with_reducible refine kc_X5_readIf (by assumption) (by assumption) (by assumption) (fun _ _ => ?_) (fun _ _ => ?_))
    | (with_reducible refine kc_X5_readNextSum (by assumption) (by assumption) (by assumption) (by first | omega | assumption) (fun _ _ => ?_) (fun _ _ => ?_))
    | (with_reducible refine kc_X5_readSum (by assumption) (by assumption) (by assumption) (fun _ _ => ?_) (fun _ _ => ?_))
    | (with_reducible refine kc_X5_readTimes (by assumption) (by assumption) (by assumption) (fun _ _ => ?_) (fun _ _ => ?_))
    | (with_reducible refine kc_X5_takeWord (by assumption) (fre.sub (by assumption) (by simp)) (by assumption) (by first | omega | assumption) ?_ (fun _ _ => ?_))
    | (refine ⟨fun _ => ?_, fun _ => ?_⟩)
    | fail)
  all_goals (first | decide | (first
    | (with_reducible assumption)
    | omega
    | (simp only [← Int32.toInt_inj, Int32.toInt_add, Int32.toInt_mul, Int32.toInt_sub, Int32.toInt_neg, apply_ite Int32.toInt, Int32.reduceToInt, Int32.le_iff_toInt_le, Int32.lt_iff_toInt_lt] at *; (try simp only [Int.bmod_add_bmod, Int.add_bmod_bmod, Int.bmod_mul_bmod, Int.mul_bmod_bmod, Int.sub_bmod_bmod, Int.bmod_sub_bmod] at *); (try simp (disch := omega) only [fb_bmod, true_and, and_true] at *); all_goals (first | omega | (simp only [Int.bmod_def] at *; omega) | omega))))
theorem kc_X5_read {q : Int32 → hS → Prop} {w : Int32} (h : St Γ Φ S) (hf : fre Γ Φ [5, 9, 10, 1103, 1104, 1105, 1106]) (ha : Γ a = some (5, 5, 0, 0, ρa)) (hw : w = 0 ∨ w = 1) (k : ∀ r S', St Γ Φ S' → q r S') : w_X5_read tx q S a w := by
  have k26 : ∀ S', St Γ Φ S' → ∃ n, w_X5_read_b26 tx q n S' a 0 := by
    intro S' h'
    refine loop_m (σ := hS × Int32) (fun t s => w_X5_read_b26 tx q t s.1 a s.2) (fun s => St Γ Φ s.1 ∧ 0 ≤ s.2.toInt ∧ s.2.toInt ≤ 12) (fun s => (12 - s.2.toInt).toNat) ?_ (S', 0) ⟨h', by dsimp only; rw [z0I]; omega⟩
    rintro t ⟨S, x⟩ ⟨h, hx⟩ ih
    dsimp only at h hx ih ⊢
    have go : ∀ (S' : hS) (y : Int32), St Γ Φ S' → y.toInt = x.toInt + 1 ∧ x.toInt < 12 → w_X5_read_b26 tx q t S' a y := fun S' y h' hy => ih (S', y) ⟨h', by dsimp only; omega⟩ (by dsimp only; omega)
    rw [w_X5_read_b26]
    repeat' (first
    | (exact absurd rfl ‹¬ (0 : Int32) = 0›)
    | (exact absurd ‹(1 : Int32) = 0› (by decide))
    | exact k _ _ (by assumption)
    | refine go _ _ (by assumption) ?_
    | (with_reducible refine T_gP_5_0 (by assumption) (by assumption) (fun _ _ _ => ?_))
    | (with_reducible refine T_gP_5_1 (by assumption) (by assumption) (fun _ _ _ => ?_))
    | (with_reducible refine T_gI_5_2 (by assumption) (by assumption) (fun _ _ _ => ?_))
    | (with_reducible refine T_gI_9_2 (by assumption) (by assumption) (fun _ _ _ => ?_))
    | (with_reducible refine T_gI_9_3 (by assumption) (by assumption) (fun _ _ _ => ?_))
    | (with_reducible refine T_pI_5_3 (by assumption) (by assumption) (by assumption) (by simp) (fun _ _ _ _ _ => ?_))
    | (with_reducible refine T_pZ_5_2 (by assumption) (by assumption) (by assumption) (by simp) (fun _ _ _ _ _ => ?_))
    | (with_reducible refine T_oK_10 (by assumption) (by assumption) ?_)
    | (with_reducible refine T_oK_5 (by assumption) (by assumption) ?_)
    | (with_reducible refine T_oK_9 (by assumption) (by assumption) ?_)
    | (with_reducible refine kc_X10_empty (by assumption) (fre.sub (by assumption) (by simp)) (by assumption) (fun _ _ => ?_))
    | (with_reducible refine kc_X5_readLawClause (by assumption) (by assumption) (by assumption) (fun _ _ => ?_) (fun _ _ => ?_))
    | (with_reducible refine kc_X5_readOrderClause (by assumption) (by assumption) (by assumption) (fun _ _ => ?_) (fun _ _ => ?_))
    | (with_reducible refine kc_X5_takeSign (by assumption) (fre.sub (by assumption) (by simp)) (by assumption) ?_ (fun _ _ => ?_))
    | (with_reducible refine kc_X9_rewind (by assumption) (fre.sub (by assumption) (by simp)) (by assumption) (fun _ _ => ?_))
    | (unfold w_X5_read_b67)
    | (unfold w_X5_read_b50)
    | (with_reducible refine T_y (fun _ _ _ => ?_))
    | (refine ⟨fun _ => ?_, fun _ => ?_⟩)
    | fail)
    all_goals (first | decide | (first
    | (with_reducible assumption)
    | omega
    | (simp only [← Int32.toInt_inj, Int32.toInt_add, Int32.toInt_mul, Int32.toInt_sub, Int32.toInt_neg, apply_ite Int32.toInt, Int32.reduceToInt, Int32.le_iff_toInt_le, Int32.lt_iff_toInt_lt] at *; (try simp only [Int.bmod_add_bmod, Int.add_bmod_bmod, Int.bmod_mul_bmod, Int.mul_bmod_bmod, Int.sub_bmod_bmod, Int.bmod_sub_bmod] at *); (try simp (disch := omega) only [fb_bmod, true_and, and_true] at *); all_goals (first | omega | (simp only [Int.bmod_def] at *; omega) | omega))))
  unfold w_X5_read
  refine ⟨hw, ?_⟩
  repeat' (first
    | (exact absurd rfl ‹¬ (0 : Int32) = 0›)
    | (exact absurd ‹(1 : Int32) = 0› (by decide))
    | exact k26 _ (by assumption)
    | (with_reducible refine T_pI_5_2 (by assumption) (by assumption) (by assumption) (by simp) (fun _ _ _ _ _ => ?_))
    | (with_reducible refine T_gP_5_0 (by assumption) (by assumption) (fun _ _ _ => ?_))
    | (with_reducible refine T_gP_5_1 (by assumption) (by assumption) (fun _ _ _ => ?_))
    | (with_reducible refine T_gI_5_2 (by assumption) (by assumption) (fun _ _ _ => ?_))
    | (with_reducible refine T_gI_9_2 (by assumption) (by assumption) (fun _ _ _ => ?_))
    | (with_reducible refine T_gI_9_3 (by assumption) (by assumption) (fun _ _ _ => ?_))
    | (with_reducible refine T_pI_5_3 (by assumption) (by assumption) (by assumption) (by simp) (fun _ _ _ _ _ => ?_))
    | (with_reducible refine T_pZ_5_2 (by assumption) (by assumption) (by assumption) (by simp) (fun _ _ _ _ _ => ?_))
    | (with_reducible refine T_oK_10 (by assumption) (by assumption) ?_)
    | (with_reducible refine T_oK_5 (by assumption) (by assumption) ?_)
    | (with_reducible refine T_oK_9 (by assumption) (by assumption) ?_)
    | (with_reducible refine kc_X10_empty (by assumption) (fre.sub (by assumption) (by simp)) (by assumption) (fun _ _ => ?_))
    | (with_reducible refine kc_X5_readLawClause (by assumption) (by assumption) (by assumption) (fun _ _ => ?_) (fun _ _ => ?_))
    | (with_reducible refine kc_X5_readOrderClause (by assumption) (by assumption) (by assumption) (fun _ _ => ?_) (fun _ _ => ?_))
    | (with_reducible refine kc_X5_takeSign (by assumption) (fre.sub (by assumption) (by simp)) (by assumption) ?_ (fun _ _ => ?_))
    | (with_reducible refine kc_X9_rewind (by assumption) (fre.sub (by assumption) (by simp)) (by assumption) (fun _ _ => ?_))
    | (unfold w_X5_read_b67)
    | (unfold w_X5_read_b50)
    | (with_reducible refine T_y (fun _ _ _ => ?_))
    | (refine ⟨fun _ => ?_, fun _ => ?_⟩)
    | fail)
end READER
