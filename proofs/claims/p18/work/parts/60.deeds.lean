/-! LAYER 2, the class: rings, sales, deaths, years -/
section DEEDS
variable {Γ : kG} {Φ : kF} {S : hS} {a b g i u : Nat} {ρa ρb ρd ρg : Nat → Nat} {κ rs : Nat}
/-- a log, or none: what a deed needs of it -/
def lgOk (ρg : Nat → Nat) (Γ : kG) (Φ : kF) (S : hS) (u : Nat) (lg : Option Nat) : Prop := ∀ g, lg = some g → Γ g = some (3, 3, 0, 0, ρg) ∧ lgF S g ≤ u ∧ lgFr Γ Φ
def lgTo (S S' : hS) (lg : Option Nat) (r : Int32) : Prop := ∀ g, lg = some g → lgN S' g + lgF S g ≤ lgN S g ∨ r.toInt < 0
theorem kc_X1_ringBell {q : Int32 → hS → Prop} {lg : Option Nat} {v w : Int32} (h : St Γ Φ S) (ha : Γ a = some (1, 1, 0, 0, ρa)) (hb : Γ b = some (8, 8 + 10000 * i, i, 0, ρb)) (hf : fre Γ Φ [101, 700, 301 + 10000 * i, 302 + 10000 * i]) (hl : lgOk ρg Γ Φ S u lg) (k : ∀ r Γ' S', gro Γ Φ Γ' → St Γ' Φ S' → lgTo S S' lg r → q r S') : w_X1_ringBell q S u a b lg v w := by
  unfold w_X1_ringBell
  repeat' (first
    | (exact absurd rfl ‹¬ (0 : Int32) = 0›)
    | (exact absurd ‹(1 : Int32) = 0› (by decide))
    | exact k _ _ _ gro_rf (by assumption) (fun _ _ => Or.inr (by decide))
    | (refine ⟨u, 0, rfl, kc_X1_note (by assumption) (by assumption) hl (fun Γ' Φ' S' hg h' hfr fin => ?_)⟩; have ha' := hg.1 _ _ ha; have hb' := hg.1 _ _ hb; have hf' := hfr _ hf (by constructor <;> (simp only [List.mem_cons, List.not_mem_nil, or_false]; omega)))
    | exact (fun z => k _ _ _ hg z.1 (fun g e => Or.inl (z.2 g e))) (fin _ (by assumption))
    | (with_reducible refine T_gP_1_0 (by assumption) (by assumption) (fun _ _ _ => ?_))
    | (with_reducible refine T_gP_2_1 (by assumption) (by assumption) (fun _ _ _ => ?_))
    | (with_reducible refine T_gP_2_2 (by assumption) (by assumption) (fun _ _ _ => ?_))
    | (with_reducible refine T_gP_8_0 (by assumption) (by assumption) (fun _ _ _ => ?_))
    | (with_reducible refine T_oK_0 (by assumption) (by assumption) ?_)
    | (with_reducible refine T_oK_8 (by assumption) (by assumption) ?_)
    | (with_reducible refine T_aI_20 (by assumption) (by assumption) ?_ (fun _ _ _ => ?_))
    | (with_reducible refine T_aI_21 (by assumption) (by assumption) ?_ (fun _ _ _ => ?_))
    | (with_reducible refine T_aI_22 (by assumption) (by assumption) ?_ (fun _ _ _ => ?_))
    | (with_reducible refine T_aI_23 (by assumption) (by assumption) ?_ (fun _ _ _ => ?_))
    | (with_reducible refine T_aI_24 (by assumption) (by assumption) ?_ (fun _ _ _ => ?_))
    | (with_reducible refine T_sI_20 (by assumption) (by assumption) (by assumption) (by simp) ?_ (fun _ _ _ _ _ _ => ?_))
    | (with_reducible refine T_sI_21 (by assumption) (by assumption) (by assumption) (by simp) ?_ ?_ (fun _ _ _ _ _ _ => ?_))
    | (with_reducible refine T_sI_22 (by assumption) (by assumption) (by assumption) (by simp) ?_ ?_ (fun _ _ _ _ _ _ => ?_))
    | (with_reducible refine T_sI_23 (by assumption) (by assumption) (by assumption) (by simp) ?_ ?_ (fun _ _ _ _ _ _ => ?_))
    | (with_reducible refine T_sI_24 (by assumption) (by assumption) (by assumption) (by simp) ?_ ?_ (fun _ _ _ _ _ _ => ?_))
    | (with_reducible refine kc_X0_opensTo (by assumption) (fre.sub (by assumption) (by simp)) (by assumption) (by assumption) (fun _ _ => ?_) (fun _ _ => ?_))
    | (with_reducible refine kc_X0_tiring (by assumption) (fre.sub (by assumption) (by simp)) (by assumption) (by assumption) (fun _ _ _ => ?_))
    | (with_reducible refine kc_X11_slot ?_ (fun _ _ => ?_))
    | (with_reducible refine kc_X8_hasHouse (by assumption) (by assumption) ?_ (fun _ => ?_))
    | (with_reducible refine kc_X8_hasPerson (by assumption) (by assumption) ?_ (fun _ => ?_))
    | (with_reducible refine kc_X8_leftOf (by assumption) (by assumption) (fun _ => ?_))
    | (with_reducible refine kc_X8_lives (by assumption) (by assumption) ?_ (fun _ => ?_))
    | (refine ⟨fun _ => ?_, fun _ => ?_⟩)
    | fail)
  all_goals (first
    | (with_reducible assumption)
    | omega
    | (simp only [← Int32.toInt_inj, Int32.toInt_add, Int32.toInt_mul, Int32.toInt_sub, Int32.toInt_neg, apply_ite Int32.toInt, Int32.reduceToInt, Int32.le_iff_toInt_le, Int32.lt_iff_toInt_lt] at *; (try simp only [Int.bmod_add_bmod, Int.add_bmod_bmod, Int.bmod_mul_bmod, Int.mul_bmod_bmod, Int.sub_bmod_bmod, Int.bmod_sub_bmod] at *); (try simp (disch := omega) only [fb_bmod, true_and, and_true] at *); all_goals (first | omega | (simp only [Int.bmod_def] at *; omega) | omega)))
theorem kc_X1_bury45 {q : Int32 → hS → Prop} {v w : Int32} (h : St Γ Φ S) (hb : Γ b = some (8, 8 + 10000 * i, i, 0, ρb)) (hg : Γ g = some (2, 2 + 10000 * i, i, 0, ρg)) (hf : fre Γ Φ [300 + 10000 * i, 301 + 10000 * i, 2 + 10000 * i]) (hv : 0 ≤ v.toInt ∧ v.toInt < 8) (k : ∀ S', St Γ Φ S' → q w S') : ∃ n, w_X1_bury_b45 q n S u b v g w 0 := by
  refine loop_m (σ := hS × Int32) (fun t s => w_X1_bury_b45 q t s.1 u b v g w s.2) (fun s => St Γ Φ s.1 ∧ 0 ≤ s.2.toInt ∧ s.2.toInt ≤ 6) (fun s => (6 - s.2.toInt).toNat) ?_ (S, 0) ⟨h, by dsimp only; rw [z0I]; omega⟩
  rintro t ⟨S, x⟩ ⟨h, hx⟩ ih
  dsimp only at h hx ih ⊢
  have go : ∀ (S' : hS) (y : Int32), St Γ Φ S' → y.toInt = x.toInt + 1 ∧ x.toInt < 6 → w_X1_bury_b45 q t S' u b v g w y := fun S' y h' hy => ih (S', y) ⟨h', by dsimp only; omega⟩ (by dsimp only; omega)
  rw [w_X1_bury_b45]
  repeat' (first
    | (exact absurd rfl ‹¬ (0 : Int32) = 0›)
    | (exact absurd ‹(1 : Int32) = 0› (by decide))
    | exact k _ (by assumption)
    | refine go _ _ (by assumption) ?_
    | (refine ⟨?_, ?_, kc_X1_divide (by assumption) (by assumption) (fre.sub (by assumption) (by simp)) ?_ (fun _ _ => ?_)⟩)
    | (with_reducible refine T_gP_2_0 (by assumption) (by assumption) (fun _ _ _ => ?_))
    | (with_reducible refine T_gP_2_1 (by assumption) (by assumption) (fun _ _ _ => ?_))
    | (with_reducible refine T_gP_8_0 (by assumption) (by assumption) (fun _ _ _ => ?_))
    | (with_reducible refine T_gI_2_4 (by assumption) (by assumption) (fun _ _ _ => ?_))
    | (with_reducible refine T_gI_8_1 (by assumption) (by assumption) (fun _ _ _ => ?_))
    | (with_reducible refine T_pI_2_4 (by assumption) (by assumption) (by assumption) (by simp) (fun _ _ _ _ _ => ?_))
    | (with_reducible refine T_oK_8 (by assumption) (by assumption) ?_)
    | (with_reducible refine T_aI_20 (by assumption) (by assumption) ?_ (fun _ _ _ => ?_))
    | (with_reducible refine T_aI_21 (by assumption) (by assumption) ?_ (fun _ _ _ => ?_))
    | (with_reducible refine T_aI_22 (by assumption) (by assumption) ?_ (fun _ _ _ => ?_))
    | (with_reducible refine T_aI_23 (by assumption) (by assumption) ?_ (fun _ _ _ => ?_))
    | (with_reducible refine T_aI_24 (by assumption) (by assumption) ?_ (fun _ _ _ => ?_))
    | (with_reducible refine T_sI_20 (by assumption) (by assumption) (by assumption) (by simp) ?_ (fun _ _ _ _ _ _ => ?_))
    | (with_reducible refine T_sI_21 (by assumption) (by assumption) (by assumption) (by simp) ?_ ?_ (fun _ _ _ _ _ _ => ?_))
    | (with_reducible refine T_sI_22 (by assumption) (by assumption) (by assumption) (by simp) ?_ ?_ (fun _ _ _ _ _ _ => ?_))
    | (with_reducible refine T_sI_23 (by assumption) (by assumption) (by assumption) (by simp) ?_ ?_ (fun _ _ _ _ _ _ => ?_))
    | (with_reducible refine T_sI_24 (by assumption) (by assumption) (by assumption) (by simp) ?_ ?_ (fun _ _ _ _ _ _ => ?_))
    | (with_reducible refine kc_X11_slot ?_ (fun _ _ => ?_))
    | (with_reducible refine kc_X1_divide (by assumption) (by assumption) (fre.sub (by assumption) (by simp)) ?_ (fun _ _ => ?_))
    | (with_reducible refine kc_X8_hasPerson (by assumption) (by assumption) ?_ (fun _ => ?_))
    | (with_reducible refine kc_X8_lives (by assumption) (by assumption) ?_ (fun _ => ?_))
    | (with_reducible refine kc_X8_livingHeirs (by assumption) (by assumption) (fun _ => ?_))
    | (unfold w_X1_bury_b116)
    | (with_reducible refine T_y (fun _ _ _ => ?_))
    | (refine ⟨fun _ => ?_, fun _ => ?_⟩)
    | fail)
  all_goals (first
    | (with_reducible assumption)
    | omega
    | (simp only [← Int32.toInt_inj, Int32.toInt_add, Int32.toInt_mul, Int32.toInt_sub, Int32.toInt_neg, apply_ite Int32.toInt, Int32.reduceToInt, Int32.le_iff_toInt_le, Int32.lt_iff_toInt_lt] at *; (try simp only [Int.bmod_add_bmod, Int.add_bmod_bmod, Int.bmod_mul_bmod, Int.mul_bmod_bmod, Int.sub_bmod_bmod, Int.bmod_sub_bmod] at *); (try simp (disch := omega) only [fb_bmod, true_and, and_true] at *); all_goals (first | omega | (simp only [Int.bmod_def] at *; omega) | omega)))
theorem kc_X1_bury {q : Int32 → hS → Prop} {lg : Option Nat} {v : Int32} (h : St Γ Φ S) (ha : Γ a = some (1, 1, 0, 0, ρa)) (hb : Γ b = some (8, 8 + 10000 * i, i, 0, ρb)) (hf : fre Γ Φ [300 + 10000 * i, 301 + 10000 * i, 2 + 10000 * i]) (hl : lgOk ρg Γ Φ S u lg) (k : ∀ r Γ' S', gro Γ Φ Γ' → St Γ' Φ S' → lgTo S S' lg r → q r S') : w_X1_bury q S u a b lg v := by
  unfold w_X1_bury
  refine T_oK_8 h hb (kc_X8_hasPerson h hb ⟨fun z => absurd rfl z, fun _ => k _ _ _ gro_rf h (fun _ _ => Or.inr (by decide))⟩ (fun hv => ⟨fun _ => T_oK_8 h hb (kc_X8_lives h hb ⟨fun z => absurd rfl z, fun _ => k _ _ _ gro_rf h (fun _ _ => Or.inr (by decide))⟩ (fun _ => ⟨fun _ => T_gP_8_0 h hb (fun x23 _ h23 => ⟨u, 0, rfl, kc_X1_note h h23 hl (fun Γ' Φ' S' hg h' hfr fin => ?_)⟩), fun z => absurd z (by decide)⟩)), fun z => absurd z (by decide)⟩))
  have hb' := hg.1 _ _ hb
  have hf' := hfr _ hf (by constructor <;> (simp only [List.mem_cons, List.not_mem_nil, or_false]; omega))
  exact T_oK_8 h' hb' (kc_X8_livingHeirs h' hb' (fun r => kc_X1_bury45 h' hb' (hg.1 _ _ h23) hf' (by omega) (fun S2 h2 => (fun z => k _ _ _ hg z.1 (fun g e => Or.inl (z.2 g e))) (fin _ h2))))
theorem kc_X1_turnYear {q : Int32 → hS → Prop} {lg : Option Nat} (h : St Γ Φ S) (ha : Γ a = some (1, 1, 0, 0, ρa)) (hb : Γ b = some (8, 8 + 10000 * i, i, 0, ρb)) (hf : fre Γ Φ [301 + 10000 * i, 302 + 10000 * i, 2 + 10000 * i]) (hl : lgOk ρg Γ Φ S u lg) (k : ∀ r Γ' S', gro Γ Φ Γ' → St Γ' Φ S' → lgTo S S' lg r → q r S') : w_X1_turnYear q S u a b lg := by
  have rest : ∀ (Γ : kG) (Φ : kF) (S : hS) (g u' : Nat), St Γ Φ S → Γ g = some (2, 2 + 10000 * i, i, 0, bk 0 ρb) → fre Γ Φ [301 + 10000 * i, 302 + 10000 * i, 2 + 10000 * i] → (∀ r S', St Γ Φ S' → q r S') → ∃ n, w_X1_turnYear_b27 q n S u' g 0 := by
    intro Γ Φ S g u' h hg hf k
    have k54 : ∀ S', St Γ Φ S' → ∃ n, w_X1_turnYear_b54 q n S' u' g 0 := by
      intro S' h'
      refine loop_m (σ := hS × Int32) (fun t s => w_X1_turnYear_b54 q t s.1 u' g s.2) (fun s => St Γ Φ s.1 ∧ 0 ≤ s.2.toInt ∧ s.2.toInt ≤ 6) (fun s => (6 - s.2.toInt).toNat) ?_ (S', 0) ⟨h', by dsimp only; rw [z0I]; omega⟩
      rintro t ⟨S, x⟩ ⟨h, hx⟩ ih
      dsimp only at h hx ih ⊢
      have go : ∀ (S' : hS) (y : Int32), St Γ Φ S' → y.toInt = x.toInt + 1 ∧ x.toInt < 6 → w_X1_turnYear_b54 q t S' u' g y := fun S' y h' hy => ih (S', y) ⟨h', by dsimp only; omega⟩ (by dsimp only; omega)
      rw [w_X1_turnYear_b54]
      repeat' (first
    | (exact absurd rfl ‹¬ (0 : Int32) = 0›)
    | (exact absurd ‹(1 : Int32) = 0› (by decide))
    | exact k _ _ (by assumption)
    | refine go _ _ (by assumption) ?_
    | (with_reducible refine T_gP_2_1 (by assumption) (by assumption) (fun _ _ _ => ?_))
    | (with_reducible refine T_gP_2_2 (by assumption) (by assumption) (fun _ _ _ => ?_))
    | (with_reducible refine T_gP_8_0 (by assumption) (by assumption) (fun _ _ _ => ?_))
    | (with_reducible refine T_gI_2_5 (by assumption) (by assumption) (fun _ _ _ => ?_))
    | (with_reducible refine T_pI_2_5 (by assumption) (by assumption) (by assumption) (by simp) (fun _ _ _ _ _ => ?_))
    | (with_reducible refine T_sI_20 (by assumption) (by assumption) (by assumption) (by simp) ?_ (fun _ _ _ _ _ _ => ?_))
    | (with_reducible refine T_sI_21 (by assumption) (by assumption) (by assumption) (by simp) ?_ ?_ (fun _ _ _ _ _ _ => ?_))
    | (with_reducible refine T_sI_22 (by assumption) (by assumption) (by assumption) (by simp) ?_ ?_ (fun _ _ _ _ _ _ => ?_))
    | (with_reducible refine T_sI_23 (by assumption) (by assumption) (by assumption) (by simp) ?_ ?_ (fun _ _ _ _ _ _ => ?_))
    | (with_reducible refine T_sI_24 (by assumption) (by assumption) (by assumption) (by simp) ?_ ?_ (fun _ _ _ _ _ _ => ?_))
    | (with_reducible refine T_aN_20 (by assumption) (by assumption) (fun _ _ => ?_))
    | (with_reducible refine T_aN_21 (by assumption) (by assumption) (fun _ _ => ?_))
    | (with_reducible refine T_aN_22 (by assumption) (by assumption) (fun _ _ => ?_))
    | (with_reducible refine T_aN_23 (by assumption) (by assumption) (fun _ _ => ?_))
    | (with_reducible refine T_aN_24 (by assumption) (by assumption) (fun _ _ => ?_))
    | (with_reducible refine T_y (fun _ _ _ => ?_))
    | (refine ⟨fun _ => ?_, fun _ => ?_⟩)
    | fail)
      all_goals (first
    | (with_reducible assumption)
    | omega
    | (simp only [← Int32.toInt_inj, Int32.toInt_add, Int32.toInt_mul, Int32.toInt_sub, Int32.toInt_neg, apply_ite Int32.toInt, Int32.reduceToInt, Int32.le_iff_toInt_le, Int32.lt_iff_toInt_lt] at *; (try simp only [Int.bmod_add_bmod, Int.add_bmod_bmod, Int.bmod_mul_bmod, Int.mul_bmod_bmod, Int.sub_bmod_bmod, Int.bmod_sub_bmod] at *); (try simp (disch := omega) only [fb_bmod, true_and, and_true] at *); all_goals (first | omega | (simp only [Int.bmod_def] at *; omega) | omega)))
    refine loop_m (σ := hS × Int32) (fun t s => w_X1_turnYear_b27 q t s.1 u' g s.2) (fun s => St Γ Φ s.1 ∧ 0 ≤ s.2.toInt ∧ s.2.toInt ≤ 48) (fun s => (48 - s.2.toInt).toNat) ?_ (S, 0) ⟨h, by dsimp only; rw [z0I]; omega⟩
    rintro t ⟨S, x⟩ ⟨h, hx⟩ ih
    dsimp only at h hx ih ⊢
    have go : ∀ (S' : hS) (y : Int32), St Γ Φ S' → y.toInt = x.toInt + 1 ∧ x.toInt < 48 → w_X1_turnYear_b27 q t S' u' g y := fun S' y h' hy => ih (S', y) ⟨h', by dsimp only; omega⟩ (by dsimp only; omega)
    rw [w_X1_turnYear_b27]
    repeat' (first
    | (exact absurd rfl ‹¬ (0 : Int32) = 0›)
    | (exact absurd ‹(1 : Int32) = 0› (by decide))
    | exact k54 _ (by assumption)
    | refine go _ _ (by assumption) ?_
    | (with_reducible refine T_gP_2_1 (by assumption) (by assumption) (fun _ _ _ => ?_))
    | (with_reducible refine T_gP_2_2 (by assumption) (by assumption) (fun _ _ _ => ?_))
    | (with_reducible refine T_gP_8_0 (by assumption) (by assumption) (fun _ _ _ => ?_))
    | (with_reducible refine T_gI_2_5 (by assumption) (by assumption) (fun _ _ _ => ?_))
    | (with_reducible refine T_pI_2_5 (by assumption) (by assumption) (by assumption) (by simp) (fun _ _ _ _ _ => ?_))
    | (with_reducible refine T_sI_20 (by assumption) (by assumption) (by assumption) (by simp) ?_ (fun _ _ _ _ _ _ => ?_))
    | (with_reducible refine T_sI_21 (by assumption) (by assumption) (by assumption) (by simp) ?_ ?_ (fun _ _ _ _ _ _ => ?_))
    | (with_reducible refine T_sI_22 (by assumption) (by assumption) (by assumption) (by simp) ?_ ?_ (fun _ _ _ _ _ _ => ?_))
    | (with_reducible refine T_sI_23 (by assumption) (by assumption) (by assumption) (by simp) ?_ ?_ (fun _ _ _ _ _ _ => ?_))
    | (with_reducible refine T_sI_24 (by assumption) (by assumption) (by assumption) (by simp) ?_ ?_ (fun _ _ _ _ _ _ => ?_))
    | (with_reducible refine T_aN_20 (by assumption) (by assumption) (fun _ _ => ?_))
    | (with_reducible refine T_aN_21 (by assumption) (by assumption) (fun _ _ => ?_))
    | (with_reducible refine T_aN_22 (by assumption) (by assumption) (fun _ _ => ?_))
    | (with_reducible refine T_aN_23 (by assumption) (by assumption) (fun _ _ => ?_))
    | (with_reducible refine T_aN_24 (by assumption) (by assumption) (fun _ _ => ?_))
    | (with_reducible refine T_y (fun _ _ _ => ?_))
    | (refine ⟨fun _ => ?_, fun _ => ?_⟩)
    | fail)
    all_goals (first
    | (with_reducible assumption)
    | omega
    | (simp only [← Int32.toInt_inj, Int32.toInt_add, Int32.toInt_mul, Int32.toInt_sub, Int32.toInt_neg, apply_ite Int32.toInt, Int32.reduceToInt, Int32.le_iff_toInt_le, Int32.lt_iff_toInt_lt] at *; (try simp only [Int.bmod_add_bmod, Int.add_bmod_bmod, Int.bmod_mul_bmod, Int.mul_bmod_bmod, Int.sub_bmod_bmod, Int.bmod_sub_bmod] at *); (try simp (disch := omega) only [fb_bmod, true_and, and_true] at *); all_goals (first | omega | (simp only [Int.bmod_def] at *; omega) | omega)))
  unfold w_X1_turnYear
  refine T_gP_8_0 h hb (fun x1 _ h1 => T_gI_2_5 h h1 (fun x6 _ h6 => ⟨fun _ => ⟨u, 0, rfl, kc_X1_note h h1 hl (fun Γ' Φ' S' hg h' hfr fin => rest Γ' Φ' S' x1 0 h' (hg.1 _ _ h1) (hfr _ hf (by constructor <;> (simp only [List.mem_cons, List.not_mem_nil, or_false]; omega))) (fun r S2 h2 => (fun z => k _ _ _ hg z.1 (fun g e => Or.inl (z.2 g e))) (fin _ h2)))⟩, fun _ => k _ _ _ gro_rf h (fun _ _ => Or.inr (by decide))⟩))
theorem kc_X1_sellRing {q : Int32 → hS → Prop} {lg : Option Nat} {v w t : Int32} (h : St Γ Φ S) (ha : Γ a = some (1, 1, 0, 0, ρa)) (hb : Γ b = some (8, 8 + 10000 * i, i, 0, ρb)) (hf : fre Γ Φ [101, 700, 300 + 10000 * i, 303 + 10000 * i]) (hl : lgOk ρg Γ Φ S u lg) (k : ∀ r Γ' S', gro Γ Φ Γ' → St Γ' Φ S' → lgTo S S' lg r → q r S') : w_X1_sellRing q S u a b lg v w t := by
  -- the log's cells are kept while it is asked whether a sale can be
  obtain ⟨l, hl1, hl2⟩ : ∃ l : List Nat, (∀ b ∈ l, ∀ τ, Γ b = some τ → τ.2.1 = 3 ∨ τ.2.1 = 400) ∧ ∀ S1, St Γ (fzk Φ S l) S1 → St Γ Φ S1 ∧ lgOk ρg Γ Φ S1 u lg ∧ ∀ g, lg = some g → lgN S1 g = lgN S g ∧ lgF S1 g = lgF S g := by
    cases lg with
    | none => exact ⟨[], fun b hb => (by cases hb), fun S1 h1 => ⟨St_unfz h h1, fun g e => (by cases e), fun g e => (by cases e)⟩⟩
    | some g =>
      obtain ⟨hg, hu, hfl⟩ := hl g rfl
      obtain ⟨hA, -⟩ := lgA h hg
      obtain ⟨eg, hg1⟩ := h.isS hg
      obtain ⟨ea, ha1⟩ := h.isS hA
      refine ⟨[g, fP S g 0], fun b hb τ hτ => ?_, fun S1 h1 => ?_⟩
      · simp only [List.mem_cons, List.not_mem_nil, or_false] at hb
        rcases hb with rfl | rfl
        · rw [hg] at hτ; cases hτ; exact Or.inl rfl
        · rw [hA] at hτ; cases hτ; exact Or.inr rfl
      · have c := lgC (fz_eq (b := g) h1 (by simp) hg1) (fz_eq (b := fP S g 0) h1 (by simp) ha1)
        exact ⟨St_unfz h h1, fun g' e => by cases e; exact ⟨hg, by rw [c.2]; exact hu, hfl⟩, fun g' e => by cases e; exact c⟩
  have hF := St_fz h l
  have hfF : fre Γ (fzk Φ S l) [101, 700] := fre_fz (hf.sub (by simp)) (fun b hb τ hτ z => by
    simp only [List.mem_cons, List.not_mem_nil, or_false] at z
    have := hl1 b hb τ hτ
    omega)
  have no : ∀ (S' : hS) (r : Int32), St Γ Φ S' → r.toInt < 0 → q r S' := fun S' r h' hr => k _ _ _ gro_rf h' (fun _ _ => Or.inr hr)
  unfold w_X1_sellRing
  refine ⟨fun _ => T_oK_8 h hb (kc_X8_hasPerson h hb ⟨fun _ => no _ _ h (by decide), fun z => absurd rfl z⟩ (fun hv => ⟨fun z => absurd z (by decide), fun _ => T_oK_8 h hb (kc_X8_hasPerson h hb ⟨fun _ => no _ _ h (by decide), fun z => absurd rfl z⟩ (fun hw => ⟨fun z => absurd z (by decide), fun _ => T_oK_8 h hb (kc_X8_hasHouse h hb ⟨fun z => absurd rfl z, fun _ => no _ _ h (by decide)⟩ (fun ht => ⟨fun _ => T_oK_8 h hb (kc_X8_leftOf h hb (fun r => ⟨fun _ => no _ _ h (by decide), fun _ => T_oK_1 h ha (kc_X1_canBuy hF hfF ha hb (fun S1 h1 => ⟨fun z => absurd rfl z, fun _ => no _ _ (hl2 S1 h1).1 (by decide)⟩) (fun S1 h1 _ => ⟨fun _ => ?_, fun z => absurd z (by decide)⟩))⟩)), fun z => absurd z (by decide)⟩))⟩))⟩)), fun _ => no _ _ h (by decide)⟩
  obtain ⟨h1, hl3, hl4⟩ := hl2 S1 h1
  refine T_gP_8_0 h1 hb (fun x67 _ h67 => ⟨u, 0, rfl, kc_X1_note h1 h67 hl3 (fun Γ' Φ' S' hg h' hfr fin => ?_)⟩)
  have ha' := hg.1 _ _ ha
  have hb' := hg.1 _ _ hb
  have hf' := hfr _ hf (by constructor <;> (simp only [List.mem_cons, List.not_mem_nil, or_false]; omega))
  clear hfF hF
  repeat' (first
    | (exact absurd rfl ‹¬ (0 : Int32) = 0›)
    | (exact absurd ‹(1 : Int32) = 0› (by decide))
    | exact (fun z => k _ _ _ hg z.1 (fun g e => Or.inl (by have := z.2 g e; rw [(hl4 g e).1, (hl4 g e).2] at this; exact this))) (fin _ (by assumption))
    | (with_reducible refine T_gP_1_0 (by assumption) (by assumption) (fun _ _ _ => ?_))
    | (with_reducible refine T_gP_2_0 (by assumption) (by assumption) (fun _ _ _ => ?_))
    | (with_reducible refine T_gP_2_3 (by assumption) (by assumption) (fun _ _ _ => ?_))
    | (with_reducible refine T_gP_8_0 (by assumption) (by assumption) (fun _ _ _ => ?_))
    | (with_reducible refine T_oK_0 (by assumption) (by assumption) ?_)
    | (with_reducible refine T_oK_1 (by assumption) (by assumption) ?_)
    | (with_reducible refine T_oK_8 (by assumption) (by assumption) ?_)
    | (with_reducible refine T_aI_20 (by assumption) (by assumption) ?_ (fun _ _ _ => ?_))
    | (with_reducible refine T_aI_21 (by assumption) (by assumption) ?_ (fun _ _ _ => ?_))
    | (with_reducible refine T_aI_22 (by assumption) (by assumption) ?_ (fun _ _ _ => ?_))
    | (with_reducible refine T_aI_23 (by assumption) (by assumption) ?_ (fun _ _ _ => ?_))
    | (with_reducible refine T_aI_24 (by assumption) (by assumption) ?_ (fun _ _ _ => ?_))
    | (with_reducible refine T_sI_20 (by assumption) (by assumption) (by assumption) (by simp) ?_ (fun _ _ _ _ _ _ => ?_))
    | (with_reducible refine T_sI_21 (by assumption) (by assumption) (by assumption) (by simp) ?_ ?_ (fun _ _ _ _ _ _ => ?_))
    | (with_reducible refine T_sI_22 (by assumption) (by assumption) (by assumption) (by simp) ?_ ?_ (fun _ _ _ _ _ _ => ?_))
    | (with_reducible refine T_sI_23 (by assumption) (by assumption) (by assumption) (by simp) ?_ ?_ (fun _ _ _ _ _ _ => ?_))
    | (with_reducible refine T_sI_24 (by assumption) (by assumption) (by assumption) (by simp) ?_ ?_ (fun _ _ _ _ _ _ => ?_))
    | (with_reducible refine kc_X0_price (by assumption) (fre.sub (by assumption) (by simp)) (by assumption) (by assumption) (fun _ _ _ => ?_))
    | (with_reducible refine kc_X11_slot ?_ (fun _ _ => ?_))
    | (with_reducible refine kc_X1_canBuy (by assumption) (fre.sub (by assumption) (by simp)) (by assumption) (by assumption) (fun _ _ => ?_) (fun _ _ _ => ?_))
    | (with_reducible refine kc_X8_hasHouse (by assumption) (by assumption) ?_ (fun _ => ?_))
    | (with_reducible refine kc_X8_hasPerson (by assumption) (by assumption) ?_ (fun _ => ?_))
    | (with_reducible refine kc_X8_leftOf (by assumption) (by assumption) (fun _ => ?_))
    | (refine ⟨fun _ => ?_, fun _ => ?_⟩)
    | fail)
  all_goals (first
    | (with_reducible assumption)
    | omega
    | (simp only [← Int32.toInt_inj, Int32.toInt_add, Int32.toInt_mul, Int32.toInt_sub, Int32.toInt_neg, apply_ite Int32.toInt, Int32.reduceToInt, Int32.le_iff_toInt_le, Int32.lt_iff_toInt_lt] at *; (try simp only [Int.bmod_add_bmod, Int.add_bmod_bmod, Int.bmod_mul_bmod, Int.mul_bmod_bmod, Int.sub_bmod_bmod, Int.bmod_sub_bmod] at *); (try simp (disch := omega) only [fb_bmod, true_and, and_true] at *); all_goals (first | omega | (simp only [Int.bmod_def] at *; omega) | omega)))
end DEEDS
