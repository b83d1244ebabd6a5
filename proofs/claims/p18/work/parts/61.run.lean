/-! LAYER 2, the class: orders run, generations lived -/
theorem cN_pos {f : Nat → Option Nat} {i : Nat} (hf : f i = none) : ∀ n, i < n → 1 ≤ cN f n
  | 0, h => by omega
  | n + 1, h => by
    rw [cN]
    by_cases c : i = n
    · subst c; rw [if_pos hf]; omega
    · have := cN_pos hf n (by omega); omega
theorem lgN_p {S S1 : hS} {a k g : Nat} (e : sEqx S S1 a k) (a1 : aEq S S1) (hk : k ≠ 0) : lgN S1 g = lgN S g := by
  unfold lgN
  rw [e.P (by omega)]
  exact cN_congr 16 (fun j _ => a1.2 _ j)
section RUN
variable {Γ : kG} {Φ : kF} {S : hS} {a b d g i u c n : Nat} {ρa ρb ρd ρg : Nat → Nat} {κ rs : Nat}
theorem lgPos (h : St Γ Φ S) (hg : Γ g = some (3, 3, 0, 0, ρg)) : lgF S g ≤ lgN S g := by
  obtain ⟨-, hI⟩ := lgA h hg
  unfold lgF
  by_cases z : aO S (fP S g 0) (fI S g 2).toNatClampNeg = none
  · rw [if_pos z]
    exact cN_pos z 16 (cl_lt (by omega))
  · rw [if_neg z]; omega
theorem lgK {lg : Option Nat} (h : St Γ Φ S) (hl : ∀ g, lg = some g → Γ g = some (3, 3, 0, 0, ρg)) : ∃ l : List Nat, (∀ b ∈ l, ∀ τ, Γ b = some τ → τ.2.1 = 3 ∨ τ.2.1 = 400) ∧ ∀ S1, St Γ (fzk Φ S l) S1 → St Γ Φ S1 ∧ ∀ g, lg = some g → lgN S1 g = lgN S g ∧ lgF S1 g = lgF S g := by
  cases lg with
  | none => exact ⟨[], fun b hb => (by cases hb), fun S1 h1 => ⟨St_unfz h h1, fun g e => (by cases e)⟩⟩
  | some g =>
    have hg := hl g rfl
    obtain ⟨hA, -⟩ := lgA h hg
    obtain ⟨eg, hg1⟩ := h.isS hg
    obtain ⟨ea, ha1⟩ := h.isS hA
    refine ⟨[g, fP S g 0], fun b hb τ hτ => ?_, fun S1 h1 => ?_⟩
    · simp only [List.mem_cons, List.not_mem_nil, or_false] at hb
      rcases hb with rfl | rfl
      · rw [hg] at hτ; cases hτ; exact Or.inl rfl
      · rw [hA] at hτ; cases hτ; exact Or.inr rfl
    · have c := lgC (fz_eq (b := g) h1 (by simp) hg1) (fz_eq (b := fP S g 0) h1 (by simp) ha1)
      exact ⟨St_unfz h h1, fun g' e => by cases e; exact c⟩
theorem kc_run25 {q : Int32 → hS → Prop} {K13 : hS → Nat → Nat → Nat → Nat → Option Nat → Int32 → Prop} {lg : Option Nat} {v4 : Int32} (h : St Γ Φ S) (ha : Γ a = some (1, 1, 0, 0, ρa)) (hb : Γ b = some (10, κ, c, n, ρb)) (hd : Γ d = some (8, 8 + 10000 * i, i, 0, ρd)) (hf : fre Γ Φ [1, 101, 202, 700, 2 + 10000 * i, 300 + 10000 * i, 301 + 10000 * i, 302 + 10000 * i, 303 + 10000 * i]) (hl : ∀ g, lg = some g → Γ g = some (3, 3, 0, 0, ρg) ∧ lgFr Γ Φ) (hu : ∀ g, lg = some g → lgN S g ≤ u) (hv : 0 ≤ v4.toInt ∧ v4.toInt < c) (k : ∀ r Γ' S', gro Γ Φ Γ' → St Γ' Φ S' → q r S') (kK : ∀ Γ' S' u', gro Γ Φ Γ' → St Γ' Φ S' → (∀ g, lg = some g → lgN S' g ≤ u') → K13 S' u' a b d lg (v4 + 1)) : ∃ n, w_X1_run_b25 q K13 n S u a b d lg v4 0 := by
  refine loop_m (σ := hS × Nat × Int32) (fun t s => w_X1_run_b25 q K13 t s.1 s.2.1 a b d lg v4 s.2.2) (fun s => (∃ Γ', gro Γ Φ Γ' ∧ St Γ' Φ s.1 ∧ ∀ g, lg = some g → lgN s.1 g ≤ s.2.1) ∧ 0 ≤ s.2.2.toInt) (fun s => (2147483647 - s.2.2.toInt).toNat) ?_ (S, u, 0) ⟨⟨Γ, gro_rf, h, hu⟩, by dsimp only; rw [z0I]; omega⟩
  rintro t ⟨S, u, x⟩ ⟨⟨Γ1, hG, h, hu⟩, hx⟩ ih
  dsimp only at hG h hu hx ih ⊢
  have ha1 := hG.1 _ _ ha
  have hb1 := hG.1 _ _ hb
  have hd1 := hG.1 _ _ hd
  have hf1 := hf.gr hG
  have hl1 : ∀ g, lg = some g → Γ1 g = some (3, 3, 0, 0, ρg) ∧ lgFr Γ1 Φ := fun g e => ⟨hG.1 _ _ (hl g e).1, (hl g e).2.gr hG⟩
  have go249 : ∀ (Γ2 : kG) (S2 : hS) (u2 : Nat), gro Γ1 Φ Γ2 → St Γ2 Φ S2 → (∀ g, lg = some g → lgN S2 g ≤ u2) → x.toInt < 2147483647 → ∀ y, y = x + 1 → w_X1_run_b25 q K13 t S2 u2 a b d lg v4 y := fun Γ2 S2 u2 g2 h2 hu2 hx2 y hy => by
    have hy2 : y.toInt = x.toInt + 1 := by
      rw [hy]
      clear ih h hG hu hl1 hf1 ha1 hb1 hd1 hl hf ha hb hd h2 g2 hu2
      (first
    | (with_reducible assumption)
    | omega
    | (simp only [← Int32.toInt_inj, Int32.toInt_add, Int32.toInt_mul, Int32.toInt_sub, Int32.toInt_neg, apply_ite Int32.toInt, Int32.reduceToInt, Int32.le_iff_toInt_le, Int32.lt_iff_toInt_lt] at *; (try simp only [Int.bmod_add_bmod, Int.add_bmod_bmod, Int.bmod_mul_bmod, Int.mul_bmod_bmod, Int.sub_bmod_bmod, Int.bmod_sub_bmod] at *); (try simp (disch := omega) only [fb_bmod, true_and, and_true] at *); all_goals (first | omega | (simp only [Int.bmod_def] at *; omega) | omega)))
    exact ih (S2, u2, y) ⟨⟨Γ2, hG.tr g2, h2, hu2⟩, by dsimp only; omega⟩ (by dsimp only; omega)
  have b231 : ∀ (Γ2 : kG) (S2 : hS) (u2 : Nat) (r : Int32), gro Γ1 Φ Γ2 → St Γ2 Φ S2 → (0 ≤ r.toInt → ∀ g, lg = some g → lgN S2 g ≤ u2) → x.toInt < 2147483647 → w_X1_run_b231 q K13 (fun S u v0 v1 v2 v3 v4 v5 => w_X1_run_b25 q K13 t S u v0 v1 v2 v3 v4 v5) S2 u2 a b d lg v4 x r := by
    intro Γ2 S2 u2 r g2 h2 hr hx2
    unfold w_X1_run_b231
    refine ⟨fun hr0 => T_gI_1_5 h2 (g2.1 _ _ ha1) (fun x241 _ _ => T_pI_1_5 h2 ((hf1.gr g2).sub (L' := [1]) (by simp)) (g2.1 _ _ ha1) (by simp) (fun S3 h3 _ e3 a3 => ?_)), fun _ => k _ _ _ (hG.tr g2) h2⟩
    unfold w_X1_run_b249
    exact go249 Γ2 S3 u2 g2 h3 (fun g e => by rw [lgN_p e3 a3 (by omega)]; exact hr (by rw [Int32.le_iff_toInt_le, z0I] at hr0; exact hr0) g e) hx2
  obtain ⟨l, hl2, hl3⟩ := lgK h (fun g e => (hl1 g e).1)
  have hF := St_fz h l
  have hfF : fre Γ1 (fzk Φ S l) [1, 202, 700] := fre_fz (hf1.sub (by simp)) (fun b hb τ hτ z => by
    simp only [List.mem_cons, List.not_mem_nil, or_false] at z
    have := hl2 b hb τ hτ
    omega)
  rw [w_X1_run_b25]
  refine T_gP_10_4 h hb1 (fun x28 _ h28 => T_aI_20 h h28 (by omega) (fun x33 _ h33 => ⟨fun _ y hy => by rw [hy]; exact kK Γ1 S u hG h hu, fun hc => ?_⟩))
  have hx2 : x.toInt < 2147483647 := by
    have := Int32.toInt_lt x33
    rw [Int32.le_iff_toInt_le] at hc
    omega
  refine T_oK_1 h ha1 (kc_X1_setWords hF (hfF.sub (by simp)) ha1 hd1 (fun S2 h2 => T_gP_1_1 h2 ha1 (fun x43 _ h43 => T_gP_1_2 h2 ha1 (fun x51 _ h51 => T_oK_6 h2 h43 (kc_X6_weigh h2 (hfF.sub (by simp)) h43 hb1 h51 (fun r3 S3 h3 => ⟨fun _ => ?_, fun _ => ?_⟩))))))
  · refine T_gP_1_1 h3 ha1 (fun x65 _ h65 => T_gP_1_2 h3 ha1 (fun x73 _ h73 => T_oK_6 h3 h65 (kc_X6_weigh h3 (hfF.sub (by simp)) h65 hb1 h73 (fun r4 S4 h4 => ?_))))
    refine T_gP_1_1 h4 ha1 (fun x82 _ h82 => T_gP_1_2 h4 ha1 (fun x90 _ h90 => T_oK_6 h4 h82 (kc_X6_weigh h4 (hfF.sub (by simp)) h82 hb1 h90 (fun r5 S5 h5 => ?_))))
    refine T_gP_1_1 h5 ha1 (fun x99 _ h99 => T_gP_1_2 h5 ha1 (fun x107 _ h107 => T_oK_6 h5 h99 (kc_X6_weigh h5 (hfF.sub (by simp)) h99 hb1 h107 (fun r6 S6 h6 => ?_))))
    obtain ⟨h6', e6⟩ := hl3 S6 h6
    refine ⟨fun _ => k _ _ _ hG h6', fun _ => ⟨fun _ => k _ _ _ hG h6', fun _ => ⟨fun _ => T_gP_10_3 h6' hb1 (fun x140 _ h140 => T_aI_20 h6' h140 (by omega) (fun x145 _ _ y hy => ?_)), fun _ => k _ _ _ hG h6'⟩⟩⟩
    obtain ⟨f, hf0, hf3⟩ : ∃ f, (∀ g, lg = some g → lgF S6 g = f) ∧ f ≤ u := by
      cases lg with
      | none => exact ⟨0, fun g e => (by cases e), by omega⟩
      | some g => exact ⟨lgF S6 g, fun g' e => (by cases e; rfl), by
          have := lgPos h6' (hl1 g rfl).1
          have := hu g rfl
          have := (e6 g rfl).1
          omega⟩
    have hlk : lgOk ρg Γ1 Φ S6 f lg := fun g e => ⟨(hl1 g e).1, by rw [hf0 g e]; omega, (hl1 g e).2⟩
    have fin : ∀ (S2 : hS) (r : Int32), lgTo S6 S2 lg r → 0 ≤ r.toInt → ∀ g, lg = some g → lgN S2 g ≤ u - f := by
      intro S2 r ht hr g e
      have h1 := ht g e
      have h2 := hf0 g e
      have h3 := hu g e
      have h4 := (e6 g e).1
      omega
    refine ⟨fun _ => ⟨f, u - f, by omega, T_oK_1 h6' ha1 (kc_X1_ringBell h6' ha1 hd1 (hf1.sub (by simp)) hlk (fun r Γ2 S2 g2 h2 t2 => T_pI_1_3 h2 ((hf1.gr g2).sub (L' := [1]) (by simp)) (g2.1 _ _ ha1) (by simp) (fun S3 h3 _ e3 a3 => b231 Γ2 S3 (u - f) r g2 h3 (fun hr g e => by rw [lgN_p e3 a3 (by omega)]; exact fin S2 r t2 hr g e) hx2)))⟩, fun _ => ⟨f, u - f, by omega, T_oK_1 h6' ha1 (kc_X1_sellRing h6' ha1 hd1 (hf1.sub (by simp)) hlk (fun r Γ2 S2 g2 h2 t2 => b231 Γ2 S2 (u - f) r g2 h2 (fin S2 r t2) hx2))⟩, fun _ => ⟨f, u - f, by omega, T_oK_1 h6' ha1 (kc_X1_bury h6' ha1 hd1 (hf1.sub (by simp)) hlk (fun r Γ2 S2 g2 h2 t2 => b231 Γ2 S2 (u - f) r g2 h2 (fin S2 r t2) hx2))⟩, fun _ => ⟨f, u - f, by omega, T_oK_1 h6' ha1 (kc_X1_turnYear h6' ha1 hd1 (hf1.sub (by simp)) hlk (fun r Γ2 S2 g2 h2 t2 => b231 Γ2 S2 (u - f) r g2 h2 (fin S2 r t2) hx2))⟩⟩
  · obtain ⟨h3', e3⟩ := hl3 S3 h3
    unfold w_X1_run_b249
    exact go249 Γ1 S3 u gro_rf h3' (fun g e => by rw [(e3 g e).1]; exact hu g e) hx2
theorem kc_X1_run {q : Int32 → hS → Prop} {lg : Option Nat} (h : St Γ Φ S) (ha : Γ a = some (1, 1, 0, 0, ρa)) (hb : Γ b = some (10, κ, c, n, ρb)) (hd : Γ d = some (8, 8 + 10000 * i, i, 0, ρd)) (hf : fre Γ Φ [1, 101, 202, 700, 2 + 10000 * i, 300 + 10000 * i, 301 + 10000 * i, 302 + 10000 * i, 303 + 10000 * i]) (hl : ∀ g, lg = some g → Γ g = some (3, 3, 0, 0, ρg) ∧ lgFr Γ Φ) (hu : ∀ g, lg = some g → lgN S g ≤ u) (hc : c ≤ 12) (k : ∀ r Γ' S', gro Γ Φ Γ' → St Γ' Φ S' → q r S') : w_X1_run q S u a b d lg := by
  unfold w_X1_run
  refine T_pI_1_5 h (hf.sub (L' := [1]) (by simp)) ha (by simp) (fun S1 h1 _ e1 a1 => T_pI_1_3 h1 (hf.sub (L' := [1]) (by simp)) ha (by simp) (fun S2 h2 _ e2 a2 => ?_))
  have hu2 : ∀ g, lg = some g → lgN S2 g ≤ u := fun g e => by rw [lgN_p e2 a2 (by omega), lgN_p e1 a1 (by omega)]; exact hu g e
  refine loop_m (σ := hS × Nat × Int32) (fun t s => w_X1_run_b13 q t s.1 s.2.1 a b d lg s.2.2) (fun s => (∃ Γ', gro Γ Φ Γ' ∧ St Γ' Φ s.1 ∧ ∀ g, lg = some g → lgN s.1 g ≤ s.2.1) ∧ 0 ≤ s.2.2.toInt ∧ s.2.2.toInt ≤ 12) (fun s => (12 - s.2.2.toInt).toNat) ?_ (S2, u, 0) ⟨⟨Γ, gro_rf, h2, hu2⟩, by dsimp only; rw [z0I]; omega⟩
  rintro t ⟨S, u, x⟩ ⟨⟨Γ1, hG, h, hu⟩, hx⟩ ih
  dsimp only at hG h hu hx ih ⊢
  rw [w_X1_run_b13]
  refine T_gI_10_0 h (hG.1 _ _ hb) (fun x16 _ h16 => ⟨fun _ => k _ _ _ hG h, fun hc2 => ?_⟩)
  rw [Int32.le_iff_toInt_le] at hc2
  refine kc_run25 h (hG.1 _ _ ha) (hG.1 _ _ hb) (hG.1 _ _ hd) (hf.gr hG) (fun g e => ⟨hG.1 _ _ (hl g e).1, (hl g e).2.gr hG⟩) hu (by omega) (fun r Γ2 S' g2 h2 => k r Γ2 S' (hG.tr g2) h2) (fun Γ2 S' u' g2 h2 hu2 => ?_)
  have e1 : (x + 1).toInt = x.toInt + 1 := by
    rw [fb_addI] <;> rw [show (1 : Int32).toInt = 1 from by decide] <;> omega
  exact ih (S', u', x + 1) ⟨⟨Γ2, hG.tr g2, h2, hu2⟩, by dsimp only; omega⟩ (by dsimp only; omega)
theorem kc_X1_live {q : Int32 → hS → Prop} {v w : Int32} (h : St Γ Φ S) (ha : Γ a = some (1, 1, 0, 0, ρa)) (hb : Γ b = some (8, 8 + 10000 * i, i, 0, ρb)) (hf : fre Γ Φ [1, 101, 202, 700, 2 + 10000 * i, 300 + 10000 * i, 301 + 10000 * i, 302 + 10000 * i, 303 + 10000 * i]) (k : ∀ r Γ' S', gro Γ Φ Γ' → St Γ' Φ S' → q r S') : w_X1_live q S a b v w := by
  unfold w_X1_live
  refine T_pI_1_4 h (hf.sub (L' := [1]) (by simp)) ha (by simp) (fun S1 h1 _ _ _ => ?_)
  refine loop_m (σ := hS × Int32 × Int32) (fun t s => w_X1_live_b11 q t s.1 a b w s.2.1 s.2.2) (fun s => (∃ Γ', gro Γ Φ Γ' ∧ St Γ' Φ s.1) ∧ 0 ≤ s.2.2.toInt) (fun s => (2147483647 - s.2.2.toInt).toNat) ?_ (S1, 0, 0) ⟨⟨Γ, gro_rf, h1⟩, by dsimp only; rw [z0I]; omega⟩
  rintro t ⟨S, z, x⟩ ⟨⟨Γ1, hG, h⟩, hx⟩ ih
  dsimp only at hG h hx ih ⊢
  have ha1 := hG.1 _ _ ha
  have hb1 := hG.1 _ _ hb
  have hf1 := hf.gr hG
  have no : ∀ (Γ2 : kG) (S2 : hS), lgOk k0 Γ2 Φ S2 0 none := fun Γ2 S2 g e => (by cases e)
  rw [w_X1_live_b11]
  refine ⟨fun _ => k _ _ _ hG h, fun hx2 => ?_⟩
  have hx3 : x.toInt < 2147483647 := by
    have := Int32.toInt_lt w
    rw [Int32.le_iff_toInt_le] at hx2
    omega
  have e1 : (x + 1).toInt = x.toInt + 1 := by
    rw [fb_addI] <;> rw [show (1 : Int32).toInt = 1 from by decide] <;> omega
  have b105 : ∀ (Γ2 : kG) (S2 : hS) (z : Int32), gro Γ1 Φ Γ2 → St Γ2 Φ S2 → w_X1_live_b105 q (fun S v0 v1 v3 v4 v5 => w_X1_live_b11 q t S v0 v1 v3 v4 v5) S2 a b w z x := by
    intro Γ2 S2 z g2 h2
    unfold w_X1_live_b105
    intro y hy
    exact ih (S2, z, y) ⟨⟨Γ2, hG.tr g2, h2⟩, by dsimp only; rw [hy]; omega⟩ (by dsimp only; rw [hy]; omega)
  have b75 : ∀ (Γ2 : kG) (S2 : hS) (z v6 v8 : Int32), gro Γ1 Φ Γ2 → St Γ2 Φ S2 → w_X1_live_b75 q (fun S v0 v1 v3 v4 v5 => w_X1_live_b11 q t S v0 v1 v3 v4 v5) S2 a b w z x v6 v8 := by
    intro Γ2 S2 z v6 v8 g2 h2
    unfold w_X1_live_b75
    have ha2 := g2.1 _ _ ha1
    have hb2 := g2.1 _ _ hb1
    have hf2 := hf1.gr g2
    exact ⟨fun _ => ⟨fun _ => b105 _ _ _ g2 h2, fun _ => T_oK_1 h2 ha2 (kc_X1_turnYear h2 ha2 hb2 (hf2.sub (by simp)) (no Γ2 S2) (fun r Γ3 S3 g3 h3 _ => b105 _ _ _ (g2.tr g3) h3))⟩, fun _ => T_oK_1 h2 ha2 (kc_X1_bury h2 ha2 hb2 (hf2.sub (by simp)) (no Γ2 S2) (fun r Γ3 S3 g3 h3 _ => b105 _ _ _ (g2.tr g3) h3))⟩
  refine T_gP_8_0 h hb1 (fun x18 _ h18 => T_gI_2_5 h h18 (fun x21 _ _ => ⟨fun _ => k _ _ _ hG h, fun _ => T_gI_8_4 h hb1 (fun x32 _ _ => T_oK_1 h ha1 (kc_X1_draw h (hf1.sub (by simp)) ha1 (fun r2 S2 h2 => T_gI_8_1 h2 hb1 (fun x42 _ _ => T_oK_1 h2 ha1 (kc_X1_draw h2 (hf1.sub (by simp)) ha1 (fun r3 S3 h3 => T_oK_1 h3 ha1 (kc_X1_draw h3 (hf1.sub (by simp)) ha1 (fun r4 S4 h4 => T_oK_1 h4 ha1 (kc_X1_ringBell h4 ha1 hb1 (hf1.sub (by simp)) (no Γ1 S4) (fun r5 Γ5 S5 g5 h5 _ => ⟨fun _ => b75 _ _ _ _ _ g5 h5, fun _ y _ => b75 _ _ _ _ _ g5 h5⟩)))))))))) ⟩))
end RUN
