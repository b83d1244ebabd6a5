/-! LAYER 2, the class: those of its own methods that make cells -/
section MAKE
variable {Γ : kG} {Φ : kF} {S : hS} {a b c n o i ci : Nat} {ρa ρb ρd ρg : Nat → Nat} {κ rs : Nat} {fs : List Value} {L : List Nat} {tx : Nat → Nat}
theorem lif {x : Int32} {m : Nat} (hm : m < 2147483648) (h : 0 ≤ x.toInt ∧ x.toInt ≤ m) (y : Int32) (hy : y.toInt = m) : (if 0 < (if y < x then y else x) then (if y < x then y else x) else 0) = x := by
  have h1 : ¬ y < x := by rw [Int32.lt_iff_toInt_lt]; omega
  rw [if_neg h1]
  by_cases c : 0 < x
  · rw [if_pos c]
  · rw [if_neg c]
    rw [Int32.lt_iff_toInt_lt] at c
    have z : (0 : Int32).toInt = 0 := by decide
    exact Int32.toInt_inj.mp (by omega)
theorem Nw_c {S' : hS} {d : Nat} {L1 : List (Nat × hE)} (h : Nw Γ Φ S o ci fs L1) (h' : St Γ Φ S') (hd : Γ d ≠ none) (he : ∀ b, b ≠ d → S' b = S b) : Nw Γ Φ S' o ci fs [] := ⟨h', h.2.1, h.2.2.1, (he o (fun e => hd (e ▸ h.2.1))).trans h.2.2.2.1, fun x hx => by cases hx⟩
theorem kc_X10_init_ {q : hS → Prop} (h : Nw Γ Φ S o 10 FX10_0 []) (hb : Γ b = some (10, κ, c, n, ρb)) (k : ∀ Γ' S', gro Γ Φ Γ' → isTx Γ' o → St Γ' Φ S' → q S') : w_X10_init_ q S o b := by
  obtain ⟨hc, hn⟩ := T_tx h.1 hb
  have t12 : (12 : Int32).toInt = 12 := by decide
  have t400 : (400 : Int32).toInt = 400 := by decide
  have t5 : (5 : Int32).toInt = 5 := by decide
  have z0 : (0 : Int32).toInt = 0 := by decide
  unfold w_X10_init_
  refine N_pI h (by simp only [FX10_0, List.length_cons, List.length_nil]; omega) (fun S1 h1 => ?_)
  simp only [FX10_0, List.set] at h1
  refine N_pI h1 (by simp only [List.length_cons, List.length_nil]; omega) (fun S2 h2 => ?_)
  simp only [List.set] at h2
  refine N_pI h2 (by simp only [List.length_cons, List.length_nil]; omega) (fun S3 h3 => ?_)
  simp only [List.set] at h3
  refine T_gI_10_0 h3.1 hb (fun x22 _ r22 => ?_)
  rw [lif (m := 12) (by omega) (by omega) 12 t12]
  refine N_pI h3 (by simp only [List.length_cons, List.length_nil]; omega) (fun S4 h4 => ?_)
  simp only [List.set] at h4
  refine T_gI_10_1 h4.1 hb (fun x39 _ r39 => ?_)
  rw [lif (m := 400) (by omega) (by omega) 400 t400]
  refine N_pI h4 (by simp only [List.length_cons, List.length_nil]; omega) (fun S5 h5 => ?_)
  simp only [List.set] at h5
  obtain ⟨cc, ec⟩ : ∃ cc : Nat, x22.toInt = cc := ⟨x22.toInt.toNat, by omega⟩
  obtain ⟨nn, en⟩ : ∃ nn : Nat, x39.toInt = nn := ⟨x39.toInt.toNat, by omega⟩
  refine N_gI h5 rfl (N_mkI (n := cc) (20, 19 + 1093, cc, 0, k0) h5 ec (by omega) (fun _ => zc_I (by decide) (by omega)) (fun Γ6 S6 o3 g6 t6 f3 h6 => ?_))
  refine N_pP h6 (by simp only [List.length_cons, List.length_nil]; omega) (fun S7 h7 => ?_)
  simp only [List.set] at h7
  refine N_gI h7 rfl (N_mkI (n := cc) (20, 19 + 1094, cc, 0, k0) h7 ec (by omega) (fun _ => zc_I (by decide) (by omega)) (fun Γ8 S8 o4 g8 t8 f4 h8 => ?_))
  refine N_pP h8 (by simp only [List.length_cons, List.length_nil]; omega) (fun S9 h9 => ?_)
  simp only [List.set] at h9
  have e5 : (x22 * 5).toInt = (5 * cc : Nat) := by
    rw [fb_mulI (by rw [t5]; omega) (by rw [t5]; omega), t5]
    omega
  refine N_gI h9 rfl (N_mkI (n := 5 * cc) (23, 19 + 1095, 5 * cc, 0, k0) h9 e5 (by omega) (fun _ => zc_I (by decide) (by omega)) (fun Γ10 S10 o5 g10 t10 f5 h10 => ?_))
  refine N_pP h10 (by simp only [List.length_cons, List.length_nil]; omega) (fun S11 h11 => ?_)
  simp only [List.set] at h11
  refine N_gI h11 rfl (N_mkI (n := nn) (24, 19 + 1096, nn, 0, k0) h11 en (by omega) (fun _ => zc_I (by decide) (by omega)) (fun Γ12 S12 o6 g12 t12' f6 h12 => ?_))
  refine N_pP h12 (by simp only [List.length_cons, List.length_nil]; omega) (fun S13 h13 => ?_)
  simp only [List.set] at h13
  have gg : gro Γ Φ Γ12 := ((g6.tr g8).tr g10).tr g12
  have hb' := gg.1 _ _ hb
  have u3 : Γ12 o3 = some (20, 19 + 1093, cc, 0, k0) := g12.1 _ _ (g10.1 _ _ (g8.1 _ _ t6))
  have u4 : Γ12 o4 = some (20, 19 + 1094, cc, 0, k0) := g12.1 _ _ (g10.1 _ _ t8)
  have u5 : Γ12 o5 = some (23, 19 + 1095, 5 * cc, 0, k0) := g12.1 _ _ t10
  have sm : ∀ {x : Nat} {τ : kT}, Γ12 x = some τ → Γ12 x ≠ none := fun h z => by rw [h] at z; cases z
  refine T_gP_10_3 h13.1 hb' (fun x97 _ p97 => N_gP h13 rfl (N_gI h13 rfl (F_cI_20 h13.1 p97 f3 u3 (by omega) (fun S14 k14 q14 v14 => ?_))))
  have h14 := Nw_c h13 k14 (sm u3) q14
  refine T_gP_10_4 h14.1 hb' (fun x114 _ p114 => N_gP h14 rfl (N_gI h14 rfl (F_cI_20 h14.1 p114 f4 u4 (by omega) (fun S15 k15 q15 v15 => ?_))))
  have h15 := Nw_c h14 k15 (sm u4) q15
  refine T_gP_10_5 h15.1 hb' (fun x131 _ p131 => N_gP h15 rfl (N_gI h15 rfl (F_cI_23 h15.1 p131 f5 u5 (by omega) (fun S16 k16 q16 v16 => ?_))))
  have h16 := Nw_c h15 k16 (sm u5) q16
  refine T_gP_10_6 h16.1 hb' (fun x150 _ p150 => N_gP h16 rfl (N_gI h16 rfl (F_cI_24 h16.1 p150 f6 t12' (by omega) (fun S17 k17 q17 v17 => ?_))))
  have h17 := Nw_c h16 k17 (sm t12') q17
  obtain ⟨ρ, eρ⟩ : ∃ ρ, ρ = mkb (fun k => ([0, 0, 0, o3, o4, o5, o6] : List Nat).getD k 0) (fun _ => k0) := ⟨_, rfl⟩
  have b3 : ρ 3 = o3 := by rw [eρ]; rfl
  have b4 : ρ 4 = o4 := by rw [eρ]; rfl
  have b5 : ρ 5 = o5 := by rw [eρ]; rfl
  have b6 : ρ 6 = o6 := by rw [eρ]; rfl
  obtain ⟨ga, ta, hs, -⟩ := N_done h17 (10, 19, cc, nn, ρ) (cellOk_10 rfl ⟨x22, x39, 0, o3, o4, o5, o6, rfl, by dsimp only; omega, by dsimp only; omega, by decide, ⟨b3.symm, kset_le h17.2.1 _ _ u3⟩, ⟨b4.symm, kset_le h17.2.1 _ _ u4⟩, ⟨b5.symm, kset_le h17.2.1 _ _ u5⟩, ⟨b6.symm, kset_le h17.2.1 _ _ t12'⟩, by dsimp only; omega, by dsimp only; omega⟩)
  exact k _ _ (gg.tr ga) ⟨cc, nn, ρ, ta, by omega, by omega⟩ hs
theorem kc_X8_addLaw {q : Int32 → hS → Prop} (h : St Γ Φ S) (hb : Γ b = some (8, 8 + 10000 * i, i, 0, ρb)) (hf : fre Γ Φ [8 + 10000 * i, 915 + 10000 * i]) (ht : isTx Γ o) (k : ∀ r S', St Γ Φ S' → q r S') : w_X8_addLaw q S b o := by
  unfold w_X8_addLaw
  refine T_gI_8_14 h hb (fun x1 e1 r1 => ⟨fun c6 => T_gP_8_15 h hb (fun x12 _ p12 => T_gI_8_14 h hb (fun x16 e16 r16 => ?_)), fun _ => k _ _ h⟩)
  have c6 : x1.toInt < 6 := by rw [Int32.lt_iff_toInt_lt] at c6; exact c6
  have e2 : x16 = x1 := by rw [e16, e1]
  subst e2
  refine T_stR_28 h hf p12 (by simp) (by omega) (fun b hb => by cases hb; exact ht) (fun S1 h1 q1 _ _ _ => T_gI_8_14 h1 hb (fun x23 e23 r23 => ?_))
  have e3 : x23 = x16 := by rw [e23, q1.I, e16]
  subst e3
  refine T_pI_8_14 h1 hf hb (by simp) ?_ (fun S2 h2 _ _ _ => T_gI_8_14 h2 hb (fun x32 _ _ => k _ _ h2))
  rw [fb_addI] <;> rw [show (1 : Int32).toInt = 1 from by decide] <;> omega
theorem lgF1 (S : hS) (g : Nat) : lgF S g ≤ 1 := by unfold lgF; split <;> omega
theorem cN_le (f : Nat → Option Nat) : ∀ n, cN f n ≤ n
  | 0 => Nat.le_refl _
  | n + 1 => by
    have := cN_le f n
    rw [cN]
    split <;> omega
theorem lgN16 (S : hS) (g : Nat) : lgN S g ≤ 16 := cN_le _ 16
theorem kc_X11_ring {q : Int32 → hS → Prop} {v w : Int32} (h : St Γ Φ S) (hf : fre Γ Φ [11, 1216, 101, 700, 301, 302]) (hl : lgFr Γ Φ) (ha : Γ a = some (11, 11, 0, rs, ρa)) (k : ∀ r Γ' S', gro Γ Φ Γ' → St Γ' Φ S' → q r S') : w_X11_ring q S a v w := by
  unfold w_X11_ring
  exact T_gP_11_7 h ha (fun x2 _ h2 => T_gP_11_0 h ha (fun x6 _ h6 => T_gP_11_3 h ha (fun x10 _ h10 => T_oK_1 h h2 (kc_X1_ringBell h h2 h6 (hf.sub (by simp)) (fun g e => by cases e; exact ⟨h10, lgF1 _ _, hl⟩) (fun r Γ' S' hg h' _ => T_oK_11 h' (hg.1 _ _ ha) (kc_X11_tell h' ((hf.sub (by simp)).gr hg) (hg.1 _ _ ha) (fun S2 h2 => k _ _ _ hg h2)))))))
theorem kc_X11_sell {q : Int32 → hS → Prop} {v w t : Int32} (h : St Γ Φ S) (hf : fre Γ Φ [11, 1216, 101, 700, 300, 303]) (hl : lgFr Γ Φ) (ha : Γ a = some (11, 11, 0, rs, ρa)) (k : ∀ r Γ' S', gro Γ Φ Γ' → St Γ' Φ S' → q r S') : w_X11_sell q S a v w t := by
  unfold w_X11_sell
  exact T_gP_11_7 h ha (fun x2 _ h2 => T_gP_11_0 h ha (fun x6 _ h6 => T_gP_11_3 h ha (fun x10 _ h10 => T_oK_1 h h2 (kc_X1_sellRing h h2 h6 (hf.sub (by simp)) (fun g e => by cases e; exact ⟨h10, lgF1 _ _, hl⟩) (fun r Γ' S' hg h' _ => T_oK_11 h' (hg.1 _ _ ha) (kc_X11_tell h' ((hf.sub (by simp)).gr hg) (hg.1 _ _ ha) (fun S2 h2 => k _ _ _ hg h2)))))))
theorem kc_X11_die {q : Int32 → hS → Prop} {v : Int32} (h : St Γ Φ S) (hf : fre Γ Φ [11, 1216, 2, 300, 301]) (hl : lgFr Γ Φ) (ha : Γ a = some (11, 11, 0, rs, ρa)) (k : ∀ r Γ' S', gro Γ Φ Γ' → St Γ' Φ S' → q r S') : w_X11_die q S a v := by
  unfold w_X11_die
  exact T_gP_11_7 h ha (fun x2 _ h2 => T_gP_11_0 h ha (fun x6 _ h6 => T_gP_11_3 h ha (fun x10 _ h10 => T_oK_1 h h2 (kc_X1_bury h h2 h6 (hf.sub (by simp)) (fun g e => by cases e; exact ⟨h10, lgF1 _ _, hl⟩) (fun r Γ' S' hg h' _ => T_oK_11 h' (hg.1 _ _ ha) (kc_X11_tell h' ((hf.sub (by simp)).gr hg) (hg.1 _ _ ha) (fun S2 h2 => k _ _ _ hg h2)))))))
theorem kc_X11_pass {q : Int32 → hS → Prop} (h : St Γ Φ S) (hf : fre Γ Φ [11, 1216, 2, 301, 302]) (hl : lgFr Γ Φ) (ha : Γ a = some (11, 11, 0, rs, ρa)) (k : ∀ r Γ' S', gro Γ Φ Γ' → St Γ' Φ S' → q r S') : w_X11_pass q S a := by
  unfold w_X11_pass
  exact T_gP_11_7 h ha (fun x2 _ h2 => T_gP_11_0 h ha (fun x6 _ h6 => T_gP_11_3 h ha (fun x10 _ h10 => T_oK_1 h h2 (kc_X1_turnYear h h2 h6 (hf.sub (by simp)) (fun g e => by cases e; exact ⟨h10, lgF1 _ _, hl⟩) (fun r Γ' S' hg h' _ => T_oK_11 h' (hg.1 _ _ ha) (kc_X11_tell h' ((hf.sub (by simp)).gr hg) (hg.1 _ _ ha) (fun S2 h2 => k _ _ _ hg h2)))))))
theorem kc_X11_generations {q : Int32 → hS → Prop} {v w : Int32} (h : St Γ Φ S) (hf : fre Γ Φ [11, 1216, 1, 101, 202, 700, 1210, 2 + 10000 * 1, 300 + 10000 * 1, 301 + 10000 * 1, 302 + 10000 * 1, 303 + 10000 * 1, 8 + 10000 * 1, 902 + 10000 * 1, 903 + 10000 * 1, 905 + 10000 * 1, 906 + 10000 * 1, 907 + 10000 * 1, 908 + 10000 * 1, 910 + 10000 * 1, 911 + 10000 * 1, 915 + 10000 * 1]) (ha : Γ a = some (11, 11, 0, rs, ρa)) (k : ∀ r Γ' S', gro Γ Φ Γ' → St Γ' Φ S' → q r S') : w_X11_generations q S a v w := by
  unfold w_X11_generations
  repeat' (first
    | (exact absurd rfl ‹¬ (0 : Int32) = 0›)
    | (exact absurd ‹(1 : Int32) = 0› (by decide))
    | exact k _ _ _ gro_rf (by assumption)
    | exact k _ _ _ (by assumption) (by assumption)
    | (refine kc_X1_live (by assumption) (by assumption) (by assumption) (fre.sub (by assumption) (by simp)) (fun r Γ' S' hg h' => ?_); have hf := hf.gr hg; have ha := hg.1 _ _ ha)
    | (with_reducible refine T_gP_11_0 (by assumption) (by assumption) (fun _ _ _ => ?_))
    | (with_reducible refine T_gP_11_1 (by assumption) (by assumption) (fun _ _ _ => ?_))
    | (with_reducible refine T_gP_11_10 (by assumption) (by assumption) (fun _ _ _ => ?_))
    | (with_reducible refine T_gP_11_7 (by assumption) (by assumption) (fun _ _ _ => ?_))
    | (with_reducible refine T_gP_2_0 (by assumption) (by assumption) (fun _ _ _ => ?_))
    | (with_reducible refine T_gP_8_0 (by assumption) (by assumption) (fun _ _ _ => ?_))
    | (with_reducible refine T_gI_8_1 (by assumption) (by assumption) (fun _ _ _ => ?_))
    | (with_reducible refine T_gI_8_4 (by assumption) (by assumption) (fun _ _ _ => ?_))
    | (with_reducible refine T_pI_11_11 (by assumption) (by assumption) (by assumption) (by simp) ?_ (fun _ _ _ _ _ => ?_))
    | (with_reducible refine T_pI_11_12 (by assumption) (by assumption) (by assumption) (by simp) ?_ (fun _ _ _ _ _ => ?_))
    | (with_reducible refine T_oK_1 (by assumption) (by assumption) ?_)
    | (with_reducible refine T_oK_11 (by assumption) (by assumption) ?_)
    | (with_reducible refine T_oK_8 (by assumption) (by assumption) ?_)
    | (with_reducible refine T_aN_20 (by assumption) (by assumption) (fun _ _ => ?_))
    | (with_reducible refine T_aN_21 (by assumption) (by assumption) (fun _ _ => ?_))
    | (with_reducible refine T_aN_22 (by assumption) (by assumption) (fun _ _ => ?_))
    | (with_reducible refine T_aN_23 (by assumption) (by assumption) (fun _ _ => ?_))
    | (with_reducible refine T_aN_24 (by assumption) (by assumption) (fun _ _ => ?_))
    | (with_reducible refine T_cI_20 (by assumption) (by assumption) (by assumption) (by assumption) (by simp) ?_ (fun _ _ _ _ _ _ => ?_))
    | (with_reducible refine T_cI_21 (by assumption) (by assumption) (by assumption) (by assumption) (by simp) ?_ (fun _ _ _ _ _ _ => ?_))
    | (with_reducible refine T_cI_22 (by assumption) (by assumption) (by assumption) (by assumption) (by simp) ?_ (fun _ _ _ _ _ _ => ?_))
    | (with_reducible refine T_cI_23 (by assumption) (by assumption) (by assumption) (by assumption) (by simp) ?_ (fun _ _ _ _ _ _ => ?_))
    | (with_reducible refine T_cI_24 (by assumption) (by assumption) (by assumption) (by assumption) (by simp) ?_ (fun _ _ _ _ _ _ => ?_))
    | (with_reducible refine kc_X11_accept (by assumption) (fre.sub (by assumption) (by simp)) (by assumption) (fun _ _ => ?_))
    | (with_reducible refine kc_X11_isWithin ?_ (fun _ => ?_))
    | (with_reducible refine kc_X11_refuse (by assumption) (fre.sub (by assumption) (by simp)) (by assumption) (fun _ _ => ?_))
    | (with_reducible refine kc_X8_copyFrom (by assumption) (by assumption) (by assumption) (fre.sub (by assumption) (by simp)) (fun _ _ => ?_))
    | (unfold w_X11_generations_b21)
    | (unfold w_X11_generations_b47)
    | (refine ⟨fun _ => ?_, fun _ => ?_⟩)
    | fail)
  all_goals (first
    | (with_reducible assumption)
    | omega
    | (simp only [← Int32.toInt_inj, Int32.toInt_add, Int32.toInt_mul, Int32.toInt_sub, Int32.toInt_neg, apply_ite Int32.toInt, Int32.reduceToInt, Int32.le_iff_toInt_le, Int32.lt_iff_toInt_lt] at *; (try simp only [Int.bmod_add_bmod, Int.add_bmod_bmod, Int.bmod_mul_bmod, Int.mul_bmod_bmod, Int.sub_bmod_bmod, Int.bmod_sub_bmod] at *); (try simp (disch := omega) only [fb_bmod, true_and, and_true] at *); all_goals (first | omega | (simp only [Int.bmod_def] at *; omega) | omega)))
theorem kc_X11_law {q : Int32 → hS → Prop} (h : St Γ Φ S) (hf : fre Γ Φ [11, 1216, 8, 915, 9, 5, 10, 1103, 1104, 1105, 1106]) (ha : Γ a = some (11, 11, 0, rs, ρa)) (k : ∀ r Γ' S', gro Γ Φ Γ' → St Γ' Φ S' → q r S') : w_X11_law tx q S a := by
  have k1 : ∀ r S', St Γ Φ S' → q r S' := fun r S' h' => k r _ _ gro_rf h'
  have z400 : ∀ S', St Γ Φ S' → (0 : Int) ≤ (0 : Int32).toInt ∧ (0 : Int32).toInt ≤ 400 := fun _ _ => by decide
  unfold w_X11_law
  refine T_gP_11_0 h ha (fun x1 _ h1 => T_gI_8_14 h h1 (fun x4 _ _ => ⟨fun _ => T_gP_11_5 h ha (fun x29 _ h29 => T_oK_5 h h29 (kc_X5_read h (hf.sub (by simp)) h29 (Or.inr rfl) (fun r S1 s1 => T_pI_11_13 s1 hf ha (by simp) (fun S2 s2 _ _ _ => T_gP_11_4 s2 ha (fun x40 _ h40 => T_pI_9_1 s2 hf h40 (by simp) (by decide) (fun S3 s3 _ _ _ => T_gI_11_13 s3 ha (fun x48 _ _ => ⟨fun _ => ?_, fun _ => T_oK_11 s3 ha (kc_X11_refuse s3 (hf.sub (by simp)) ha (fun S' h' => k1 _ _ h'))⟩))))))), fun _ => T_gP_11_4 h ha (fun x13 _ h13 => T_pI_9_1 h hf h13 (by simp) (by decide) (fun S3 s3 _ _ _ => T_oK_11 s3 ha (kc_X11_refuse s3 (hf.sub (by simp)) ha (fun S' h' => k1 _ _ h'))))⟩))
  refine T_gP_11_0 s3 ha (fun x64 _ h64 => ?_)
  -- the class's own objects are read while the text is new
  refine St_nO s3 (fun o67 S4 hN hk => ?_)
  refine T_gP_11_5 hN.1 ha (fun x72 _ h72 => T_gP_5_0 hN.1 h72 (fun x75 _ h75 => kc_X10_init_ hN h75 (fun Γ5 S5 g5 t5 s5 => ?_)))
  have hf5 := hf.gr g5
  have ha5 := g5.1 _ _ ha
  have h645 := g5.1 _ _ h64
  exact T_oK_8 s5 h645 (kc_X8_addLaw s5 h645 (hf5.sub (by simp)) t5 (fun r S6 s6 => T_oK_11 s6 ha5 (kc_X11_accept s6 (hf5.sub (by simp)) ha5 (fun S7 s7 => k _ _ _ g5 s7))))
theorem kc_X11_orders {q : Int32 → hS → Prop} (h : St Γ Φ S) (hf : fre Γ Φ [11, 1216, 9, 5, 10, 1103, 1104, 1105, 1106, 1, 101, 202, 700, 2, 300, 301, 302, 303, 2 + 10000 * 1, 300 + 10000 * 1, 301 + 10000 * 1, 302 + 10000 * 1, 303 + 10000 * 1, 8 + 10000 * 1, 902 + 10000 * 1, 903 + 10000 * 1, 905 + 10000 * 1, 906 + 10000 * 1, 907 + 10000 * 1, 908 + 10000 * 1, 910 + 10000 * 1, 911 + 10000 * 1, 915 + 10000 * 1]) (hl : lgFr Γ Φ) (ha : Γ a = some (11, 11, 0, rs, ρa)) (k : ∀ r Γ' S', gro Γ Φ Γ' → St Γ' Φ S' → q r S') : w_X11_orders tx q S a := by
  have k1 : ∀ r S', St Γ Φ S' → q r S' := fun r S' h' => k r _ _ gro_rf h'
  unfold w_X11_orders
  refine T_pI_11_14 h hf ha (by simp) (fun S0 s0 _ _ _ => T_gP_11_5 s0 ha (fun x7 _ h7 => T_oK_5 s0 h7 (kc_X5_read s0 (hf.sub (by simp)) h7 (Or.inl rfl) (fun r S1 s1 => T_pI_11_13 s1 hf ha (by simp) (fun S2 s2 _ _ _ => T_gP_11_4 s2 ha (fun x18 _ h18 => T_pI_9_1 s2 hf h18 (by simp) (by decide) (fun S3 s3 _ _ _ => T_gI_11_13 s3 ha (fun x26 _ _ => ⟨fun _ => ?_, fun _ => T_oK_11 s3 ha (kc_X11_refuse s3 (hf.sub (by simp)) ha (fun S' h' => k1 _ _ h'))⟩))))))))
  refine T_gP_11_1 s3 ha (fun x41 _ h41 => T_gP_11_0 s3 ha (fun x45 _ h45 => T_oK_8 s3 h41 (kc_X8_copyFrom s3 h41 h45 (hf.sub (by simp)) (fun S4 s4 => T_gP_11_7 s4 ha (fun x53 _ h53 => T_gP_11_5 s4 ha (fun x57 _ h57 => T_gP_5_0 s4 h57 (fun x60 _ h60 => T_gP_11_1 s4 ha (fun x64 _ h64 => T_oK_1 s4 h53 (kc_X1_run (ρg := k0) s4 h53 h60 h64 (hf.sub (by simp)) (fun g e => by cases e) (fun g e => by cases e) (by omega) (fun r5 Γ5 S5 g5 s5 => ?_))))))))))
  have hf5 := hf.gr g5
  have ha5 := g5.1 _ _ ha
  refine T_pI_11_14 s5 hf5 ha5 (by simp) (fun S6 s6 _ _ _ => T_gI_11_14 s6 ha5 (fun x75 _ _ => ⟨fun _ => ?_, fun _ => T_oK_11 s6 ha5 (kc_X11_refuse s6 (hf5.sub (by simp)) ha5 (fun S' h' => k _ _ _ g5 h'))⟩))
  refine T_gP_11_7 s6 ha5 (fun x90 _ h90 => T_gP_11_5 s6 ha5 (fun x94 _ h94 => T_gP_5_0 s6 h94 (fun x97 _ h97 => T_gP_11_0 s6 ha5 (fun x101 _ h101 => T_gP_11_3 s6 ha5 (fun x105 _ h105 => T_oK_1 s6 h90 (kc_X1_run s6 h90 h97 h101 (hf5.sub (by simp)) (fun g e => by cases e; exact ⟨h105, hl.gr g5⟩) (fun g e => lgN16 _ _) (by omega) (fun r7 Γ7 S7 g7 s7 => ?_)))))))
  have hf7 := hf5.gr g7
  have ha7 := g7.1 _ _ ha5
  exact T_gP_11_7 s7 ha7 (fun x114 _ h114 => T_gI_1_5 s7 h114 (fun x117 _ _ => T_oK_11 s7 ha7 (kc_X11_accept s7 (hf7.sub (by simp)) ha7 (fun S8 s8 => k _ _ _ (g5.tr g7) s8))))
end MAKE
