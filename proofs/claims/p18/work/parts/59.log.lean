/-! LAYER 2, the class: the log -/
def cN (f : Nat → Option Nat) : Nat → Nat
  | 0 => 0
  | n + 1 => cN f n + if f n = none then 1 else 0
theorem cN_congr {f g : Nat → Option Nat} : ∀ n, (∀ j, j < n → g j = f j) → cN g n = cN f n
  | 0, _ => rfl
  | n + 1, h => by rw [cN, cN, cN_congr n (fun j hj => h j (by omega)), h n (by omega)]
theorem cN_set {f g : Nat → Option Nat} {i : Nat} (hf : f i = none) (hg : g i ≠ none) (hj : ∀ j, j ≠ i → g j = f j) : ∀ n, i < n → cN g n + 1 = cN f n
  | 0, h => by omega
  | n + 1, h => by
    by_cases c : i = n
    · subst c
      rw [cN, cN, cN_congr i (fun j hj' => hj j (by omega)), if_pos hf, if_neg hg]
    · have := cN_set hf hg hj n (by omega)
      rw [cN, cN, hj n (fun e => c e.symm)]
      omega
/-- how many of the log's places have never been used; whether the next is such a one -/
def lgN (S : hS) (g : Nat) : Nat := cN (aO S (fP S g 0)) 16
def lgF (S : hS) (g : Nat) : Nat := if aO S (fP S g 0) (fI S g 2).toNatClampNeg = none then 1 else 0
theorem lgC {S S' : hS} {g : Nat} (h1 : S' g = S g) (h2 : S' (fP S g 0) = S (fP S g 0)) : lgN S' g = lgN S g ∧ lgF S' g = lgF S g := by
  unfold lgN lgF
  rw [fP_cell h1, fI_cell h1]
  have : aO S' (fP S g 0) = aO S (fP S g 0) := funext fun j => aO_cell h2 j
  rw [this]
  exact ⟨rfl, rfl⟩
/-- the log's own names; each of its ledgers has names of its own -/
def lgFr (Γ : kG) (Φ : kF) : Prop := fre Γ Φ [3, 400, 401] ∧ ∀ j, j < 16 → fre Γ Φ [2 + 10000 * (10 + j), 300 + 10000 * (10 + j), 301 + 10000 * (10 + j), 302 + 10000 * (10 + j), 303 + 10000 * (10 + j)]
theorem lgFr.gr {Γ Γ' : kG} {Φ : kF} (h : lgFr Γ Φ) (g : gro Γ Φ Γ') : lgFr Γ' Φ := ⟨h.1.gr g, fun j hj => (h.2 j hj).gr g⟩
section LOG
variable {Γ : kG} {Φ : kF} {S : hS} {a b g i i' u : Nat} {ρa ρb ρd ρg : Nat → Nat} {κ rs : Nat}
theorem lgA (h : St Γ Φ S) (ha : Γ g = some (3, 3, 0, 0, ρg)) : Γ (fP S g 0) = some (27, 400, 16, 0, k0) ∧ 0 ≤ (fI S g 2).toInt ∧ (fI S g 2).toInt ≤ 15 := by
  have h1 : gP S g 3 0 (fun x => x = fP S g 0 ∧ Γ x = some (27, 400, 16, 0, k0)) := T_gP_3_0 h ha (fun x hx hg => ⟨hx, hg⟩)
  have h2 : gI S g 3 2 (fun x => x = fI S g 2 ∧ 0 ≤ x.toInt ∧ x.toInt ≤ 15) := T_gI_3_2 h ha (fun x hx hg => ⟨hx, hg.2⟩)
  obtain ⟨_, x, -, -, e, hx⟩ := h1
  obtain ⟨_, y, -, -, e', hy⟩ := h2
  rw [e] at hx
  rw [e'] at hy
  exact ⟨hx, hy⟩
theorem kc_push28 {q : hS → Prop} {v : Int32} (h : St Γ Φ S) (ha : Γ g = some (3, 3, 0, 0, ρg)) (hb : Γ b = some (2, 2 + 10000 * i, i, 0, ρb)) (hf : lgFr Γ Φ) (hs : ∃ d, aO S (fP S g 0) (fI S g 2).toNatClampNeg = some d) (k : ∀ S', St Γ Φ S' → fP S' g 0 = fP S g 0 → (∀ j, aO S' (fP S g 0) j = aO S (fP S g 0) j) → q S') : w_X3_push_b28 q S u g v b := by
  obtain ⟨hA, hI⟩ := lgA h ha
  obtain ⟨d, hd⟩ := hs
  refine T_gP_3_0 h ha (fun x29 e29 h29 => T_gI_3_2 h ha (fun x33 e33 h33 => T_aR_27 h h29 (by omega) (fun x36 e36 h36 => ?_)))
  rw [e29, e33, hd] at e36
  subst e36
  obtain ⟨ρd, hd2⟩ := h36 d rfl
  have hj : (fI S g 2).toNatClampNeg < 16 := cl_lt (by omega)
  rw [e33] at hd2
  have hF := St_fz h [g, fP S g 0]
  have hfF : fre Γ (fzk Φ S [g, fP S g 0]) [2 + 10000 * (10 + (fI S g 2).toNatClampNeg), 300 + 10000 * (10 + (fI S g 2).toNatClampNeg), 301 + 10000 * (10 + (fI S g 2).toNatClampNeg), 302 + 10000 * (10 + (fI S g 2).toNatClampNeg), 303 + 10000 * (10 + (fI S g 2).toNatClampNeg)] := by
    refine fre_fz (hf.2 _ hj) (fun b hb τ hτ => ?_)
    simp only [List.mem_cons, List.not_mem_nil, or_false] at hb
    rcases hb with rfl | rfl
    · rw [ha] at hτ; cases hτ; simp only [List.mem_cons, List.not_mem_nil, or_false]; omega
    · rw [hA] at hτ; cases hτ; simp only [List.mem_cons, List.not_mem_nil, or_false]; omega
  refine dQ_s (T_oK_2 h hd2 (kc_X2_copyFrom hF hd2 hb hfF (fun S1 h1 => ?_)))
  obtain ⟨eg, hg1⟩ := h.isS ha
  obtain ⟨ea, ha1⟩ := h.isS hA
  have c1 : S1 g = S g := fz_eq h1 (by simp) hg1
  have c2 : S1 (fP S g 0) = S (fP S g 0) := fz_eq h1 (by simp) ha1
  have h1 := St_unfz h h1
  refine T_gP_3_1 h1 ha (fun x42 _ h42 => T_gI_3_2 h1 ha (fun x46 _ h46 => T_sI_20 h1 (hf.1.sub (by simp)) (L := [401]) h42 (by simp) (by omega) (fun S2 h2 e2 _ o2 _ => T_gI_3_2 h2 ha (fun x53 _ h53 => T_pI_3_2 h2 (hf.1.sub (by simp)) (L := [3]) ha (by simp) ?_ (fun S3 h3 _ e3 a3 => T_gI_3_3 h3 ha (fun x66 _ _ => T_pI_3_3 h3 (hf.1.sub (by simp)) (L := [3]) ha (by simp) (fun S4 h4 _ e4 a4 => k S4 h4 ?_ (fun j => ?_))))))))
  · have e1 : (x53 + 1).toInt = x53.toInt + 1 := by
      rw [fb_addI] <;> rw [show (1 : Int32).toInt = 1 from by decide] <;> omega
    have t : (16 : Int32).toInt = 16 := by decide
    have e5 : ((x53 + 1) / 16).toInt = (x53.toInt + 1) / 16 := by
      rw [Int32.toInt_div, e1, t, Int.tdiv_eq_ediv_of_nonneg (by omega)]
      exact fb_bmod (by omega) (by omega)
    have e6 : ((x53 + 1) / 16 * 16).toInt = (x53.toInt + 1) / 16 * 16 := by
      rw [fb_mulI (by rw [e5, t]; omega) (by rw [e5, t]; omega), e5, t]
    rw [fb_subI (by rw [e6, e1]; omega) (by rw [e6, e1]; omega), e6, e1]
    omega
  · rw [e4.P (by omega), e3.P (by omega), e2.P, fP_cell c1]
  · rw [a4.2, a3.2, o2, aO_cell c2]
theorem kc_X3_push {q : hS → Prop} {v : Int32} (h : St Γ Φ S) (ha : Γ g = some (3, 3, 0, 0, ρg)) (hb : Γ b = some (2, 2 + 10000 * i, i, 0, ρb)) (hf : lgFr Γ Φ) (hu : lgF S g ≤ u) (k : ∀ Γ' S', gro Γ Φ Γ' → St Γ' Φ S' → lgN S' g + lgF S g ≤ lgN S g → q S') : w_X3_push q S u g v b := by
  obtain ⟨hA, hI⟩ := lgA h ha
  obtain ⟨eg, hg1⟩ := h.isS ha
  obtain ⟨ea, ha1⟩ := h.isS hA
  refine T_gP_3_0 h ha (fun x1 e1 h1 => T_gI_3_2 h ha (fun x5 e5 h5 => T_aR_27 h h1 (by omega) (fun x8 e8 h8 => ⟨fun hn => ?_, fun d hd => ?_⟩)))
  · have hF1 : lgF S g = 1 := by
      unfold lgF
      rw [e8, e1, e5] at hn
      rw [if_pos hn]
    refine T_gP_3_0 h ha (fun x13 e13 h13 => T_gI_3_2 h ha (fun x17 e17 h17 => ⟨u - 1, by omega, St_nO (St_fz h [g, fP S g 0]) (fun o S1 hN _ => ki_X2 (10 + x17.toNatClampNeg) hN (fun Γ' S' ρo hG ht hS _ => ?_))⟩))
    have c1 : S' g = S g := fz_eq hS (by simp) hg1
    have c2 : S' (fP S g 0) = S (fP S g 0) := fz_eq hS (by simp) ha1
    have hG' : gro Γ Φ Γ' := gro_unfz (fun b hb => by
      simp only [List.mem_cons, List.not_mem_nil, or_false] at hb
      rcases hb with rfl | rfl
      · rw [hg1]; exact fun z => by cases z
      · rw [ha1]; exact fun z => by cases z) hG
    have hS' := St_unfz h hS
    have hf' := hf.gr hG'
    subst e13 e17
    refine T_stR_27 hS' (hf'.1.sub (by simp)) (L := [400]) (hG'.1 _ _ hA) (by simp) (by omega) (fun b hb => by cases hb; exact ⟨ρo, ht⟩) (fun S2 h2 e2 _ _ o2 => ?_)
    have p2 : fP S2 g 0 = fP S g 0 := by rw [e2.P, fP_cell c1]
    have i2 : fI S2 g 2 = fI S g 2 := by rw [e2.I, fI_cell c1]
    refine kc_push28 h2 (hG'.1 _ _ ha) (hG'.1 _ _ hb) hf' ⟨o, ?_⟩ (fun S3 h3 p3 o3 => k Γ' S3 hG' h3 ?_)
    · rw [p2, i2, o2, if_pos rfl]
    · rw [hF1]
      unfold lgN
      rw [p3, p2]
      rw [p2] at o3
      have hn' : aO S (fP S g 0) (fI S g 2).toNatClampNeg = none := by rw [e8, e1, e5] at hn; exact hn
      have := cN_set (f := aO S (fP S g 0)) (g := aO S3 (fP S g 0)) (i := (fI S g 2).toNatClampNeg) hn' (by rw [o3, o2, if_pos rfl]; exact fun z => by cases z) (fun j hj => by rw [o3, o2, if_neg hj, aO_cell c2]) 16 (cl_lt (by omega))
      omega
  · rw [e8, e1, e5] at hd
    have hF0 : lgF S g = 0 := by
      unfold lgF
      rw [hd, if_neg (fun z => by cases z)]
    refine kc_push28 h ha hb hf ⟨d, hd⟩ (fun S3 h3 p3 o3 => k Γ S3 gro_rf h3 ?_)
    rw [hF0]
    unfold lgN
    rw [p3, cN_congr 16 (fun j _ => o3 j)]
    omega
theorem kc_X1_note {q : hS → Prop} {lg : Option Nat} {t : Int32} (h : St Γ Φ S) (hb : Γ b = some (2, 2 + 10000 * i, i, 0, ρb)) (hl : ∀ g, lg = some g → Γ g = some (3, 3, 0, 0, ρg) ∧ lgF S g ≤ u ∧ lgFr Γ Φ) (k : ∀ Γ' Φ' S', gro Γ Φ Γ' → St Γ' Φ' S' → (∀ L, fre Γ Φ L → (3 ∉ L ∧ 400 ∉ L) → fre Γ' Φ' L) → (∀ S2, St Γ' Φ' S2 → St Γ' Φ S2 ∧ ∀ g, lg = some g → lgN S2 g + lgF S g ≤ lgN S g) → q S') : w_X1_note q S u lg t b := by
  unfold w_X1_note
  refine ⟨fun e => k Γ Φ S gro_rf h (fun L hL _ => hL) (fun S2 h2 => ⟨h2, fun g hg => by rw [e] at hg; cases hg⟩), fun g hg => ?_⟩
  obtain ⟨ha, hu, hf⟩ := hl g hg
  refine ⟨u, 0, rfl, T_oK_3 h ha (kc_X3_push h ha hb hf hu (fun Γ' S' hG hS hN => ?_))⟩
  have ha' := hG.1 _ _ ha
  obtain ⟨hA, -⟩ := lgA hS ha'
  obtain ⟨eg, hg1⟩ := hS.isS ha'
  obtain ⟨ea, ha1⟩ := hS.isS hA
  refine k Γ' (fzk Φ S' [g, fP S' g 0]) S' hG (St_fz hS _) (fun L hL hn => ?_) (fun S2 h2 => ⟨St_unfz hS h2, fun g' hg' => ?_⟩)
  · refine fre_fz (hL.gr hG) (fun b hb τ hτ => ?_)
    simp only [List.mem_cons, List.not_mem_nil, or_false] at hb
    rcases hb with rfl | rfl
    · rw [ha'] at hτ; cases hτ; exact hn.1
    · rw [hA] at hτ; cases hτ; exact hn.2
  · rw [hg] at hg'
    cases hg'
    have c1 : S2 g = S' g := fz_eq h2 (by simp) hg1
    have c2 : S2 (fP S' g 0) = S' (fP S' g 0) := fz_eq h2 (by simp) ha1
    rw [(lgC c1 c2).1]
    exact hN
theorem kc_X3_clear {q : hS → Prop} (h : St Γ Φ S) (hf : fre Γ Φ [3]) (ha : Γ g = some (3, 3, 0, 0, ρg)) (k : ∀ S', St Γ Φ S' → q S') : w_X3_clear q S g := by
  unfold w_X3_clear
  repeat' (first
    | (exact absurd rfl ‹¬ (0 : Int32) = 0›)
    | (exact absurd ‹(1 : Int32) = 0› (by decide))
    | exact k _ (by assumption)
    | (with_reducible refine T_pI_3_3 (by assumption) (by assumption) (by assumption) (by simp) (fun _ _ _ _ _ => ?_))
    | (refine ⟨fun _ => ?_, fun _ => ?_⟩)
    | fail)
theorem kc_X3_takeBack {q : Int32 → hS → Prop} (h : St Γ Φ S) (ha : Γ g = some (3, 3, 0, 0, ρg)) (hb : Γ b = some (2, 2 + 10000 * i, i, 0, ρb)) (hf : fre Γ Φ [3, 2 + 10000 * i, 300 + 10000 * i, 301 + 10000 * i, 302 + 10000 * i, 303 + 10000 * i]) (k : ∀ r S', St Γ Φ S' → q r S') : w_X3_takeBack q S g b := by
  unfold w_X3_takeBack
  repeat' (first
    | (exact absurd rfl ‹¬ (0 : Int32) = 0›)
    | (exact absurd ‹(1 : Int32) = 0› (by decide))
    | exact k _ _ (by assumption)
    | (with_reducible refine T_gP_3_0 (by assumption) (by assumption) (fun _ _ _ => ?_))
    | (with_reducible refine T_gP_3_1 (by assumption) (by assumption) (fun _ _ _ => ?_))
    | (with_reducible refine T_gI_3_2 (by assumption) (by assumption) (fun _ _ _ => ?_))
    | (with_reducible refine T_gI_3_3 (by assumption) (by assumption) (fun _ _ _ => ?_))
    | (with_reducible refine T_pI_3_2 (by assumption) (by assumption) (by assumption) (by simp) ?_ (fun _ _ _ _ _ => ?_))
    | (with_reducible refine T_pI_3_3 (by assumption) (by assumption) (by assumption) (by simp) (fun _ _ _ _ _ => ?_))
    | (with_reducible refine T_oK_2 (by assumption) (by assumption) ?_)
    | (with_reducible refine T_aI_20 (by assumption) (by assumption) ?_ (fun _ _ _ => ?_))
    | (with_reducible refine T_aI_21 (by assumption) (by assumption) ?_ (fun _ _ _ => ?_))
    | (with_reducible refine T_aI_22 (by assumption) (by assumption) ?_ (fun _ _ _ => ?_))
    | (with_reducible refine T_aI_23 (by assumption) (by assumption) ?_ (fun _ _ _ => ?_))
    | (with_reducible refine T_aI_24 (by assumption) (by assumption) ?_ (fun _ _ _ => ?_))
    | (with_reducible refine T_aR_27 (by assumption) (by assumption) ?_ (fun _ _ _ => ?_))
    | (with_reducible refine kc_X2_copyFrom (by assumption) (by assumption) (by assumption) (fre.sub (by assumption) (by simp)) (fun _ _ => ?_))
    | (refine ⟨fun _ => ?_, T_someE (by assumption) (fun _ _ _ _ => ?_)⟩)
    | (refine ⟨fun _ => ?_, T_some (by assumption) (fun _ _ _ => ?_)⟩)
    | (refine ⟨fun _ => ?_, fun _ => ?_⟩)
    | fail)
  all_goals (try (first
    | (with_reducible assumption)
    | omega
    | (simp only [← Int32.toInt_inj, Int32.toInt_add, Int32.toInt_mul, Int32.toInt_sub, Int32.toInt_neg, apply_ite Int32.toInt, Int32.reduceToInt, Int32.le_iff_toInt_le, Int32.lt_iff_toInt_lt] at *; (try simp only [Int.bmod_add_bmod, Int.add_bmod_bmod, Int.bmod_mul_bmod, Int.mul_bmod_bmod, Int.sub_bmod_bmod, Int.bmod_sub_bmod] at *); (try simp (disch := omega) only [fb_bmod, true_and, and_true] at *); all_goals (first | omega | (simp only [Int.bmod_def] at *; omega) | omega))))
  rename_i x _ hx
  have e1 : (x + 16 - 1).toInt = x.toInt + 15 := by (first
    | (with_reducible assumption)
    | omega
    | (simp only [← Int32.toInt_inj, Int32.toInt_add, Int32.toInt_mul, Int32.toInt_sub, Int32.toInt_neg, apply_ite Int32.toInt, Int32.reduceToInt, Int32.le_iff_toInt_le, Int32.lt_iff_toInt_lt] at *; (try simp only [Int.bmod_add_bmod, Int.add_bmod_bmod, Int.bmod_mul_bmod, Int.mul_bmod_bmod, Int.sub_bmod_bmod, Int.bmod_sub_bmod] at *); (try simp (disch := omega) only [fb_bmod, true_and, and_true] at *); all_goals (first | omega | (simp only [Int.bmod_def] at *; omega) | omega)))
  have t : (16 : Int32).toInt = 16 := by decide
  have e5 : ((x + 16 - 1) / 16).toInt = (x.toInt + 15) / 16 := by
    rw [Int32.toInt_div, e1, t, Int.tdiv_eq_ediv_of_nonneg (by omega)]
    exact fb_bmod (by omega) (by omega)
  have e6 : ((x + 16 - 1) / 16 * 16).toInt = (x.toInt + 15) / 16 * 16 := by
    rw [fb_mulI (by rw [e5, t]; omega) (by rw [e5, t]; omega), e5, t]
  rw [fb_subI (by rw [e6, e1]; omega) (by rw [e6, e1]; omega), e6, e1]
  omega
end LOG
