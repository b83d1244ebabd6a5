/-! AN EXCHANGE, THE REFERENCE'S SEARCH: who may give, what a row comes to -/
def noN (f : Nat → Nat) (t : Nat) : Nat → Bool
  | 0 => true
  | i + 1 => noN f t i && decide (f i ≠ t)
def alG (F : Nat → Int32) (n : Nat) (f : Nat → Nat) (k t : Nat) : Bool := edF F k t && decide (t ≠ k) && decide (0 ≤ iR F (154 + t)) && noN f t k && !(decide (t < k) && decide (f t = n))
def alX (F : Nat → Int32) (n : Nat) (f : Nat → Nat) (k t : Nat) : Bool := decide (t = n) || alG F n f k t
def gvM (n : Nat) (f : Nat → Nat) : Nat → Nat
  | 0 => 0
  | p + 1 => if f p = n then gvM n f p else gvM n f p ||| 2 ^ f p
def gtM (n : Nat) (f : Nat → Nat) : Nat → Nat
  | 0 => 0
  | p + 1 => if f p = n then gtM n f p else gtM n f p ||| 2 ^ p
def lvX (n : Nat) (f : Nat → Nat) : Int := if gvM n f n = gtM n f n then (cnA (gtM n f n) : Nat) else -1
section XG
variable {S : hS} {o : Nat} {ad : Nat → Nat} {M : mS} {F : Nat → Int32} {f : Nat → Nat} {n : Nat}
theorem gvM_lt {n : Nat} (hf : ∀ i, i < n → f i ≤ n) : ∀ p, p ≤ n → gvM n f p < 2 ^ n ∧ gtM n f p < 2 ^ n
  | 0, _ => ⟨Nat.pow_pos (by omega), Nat.pow_pos (by omega)⟩
  | p + 1, hp => by
    have ih := gvM_lt hf p (by omega)
    have := hf p (by omega)
    rw [gvM, gtM]
    by_cases c : f p = n
    · rw [if_pos c, if_pos c]
      exact ih
    · rw [if_neg c, if_neg c]
      exact ⟨mk_lt ih.1 (by omega), mk_lt ih.2 (by omega)⟩
theorem lvX_b (hn : n ≤ 8) (hf : ∀ i, i < n → f i ≤ n) : -1 ≤ lvX n f ∧ lvX n f ≤ 8 := by
  have := cn_le (gtM n f n)
  unfold lvX
  split <;> omega
theorem noN_iff {t : Nat} : ∀ k, noN f t k = true ↔ ∀ i, i < k → f i ≠ t
  | 0 => ⟨fun _ i hi => absurd hi (Nat.not_lt_zero _), fun _ => rfl⟩
  | k + 1 => by
    rw [noN, Bool.and_eq_true, noN_iff k, decide_eq_true_eq]
    refine ⟨fun h i hi => ?_, fun h => ⟨fun i hi => h i (by omega), h k (by omega)⟩⟩
    by_cases c : i = k
    · rw [c]; exact h.2
    · exact h.1 i (by omega)
theorem x_cg71 (hd : mD o ad) {q : Int32 → hS → Prop} {k g : Nat} (hn : n ≤ 8) (hk : k < n) (hg : g < n) (eP : M.2.2.1 3 1 = nI n) (ha : ∀ i, i < k → M.2.2.1 45 i = nI (f i) ∧ f i ≤ n) {c0 : Bool} (h : q (if (c0 && noN f g k && !(decide (g < k) && decide (f g = n))) = true then 1 else 0) (ov S o ad M)) : w_X12_canGive_b71 q (ov S o ad M) o (nI k) (nI g) (if c0 = true then 1 else 0) := by
  unfold w_X12_canGive_b71
  refine loop_m (σ := Nat) (fun m i => w_X12_canGive_b75 q m (ov S o ad M) o (nI k) (nI g) (if (c0 && noN f g i) = true then 1 else 0) (nI i)) (fun i => i ≤ k) (fun i => k - i) ?_ 0 (Nat.zero_le _) |> (fun z => by rw [show noN f g 0 = true from rfl, Bool.and_true] at z; exact z)
  rintro m i hi ih
  have nx : ∀ y : Int32, i < k → y = (if (c0 && noN f g (i + 1)) = true then 1 else 0) → ∀ z : Int32, z = nI i + 1 → w_X12_canGive_b75 q m (ov S o ad M) o (nI k) (nI g) y z := fun y hik ey z ez => by
    rw [ez, nI_1, ey]
    exact ih (i + 1) (by omega) (by omega)
  have b1 : (if (c0 && noN f g i) = true then (1 : Int32) else 0) = 0 ↔ ¬ (c0 && noN f g i) = true := by
    by_cases z : (c0 && noN f g i) = true
    · rw [if_pos z]
      exact ⟨fun y => absurd y (by decide), fun y => absurd z y⟩
    · rw [if_neg z]
      exact ⟨fun _ => z, fun _ => rfl⟩
  rw [w_X12_canGive_b75]
  unfold w_X12_canGive_b132 w_X12_canGive_b100 w_X12_canGive_b101
  simp (disch := decide) only [oi_gI, oi_gJ, oi_gP, oi_pI, oi_pZ, oi_pJ, oi_oK, oi_aI hd, oi_aZ hd, oi_aJ hd, oi_sI hd, oi_sZ hd, oi_sJ hd, mI_1, mI_2, mJ_1, mJ_2, mJ_3, mA_1, mA_2, mA_3, mA_4, mL_1, mL_2, mL_3, mL_4, mK, Nat.reduceEqDiff, if_true, if_false, ite_true, ite_false, true_and, Nat.reduceLT, reduceIte, reduceCtorEq, cl_0, cl_1, cl_2, cl_3, cl_4, cl_5, cl_6, cl_7, cl_8, cl_9, cl_10, cl_11, cl_12, cl_13, cl_14, cl_15, vl_0_5585, vl_1_5585, vl_2_5585, vl_3_5585, vl_4_5585, vl_5_5585, vl_6_5585, vl_0_7, vl_1_7, vl_2_7, vl_3_7, vl_4_7, vl_5_7, vl_6_7]
  rw [nI_leI (by omega) (by omega), nI_leI (by omega) (by omega), b1, eP]
  refine ⟨fun c => ?_, fun c => ⟨fun z => nx _ (by omega) ?_, fun z => ?_⟩⟩
  · have ek : i = k := by omega
    rw [ek]
    refine ⟨fun z => ?_, fun z => ⟨fun c2 => ?_, fun c2 => ?_⟩⟩
    · rw [if_neg (fun y => z (by rw [Bool.and_eq_true] at y; exact y.1))] at h
      exact h
    · have z := Decidable.of_not_not z
      rw [if_pos (by rw [z, decide_eq_false (by omega : ¬ g < k)]; rfl)] at h
      exact h
    · have z := Decidable.of_not_not z
      obtain ⟨a1, a2⟩ := ha g (by omega)
      rw [nI_clamp (by omega), a1, nI_eq (by omega) (by omega)]
      refine ⟨vp_in_nI (by omega) (by omega), fun c3 => ?_, fun c3 => ?_⟩
      · rw [if_neg (by rw [z, decide_eq_true (by omega : g < k), decide_eq_true c3]; decide)] at h
        exact h
      · rw [if_pos (by rw [z, decide_eq_true (by omega : g < k), decide_eq_false c3]; rfl)] at h
        exact h
  · rw [if_neg]
    intro y
    rw [noN, ← Bool.and_assoc, Bool.and_eq_true] at y
    exact z y.1
  · have z := Decidable.of_not_not z
    obtain ⟨a1, a2⟩ := ha i (by omega)
    rw [nI_clamp (by omega), a1, nI_eq (by omega) (by omega)]
    refine ⟨vp_in_nI (by omega) (by omega), fun c3 => nx _ (by omega) ?_, fun c3 => nx _ (by omega) ?_⟩
    · rw [if_neg]
      intro y
      rw [noN, ← Bool.and_assoc, Bool.and_eq_true, decide_eq_true_eq] at y
      exact y.2 c3
    · rw [if_pos]
      rw [noN, ← Bool.and_assoc, z, decide_eq_true c3]
      rfl
theorem x_canGive (hd : mD o ad) (hB : rB F) (hG : ∀ i, i < 185 → M.2.2.1 3 i = F i) {q : Int32 → hS → Prop} {k g : Nat} (en : n = nPR F) (hk : k < n) (hg : g < n) (eg : M.2.2.1 45 k = nI g) (ha : ∀ i, i < k → M.2.2.1 45 i = nI (f i) ∧ f i ≤ n) (hlk : iR F (22 + k) = 0) (h : q (if alG F n f k g = true then 1 else 0) (ov S o ad M)) : w_X12_canGive q (ov S o ad M) o (nI k) := by
  have bb1 := rB_1 hB
  have iP : iR F 1 = n := by rw [en]; unfold nPR; omega
  have eP : M.2.2.1 3 1 = nI n := by
    rw [hG 1 (by omega)]
    apply Int32.toInt_inj.mp
    have : iR F 1 = (F 1).toInt := rfl
    rw [nI_toInt (by omega)]; omega
  have al : ∀ c0 : Bool, (c0 = true ↔ edF F k g = true ∧ g ≠ k ∧ 0 ≤ iR F (154 + g)) → w_X12_canGive_b71 q (ov S o ad M) o (nI k) (nI g) (if c0 = true then 1 else 0) := by
    intro c0 hc
    refine x_cg71 hd (by omega) hk hg eP ha ?_
    have : (c0 && noN f g k && !(decide (g < k) && decide (f g = n))) = alG F n f k g := by
      unfold alG
      have e : c0 = (edF F k g && decide (g ≠ k) && decide (0 ≤ iR F (154 + g))) := by
        cases z : c0 with
        | true =>
          obtain ⟨y1, y2, y3⟩ := hc.mp z
          rw [y1, decide_eq_true y2, decide_eq_true y3]
          rfl
        | false =>
          cases y : (edF F k g && decide (g ≠ k) && decide (0 ≤ iR F (154 + g))) with
          | false => rfl
          | true =>
            simp only [Bool.and_eq_true, decide_eq_true_eq] at y
            have := hc.mpr ⟨y.1.1, y.1.2, y.2⟩
            rw [z] at this
            cases this
      rw [e]
    rw [this]
    exact h
  have k70 : ¬ (edF F k g = true ∧ g ≠ k ∧ 0 ≤ iR F (154 + g)) → w_X12_canGive_b70 q (ov S o ad M) o (nI k) (nI g) := fun z => al false ⟨fun y => (by cases y), fun y => absurd y z⟩
  have zm : (-1 : Int32).toInt = -1 := by decide
  have wk := hB.1 (154 + k) (by omega)
  have wg := hB.1 (154 + g) (by omega)
  rw [show rLo (154 + k) = -1 by unfold rLo; rw [if_pos (by omega)]] at wk
  rw [show rLo (154 + g) = -1 by unfold rLo; rw [if_pos (by omega)]] at wg
  have w5 := hB.2.2.2.1 k (by omega)
  unfold w_X12_canGive
  simp (disch := decide) only [oi_gI, oi_gJ, oi_gP, oi_pI, oi_pZ, oi_pJ, oi_oK, oi_aI hd, oi_aZ hd, oi_aJ hd, oi_sI hd, oi_sZ hd, oi_sJ hd, mI_1, mI_2, mJ_1, mJ_2, mJ_3, mA_1, mA_2, mA_3, mA_4, mL_1, mL_2, mL_3, mL_4, mK, Nat.reduceEqDiff, if_true, if_false, ite_true, ite_false, true_and, Nat.reduceLT, reduceIte, reduceCtorEq, cl_0, cl_1, cl_2, cl_3, cl_4, cl_5, cl_6, cl_7, cl_8, cl_9, cl_10, cl_11, cl_12, cl_13, cl_14, cl_15, vl_0_5585, vl_1_5585, vl_2_5585, vl_3_5585, vl_4_5585, vl_5_5585, vl_6_5585, vl_0_7, vl_1_7, vl_2_7, vl_3_7, vl_4_7, vl_5_7, vl_6_7]
  rw [nI_clamp (by omega), eg, nI_eq (by omega) (by omega)]
  refine ⟨vp_in_nI (by omega) (by omega), fun c => k70 (fun z => z.2.1 c), fun c => s_lives hd (by omega) (fun lg => ⟨fun z => absurd z (by decide), fun _ => ?_⟩) (fun lg => ⟨fun _ => k70 (fun z => lg ?_), fun z => absurd rfl z⟩)⟩
  · simp (disch := decide) only [oi_gI, oi_gJ, oi_gP, oi_pI, oi_pZ, oi_pJ, oi_oK, oi_aI hd, oi_aZ hd, oi_aJ hd, oi_sI hd, oi_sZ hd, oi_sJ hd, mI_1, mI_2, mJ_1, mJ_2, mJ_3, mA_1, mA_2, mA_3, mA_4, mL_1, mL_2, mL_3, mL_4, mK, Nat.reduceEqDiff, if_true, if_false, ite_true, ite_false, true_and, Nat.reduceLT, reduceIte, reduceCtorEq, cl_0, cl_1, cl_2, cl_3, cl_4, cl_5, cl_6, cl_7, cl_8, cl_9, cl_10, cl_11, cl_12, cl_13, cl_14, cl_15, vl_0_5585, vl_1_5585, vl_2_5585, vl_3_5585, vl_4_5585, vl_5_5585, vl_6_5585, vl_0_7, vl_1_7, vl_2_7, vl_3_7, vl_4_7, vl_5_7, vl_6_7]
    rw [lit_nI 154, nIadd, nIadd, nI_clamp (by omega), nI_clamp (by omega), hG _ (by omega), hG _ (by omega)]
    have m1 : ∀ j, F j = -1 ↔ iR F j = -1 := fun j => by
      unfold iR
      rw [← Int32.toInt_inj, zm]
    rw [m1, m1]
    refine ⟨vp_in_nI (by omega) (by omega), fun c1 => k70 (fun z => ?_), fun c1 => ⟨vp_in_nI (by omega) (by omega), fun c2 => k70 (fun z => ?_), fun c2 => ⟨vp_in_nI (by omega) (by omega), ?_⟩⟩⟩
    · have := (edF_iff.mp z.1).2.2.1
      omega
    · have := z.2.2
      omega
    · obtain ⟨e, he, ee⟩ := pIx 6 (by omega) (show 0 ≤ (F (154 + k)).toInt by show 0 ≤ iR F (154 + k); omega) (show (F (154 + k)).toInt < 6 from w5)
      have ie : iR F (154 + k) = e := by
        unfold iR
        rw [ee, nI_toInt (by omega)]
      rw [ee]
      have l := left_G hB (p := g) (e := e) (by omega) he
      have lz : M.2.2.1 3 (30 + 6 * g + e) - M.2.2.1 3 (78 + 6 * g + e) ≤ 0 ↔ ¬ 1 ≤ leftR F g e := by
        rw [hG _ (by omega), hG _ (by omega), Int32.le_iff_toInt_le, l.1, show (0 : Int32).toInt = 0 by decide]
        omega
      have lg' : iR F (22 + g) = 0 := by
        have : (M.2.2.1 3 (22 + g)).toInt = iR F (22 + g) := by rw [hG _ (by omega)]; rfl
        rw [← this, lg]
        decide
      refine s_leftOf hd (by omega) he ⟨fun c3 => k70 (fun z => ?_), fun c3 => al true ⟨fun _ => ⟨edF_iff.mpr ⟨hlk, lg', by omega, ?_⟩, c, by omega⟩, fun _ => rfl⟩⟩
      · have := (edF_iff.mp z.1).2.2.2
        rw [ie, show ((e : Int)).toNat = e by omega] at this
        exact (lz.mp c3) this
      · rw [ie, show ((e : Int)).toNat = e by omega]
        exact Decidable.of_not_not (fun z => c3 (lz.mpr z))
  · have := (edF_iff.mp z.1).2.1
    rw [hG _ (by omega)]
    exact Int32.toInt_inj.mp (by rw [show (0 : Int32).toInt = 0 by decide]; exact this)
theorem x_gets (hd : mD o ad) {q : Int32 → hS → Prop} (hn : n ≤ 8) (eP : M.2.2.1 3 1 = nI n) (ha : ∀ i, i < n → M.2.2.1 45 i = nI (f i) ∧ f i ≤ n) (h : q (wI (lvX n f)) (ov S o ad M)) : w_X12_gets q (ov S o ad M) o := by
  have p2 := pw_256 n (by omega)
  unfold w_X12_gets
  simp (disch := decide) only [oi_gI, oi_gJ, oi_gP, oi_pI, oi_pZ, oi_pJ, oi_oK, oi_aI hd, oi_aZ hd, oi_aJ hd, oi_sI hd, oi_sZ hd, oi_sJ hd, mI_1, mI_2, mJ_1, mJ_2, mJ_3, mA_1, mA_2, mA_3, mA_4, mL_1, mL_2, mL_3, mL_4, mK, Nat.reduceEqDiff, if_true, if_false, ite_true, ite_false, true_and, Nat.reduceLT, reduceIte, reduceCtorEq, cl_0, cl_1, cl_2, cl_3, cl_4, cl_5, cl_6, cl_7, cl_8, cl_9, cl_10, cl_11, cl_12, cl_13, cl_14, cl_15, vl_0_5585, vl_1_5585, vl_2_5585, vl_3_5585, vl_4_5585, vl_5_5585, vl_6_5585, vl_0_7, vl_1_7, vl_2_7, vl_3_7, vl_4_7, vl_5_7, vl_6_7]
  rw [eP]
  refine loop_m (σ := Nat) (fun m i => w_X12_gets_b14 q m (ov S o ad M) o (nI n) (nI (gvM n f i)) (nI (gtM n f i)) (nI i)) (fun i => i ≤ n) (fun i => n - i) ?_ 0 (Nat.zero_le _)
  rintro m i hi ih
  have gl := gvM_lt (f := f) (fun i hi => (ha i hi).2) i hi
  have k67 : ∀ x y b c : Int32, i < n → (x ||| b) = nI (gvM n f (i + 1)) → y = nI (gtM n f (i + 1)) → c = x → w_X12_gets_b67 q (fun S v0 v1 v2 v3 v4 => w_X12_gets_b14 q m S v0 v1 v2 v3 v4) (ov S o ad M) o (nI n) y (nI i) b c := by
    intro x y b c hin eb ey ec z ez w ew
    rw [ew, nI_1, ez, ec, eb, ey]
    exact ih (i + 1) (by omega) (by omega)
  rw [w_X12_gets_b14]
  simp (disch := decide) only [oi_gI, oi_gJ, oi_gP, oi_pI, oi_pZ, oi_pJ, oi_oK, oi_aI hd, oi_aZ hd, oi_aJ hd, oi_sI hd, oi_sZ hd, oi_sJ hd, mI_1, mI_2, mJ_1, mJ_2, mJ_3, mA_1, mA_2, mA_3, mA_4, mL_1, mL_2, mL_3, mL_4, mK, Nat.reduceEqDiff, if_true, if_false, ite_true, ite_false, true_and, Nat.reduceLT, reduceIte, reduceCtorEq, cl_0, cl_1, cl_2, cl_3, cl_4, cl_5, cl_6, cl_7, cl_8, cl_9, cl_10, cl_11, cl_12, cl_13, cl_14, cl_15, vl_0_5585, vl_1_5585, vl_2_5585, vl_3_5585, vl_4_5585, vl_5_5585, vl_6_5585, vl_0_7, vl_1_7, vl_2_7, vl_3_7, vl_4_7, vl_5_7, vl_6_7]
  rw [nI_leI (by omega) (by omega)]
  refine ⟨fun c => ?_, fun c => ?_⟩
  · have ei : i = n := by omega
    rw [ei] at gl ⊢
    unfold lvX at h
    rw [nI_eq (by omega) (by omega)]
    refine ⟨fun c2 => ?_, fun c2 => x_ones ?_⟩
    · rw [if_neg c2] at h
      exact h
    · rw [if_pos c2, wI_nI (by have := cn_le (gtM n f n); omega)] at h
      exact h
  · obtain ⟨a1, a2⟩ := ha i (by omega)
    rw [nI_clamp (by omega), a1, nI_eq (by omega) (by omega)]
    refine ⟨vp_in_nI (by omega) (by omega), fun c2 y41 e41 => ?_, fun c2 y41 e41 => ?_⟩
    · simp (disch := decide) only [oi_gI, oi_gJ, oi_gP, oi_pI, oi_pZ, oi_pJ, oi_oK, oi_aI hd, oi_aZ hd, oi_aJ hd, oi_sI hd, oi_sZ hd, oi_sJ hd, mI_1, mI_2, mJ_1, mJ_2, mJ_3, mA_1, mA_2, mA_3, mA_4, mL_1, mL_2, mL_3, mL_4, mK, Nat.reduceEqDiff, if_true, if_false, ite_true, ite_false, true_and, Nat.reduceLT, reduceIte, reduceCtorEq, cl_0, cl_1, cl_2, cl_3, cl_4, cl_5, cl_6, cl_7, cl_8, cl_9, cl_10, cl_11, cl_12, cl_13, cl_14, cl_15, vl_0_5585, vl_1_5585, vl_2_5585, vl_3_5585, vl_4_5585, vl_5_5585, vl_6_5585, vl_0_7, vl_1_7, vl_2_7, vl_3_7, vl_4_7, vl_5_7, vl_6_7]
      rw [nI_clamp (by omega), a1, nI_eq (by omega) (by omega)]
      refine ⟨vp_in_nI (by omega) (by omega), fun _ => ⟨vp_in_nI (by omega) (by omega), k67 _ _ _ _ (by omega) ?_ ?_ rfl⟩, fun z => absurd z c2⟩
      · rw [gvM, if_neg c2, mk_or _ (by omega) _ (by omega)]
      · rw [e41, gtM, if_neg c2, mk_or _ (by omega) _ (by omega)]
    · simp (disch := decide) only [oi_gI, oi_gJ, oi_gP, oi_pI, oi_pZ, oi_pJ, oi_oK, oi_aI hd, oi_aZ hd, oi_aJ hd, oi_sI hd, oi_sZ hd, oi_sJ hd, mI_1, mI_2, mJ_1, mJ_2, mJ_3, mA_1, mA_2, mA_3, mA_4, mL_1, mL_2, mL_3, mL_4, mK, Nat.reduceEqDiff, if_true, if_false, ite_true, ite_false, true_and, Nat.reduceLT, reduceIte, reduceCtorEq, cl_0, cl_1, cl_2, cl_3, cl_4, cl_5, cl_6, cl_7, cl_8, cl_9, cl_10, cl_11, cl_12, cl_13, cl_14, cl_15, vl_0_5585, vl_1_5585, vl_2_5585, vl_3_5585, vl_4_5585, vl_5_5585, vl_6_5585, vl_0_7, vl_1_7, vl_2_7, vl_3_7, vl_4_7, vl_5_7, vl_6_7]
      rw [nI_clamp (by omega), a1, nI_eq (by omega) (by omega)]
      refine ⟨vp_in_nI (by omega) (by omega), fun z => absurd c2 z, fun _ => k67 _ _ _ _ (by omega) ?_ ?_ rfl⟩
      · rw [gvM, if_pos c2, Int32.or_zero]
      · rw [e41, gtM, if_pos c2, Int32.or_zero]
end XG
