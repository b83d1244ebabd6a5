/-! LAYER 2, the reference: the tape's tokens -/
def isSm (x : Int32) : Prop := 97 ≤ x.toInt ∧ x.toInt ≤ 122
def isDg (x : Int32) : Prop := 48 ≤ x.toInt ∧ x.toInt ≤ 57
/-- how far the tape goes, where the token begins, where it ends -/
def tk (M : mS) (T f t : Nat) : Prop := M.1 13 = nI T ∧ M.1 14 = nI f ∧ M.1 15 = nI t ∧ T ≤ 400 ∧ f ≤ t ∧ t ≤ T ∧ (M.1 16 = 0 ∨ f < t)
section REF20
variable {S : hS} {o : Nat} {ad : Nat → Nat} {M : mS}
theorem s_isSmall {q : Int32 → hS → Prop} {T : hS} {v : Int32} (h1 : isSm v → q 1 T) (h0 : ¬ isSm v → q 0 T) : w_X12_isSmall q T v := by
  unfold w_X12_isSmall
  unfold isSm at *
  simp only [i32lt, i32lit 97 (by omega), i32lit 122 (by omega)]
  exact ⟨fun c => h0 (by omega), fun c => ⟨fun c2 => h0 (by omega), fun c2 => h1 (by omega)⟩⟩
theorem s_isDigit {q : Int32 → hS → Prop} {T : hS} {v : Int32} (h1 : isDg v → q 1 T) (h0 : ¬ isDg v → q 0 T) : w_X12_isDigit q T v := by
  unfold w_X12_isDigit
  unfold isDg at *
  simp only [i32lt, i32lit 48 (by omega), i32lit 57 (by omega)]
  exact ⟨fun c => h0 (by omega), fun c => ⟨fun c2 => h0 (by omega), fun c2 => h1 (by omega)⟩⟩
theorem f_n243 (hd : mD o ad) {q : hS → Prop} {T t : Nat} (e13 : M.1 13 = nI T) (hT : T ≤ 400) (e15 : M.1 15 = nI t) (ht : t ≤ T) (h : ∀ N t', Fx [15] [17] [] [] M N → N.1 15 = nI t' → t ≤ t' → t' ≤ T → (M.1 16 = 2 → t < T → isDg (M.2.2.1 12 t) → t < t') → q (ov S o ad N)) : ∃ n, w_X12_next_b243 q n (ov S o ad M) o := by
  refine loop_m (σ := mS × Nat) (fun n s => w_X12_next_b243 q n (ov S o ad s.1) o) (fun s => Fx [15] [17] [] [] M s.1 ∧ s.1.1 15 = nI s.2 ∧ t ≤ s.2 ∧ s.2 ≤ T) (fun s => T - s.2) ?_ (M, t) ⟨Fx.rf', e15, Nat.le_refl _, ht⟩
  rintro n ⟨N, u⟩ ⟨hF, e, h1, h2⟩ ih
  dsimp only at hF e h1 h2 ih ⊢
  have n13 : N.1 13 = nI T := (hF.1 13 (by simp)).trans e13
  have n16 : N.1 16 = M.1 16 := hF.1 16 (by simp)
  have n12 : N.2.2.1 12 = M.2.2.1 12 := hF.2.2.1 12 (by simp)
  have k319 : ∀ x, u < T → w_X12_next_b319 q (fun S v0 => w_X12_next_b243 q n S v0) (ov S o ad N) o x o := by
    intro x hu
    unfold w_X12_next_b319
    simp (disch := decide) only [oi_gI, oi_gJ, oi_gP, oi_pI, oi_pZ, oi_pJ, oi_oK, oi_aI hd, oi_aZ hd, oi_aJ hd, oi_sI hd, oi_sZ hd, oi_sJ hd, mI_1, mI_2, mJ_1, mJ_2, mJ_3, mA_1, mA_2, mA_3, mA_4, mL_1, mL_2, mL_3, mL_4, mK, Nat.reduceEqDiff, if_true, if_false, ite_true, ite_false, true_and, Nat.reduceLT, reduceIte, reduceCtorEq, cl_0, cl_1, cl_2, cl_3, cl_4, cl_5, cl_6, cl_7, cl_8, cl_9, cl_10, cl_11, cl_12, cl_13, cl_14, cl_15, vl_0_5585, vl_1_5585, vl_2_5585, vl_3_5585, vl_4_5585, vl_5_5585, vl_6_5585, vl_0_7, vl_1_7, vl_2_7, vl_3_7, vl_4_7, vl_5_7, vl_6_7]
    rw [e, nI_1]
    exact ih (_, u + 1) ⟨((hF.tr (Fx.j 17 x)).tr (Fx.i 15 _)).le (by simp) (by simp) (by simp) (by simp), by simp [mI_1], by dsimp only; omega, by dsimp only; omega⟩ (by dsimp only; omega)
  rw [w_X12_next_b243]
  simp (disch := decide) only [oi_gI, oi_gJ, oi_gP, oi_pI, oi_pZ, oi_pJ, oi_oK, oi_aI hd, oi_aZ hd, oi_aJ hd, oi_sI hd, oi_sZ hd, oi_sJ hd, mI_1, mI_2, mJ_1, mJ_2, mJ_3, mA_1, mA_2, mA_3, mA_4, mL_1, mL_2, mL_3, mL_4, mK, Nat.reduceEqDiff, if_true, if_false, ite_true, ite_false, true_and, Nat.reduceLT, reduceIte, reduceCtorEq, cl_0, cl_1, cl_2, cl_3, cl_4, cl_5, cl_6, cl_7, cl_8, cl_9, cl_10, cl_11, cl_12, cl_13, cl_14, cl_15, vl_0_5585, vl_1_5585, vl_2_5585, vl_3_5585, vl_4_5585, vl_5_5585, vl_6_5585, vl_0_7, vl_1_7, vl_2_7, vl_3_7, vl_4_7, vl_5_7, vl_6_7]
  rw [e, n13, n16, n12, nI_leI (by omega) (by omega), nI_clamp (by omega)]
  refine ⟨fun c => h N u hF e h1 h2 (fun z => absurd z c), fun c => ⟨fun c2 => h N u hF e h1 h2 (fun _ z _ => by omega), fun c2 => ⟨vp_in_nI (by omega) (by omega), s_isDigit (fun c3 => ⟨fun z => absurd z (by decide), fun _ => ?_⟩) (fun c3 => ⟨fun _ => h N u hF e h1 h2 (fun _ _ z => ?_), fun z => absurd rfl z⟩)⟩⟩⟩
  · simp (disch := decide) only [oi_gI, oi_gJ, oi_gP, oi_pI, oi_pZ, oi_pJ, oi_oK, oi_aI hd, oi_aZ hd, oi_aJ hd, oi_sI hd, oi_sZ hd, oi_sJ hd, mI_1, mI_2, mJ_1, mJ_2, mJ_3, mA_1, mA_2, mA_3, mA_4, mL_1, mL_2, mL_3, mL_4, mK, Nat.reduceEqDiff, if_true, if_false, ite_true, ite_false, true_and, Nat.reduceLT, reduceIte, reduceCtorEq, cl_0, cl_1, cl_2, cl_3, cl_4, cl_5, cl_6, cl_7, cl_8, cl_9, cl_10, cl_11, cl_12, cl_13, cl_14, cl_15, vl_0_5585, vl_1_5585, vl_2_5585, vl_3_5585, vl_4_5585, vl_5_5585, vl_6_5585, vl_0_7, vl_1_7, vl_2_7, vl_3_7, vl_4_7, vl_5_7, vl_6_7]
    rw [e]
    exact ⟨fun _ => ⟨vp_in_nI (by omega) (by omega), k319 _ (by omega)⟩, fun _ => k319 _ (by omega)⟩
  · by_cases eu : u = t
    · subst eu; exact absurd z c3
    · omega
theorem f_n149 (hd : mD o ad) {q : hS → Prop} {T t : Nat} (e13 : M.1 13 = nI T) (hT : T ≤ 400) (e15 : M.1 15 = nI t) (ht : t ≤ T) (h : ∀ N t', Fx [15] [17] [] [] M N → N.1 15 = nI t' → t ≤ t' → t' ≤ T → (M.1 16 = 1 → t < T → isSm (M.2.2.1 12 t) → t < t') → (M.1 16 = 2 → t < T → isDg (M.2.2.1 12 t) → t < t') → q (ov S o ad N)) : ∃ n, w_X12_next_b149 q n (ov S o ad M) o := by
  refine loop_m (σ := mS × Nat) (fun n s => w_X12_next_b149 q n (ov S o ad s.1) o) (fun s => Fx [15] [17] [] [] M s.1 ∧ s.1.1 15 = nI s.2 ∧ t ≤ s.2 ∧ s.2 ≤ T) (fun s => T - s.2) ?_ (M, t) ⟨Fx.rf', e15, Nat.le_refl _, ht⟩
  rintro n ⟨N, u⟩ ⟨hF, e, h1, h2⟩ ih
  dsimp only at hF e h1 h2 ih ⊢
  have n13 : N.1 13 = nI T := (hF.1 13 (by simp)).trans e13
  have n16 : N.1 16 = M.1 16 := hF.1 16 (by simp)
  have n12 : N.2.2.1 12 = M.2.2.1 12 := hF.2.2.1 12 (by simp)
  have k227 : ∀ x, u < T → w_X12_next_b227 q (fun S v0 => w_X12_next_b149 q n S v0) (ov S o ad N) o x o := by
    intro x hu
    unfold w_X12_next_b227
    simp (disch := decide) only [oi_gI, oi_gJ, oi_gP, oi_pI, oi_pZ, oi_pJ, oi_oK, oi_aI hd, oi_aZ hd, oi_aJ hd, oi_sI hd, oi_sZ hd, oi_sJ hd, mI_1, mI_2, mJ_1, mJ_2, mJ_3, mA_1, mA_2, mA_3, mA_4, mL_1, mL_2, mL_3, mL_4, mK, Nat.reduceEqDiff, if_true, if_false, ite_true, ite_false, true_and, Nat.reduceLT, reduceIte, reduceCtorEq, cl_0, cl_1, cl_2, cl_3, cl_4, cl_5, cl_6, cl_7, cl_8, cl_9, cl_10, cl_11, cl_12, cl_13, cl_14, cl_15, vl_0_5585, vl_1_5585, vl_2_5585, vl_3_5585, vl_4_5585, vl_5_5585, vl_6_5585, vl_0_7, vl_1_7, vl_2_7, vl_3_7, vl_4_7, vl_5_7, vl_6_7]
    rw [e, nI_1]
    exact ih (_, u + 1) ⟨((hF.tr (Fx.j 17 x)).tr (Fx.i 15 _)).le (by simp) (by simp) (by simp) (by simp), by simp [mI_1], by dsimp only; omega, by dsimp only; omega⟩ (by dsimp only; omega)
  have fin : (M.1 16 = 1 → t < T → isSm (M.2.2.1 12 t) → t < u) → ∃ n, w_X12_next_b243 q n (ov S o ad N) o := by
    intro hs
    refine f_n243 hd n13 hT e h2 (fun P t' hF' e' a1 a2 a3 => h P t' ((hF.tr hF').le (by simp) (by simp) (by simp) (by simp)) e' (by omega) a2 (fun z1 z2 z3 => ?_) (fun z1 z2 z3 => ?_))
    · have := hs z1 z2 z3; omega
    · by_cases eu : u = t
      · subst eu
        exact a3 (n16.trans z1) z2 (by rw [n12]; exact z3)
      · omega
  rw [w_X12_next_b149]
  simp (disch := decide) only [oi_gI, oi_gJ, oi_gP, oi_pI, oi_pZ, oi_pJ, oi_oK, oi_aI hd, oi_aZ hd, oi_aJ hd, oi_sI hd, oi_sZ hd, oi_sJ hd, mI_1, mI_2, mJ_1, mJ_2, mJ_3, mA_1, mA_2, mA_3, mA_4, mL_1, mL_2, mL_3, mL_4, mK, Nat.reduceEqDiff, if_true, if_false, ite_true, ite_false, true_and, Nat.reduceLT, reduceIte, reduceCtorEq, cl_0, cl_1, cl_2, cl_3, cl_4, cl_5, cl_6, cl_7, cl_8, cl_9, cl_10, cl_11, cl_12, cl_13, cl_14, cl_15, vl_0_5585, vl_1_5585, vl_2_5585, vl_3_5585, vl_4_5585, vl_5_5585, vl_6_5585, vl_0_7, vl_1_7, vl_2_7, vl_3_7, vl_4_7, vl_5_7, vl_6_7]
  rw [e, n13, n16, n12, nI_leI (by omega) (by omega), nI_clamp (by omega)]
  refine ⟨fun c => fin (fun z => absurd z c), fun c => ⟨fun c2 => fin (fun _ z _ => by omega), fun c2 => ⟨vp_in_nI (by omega) (by omega), s_isSmall (fun c3 => ⟨fun z => absurd z (by decide), fun _ => ?_⟩) (fun c3 => ⟨fun _ => fin (fun _ _ z => ?_), fun z => absurd rfl z⟩)⟩⟩⟩
  · simp (disch := decide) only [oi_gI, oi_gJ, oi_gP, oi_pI, oi_pZ, oi_pJ, oi_oK, oi_aI hd, oi_aZ hd, oi_aJ hd, oi_sI hd, oi_sZ hd, oi_sJ hd, mI_1, mI_2, mJ_1, mJ_2, mJ_3, mA_1, mA_2, mA_3, mA_4, mL_1, mL_2, mL_3, mL_4, mK, Nat.reduceEqDiff, if_true, if_false, ite_true, ite_false, true_and, Nat.reduceLT, reduceIte, reduceCtorEq, cl_0, cl_1, cl_2, cl_3, cl_4, cl_5, cl_6, cl_7, cl_8, cl_9, cl_10, cl_11, cl_12, cl_13, cl_14, cl_15, vl_0_5585, vl_1_5585, vl_2_5585, vl_3_5585, vl_4_5585, vl_5_5585, vl_6_5585, vl_0_7, vl_1_7, vl_2_7, vl_3_7, vl_4_7, vl_5_7, vl_6_7]
    rw [e]
    exact ⟨fun _ => k227 _ (by omega), fun _ => ⟨vp_in_nI (by omega) (by omega), k227 _ (by omega)⟩⟩
  · by_cases eu : u = t
    · subst eu; exact absurd z c3
    · omega
theorem f_n114 (hd : mD o ad) {q : hS → Prop} {T f : Nat} {v : Int32} (e13 : M.1 13 = nI T) (hT : T ≤ 400) (e14 : M.1 14 = nI f) (e15 : M.1 15 = nI f) (hf : f ≤ T) (hv3 : v = 3 → f < T) (hv1 : v = 1 → f < T ∧ isSm (M.2.2.1 12 f)) (hv2 : v = 2 → f < T ∧ isDg (M.2.2.1 12 f)) (hv : v = 0 ∨ v = 1 ∨ v = 2 ∨ v = 3) (h : ∀ N t', Fx [15, 16] [17] [] [] M N → tk N T f t' → q (ov S o ad N)) : w_X12_next_b114 q (ov S o ad M) o v o := by
  have fin : ∀ N1 t1, Fx [15, 16] [17] [] [] M N1 → N1.1 15 = nI t1 → N1.1 16 = v → f ≤ t1 → t1 ≤ T → (v = 3 → f < t1) → (¬ v = 3 → t1 = f) → ∃ n, w_X12_next_b149 q n (ov S o ad N1) o := by
    intro N1 t1 hF e1 e16 a1 a2 a3 a4
    have n12 : N1.2.2.1 12 = M.2.2.1 12 := hF.2.2.1 12 (by simp)
    have n13 : N1.1 13 = nI T := (hF.1 13 (by simp)).trans e13
    have n14 : N1.1 14 = nI f := (hF.1 14 (by simp)).trans e14
    refine f_n149 hd n13 hT e1 a2 (fun N t' hF' e' b1 b2 b3 b4 => h N t' ((hF.tr hF').le (by simp) (by simp) (by simp) (by simp)) ⟨(hF'.1 13 (by simp)).trans n13, (hF'.1 14 (by simp)).trans n14, e', hT, by omega, b2, ?_⟩)
    rw [(hF'.1 16 (by simp)).trans e16]
    rcases hv with e | e | e | e
    · exact Or.inl e
    · right
      obtain rfl := a4 (by rw [e]; decide)
      exact b3 (e16.trans e) (hv1 e).1 (by rw [n12]; exact (hv1 e).2)
    · right
      obtain rfl := a4 (by rw [e]; decide)
      exact b4 (e16.trans e) (hv2 e).1 (by rw [n12]; exact (hv2 e).2)
    · right
      have := a3 e
      omega
  unfold w_X12_next_b114
  simp (disch := decide) only [oi_gI, oi_gJ, oi_gP, oi_pI, oi_pZ, oi_pJ, oi_oK, oi_aI hd, oi_aZ hd, oi_aJ hd, oi_sI hd, oi_sZ hd, oi_sJ hd, mI_1, mI_2, mJ_1, mJ_2, mJ_3, mA_1, mA_2, mA_3, mA_4, mL_1, mL_2, mL_3, mL_4, mK, Nat.reduceEqDiff, if_true, if_false, ite_true, ite_false, true_and, Nat.reduceLT, reduceIte, reduceCtorEq, cl_0, cl_1, cl_2, cl_3, cl_4, cl_5, cl_6, cl_7, cl_8, cl_9, cl_10, cl_11, cl_12, cl_13, cl_14, cl_15, vl_0_5585, vl_1_5585, vl_2_5585, vl_3_5585, vl_4_5585, vl_5_5585, vl_6_5585, vl_0_7, vl_1_7, vl_2_7, vl_3_7, vl_4_7, vl_5_7, vl_6_7]
  refine ⟨fun c => fin _ f ((Fx.i 16 v).le (by simp) (by simp) (by simp) (by simp)) (by simp [mI_1, e15]) (by simp [mI_1]) (Nat.le_refl _) hf (fun z => absurd z c) (fun _ => rfl), fun c => ?_⟩
  have hl := hv3 c
  rw [e14, e15, nI_1]
  exact ⟨vp_in_nI (by omega) (by omega), fin _ (f + 1) ((((Fx.i 16 v).tr (Fx.j 17 _)).tr (Fx.i 15 _)).le (by simp) (by simp) (by simp) (by simp)) (by simp [mI_1]) (by simp [mI_1, mJ_1]) (by omega) (by omega) (fun _ => by omega) (fun z => absurd c z)⟩
theorem f_n46 (hd : mD o ad) {q : hS → Prop} {T f : Nat} (e13 : M.1 13 = nI T) (hT : T ≤ 400) (e14 : M.1 14 = nI f) (hf : f ≤ T) (h : ∀ N t', Fx [15, 16] [17] [] [] M N → tk N T f t' → q (ov S o ad N)) : w_X12_next_b46 q (ov S o ad M) o := by
  have go : ∀ v : Int32, (v = 3 → f < T) → (v = 1 → f < T ∧ isSm (M.2.2.1 12 f)) → (v = 2 → f < T ∧ isDg (M.2.2.1 12 f)) → (v = 0 ∨ v = 1 ∨ v = 2 ∨ v = 3) → w_X12_next_b114 q (ov S o ad (mJ (mI M 15 (nI f)) 17 0)) o v o := fun v a1 a2 a3 a4 =>
    f_n114 hd (M := mJ (mI M 15 (nI f)) 17 0) (T := T) (f := f) (by simp [mJ_1, mI_1, e13]) hT (by simp [mJ_1, mI_1, e14]) (by simp [mJ_1, mI_1]) hf a1 a2 a3 a4 (fun N t' hF ht => h N t' ((((Fx.i 15 _).tr (Fx.j 17 _)).tr hF).le (by simp) (by simp) (by simp) (by simp)) ht)
  unfold w_X12_next_b46
  simp (disch := decide) only [oi_gI, oi_gJ, oi_gP, oi_pI, oi_pZ, oi_pJ, oi_oK, oi_aI hd, oi_aZ hd, oi_aJ hd, oi_sI hd, oi_sZ hd, oi_sJ hd, mI_1, mI_2, mJ_1, mJ_2, mJ_3, mA_1, mA_2, mA_3, mA_4, mL_1, mL_2, mL_3, mL_4, mK, Nat.reduceEqDiff, if_true, if_false, ite_true, ite_false, true_and, Nat.reduceLT, reduceIte, reduceCtorEq, cl_0, cl_1, cl_2, cl_3, cl_4, cl_5, cl_6, cl_7, cl_8, cl_9, cl_10, cl_11, cl_12, cl_13, cl_14, cl_15, vl_0_5585, vl_1_5585, vl_2_5585, vl_3_5585, vl_4_5585, vl_5_5585, vl_6_5585, vl_0_7, vl_1_7, vl_2_7, vl_3_7, vl_4_7, vl_5_7, vl_6_7]
  rw [e14, e13, nI_eq (by omega) (by omega), nI_clamp (by omega)]
  refine ⟨fun c => ⟨vp_in_nI (by omega) (by omega), s_isSmall (fun c2 => ⟨fun z => absurd z (by decide), fun _ => go 1 (fun z => absurd z (by decide)) (fun _ => ⟨by omega, c2⟩) (fun z => absurd z (by decide)) (by simp)⟩) (fun c2 => ⟨fun _ => ?_, fun z => absurd rfl z⟩)⟩, fun c => go 0 (fun z => absurd z (by decide)) (fun z => absurd z (by decide)) (fun z => absurd z (by decide)) (by simp)⟩
  simp (disch := decide) only [oi_gI, oi_gJ, oi_gP, oi_pI, oi_pZ, oi_pJ, oi_oK, oi_aI hd, oi_aZ hd, oi_aJ hd, oi_sI hd, oi_sZ hd, oi_sJ hd, mI_1, mI_2, mJ_1, mJ_2, mJ_3, mA_1, mA_2, mA_3, mA_4, mL_1, mL_2, mL_3, mL_4, mK, Nat.reduceEqDiff, if_true, if_false, ite_true, ite_false, true_and, Nat.reduceLT, reduceIte, reduceCtorEq, cl_0, cl_1, cl_2, cl_3, cl_4, cl_5, cl_6, cl_7, cl_8, cl_9, cl_10, cl_11, cl_12, cl_13, cl_14, cl_15, vl_0_5585, vl_1_5585, vl_2_5585, vl_3_5585, vl_4_5585, vl_5_5585, vl_6_5585, vl_0_7, vl_1_7, vl_2_7, vl_3_7, vl_4_7, vl_5_7, vl_6_7]
  rw [e14, nI_clamp (by omega)]
  exact ⟨vp_in_nI (by omega) (by omega), s_isDigit (fun c3 => ⟨fun z => absurd z (by decide), fun _ => go 2 (fun z => absurd z (by decide)) (fun z => absurd z (by decide)) (fun _ => ⟨by omega, c3⟩) (by simp)⟩) (fun c3 => ⟨fun _ => go 3 (fun _ => by omega) (fun z => absurd z (by decide)) (fun z => absurd z (by decide)) (by simp), fun z => absurd rfl z⟩)⟩
theorem f_next (hd : mD o ad) {q : hS → Prop} {T t : Nat} (e13 : M.1 13 = nI T) (hT : T ≤ 400) (e15 : M.1 15 = nI t) (ht : t ≤ T) (h : ∀ N f t', Fx [14, 15, 16] [17] [] [] M N → tk N T f t' → t ≤ f → q (ov S o ad N)) : w_X12_next q (ov S o ad M) o := by
  unfold w_X12_next
  simp (disch := decide) only [oi_gI, oi_gJ, oi_gP, oi_pI, oi_pZ, oi_pJ, oi_oK, oi_aI hd, oi_aZ hd, oi_aJ hd, oi_sI hd, oi_sZ hd, oi_sJ hd, mI_1, mI_2, mJ_1, mJ_2, mJ_3, mA_1, mA_2, mA_3, mA_4, mL_1, mL_2, mL_3, mL_4, mK, Nat.reduceEqDiff, if_true, if_false, ite_true, ite_false, true_and, Nat.reduceLT, reduceIte, reduceCtorEq, cl_0, cl_1, cl_2, cl_3, cl_4, cl_5, cl_6, cl_7, cl_8, cl_9, cl_10, cl_11, cl_12, cl_13, cl_14, cl_15, vl_0_5585, vl_1_5585, vl_2_5585, vl_3_5585, vl_4_5585, vl_5_5585, vl_6_5585, vl_0_7, vl_1_7, vl_2_7, vl_3_7, vl_4_7, vl_5_7, vl_6_7]
  rw [e15]
  refine loop_m (σ := mS × Nat) (fun n s => w_X12_next_b8 q n (ov S o ad s.1) o) (fun s => Fx [14] [] [] [] M s.1 ∧ s.1.1 14 = nI s.2 ∧ t ≤ s.2 ∧ s.2 ≤ T) (fun s => T - s.2) ?_ (_, t) ⟨Fx.i 14 _, by simp [mI_1], Nat.le_refl _, ht⟩
  rintro n ⟨N, u⟩ ⟨hF, e, h1, h2⟩ ih
  dsimp only at hF e h1 h2 ih ⊢
  have n13 : N.1 13 = nI T := (hF.1 13 (by simp)).trans e13
  have fin : w_X12_next_b46 q (ov S o ad N) o := f_n46 hd n13 hT e h2 (fun P t' hF' ht' => h P u t' ((hF.tr hF').le (by simp) (by simp) (by simp) (by simp)) ht' h1)
  rw [w_X12_next_b8]
  simp (disch := decide) only [oi_gI, oi_gJ, oi_gP, oi_pI, oi_pZ, oi_pJ, oi_oK, oi_aI hd, oi_aZ hd, oi_aJ hd, oi_sI hd, oi_sZ hd, oi_sJ hd, mI_1, mI_2, mJ_1, mJ_2, mJ_3, mA_1, mA_2, mA_3, mA_4, mL_1, mL_2, mL_3, mL_4, mK, Nat.reduceEqDiff, if_true, if_false, ite_true, ite_false, true_and, Nat.reduceLT, reduceIte, reduceCtorEq, cl_0, cl_1, cl_2, cl_3, cl_4, cl_5, cl_6, cl_7, cl_8, cl_9, cl_10, cl_11, cl_12, cl_13, cl_14, cl_15, vl_0_5585, vl_1_5585, vl_2_5585, vl_3_5585, vl_4_5585, vl_5_5585, vl_6_5585, vl_0_7, vl_1_7, vl_2_7, vl_3_7, vl_4_7, vl_5_7, vl_6_7]
  rw [e, n13, nI_leI (by omega) (by omega), nI_1]
  refine ⟨fun _ => fin, fun c => ⟨vp_in_nI (by omega) (by omega), fun _ => fin, fun _ => ?_⟩⟩
  exact ih (_, u + 1) ⟨(hF.tr (Fx.i 14 _)).le (by simp) (by simp) (by simp) (by simp), by simp [mI_1], by dsimp only; omega, by dsimp only; omega⟩ (by dsimp only; omega)
theorem s_isWord (hd : mD o ad) {q : Int32 → hS → Prop} {v : Int64} (h1 : ¬ M.1 16 = 0 → q 1 (ov S o ad M)) (h0 : q 0 (ov S o ad M)) : w_X12_isWord q (ov S o ad M) o v := by
  unfold w_X12_isWord
  simp (disch := decide) only [oi_gI, oi_gJ, oi_gP, oi_pI, oi_pZ, oi_pJ, oi_oK, oi_aI hd, oi_aZ hd, oi_aJ hd, oi_sI hd, oi_sZ hd, oi_sJ hd, mI_1, mI_2, mJ_1, mJ_2, mJ_3, mA_1, mA_2, mA_3, mA_4, mL_1, mL_2, mL_3, mL_4, mK, Nat.reduceEqDiff, if_true, if_false, ite_true, ite_false, true_and, Nat.reduceLT, reduceIte, reduceCtorEq, cl_0, cl_1, cl_2, cl_3, cl_4, cl_5, cl_6, cl_7, cl_8, cl_9, cl_10, cl_11, cl_12, cl_13, cl_14, cl_15, vl_0_5585, vl_1_5585, vl_2_5585, vl_3_5585, vl_4_5585, vl_5_5585, vl_6_5585, vl_0_7, vl_1_7, vl_2_7, vl_3_7, vl_4_7, vl_5_7, vl_6_7]
  exact ⟨fun _ => h0, fun c => ⟨fun _ => h0, fun _ => h1 (by rw [c]; decide)⟩⟩
theorem s_isSign (hd : mD o ad) {q : Int32 → hS → Prop} {v : Int32} (h1 : ¬ M.1 16 = 0 → q 1 (ov S o ad M)) (h0 : q 0 (ov S o ad M)) : w_X12_isSign q (ov S o ad M) o v := by
  unfold w_X12_isSign
  simp (disch := decide) only [oi_gI, oi_gJ, oi_gP, oi_pI, oi_pZ, oi_pJ, oi_oK, oi_aI hd, oi_aZ hd, oi_aJ hd, oi_sI hd, oi_sZ hd, oi_sJ hd, mI_1, mI_2, mJ_1, mJ_2, mJ_3, mA_1, mA_2, mA_3, mA_4, mL_1, mL_2, mL_3, mL_4, mK, Nat.reduceEqDiff, if_true, if_false, ite_true, ite_false, true_and, Nat.reduceLT, reduceIte, reduceCtorEq, cl_0, cl_1, cl_2, cl_3, cl_4, cl_5, cl_6, cl_7, cl_8, cl_9, cl_10, cl_11, cl_12, cl_13, cl_14, cl_15, vl_0_5585, vl_1_5585, vl_2_5585, vl_3_5585, vl_4_5585, vl_5_5585, vl_6_5585, vl_0_7, vl_1_7, vl_2_7, vl_3_7, vl_4_7, vl_5_7, vl_6_7]
  exact ⟨fun _ => h0, fun c => ⟨fun _ => h0, fun _ => h1 (by rw [c]; decide)⟩⟩
/-- must(is), where nothing is bad yet -/
theorem f_must (hd : mD o ad) {q : hS → Prop} {T f t : Nat} {v : Int32} (hb : M.1 19 = 0) (ht : tk M T f t) (hv : ¬ v = 0 → ¬ M.1 16 = 0) (k0 : ∀ N, Fx [18, 19] [] [] [] M N → ¬ N.1 19 = 0 → q (ov S o ad N)) (k1 : ¬ v = 0 → ∀ N f' t', Fx [14, 15, 16] [17] [] [] M N → tk N T f' t' → f + 1 ≤ f' → q (ov S o ad N)) : w_X12_must q (ov S o ad M) o v := by
  obtain ⟨e13, e14, e15, hT, h1, h2, h3⟩ := ht
  unfold w_X12_must w_X12_must_b24
  simp (disch := decide) only [oi_gI, oi_gJ, oi_gP, oi_pI, oi_pZ, oi_pJ, oi_oK, oi_aI hd, oi_aZ hd, oi_aJ hd, oi_sI hd, oi_sZ hd, oi_sJ hd, mI_1, mI_2, mJ_1, mJ_2, mJ_3, mA_1, mA_2, mA_3, mA_4, mL_1, mL_2, mL_3, mL_4, mK, Nat.reduceEqDiff, if_true, if_false, ite_true, ite_false, true_and, Nat.reduceLT, reduceIte, reduceCtorEq, cl_0, cl_1, cl_2, cl_3, cl_4, cl_5, cl_6, cl_7, cl_8, cl_9, cl_10, cl_11, cl_12, cl_13, cl_14, cl_15, vl_0_5585, vl_1_5585, vl_2_5585, vl_3_5585, vl_4_5585, vl_5_5585, vl_6_5585, vl_0_7, vl_1_7, vl_2_7, vl_3_7, vl_4_7, vl_5_7, vl_6_7]
  rw [hb]
  refine ⟨fun z => absurd rfl z, fun _ => ⟨fun c => ⟨fun z => absurd rfl z, fun _ => f_next hd e13 hT e15 h2 (fun N f' t' hF hk hl => k1 c N f' t' hF hk ?_)⟩, fun c => ⟨by simp, ?_⟩⟩⟩
  · rcases h3 with z | z
    · exact absurd z (hv c)
    · omega
  · refine ⟨fun _ => k0 _ (((Fx.i 19 1).tr (Fx.i 18 _)).le (by simp) (by simp) (by simp) (by simp)) (by simp [mI_1]), fun z => absurd z (by decide)⟩
theorem f_number (hd : mD o ad) {q : Int32 → hS → Prop} {T f t : Nat} {a b : Int64} (hb : M.1 19 = 0) (ht : tk M T f t) (k0 : ∀ r N, Fx [18, 19] [] [] [] M N → ¬ N.1 19 = 0 → q r (ov S o ad N)) (k1 : ∀ r N f' t', Fx [14, 15, 16] [17] [] [] M N → tk N T f' t' → f + 1 ≤ f' → q r (ov S o ad N)) : w_X12_number q (ov S o ad M) o a b := by
  have no : ∀ y, w_X12_number_b33 q (ov S o ad M) y 0 o := fun y => ⟨ov_oK, f_must hd hb ht (fun z => absurd rfl z) (fun N hF hn => k0 _ N hF hn) (fun z => absurd rfl z)⟩
  unfold w_X12_number w_X12_number_b32
  simp (disch := decide) only [oi_gI, oi_gJ, oi_gP, oi_pI, oi_pZ, oi_pJ, oi_oK, oi_aI hd, oi_aZ hd, oi_aJ hd, oi_sI hd, oi_sZ hd, oi_sJ hd, mI_1, mI_2, mJ_1, mJ_2, mJ_3, mA_1, mA_2, mA_3, mA_4, mL_1, mL_2, mL_3, mL_4, mK, Nat.reduceEqDiff, if_true, if_false, ite_true, ite_false, true_and, Nat.reduceLT, reduceIte, reduceCtorEq, cl_0, cl_1, cl_2, cl_3, cl_4, cl_5, cl_6, cl_7, cl_8, cl_9, cl_10, cl_11, cl_12, cl_13, cl_14, cl_15, vl_0_5585, vl_1_5585, vl_2_5585, vl_3_5585, vl_4_5585, vl_5_5585, vl_6_5585, vl_0_7, vl_1_7, vl_2_7, vl_3_7, vl_4_7, vl_5_7, vl_6_7]
  intro y _
  refine ⟨fun _ => no y, fun c => s_in (fun _ _ => ⟨fun z => absurd z (by decide), fun _ => ⟨ov_oK, f_must hd hb ht (fun _ => by rw [c]; decide) (fun N hF hn => k0 _ N hF hn) (fun _ N f' t' hF hk hl => k1 _ N f' t' hF hk hl)⟩⟩) (fun _ => ⟨fun _ => no y, fun z => absurd rfl z⟩)⟩
theorem f_begin (hd : mD o ad) {q : hS → Prop} {T : Nat} (e13 : M.1 13 = nI T) (hT : T ≤ 400) (h : ∀ N f t, Fx [14, 15, 16, 18, 19] [17] [] [] M N → N.1 19 = 0 → tk N T f t → q (ov S o ad N)) : w_X12_begin q (ov S o ad M) o := by
  unfold w_X12_begin
  simp (disch := decide) only [oi_gI, oi_gJ, oi_gP, oi_pI, oi_pZ, oi_pJ, oi_oK, oi_aI hd, oi_aZ hd, oi_aJ hd, oi_sI hd, oi_sZ hd, oi_sJ hd, mI_1, mI_2, mJ_1, mJ_2, mJ_3, mA_1, mA_2, mA_3, mA_4, mL_1, mL_2, mL_3, mL_4, mK, Nat.reduceEqDiff, if_true, if_false, ite_true, ite_false, true_and, Nat.reduceLT, reduceIte, reduceCtorEq, cl_0, cl_1, cl_2, cl_3, cl_4, cl_5, cl_6, cl_7, cl_8, cl_9, cl_10, cl_11, cl_12, cl_13, cl_14, cl_15, vl_0_5585, vl_1_5585, vl_2_5585, vl_3_5585, vl_4_5585, vl_5_5585, vl_6_5585, vl_0_7, vl_1_7, vl_2_7, vl_3_7, vl_4_7, vl_5_7, vl_6_7]
  refine ⟨by simp, f_next hd (T := T) (t := 0) (by simp [mI_1, e13]) hT (by simp [mI_1]; rfl) (by omega) (fun N f t hF hk _ => h N f t (((((Fx.i 15 0).tr (Fx.i 19 0)).tr (Fx.i 18 (-1))).tr hF).le (by simp) (by simp) (by simp) (by simp)) ?_ hk)⟩
  rw [hF.1 19 (by simp)]
  simp [mI_1]
theorem s_emit (hd : mD o ad) {q : hS → Prop} {c : Nat} {x y : Int32} (e23 : M.1 23 = nI c) (hc : c < 400) (h : q (ov S o ad (mI (mA (mA M 24 (upd (M.2.2.1 24) c x)) 25 (upd (M.2.2.1 25) c y)) 23 (nI (c + 1))))) : w_X12_emit q (ov S o ad M) o x y := by
  unfold w_X12_emit
  simp (disch := decide) only [oi_gI, oi_gJ, oi_gP, oi_pI, oi_pZ, oi_pJ, oi_oK, oi_aI hd, oi_aZ hd, oi_aJ hd, oi_sI hd, oi_sZ hd, oi_sJ hd, mI_1, mI_2, mJ_1, mJ_2, mJ_3, mA_1, mA_2, mA_3, mA_4, mL_1, mL_2, mL_3, mL_4, mK, Nat.reduceEqDiff, if_true, if_false, ite_true, ite_false, true_and, Nat.reduceLT, reduceIte, reduceCtorEq, cl_0, cl_1, cl_2, cl_3, cl_4, cl_5, cl_6, cl_7, cl_8, cl_9, cl_10, cl_11, cl_12, cl_13, cl_14, cl_15, vl_0_5585, vl_1_5585, vl_2_5585, vl_3_5585, vl_4_5585, vl_5_5585, vl_6_5585, vl_0_7, vl_1_7, vl_2_7, vl_3_7, vl_4_7, vl_5_7, vl_6_7]
  rw [e23, nI_clamp (by omega), nI_1]
  exact ⟨vp_in_nI (by omega) (by omega), vp_in_nI (by omega) (by omega), h⟩
theorem s_push (hd : mD o ad) {q : hS → Prop} {p : Nat} {x y : Int32} (e29 : M.1 29 = nI p) (hp : p < 400) (h : q (ov S o ad (mI (mA (mA M 27 (upd (M.2.2.1 27) p x)) 28 (upd (M.2.2.1 28) p y)) 29 (nI (p + 1))))) : w_X12_push q (ov S o ad M) o x y := by
  unfold w_X12_push
  simp (disch := decide) only [oi_gI, oi_gJ, oi_gP, oi_pI, oi_pZ, oi_pJ, oi_oK, oi_aI hd, oi_aZ hd, oi_aJ hd, oi_sI hd, oi_sZ hd, oi_sJ hd, mI_1, mI_2, mJ_1, mJ_2, mJ_3, mA_1, mA_2, mA_3, mA_4, mL_1, mL_2, mL_3, mL_4, mK, Nat.reduceEqDiff, if_true, if_false, ite_true, ite_false, true_and, Nat.reduceLT, reduceIte, reduceCtorEq, cl_0, cl_1, cl_2, cl_3, cl_4, cl_5, cl_6, cl_7, cl_8, cl_9, cl_10, cl_11, cl_12, cl_13, cl_14, cl_15, vl_0_5585, vl_1_5585, vl_2_5585, vl_3_5585, vl_4_5585, vl_5_5585, vl_6_5585, vl_0_7, vl_1_7, vl_2_7, vl_3_7, vl_4_7, vl_5_7, vl_6_7]
  rw [e29, nI_clamp (by omega), nI_1]
  exact ⟨vp_in_nI (by omega) (by omega), vp_in_nI (by omega) (by omega), h⟩
end REF20
