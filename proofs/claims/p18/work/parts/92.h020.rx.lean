/-! THE REFERENCE'S TOKENS, EXACTLY -/
def jN (z : Int) : Int64 := Int64.ofInt z
/-- the tape is G -/
def tpM (G : pG) (M : mS) : Prop := M.1 13 = nI G.2 ∧ G.2 ≤ 400 ∧ (∀ i, i < 400 → M.2.2.1 12 i = nI (G.1 i)) ∧ ∀ i, G.1 i < 256
/-- the token from place p on is looked at -/
def tokAt (G : pG) (p : Nat) (N : mS) : Prop := N.1 14 = nI (tS G p) ∧ N.1 15 = nI (tE G p) ∧ N.1 16 = nI (tK G p) ∧ N.2.1 17 = jN (wth G p)
theorem jN_i {z : Int} (h1 : -9223372036854775808 ≤ z) (h2 : z < 9223372036854775808) : (jN z).toInt = z := Int64.toInt_ofInt_of_le (by omega) (by omega)
theorem jN_of {x : Int64} {z : Int} (h : x.toInt = z) : x = jN z := by
  unfold jN
  rw [← h, Int64.ofInt_toInt]
theorem jN_add {a b : Int} (ha : -1000000000000000000 ≤ a ∧ a ≤ 1000000000000000000) (hb : -1000000000000000000 ≤ b ∧ b ≤ 1000000000000000000) : jN a + jN b = jN (a + b) :=
  jN_of (by rw [fb_addL] <;> rw [jN_i (by omega) (by omega), jN_i (by omega) (by omega)] <;> omega)
theorem jN_sub {a b : Int} (ha : -1000000000000000000 ≤ a ∧ a ≤ 1000000000000000000) (hb : -1000000000000000000 ≤ b ∧ b ≤ 1000000000000000000) : jN a - jN b = jN (a - b) :=
  jN_of (by rw [fb_subL] <;> rw [jN_i (by omega) (by omega), jN_i (by omega) (by omega)] <;> omega)
theorem jN_32 {a : Int} (ha : -100000000000000000 ≤ a ∧ a ≤ 100000000000000000) : jN a * 32 = jN (a * 32) :=
  jN_of (by rw [fb_mulL] <;> rw [jN_i (by omega) (by omega), show (32 : Int64).toInt = 32 by decide] <;> omega)
theorem jN_10 {a : Int} (ha : -100000000000000000 ≤ a ∧ a ≤ 100000000000000000) : jN a * 10 = jN (a * 10) :=
  jN_of (by rw [fb_mulL] <;> rw [jN_i (by omega) (by omega), show (10 : Int64).toInt = 10 by decide] <;> omega)
theorem jN_nI {n : Nat} (h : n < 2 ^ 31) : Int32.toInt64 (nI n) = jN n := jN_of (by rw [i64toInt, nI_toInt h])
theorem jN_eq {a b : Int} (ha : -9223372036854775808 ≤ a ∧ a < 9223372036854775808) (hb : -9223372036854775808 ≤ b ∧ b < 9223372036854775808) : jN a = jN b ↔ a = b := by
  constructor
  · intro h
    have := congrArg Int64.toInt h
    rw [jN_i (by omega) (by omega), jN_i (by omega) (by omega)] at this
    exact this
  · intro h; rw [h]
theorem jN_le {a b : Int} (ha : -9223372036854775808 ≤ a ∧ a < 9223372036854775808) (hb : -9223372036854775808 ≤ b ∧ b < 9223372036854775808) : jN a ≤ jN b ↔ a ≤ b := by
  rw [Int64.le_iff_toInt_le, jN_i (by omega) (by omega), jN_i (by omega) (by omega)]
theorem isSm_n {c : Nat} (h : c < 256) : isSm (nI c) ↔ isLn c = true := by
  unfold isSm isLn
  rw [nI_toInt (by omega), decide_eq_true_eq]
  omega
theorem isDg_n {c : Nat} (h : c < 256) : isDg (nI c) ↔ isDn c = true := by
  unfold isDg isDn
  rw [nI_toInt (by omega), decide_eq_true_eq]
  omega
theorem tpM_fx {G : pG} {a b c d : List Nat} {M N : mS} (h : Fx a b c d M N) (hG : tpM G M) (ha : 13 ∉ a ∧ 12 ∉ c) : tpM G N := by
  unfold tpM at *
  rw [h.1 13 ha.1, h.2.2.1 12 ha.2]
  exact hG
theorem tokAt_fx {G : pG} {p : Nat} {a b c d : List Nat} {M N : mS} (h : Fx a b c d M N) (ht : tokAt G p M) (ha : (14 ∉ a ∧ 15 ∉ a ∧ 16 ∉ a) ∧ 17 ∉ b) : tokAt G p N := by
  unfold tokAt at *
  rw [h.1 14 ha.1.1, h.1 15 ha.1.2.1, h.1 16 ha.1.2.2, h.2.1 17 ha.2]
  exact ht
section RX
variable {S : hS} {o : Nat} {ad : Nat → Nat} {M : mS} {G : pG}
theorem x_n243 (hd : mD o ad) {q : hS → Prop} {t r : Nat} (hG : tpM G M) (e15 : M.1 15 = nI t) (ht : t ≤ G.2) (h0 : ¬ M.1 16 = 2 → q (ov S o ad M)) (h2 : M.1 16 = 2 → (M.2.1 17 = jN r ∧ r ≤ 10000009) ∧ ∀ N, Fx [15] [17] [] [] M N → N.1 15 = nI (ru isDn G t) → N.2.1 17 = jN (rNum G (ru isDn G t - t) t r) → q (ov S o ad N)) : ∃ n, w_X12_next_b243 q n (ov S o ad M) o := by
  by_cases c16 : M.1 16 = 2
  · obtain ⟨⟨h17, hr⟩, h⟩ := h2 c16
    refine loop_m (σ := mS × Nat × Nat) (fun n s => w_X12_next_b243 q n (ov S o ad s.1) o) (fun s => Fx [15] [17] [] [] M s.1 ∧ s.1.1 15 = nI s.2.1 ∧ t ≤ s.2.1 ∧ s.2.1 ≤ G.2 ∧ ru isDn G s.2.1 = ru isDn G t ∧ s.1.2.1 17 = jN s.2.2 ∧ s.2.2 ≤ 10000009 ∧ rNum G (ru isDn G t - s.2.1) s.2.1 s.2.2 = rNum G (ru isDn G t - t) t r) (fun s => G.2 - s.2.1) ?_ (M, t, r) ⟨Fx.rf', e15, Nat.le_refl _, ht, rfl, h17, hr, rfl⟩
    rintro n ⟨N, u, v⟩ ⟨hF, e, g1, g2, g3, g4, g5, g6⟩ ih
    dsimp only at hF e g1 g2 g3 g4 g5 g6 ih ⊢
    have n16 : N.1 16 = 2 := (hF.1 16 (by simp)).trans c16
    obtain ⟨n13, hT, hb, h256⟩ := tpM_fx hF hG (by simp)
    have fin : ru isDn G u = u → q (ov S o ad N) := by
      intro z
      rw [z] at g3
      refine h N hF (by rw [← g3]; exact e) ?_
      rw [← g6, ← g3, Nat.sub_self]
      exact g4
    rw [w_X12_next_b243]
    simp (disch := decide) only [oi_gI, oi_gJ, oi_gP, oi_pI, oi_pZ, oi_pJ, oi_oK, oi_aI hd, oi_aZ hd, oi_aJ hd, oi_sI hd, oi_sZ hd, oi_sJ hd, mI_1, mI_2, mJ_1, mJ_2, mJ_3, mA_1, mA_2, mA_3, mA_4, mL_1, mL_2, mL_3, mL_4, mK, Nat.reduceEqDiff, if_true, if_false, ite_true, ite_false, true_and, Nat.reduceLT, reduceIte, reduceCtorEq, cl_0, cl_1, cl_2, cl_3, cl_4, cl_5, cl_6, cl_7, cl_8, cl_9, cl_10, cl_11, cl_12, cl_13, cl_14, cl_15, vl_0_5585, vl_1_5585, vl_2_5585, vl_3_5585, vl_4_5585, vl_5_5585, vl_6_5585, vl_0_7, vl_1_7, vl_2_7, vl_3_7, vl_4_7, vl_5_7, vl_6_7]
    rw [e, n13, n16, nI_leI (by omega) (by omega), nI_clamp (by omega)]
    refine ⟨fun c => absurd rfl c, fun _ => ⟨fun c2 => fin (ru_end c2), fun c2 => ⟨vp_in_nI (by omega) (by omega), ?_⟩⟩⟩
    rw [hb u (by omega)]
    have hc := h256 u
    refine s_isDigit (fun c3 => ⟨fun z => absurd z (by decide), fun _ => ?_⟩) (fun c3 => ⟨fun _ => fin (ru_no (fun z => c3 ((isDg_n hc).mpr z))), fun z => absurd rfl z⟩)
    have c4 := (isDg_n hc).mp c3
    have e1 : ru isDn G u = ru isDn G (u + 1) := ru_go (by omega) c4
    have le : u + 1 ≤ ru isDn G (u + 1) := le_ru
    have c5 : 48 ≤ G.1 u ∧ G.1 u ≤ 57 := by
      unfold isDn at c4
      exact of_decide_eq_true c4
    have k319 : ∀ x v', x = jN (v' : Nat) → v' = (if 1000000 < v then v else v * 10 + (G.1 u - 48)) → w_X12_next_b319 q (fun S v0 => w_X12_next_b243 q n S v0) (ov S o ad N) o x o := by
      intro x v' ex ev
      unfold w_X12_next_b319
      simp (disch := decide) only [oi_gI, oi_gJ, oi_gP, oi_pI, oi_pZ, oi_pJ, oi_oK, oi_aI hd, oi_aZ hd, oi_aJ hd, oi_sI hd, oi_sZ hd, oi_sJ hd, mI_1, mI_2, mJ_1, mJ_2, mJ_3, mA_1, mA_2, mA_3, mA_4, mL_1, mL_2, mL_3, mL_4, mK, Nat.reduceEqDiff, if_true, if_false, ite_true, ite_false, true_and, Nat.reduceLT, reduceIte, reduceCtorEq, cl_0, cl_1, cl_2, cl_3, cl_4, cl_5, cl_6, cl_7, cl_8, cl_9, cl_10, cl_11, cl_12, cl_13, cl_14, cl_15, vl_0_5585, vl_1_5585, vl_2_5585, vl_3_5585, vl_4_5585, vl_5_5585, vl_6_5585, vl_0_7, vl_1_7, vl_2_7, vl_3_7, vl_4_7, vl_5_7, vl_6_7]
      rw [e, nI_1]
      refine ih (_, u + 1, v') ⟨((hF.tr (Fx.j 17 x)).tr (Fx.i 15 _)).le (by simp) (by simp) (by simp) (by simp), by simp [mI_1], by dsimp only; omega, by dsimp only; omega, by dsimp only; rw [← e1]; exact g3, ?_, ?_, ?_⟩ (by dsimp only; omega)
      · show (mJ N 17 x).2.1 17 = jN v'
        rw [mJ_2, if_pos rfl, ex]
      · dsimp only
        rw [ev]
        split <;> omega
      · dsimp only
        rw [← g6, show ru isDn G t - u = (ru isDn G t - (u + 1)) + 1 by omega, rNum, ev]
    simp (disch := decide) only [oi_gI, oi_gJ, oi_gP, oi_pI, oi_pZ, oi_pJ, oi_oK, oi_aI hd, oi_aZ hd, oi_aJ hd, oi_sI hd, oi_sZ hd, oi_sJ hd, mI_1, mI_2, mJ_1, mJ_2, mJ_3, mA_1, mA_2, mA_3, mA_4, mL_1, mL_2, mL_3, mL_4, mK, Nat.reduceEqDiff, if_true, if_false, ite_true, ite_false, true_and, Nat.reduceLT, reduceIte, reduceCtorEq, cl_0, cl_1, cl_2, cl_3, cl_4, cl_5, cl_6, cl_7, cl_8, cl_9, cl_10, cl_11, cl_12, cl_13, cl_14, cl_15, vl_0_5585, vl_1_5585, vl_2_5585, vl_3_5585, vl_4_5585, vl_5_5585, vl_6_5585, vl_0_7, vl_1_7, vl_2_7, vl_3_7, vl_4_7, vl_5_7, vl_6_7]
    rw [e, g4, nI_clamp (by omega), hb u (by omega), show (1000000 : Int64) = jN 1000000 from rfl]
    have le6 : lg_cmp (jN v) (jN 1000000) ≤ 0 ↔ v ≤ 1000000 := by
      rw [lg_cmp_le, jN_le (by omega) (by omega)]
      omega
    rw [le6]
    refine ⟨fun z => ⟨vp_in_nI (by omega) (by omega), k319 _ (v * 10 + (G.1 u - 48)) ?_ (by rw [if_neg (by omega)])⟩, fun z => k319 _ v rfl (by rw [if_pos (by omega)])⟩
    rw [jN_10 (by omega), jN_nI (by omega), jN_add (by omega) (by omega), show (48 : Int64) = jN 48 from rfl, jN_sub (by omega) (by omega)]
    congr 1
    omega
  · refine ⟨1, ?_⟩
    rw [w_X12_next_b243]
    simp (disch := decide) only [oi_gI, oi_gJ, oi_gP, oi_pI, oi_pZ, oi_pJ, oi_oK, oi_aI hd, oi_aZ hd, oi_aJ hd, oi_sI hd, oi_sZ hd, oi_sJ hd, mI_1, mI_2, mJ_1, mJ_2, mJ_3, mA_1, mA_2, mA_3, mA_4, mL_1, mL_2, mL_3, mL_4, mK, Nat.reduceEqDiff, if_true, if_false, ite_true, ite_false, true_and, Nat.reduceLT, reduceIte, reduceCtorEq, cl_0, cl_1, cl_2, cl_3, cl_4, cl_5, cl_6, cl_7, cl_8, cl_9, cl_10, cl_11, cl_12, cl_13, cl_14, cl_15, vl_0_5585, vl_1_5585, vl_2_5585, vl_3_5585, vl_4_5585, vl_5_5585, vl_6_5585, vl_0_7, vl_1_7, vl_2_7, vl_3_7, vl_4_7, vl_5_7, vl_6_7]
    exact ⟨fun _ => h0 c16, fun z => absurd z c16⟩
theorem wV_s {f n : Nat} : wV G f (n + 1) = if n + 1 ≤ 10 then wV G f n * 32 + ((G.1 (f + n) - 96 : Nat) : Int) else -1 := by
  unfold wV
  by_cases c : n + 1 ≤ 10
  · rw [if_pos c, if_pos c, if_pos (by omega), wF]
    omega
  · rw [if_neg c, if_neg c]
theorem x_n149 (hd : mD o ad) {q : hS → Prop} {f : Nat} (hG : tpM G M) (e14 : M.1 14 = nI f) (hf : f ≤ G.2) (h0 : ¬ M.1 16 = 1 → ∃ n, w_X12_next_b243 q n (ov S o ad M) o) (h1 : M.1 16 = 1 → M.1 15 = nI f ∧ M.2.1 17 = jN 0 ∧ ∀ N, Fx [15] [17] [] [] M N → N.1 15 = nI (ru isLn G f) → N.2.1 17 = jN (wV G f (ru isLn G f - f)) → q (ov S o ad N)) : ∃ n, w_X12_next_b149 q n (ov S o ad M) o := by
  by_cases c16 : M.1 16 = 1
  · obtain ⟨e15, e17, h⟩ := h1 c16
    refine loop_m (σ := mS × Nat) (fun n s => w_X12_next_b149 q n (ov S o ad s.1) o) (fun s => Fx [15] [17] [] [] M s.1 ∧ s.1.1 15 = nI s.2 ∧ f ≤ s.2 ∧ s.2 ≤ G.2 ∧ ru isLn G s.2 = ru isLn G f ∧ s.1.2.1 17 = jN (wV G f (s.2 - f)) ∧ ∀ j, f ≤ j → j < s.2 → isLn (G.1 j) = true) (fun s => G.2 - s.2) ?_ (M, f) ⟨Fx.rf', e15, Nat.le_refl _, hf, rfl, by dsimp only; rw [Nat.sub_self]; exact e17, fun j j1 j2 => by dsimp only at j2; omega⟩
    rintro n ⟨N, u⟩ ⟨hF, e, g1, g2, g3, g4, g5⟩ ih
    dsimp only at hF e g1 g2 g3 g4 g5 ih ⊢
    have n16 : N.1 16 = 1 := (hF.1 16 (by simp)).trans c16
    have n14 : N.1 14 = nI f := (hF.1 14 (by simp)).trans e14
    have hGN := tpM_fx hF hG (by simp)
    obtain ⟨n13, hT, hb, h256⟩ := id hGN
    have fin : ru isLn G u = u → ∃ n, w_X12_next_b243 q n (ov S o ad N) o := by
      intro z
      rw [z] at g3
      refine x_n243 hd (r := 0) hGN e g2 (fun _ => ?_) (fun z => absurd (n16.symm.trans z) (by decide))
      exact h N hF (by rw [← g3]; exact e) (by rw [← g3]; exact g4)
    rw [w_X12_next_b149]
    simp (disch := decide) only [oi_gI, oi_gJ, oi_gP, oi_pI, oi_pZ, oi_pJ, oi_oK, oi_aI hd, oi_aZ hd, oi_aJ hd, oi_sI hd, oi_sZ hd, oi_sJ hd, mI_1, mI_2, mJ_1, mJ_2, mJ_3, mA_1, mA_2, mA_3, mA_4, mL_1, mL_2, mL_3, mL_4, mK, Nat.reduceEqDiff, if_true, if_false, ite_true, ite_false, true_and, Nat.reduceLT, reduceIte, reduceCtorEq, cl_0, cl_1, cl_2, cl_3, cl_4, cl_5, cl_6, cl_7, cl_8, cl_9, cl_10, cl_11, cl_12, cl_13, cl_14, cl_15, vl_0_5585, vl_1_5585, vl_2_5585, vl_3_5585, vl_4_5585, vl_5_5585, vl_6_5585, vl_0_7, vl_1_7, vl_2_7, vl_3_7, vl_4_7, vl_5_7, vl_6_7]
    rw [e, n13, n16, nI_leI (by omega) (by omega), nI_clamp (by omega)]
    refine ⟨fun c => absurd rfl c, fun _ => ⟨fun c2 => fin (ru_end c2), fun c2 => ⟨vp_in_nI (by omega) (by omega), ?_⟩⟩⟩
    rw [hb u (by omega)]
    have hc := h256 u
    refine s_isSmall (fun c3 => ⟨fun z => absurd z (by decide), fun _ => ?_⟩) (fun c3 => ⟨fun _ => fin (ru_no (fun z => c3 ((isSm_n hc).mpr z))), fun z => absurd rfl z⟩)
    have c4 := (isSm_n hc).mp c3
    have e1 : ru isLn G u = ru isLn G (u + 1) := ru_go (by omega) c4
    have g5' : ∀ j, f ≤ j → j < u + 1 → isLn (G.1 j) = true := fun j j1 j2 => by
      by_cases ej : j = u
      · rw [ej]; exact c4
      · exact g5 j j1 (by omega)
    have c5 : 97 ≤ G.1 u ∧ G.1 u ≤ 122 := by
      unfold isLn at c4
      exact of_decide_eq_true c4
    have k227 : ∀ x, x = jN (wV G f (u + 1 - f)) → w_X12_next_b227 q (fun S v0 => w_X12_next_b149 q n S v0) (ov S o ad N) o x o := by
      intro x ex
      unfold w_X12_next_b227
      simp (disch := decide) only [oi_gI, oi_gJ, oi_gP, oi_pI, oi_pZ, oi_pJ, oi_oK, oi_aI hd, oi_aZ hd, oi_aJ hd, oi_sI hd, oi_sZ hd, oi_sJ hd, mI_1, mI_2, mJ_1, mJ_2, mJ_3, mA_1, mA_2, mA_3, mA_4, mL_1, mL_2, mL_3, mL_4, mK, Nat.reduceEqDiff, if_true, if_false, ite_true, ite_false, true_and, Nat.reduceLT, reduceIte, reduceCtorEq, cl_0, cl_1, cl_2, cl_3, cl_4, cl_5, cl_6, cl_7, cl_8, cl_9, cl_10, cl_11, cl_12, cl_13, cl_14, cl_15, vl_0_5585, vl_1_5585, vl_2_5585, vl_3_5585, vl_4_5585, vl_5_5585, vl_6_5585, vl_0_7, vl_1_7, vl_2_7, vl_3_7, vl_4_7, vl_5_7, vl_6_7]
      rw [e, nI_1]
      refine ih (_, u + 1) ⟨((hF.tr (Fx.j 17 x)).tr (Fx.i 15 _)).le (by simp) (by simp) (by simp) (by simp), by simp [mI_1], by dsimp only; omega, by dsimp only; omega, by dsimp only; rw [← e1]; exact g3, ?_, g5'⟩ (by dsimp only; omega)
      show (mJ N 17 x).2.1 17 = _
      rw [mJ_2, if_pos rfl, ex]
    have w1 : wV G f (u + 1 - f) = if u + 1 - f ≤ 10 then wV G f (u - f) * 32 + ((G.1 u - 96 : Nat) : Int) else -1 := by
      rw [show u + 1 - f = (u - f) + 1 by omega, wV_s, show f + (u - f) = u by omega]
    simp (disch := decide) only [oi_gI, oi_gJ, oi_gP, oi_pI, oi_pZ, oi_pJ, oi_oK, oi_aI hd, oi_aZ hd, oi_aJ hd, oi_sI hd, oi_sZ hd, oi_sJ hd, mI_1, mI_2, mJ_1, mJ_2, mJ_3, mA_1, mA_2, mA_3, mA_4, mL_1, mL_2, mL_3, mL_4, mK, Nat.reduceEqDiff, if_true, if_false, ite_true, ite_false, true_and, Nat.reduceLT, reduceIte, reduceCtorEq, cl_0, cl_1, cl_2, cl_3, cl_4, cl_5, cl_6, cl_7, cl_8, cl_9, cl_10, cl_11, cl_12, cl_13, cl_14, cl_15, vl_0_5585, vl_1_5585, vl_2_5585, vl_3_5585, vl_4_5585, vl_5_5585, vl_6_5585, vl_0_7, vl_1_7, vl_2_7, vl_3_7, vl_4_7, vl_5_7, vl_6_7]
    rw [e, n14, g4]
    have e10 : (10 : Int32) ≤ nI u - nI f ↔ 10 ≤ u - f := by
      rw [i32ge, fb_subI] <;> rw [nI_toInt (by omega), nI_toInt (by omega)]
      · rw [show (10 : Int32).toInt = 10 by decide]
        omega
      · omega
      · omega
    rw [e10, nI_clamp (by omega), hb u (by omega)]
    refine ⟨fun z => k227 _ ?_, fun z => ⟨vp_in_nI (by omega) (by omega), k227 _ ?_⟩⟩
    · rw [w1, if_neg (by omega)]
      rfl
    · have b1 : 0 ≤ wV G f (u - f) ∧ wV G f (u - f) < 1125899906842624 := by
        unfold wV
        rw [if_pos (by omega)]
        have := wF_10 (g := fun i => G.1 (f + i)) (n := u - f) (fun i hi => by
          have := g5 (f + i) (by omega) (by omega)
          unfold isLn at this
          exact (of_decide_eq_true this).2) (by omega)
        omega
      rw [w1, if_pos (by omega), jN_32 (by omega), jN_nI (by omega), jN_add (by omega) (by omega), show (96 : Int64) = jN 96 from rfl, jN_sub (by omega) (by omega)]
      congr 1
      omega
  · refine ⟨1, ?_⟩
    rw [w_X12_next_b149]
    simp (disch := decide) only [oi_gI, oi_gJ, oi_gP, oi_pI, oi_pZ, oi_pJ, oi_oK, oi_aI hd, oi_aZ hd, oi_aJ hd, oi_sI hd, oi_sZ hd, oi_sJ hd, mI_1, mI_2, mJ_1, mJ_2, mJ_3, mA_1, mA_2, mA_3, mA_4, mL_1, mL_2, mL_3, mL_4, mK, Nat.reduceEqDiff, if_true, if_false, ite_true, ite_false, true_and, Nat.reduceLT, reduceIte, reduceCtorEq, cl_0, cl_1, cl_2, cl_3, cl_4, cl_5, cl_6, cl_7, cl_8, cl_9, cl_10, cl_11, cl_12, cl_13, cl_14, cl_15, vl_0_5585, vl_1_5585, vl_2_5585, vl_3_5585, vl_4_5585, vl_5_5585, vl_6_5585, vl_0_7, vl_1_7, vl_2_7, vl_3_7, vl_4_7, vl_5_7, vl_6_7]
    exact ⟨fun _ => h0 c16, fun z => absurd z c16⟩
/-- the token at a place, once its kind is known -/
theorem x_n114 (hd : mD o ad) {q : hS → Prop} {p : Nat} (hG : tpM G M) (e14 : M.1 14 = nI (tS G p)) (e15 : M.1 15 = nI (tS G p)) (e17 : M.2.1 17 = jN 0) (hp : tS G p ≤ G.2) (h : ∀ N, Fx [15, 16] [17] [] [] M N → tokAt G p N → q (ov S o ad N)) : w_X12_next_b114 q (ov S o ad M) o (nI (tK G p)) o := by
  have k4 := tK_4 G p
  have kk : tK G p = 0 ∨ tK G p = 1 ∨ tK G p = 2 ∨ tK G p = 3 := by omega
  have n3 : nI (tK G p) = 3 ↔ tK G p = 3 := by rw [lit_nI 3, nI_eq (by omega) (by omega)]
  have n2 : nI (tK G p) = 2 ↔ tK G p = 2 := by rw [lit_nI 2, nI_eq (by omega) (by omega)]
  have n1 : nI (tK G p) = 1 ↔ tK G p = 1 := by rw [lit_nI 1, nI_eq (by omega) (by omega)]
  have hF1 : Fx [15, 16] [17] [] [] M (mI M 16 (nI (tK G p))) := (Fx.i 16 _).le (by simp) (by simp) (by simp) (by simp)
  have m16 : (mI M 16 (nI (tK G p))).1 16 = nI (tK G p) := by simp [mI_1]
  have m15 : (mI M 16 (nI (tK G p))).1 15 = nI (tS G p) := by simp [mI_1, e15]
  have m14 : (mI M 16 (nI (tK G p))).1 14 = nI (tS G p) := by simp [mI_1, e14]
  have hG1 := tpM_fx hF1 hG (by simp)
  unfold w_X12_next_b114
  simp (disch := decide) only [oi_gI, oi_gJ, oi_gP, oi_pI, oi_pZ, oi_pJ, oi_oK, oi_aI hd, oi_aZ hd, oi_aJ hd, oi_sI hd, oi_sZ hd, oi_sJ hd, mI_1, mI_2, mJ_1, mJ_2, mJ_3, mA_1, mA_2, mA_3, mA_4, mL_1, mL_2, mL_3, mL_4, mK, Nat.reduceEqDiff, if_true, if_false, ite_true, ite_false, true_and, Nat.reduceLT, reduceIte, reduceCtorEq, cl_0, cl_1, cl_2, cl_3, cl_4, cl_5, cl_6, cl_7, cl_8, cl_9, cl_10, cl_11, cl_12, cl_13, cl_14, cl_15, vl_0_5585, vl_1_5585, vl_2_5585, vl_3_5585, vl_4_5585, vl_5_5585, vl_6_5585, vl_0_7, vl_1_7, vl_2_7, vl_3_7, vl_4_7, vl_5_7, vl_6_7]
  rw [e14, e15, nI_1, n3]
  refine ⟨fun c => ?_, fun c => ?_⟩
  · refine x_n149 hd (f := tS G p) hG1 m14 hp (fun c1 => x_n243 hd (r := 0) (t := tS G p) hG1 m15 hp (fun c2 => ?_) (fun c2 => ⟨⟨e17, by omega⟩, fun N hF e1 e2 => ?_⟩)) (fun c1 => ⟨m15, e17, fun N hF e1 e2 => ?_⟩)
    · rw [m16, n1] at c1
      rw [m16, n2] at c2
      have k0 : tK G p = 0 := by omega
      refine h _ hF1 ⟨m14, by rw [m15, tE_0 k0], m16, ?_⟩
      show M.2.1 17 = _
      rw [e17]
      unfold wth
      rw [if_neg (by omega), if_neg (by omega), if_neg (by omega)]
    · rw [m16, n2] at c2
      refine h N ((hF1.tr hF).le (by simp) (by simp) (by simp) (by simp)) ⟨(hF.1 14 (by simp)).trans m14, by rw [tE_2 c2]; exact e1, (hF.1 16 (by simp)).trans m16, ?_⟩
      rw [e2]
      unfold wth rV
      rw [if_neg (by omega), if_pos c2, tE_2 c2]
    · rw [m16, n1] at c1
      refine h N ((hF1.tr hF).le (by simp) (by simp) (by simp) (by simp)) ⟨(hF.1 14 (by simp)).trans m14, by rw [tE_1 c1]; exact e1, (hF.1 16 (by simp)).trans m16, ?_⟩
      rw [e2]
      unfold wth
      rw [if_pos c1, tE_1 c1]
  · obtain ⟨n13, hT, hb, h256⟩ := id hG
    have lt := tK_lt (G := G) (p := p) (by omega)
    rw [nI_clamp (by omega), hb (tS G p) (by omega), jN_nI (by have := h256 (tS G p); omega)]
    have hF2 : Fx [15, 16] [17] [] [] M (mI (mJ (mI M 16 (nI (tK G p))) 17 (jN (G.1 (tS G p) : Nat))) 15 (nI (tS G p + 1))) := (((Fx.i 16 _).tr (Fx.j 17 _)).tr (Fx.i 15 _)).le (by simp) (by simp) (by simp) (by simp)
    have p16 : (mI (mJ (mI M 16 (nI (tK G p))) 17 (jN (G.1 (tS G p) : Nat))) 15 (nI (tS G p + 1))).1 16 = nI (tK G p) := by simp [mI_1, mJ_1]
    have p14 : (mI (mJ (mI M 16 (nI (tK G p))) 17 (jN (G.1 (tS G p) : Nat))) 15 (nI (tS G p + 1))).1 14 = nI (tS G p) := by simp [mI_1, mJ_1, e14]
    have p15 : (mI (mJ (mI M 16 (nI (tK G p))) 17 (jN (G.1 (tS G p) : Nat))) 15 (nI (tS G p + 1))).1 15 = nI (tS G p + 1) := by simp [mI_1]
    have hG2 := tpM_fx hF2 hG (by simp)
    refine ⟨vp_in_nI (by omega) (by omega), x_n149 hd (f := tS G p) hG2 p14 hp (fun c1 => x_n243 hd (r := 0) (t := tS G p + 1) hG2 p15 (by omega) (fun c2 => ?_) (fun c2 => ?_)) (fun c1 => ?_)⟩
    · refine h _ hF2 ⟨p14, by rw [p15, tE_3 c], p16, ?_⟩
      show (mJ (mI M 16 (nI (tK G p))) 17 (jN (G.1 (tS G p) : Nat))).2.1 17 = _
      rw [mJ_2, if_pos rfl]
      unfold wth
      rw [if_neg (by omega), if_neg (by omega), if_pos c]
    · rw [p16, n2] at c2
      omega
    · rw [p16, n1] at c1
      omega
theorem x_n46 (hd : mD o ad) {q : hS → Prop} {p : Nat} (hG : tpM G M) (e14 : M.1 14 = nI (tS G p)) (hp : p ≤ G.2) (h : ∀ N, Fx [15, 16] [17] [] [] M N → tokAt G p N → q (ov S o ad N)) : w_X12_next_b46 q (ov S o ad M) o := by
  have hs := tS_le hp
  obtain ⟨n13, hT, hb, h256⟩ := id hG
  have hF0 : Fx [15] [17] [] [] M (mJ (mI M 15 (nI (tS G p))) 17 0) := ((Fx.i 15 _).tr (Fx.j 17 _)).le (by simp) (by simp) (by simp) (by simp)
  have go : ∀ v : Int32, v = nI (tK G p) → w_X12_next_b114 q (ov S o ad (mJ (mI M 15 (nI (tS G p))) 17 0)) o v o := by
    rintro _ rfl
    exact x_n114 hd (tpM_fx hF0 hG (by simp)) (by simp [mJ_1, mI_1, e14]) (by simp [mJ_1, mI_1]) (by simp [mJ_2]; rfl) hs (fun N hF ht => h N ((hF0.tr hF).le (by simp) (by simp) (by simp) (by simp)) ht)
  unfold w_X12_next_b46
  simp (disch := decide) only [oi_gI, oi_gJ, oi_gP, oi_pI, oi_pZ, oi_pJ, oi_oK, oi_aI hd, oi_aZ hd, oi_aJ hd, oi_sI hd, oi_sZ hd, oi_sJ hd, mI_1, mI_2, mJ_1, mJ_2, mJ_3, mA_1, mA_2, mA_3, mA_4, mL_1, mL_2, mL_3, mL_4, mK, Nat.reduceEqDiff, if_true, if_false, ite_true, ite_false, true_and, Nat.reduceLT, reduceIte, reduceCtorEq, cl_0, cl_1, cl_2, cl_3, cl_4, cl_5, cl_6, cl_7, cl_8, cl_9, cl_10, cl_11, cl_12, cl_13, cl_14, cl_15, vl_0_5585, vl_1_5585, vl_2_5585, vl_3_5585, vl_4_5585, vl_5_5585, vl_6_5585, vl_0_7, vl_1_7, vl_2_7, vl_3_7, vl_4_7, vl_5_7, vl_6_7]
  rw [e14, n13, nI_eq (by omega) (by omega), nI_clamp (by omega)]
  have hc := h256 (tS G p)
  refine ⟨fun c => ⟨vp_in_nI (by omega) (by omega), ?_⟩, fun c => go 0 ?_⟩
  · rw [hb (tS G p) (by omega)]
    refine s_isSmall (fun c2 => ⟨fun z => absurd z (by decide), fun _ => go 1 ?_⟩) (fun c2 => ⟨fun _ => ?_, fun z => absurd rfl z⟩)
    · unfold tK
      rw [if_neg (by omega), if_pos ((isSm_n hc).mp c2)]
      rfl
    · simp (disch := decide) only [oi_gI, oi_gJ, oi_gP, oi_pI, oi_pZ, oi_pJ, oi_oK, oi_aI hd, oi_aZ hd, oi_aJ hd, oi_sI hd, oi_sZ hd, oi_sJ hd, mI_1, mI_2, mJ_1, mJ_2, mJ_3, mA_1, mA_2, mA_3, mA_4, mL_1, mL_2, mL_3, mL_4, mK, Nat.reduceEqDiff, if_true, if_false, ite_true, ite_false, true_and, Nat.reduceLT, reduceIte, reduceCtorEq, cl_0, cl_1, cl_2, cl_3, cl_4, cl_5, cl_6, cl_7, cl_8, cl_9, cl_10, cl_11, cl_12, cl_13, cl_14, cl_15, vl_0_5585, vl_1_5585, vl_2_5585, vl_3_5585, vl_4_5585, vl_5_5585, vl_6_5585, vl_0_7, vl_1_7, vl_2_7, vl_3_7, vl_4_7, vl_5_7, vl_6_7]
      rw [e14, nI_clamp (by omega)]
      refine ⟨vp_in_nI (by omega) (by omega), ?_⟩
      rw [hb (tS G p) (by omega)]
      have c2' : ¬ isLn (G.1 (tS G p)) = true := fun z => c2 ((isSm_n hc).mpr z)
      refine s_isDigit (fun c3 => ⟨fun z => absurd z (by decide), fun _ => go 2 ?_⟩) (fun c3 => ⟨fun _ => go 3 ?_, fun z => absurd rfl z⟩)
      · unfold tK
        rw [if_neg (by omega), if_neg c2', if_pos ((isDg_n hc).mp c3)]
        rfl
      · unfold tK
        rw [if_neg (by omega), if_neg c2', if_neg (fun z => c3 ((isDg_n hc).mpr z))]
        rfl
  · unfold tK
    rw [if_pos (by omega)]
    rfl
theorem x_next (hd : mD o ad) {q : hS → Prop} {p : Nat} (hG : tpM G M) (e15 : M.1 15 = nI p) (hp : p ≤ G.2) (h : ∀ N, Fx [14, 15, 16] [17] [] [] M N → tokAt G p N → q (ov S o ad N)) : w_X12_next q (ov S o ad M) o := by
  unfold w_X12_next
  simp (disch := decide) only [oi_gI, oi_gJ, oi_gP, oi_pI, oi_pZ, oi_pJ, oi_oK, oi_aI hd, oi_aZ hd, oi_aJ hd, oi_sI hd, oi_sZ hd, oi_sJ hd, mI_1, mI_2, mJ_1, mJ_2, mJ_3, mA_1, mA_2, mA_3, mA_4, mL_1, mL_2, mL_3, mL_4, mK, Nat.reduceEqDiff, if_true, if_false, ite_true, ite_false, true_and, Nat.reduceLT, reduceIte, reduceCtorEq, cl_0, cl_1, cl_2, cl_3, cl_4, cl_5, cl_6, cl_7, cl_8, cl_9, cl_10, cl_11, cl_12, cl_13, cl_14, cl_15, vl_0_5585, vl_1_5585, vl_2_5585, vl_3_5585, vl_4_5585, vl_5_5585, vl_6_5585, vl_0_7, vl_1_7, vl_2_7, vl_3_7, vl_4_7, vl_5_7, vl_6_7]
  rw [e15]
  refine loop_m (σ := mS × Nat) (fun n s => w_X12_next_b8 q n (ov S o ad s.1) o) (fun s => Fx [14] [] [] [] M s.1 ∧ s.1.1 14 = nI s.2 ∧ s.2 ≤ G.2 ∧ ru isBn G s.2 = tS G p) (fun s => G.2 - s.2) ?_ (_, p) ⟨Fx.i 14 _, by simp [mI_1], hp, rfl⟩
  rintro n ⟨N, u⟩ ⟨hF, e, h1, h2⟩ ih
  dsimp only at hF e h1 h2 ih ⊢
  have hGN := tpM_fx hF hG (by simp)
  obtain ⟨n13, hT, hb, h256⟩ := id hGN
  have fin : ru isBn G u = u → w_X12_next_b46 q (ov S o ad N) o := by
    intro z
    rw [z] at h2
    exact x_n46 hd hGN (by rw [e, h2]) hp (fun P hF' ht' => h P ((hF.tr hF').le (by simp) (by simp) (by simp) (by simp)) ht')
  rw [w_X12_next_b8]
  simp (disch := decide) only [oi_gI, oi_gJ, oi_gP, oi_pI, oi_pZ, oi_pJ, oi_oK, oi_aI hd, oi_aZ hd, oi_aJ hd, oi_sI hd, oi_sZ hd, oi_sJ hd, mI_1, mI_2, mJ_1, mJ_2, mJ_3, mA_1, mA_2, mA_3, mA_4, mL_1, mL_2, mL_3, mL_4, mK, Nat.reduceEqDiff, if_true, if_false, ite_true, ite_false, true_and, Nat.reduceLT, reduceIte, reduceCtorEq, cl_0, cl_1, cl_2, cl_3, cl_4, cl_5, cl_6, cl_7, cl_8, cl_9, cl_10, cl_11, cl_12, cl_13, cl_14, cl_15, vl_0_5585, vl_1_5585, vl_2_5585, vl_3_5585, vl_4_5585, vl_5_5585, vl_6_5585, vl_0_7, vl_1_7, vl_2_7, vl_3_7, vl_4_7, vl_5_7, vl_6_7]
  rw [e, n13, nI_leI (by omega) (by omega), nI_1, nI_clamp (by omega)]
  refine ⟨fun c => fin (ru_end c), fun c => ⟨vp_in_nI (by omega) (by omega), ?_⟩⟩
  rw [hb u (by omega), lit_nI 32, nI_eq (by have := h256 u; omega) (by omega)]
  refine ⟨fun c2 => fin (ru_no (fun z => c2 (by unfold isBn at z; exact of_decide_eq_true z))), fun c2 => ?_⟩
  refine ih (_, u + 1) ⟨(hF.tr (Fx.i 14 _)).le (by simp) (by simp) (by simp) (by simp), by simp [mI_1], by dsimp only; omega, ?_⟩ (by dsimp only; omega)
  dsimp only
  rw [← h2]
  exact (ru_go (by omega) (by unfold isBn; exact decide_eq_true c2)).symm
end RX
