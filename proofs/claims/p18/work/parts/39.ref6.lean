/-! LAYER 2, the reference: more calls -/
section REF8
variable {S : hS} {o : Nat} {ad : Nat → Nat} {M : mS} {mT : mS}
theorem s_in01 {q : Int32 → hS → Prop} {T : hS} {a lo hi : Int64} (h1 : q 1 T) (h0 : q 0 T) : w_X12_in q T a lo hi := s_in (fun _ _ => h1) (fun _ => h0)
theorem rg_in {z : Int32} (m : Nat) (hm : m < 2 ^ 31) (h1 : 0 ≤ z.toInt) (h2 : z.toInt < m) : ∃ n : Nat, n < m ∧ z = nI n := by
  obtain ⟨n, h3, h4, -⟩ := rg_nI (z := z) (a := 0) (b := m - 1) ⟨h1, by omega⟩ (by omega) (by omega)
  exact ⟨n, by omega, h4⟩
theorem p_rust (hM : mOk mT M) {q : Int32 → hS → Prop} (h : ∀ N, mOk mT N → q (M.1 11) (ov S o ad N)) : w_X12_rust q (ov S o ad M) o := by
  unfold w_X12_rust
  simp (disch := decide) only [oi_pI, oi_gI]
  exact h _ (mOk_i hM (by omega))
theorem p_fault (hM : mOk mT M) {q : Int32 → hS → Prop} (h : ∀ r N, mOk mT N → q r (ov S o ad N)) : w_X12_fault q (ov S o ad M) o := by
  unfold w_X12_fault
  simp (disch := decide) only [oi_pI, oi_gI]
  exact h _ _ (mOk_i hM (by omega))
theorem p_status (hM : mOk mT M) {q : Int32 → hS → Prop} (h : ∀ r N, mOk mT N → q r (ov S o ad N)) : w_X12_status q (ov S o ad M) o := by
  unfold w_X12_status
  simp (disch := decide) only [oi_pI, oi_gI]
  exact h _ _ (mOk_i hM (by omega))
theorem p_stopped (hM : mOk mT M) {q : Int32 → hS → Prop} (h : ∀ r N, mOk mT N → q r (ov S o ad N)) : w_X12_stopped q (ov S o ad M) o := by
  unfold w_X12_stopped
  simp (disch := decide) only [oi_pI, oi_gI]
  exact h _ _ (mOk_i hM (by omega))
theorem p_of (hd : mD o ad) (hM : mOk mT M) {q : Int32 → hS → Prop} {a b : Int32} (h : ∀ r N, mOk mT N → q r (ov S o ad N)) : w_X12_of q (ov S o ad M) o a b := by
  have hM0 : mOk mT (mI M 0 0) := mOk_i hM (by omega)
  unfold w_X12_of
  simp (disch := decide) only [oi_gI, oi_gJ, oi_gP, oi_pI, oi_pZ, oi_pJ, oi_oK, oi_aI hd, oi_aZ hd, oi_aJ hd, oi_sI hd, oi_sZ hd, oi_sJ hd, mI_1, mI_2, mJ_1, mJ_2, mJ_3, mA_1, mA_2, mA_3, mA_4, mL_1, mL_2, mL_3, mL_4, mK, Nat.reduceEqDiff, if_true, if_false, ite_true, ite_false, true_and, Nat.reduceLT, reduceIte, reduceCtorEq, cl_0, cl_1, cl_2, cl_3, cl_4, cl_5, cl_6, cl_7, cl_8, cl_9, cl_10, cl_11, cl_12, cl_13, cl_14, cl_15, vl_0_5585, vl_1_5585, vl_2_5585, vl_3_5585, vl_4_5585, vl_5_5585, vl_6_5585, vl_0_7, vl_1_7, vl_2_7, vl_3_7, vl_4_7, vl_5_7, vl_6_7]
  refine s_isPerson hd (fun h1 h2 => ⟨fun _ => ?_, fun z => absurd z (by decide)⟩) (fun _ => ⟨fun z => absurd rfl z, fun _ => h _ _ hM0⟩)
  have := hM0.1.2.1.2
  obtain ⟨p, hp, rfl⟩ := rg_in 8 (by omega) h1 (by omega)
  intro y _
  simp (disch := decide) only [oi_gI, oi_gJ, oi_gP, oi_pI, oi_pZ, oi_pJ, oi_oK, oi_aI hd, oi_aZ hd, oi_aJ hd, oi_sI hd, oi_sZ hd, oi_sJ hd, mI_1, mI_2, mJ_1, mJ_2, mJ_3, mA_1, mA_2, mA_3, mA_4, mL_1, mL_2, mL_3, mL_4, mK, Nat.reduceEqDiff, if_true, if_false, ite_true, ite_false, true_and, Nat.reduceLT, reduceIte, reduceCtorEq, cl_0, cl_1, cl_2, cl_3, cl_4, cl_5, cl_6, cl_7, cl_8, cl_9, cl_10, cl_11, cl_12, cl_13, cl_14, cl_15, vl_0_5585, vl_1_5585, vl_2_5585, vl_3_5585, vl_4_5585, vl_5_5585, vl_6_5585, vl_0_7, vl_1_7, vl_2_7, vl_3_7, vl_4_7, vl_5_7, vl_6_7]
  rw [lit_nI 138, lit_nI 146, lit_nI 14, lit_nI 154, lit_nI 162, nIadd, nIadd, nIadd, nIadd, nIadd]
  exact ⟨fun _ => ⟨vp_in_nI (by omega) (by omega), h _ _ hM0⟩, fun _ => ⟨vp_in_nI (by omega) (by omega), h _ _ hM0⟩, fun _ => ⟨vp_in_nI (by omega) (by omega), h _ _ hM0⟩, fun _ => ⟨vp_in_nI (by omega) (by omega), h _ _ hM0⟩, fun _ => ⟨vp_in_nI (by omega) (by omega), h _ _ hM0⟩, fun _ => s_lives hd hp (fun _ => ⟨fun _ => h _ _ hM0, fun _ => h _ _ hM0⟩) (fun _ => ⟨fun _ => h _ _ hM0, fun _ => h _ _ hM0⟩), fun _ => h _ _ hM0⟩
theorem p_want24 (hd : mD o ad) (hM : mOk mT M) {q : Int32 → hS → Prop} {a b : Int32} (hb : rg b (-1) 5) (h2 : ¬ (0 ≤ a.toInt ∧ a.toInt < (M.2.2.1 3 1).toInt) → ∀ N, mOk mT N → q (-2) (ov S o ad N)) (h : (0 ≤ a.toInt ∧ a.toInt < (M.2.2.1 3 1).toInt) → ∀ N, mOk mT N → q 0 (ov S o ad N)) : w_X12_want_b24 q (ov S o ad M) o a b := by
  unfold w_X12_want_b24
  refine ⟨ov_oK, s_isPerson hd (fun h1 h2 => ⟨fun _ => ?_, fun z => absurd z (by decide)⟩) (fun np => ⟨fun z => absurd rfl z, fun _ => ⟨ov_oK, g_tell hd hM (by decide) (h2 np)⟩⟩)⟩
  have hp' := And.intro h1 h2
  have := hM.1.2.1.2
  obtain ⟨p, hp, rfl⟩ := rg_in 8 (by omega) h1 (by omega)
  simp (disch := decide) only [oi_gI, oi_gJ, oi_gP, oi_pI, oi_pZ, oi_pJ, oi_oK, oi_aI hd, oi_aZ hd, oi_aJ hd, oi_sI hd, oi_sZ hd, oi_sJ hd, mI_1, mI_2, mJ_1, mJ_2, mJ_3, mA_1, mA_2, mA_3, mA_4, mL_1, mL_2, mL_3, mL_4, mK, Nat.reduceEqDiff, if_true, if_false, ite_true, ite_false, true_and, Nat.reduceLT, reduceIte, reduceCtorEq, cl_0, cl_1, cl_2, cl_3, cl_4, cl_5, cl_6, cl_7, cl_8, cl_9, cl_10, cl_11, cl_12, cl_13, cl_14, cl_15, vl_0_5585, vl_1_5585, vl_2_5585, vl_3_5585, vl_4_5585, vl_5_5585, vl_6_5585, vl_0_7, vl_1_7, vl_2_7, vl_3_7, vl_4_7, vl_5_7, vl_6_7]
  rw [lit_nI 154, nIadd, nI_clamp (by omega)]
  exact ⟨vp_in_nI (by omega) (by omega), g_tell hd (mOk_r hM (rowOk_upd hM.1 (by omega) (by omega) (fun e => by omega) (fun e => by omega) (fun e => by omega) (fun e => by omega) (fun e => by omega) (fun _ _ => hb) (fun e => by omega) (by unfold rTk; omega))) (by decide) (h hp')⟩
theorem p_want (hd : mD o ad) (hM : mOk mT M) {q : Int32 → hS → Prop} {a b : Int32} (h1 : ¬ (b = -1 ∨ (0 ≤ b.toInt ∧ b.toInt < (M.2.2.1 3 0).toInt)) → ∀ N, mOk mT N → q (-1) (ov S o ad N)) (h2 : (b = -1 ∨ (0 ≤ b.toInt ∧ b.toInt < (M.2.2.1 3 0).toInt)) → ¬ (0 ≤ a.toInt ∧ a.toInt < (M.2.2.1 3 1).toInt) → ∀ N, mOk mT N → q (-2) (ov S o ad N)) (h : (b = -1 ∨ (0 ≤ b.toInt ∧ b.toInt < (M.2.2.1 3 0).toInt)) → (0 ≤ a.toInt ∧ a.toInt < (M.2.2.1 3 1).toInt) → ∀ N, mOk mT N → q 0 (ov S o ad N)) : w_X12_want q (ov S o ad M) o a b := by
  have hM0 : mOk mT (mI M 0 0) := mOk_i hM (by omega)
  unfold w_X12_want
  simp (disch := decide) only [oi_gI, oi_gJ, oi_gP, oi_pI, oi_pZ, oi_pJ, oi_oK, oi_aI hd, oi_aZ hd, oi_aJ hd, oi_sI hd, oi_sZ hd, oi_sJ hd, mI_1, mI_2, mJ_1, mJ_2, mJ_3, mA_1, mA_2, mA_3, mA_4, mL_1, mL_2, mL_3, mL_4, mK, Nat.reduceEqDiff, if_true, if_false, ite_true, ite_false, true_and, Nat.reduceLT, reduceIte, reduceCtorEq, cl_0, cl_1, cl_2, cl_3, cl_4, cl_5, cl_6, cl_7, cl_8, cl_9, cl_10, cl_11, cl_12, cl_13, cl_14, cl_15, vl_0_5585, vl_1_5585, vl_2_5585, vl_3_5585, vl_4_5585, vl_5_5585, vl_6_5585, vl_0_7, vl_1_7, vl_2_7, vl_3_7, vl_4_7, vl_5_7, vl_6_7]
  refine ⟨fun e => p_want24 hd hM0 (by rw [e]; exact ⟨by decide, by decide⟩) (h2 (Or.inl e)) (h (Or.inl e)), fun ne => s_isHouse hd (fun h3 h4 => ⟨fun _ => p_want24 hd hM0 ⟨by omega, ?_⟩ (h2 (Or.inr ⟨h3, h4⟩)) (h (Or.inr ⟨h3, h4⟩)), fun z => absurd z (by decide)⟩) (fun nh => ⟨fun z => absurd rfl z, fun _ => ⟨ov_oK, g_tell hd hM0 (by decide) (h1 (fun z => z.elim ne nh))⟩⟩)⟩
  have b1 := hM0.1.1.2
  omega
theorem sl8 : ∀ n, n < 9 → (((1 : Int64) <<< (Int32.toInt64 (nI n) &&& 63)) - 1).toInt = (2 : Int) ^ n - 1 := by decide +kernel
/-- a bit of an int, as both ask for it -/
def btI (x k : Int32) : Prop := ((x >>> (k &&& 31)) &&& 1) = 1
theorem p_will (hd : mD o ad) (hM : mOk M M) {q : Int32 → hS → Prop} {a b : Int32} {n : Nat} (hn9 : n ≤ 8) (en : M.2.2.1 3 1 = nI n) (h1 : ¬ (0 ≤ b.toInt ∧ b.toInt < 2 ^ n) ∨ ((0 ≤ a.toInt ∧ a.toInt ≤ 7) ∧ btI b a) → ∀ N, mOk M N → q (-1) (ov S o ad N)) (h2 : (0 ≤ b.toInt ∧ b.toInt < 2 ^ n) → ¬ ((0 ≤ a.toInt ∧ a.toInt ≤ 7) ∧ btI b a) → ¬ (0 ≤ a.toInt ∧ a.toInt < n) → ∀ N, mOk M N → q (-2) (ov S o ad N)) (h : (0 ≤ b.toInt ∧ b.toInt < 2 ^ n) → ¬ ((0 ≤ a.toInt ∧ a.toInt ≤ 7) ∧ btI b a) → ∀ p, p < n → a = nI p → ∀ N, mOk (mA M 3 (upd (M.2.2.1 3) (162 + p) b)) N → q (M.2.2.1 3 (162 + p)) (ov S o ad N)) : w_X12_will q (ov S o ad M) o a b := by
  have hM0 : mOk M (mI M 0 0) := mOk_i hM (by omega)
  have k44 : ¬ (0 ≤ b.toInt ∧ b.toInt < 2 ^ n) ∨ ((0 ≤ a.toInt ∧ a.toInt ≤ 7) ∧ btI b a) → w_X12_will_b44 q (ov S o ad (mI M 0 0)) o := fun hb => ⟨ov_oK, g_tell hd hM0 (by decide) (h1 hb)⟩
  have k50 : (0 ≤ b.toInt ∧ b.toInt < 2 ^ n) → ¬ ((0 ≤ a.toInt ∧ a.toInt ≤ 7) ∧ btI b a) → w_X12_will_b50 q (ov S o ad (mI M 0 0)) o a b := by
    intro hb hnb
    have e1 : ((mI M 0 0).2.2.1 3 1).toInt = n := by
      show (M.2.2.1 3 1).toInt = n
      rw [en, nI_toInt (by omega)]
    refine ⟨ov_oK, s_isPerson hd (fun h3 h4 => ⟨fun z => absurd z (by decide), fun _ => ⟨ov_oK, ?_⟩⟩) (fun np => ⟨fun _ => ⟨ov_oK, g_tell hd hM0 (by decide) (h2 hb hnb (by rw [e1] at np; exact np))⟩, fun z => absurd rfl z⟩)⟩
    rw [e1] at h4
    obtain ⟨p, hp, rfl⟩ := rg_in n (by omega) h3 h4
    rw [lit_nI 162, nIadd]
    refine f_change hd (by omega) (fun N hF e => h hb hnb p hp rfl N ?_)
    have h1' := mOk_rT (f := upd ((mI M 0 0).2.2.1 3) (162 + p) b) hM0 (rowOk_updT (i := 162 + p) (v := b) hM0.1 (by omega) (by omega) (fun e => by omega) (fun e => by omega) (fun e => by omega) (fun e => by omega) (fun e => by omega) (fun e => by omega) (fun e => by omega))
    have hF' : Fx [1] [] [3] [] (mA (mI M 0 0) 3 (upd ((mI M 0 0).2.2.1 3) (162 + p) b)) N := ⟨hF.1, hF.2.1, fun k hk => by rw [hF.2.2.1 k hk, mA_3, if_neg (by simpa using hk)], hF.2.2.2⟩
    exact mOk_row hF' h1' (by rw [e]; exact h1'.1) (by simp)
  unfold w_X12_will
  simp (disch := decide) only [oi_gI, oi_gJ, oi_gP, oi_pI, oi_pZ, oi_pJ, oi_oK, oi_aI hd, oi_aZ hd, oi_aJ hd, oi_sI hd, oi_sZ hd, oi_sJ hd, mI_1, mI_2, mJ_1, mJ_2, mJ_3, mA_1, mA_2, mA_3, mA_4, mL_1, mL_2, mL_3, mL_4, mK, Nat.reduceEqDiff, if_true, if_false, ite_true, ite_false, true_and, Nat.reduceLT, reduceIte, reduceCtorEq, cl_0, cl_1, cl_2, cl_3, cl_4, cl_5, cl_6, cl_7, cl_8, cl_9, cl_10, cl_11, cl_12, cl_13, cl_14, cl_15, vl_0_5585, vl_1_5585, vl_2_5585, vl_3_5585, vl_4_5585, vl_5_5585, vl_6_5585, vl_0_7, vl_1_7, vl_2_7, vl_3_7, vl_4_7, vl_5_7, vl_6_7]
  rw [en]
  refine s_inI 0 (2 ^ n - 1) (by decide) (sl8 n (by omega)) (fun x1 x2 => ⟨fun z => absurd z (by decide), fun _ => s_inI 0 7 (by decide) (by decide) (fun y1 y2 => ⟨fun z => absurd z (by decide), fun _ => ⟨fun nb => ⟨fun _ => k50 ⟨x1, by omega⟩ (fun z => nb z.2), fun z => absurd rfl z⟩, fun bt => ⟨fun z => absurd z (by decide), fun _ => k44 (Or.inr ⟨⟨y1, y2⟩, bt⟩)⟩⟩⟩) (fun ny => ⟨fun _ => k50 ⟨x1, by omega⟩ (fun z => ny z.1), fun z => absurd rfl z⟩)⟩) (fun nx => ⟨fun _ => k44 (Or.inl (fun z => nx ⟨z.1, by omega⟩)), fun z => absurd rfl z⟩)
theorem mOk_u0 (hM : mOk mT M) : mOk mT (mI M 8 0) := by
  refine mOk_und (Fx.i 8 0) hM ?_ hM.2.2.1 hM.2.2.2.2.1 hM.1 (by simp)
  show rg 0 0 16
  exact ⟨by decide, by decide⟩
theorem p_right (hd : mD o ad) (hM : mOk mT M) {q : Int32 → hS → Prop} {a b c : Int32} (h : ∀ r N, mOk mT N → q r (ov S o ad N)) : w_X12_right q (ov S o ad M) o a b c := by
  have hM0 : mOk mT (mI M 0 0) := mOk_i hM (by omega)
  have hM8 := mOk_u0 hM0
  have k39 : w_X12_right_b39 q (ov S o ad (mI M 0 0)) o := ⟨ov_oK, g_tell hd hM0 (by decide) (h _)⟩
  have k72 : w_X12_right_b72 q (ov S o ad (mI M 0 0)) o := ⟨ov_oK, g_tell hd hM0 (by decide) (h _)⟩
  unfold w_X12_right
  simp (disch := decide) only [oi_gI, oi_gJ, oi_gP, oi_pI, oi_pZ, oi_pJ, oi_oK, oi_aI hd, oi_aZ hd, oi_aJ hd, oi_sI hd, oi_sZ hd, oi_sJ hd, mI_1, mI_2, mJ_1, mJ_2, mJ_3, mA_1, mA_2, mA_3, mA_4, mL_1, mL_2, mL_3, mL_4, mK, Nat.reduceEqDiff, if_true, if_false, ite_true, ite_false, true_and, Nat.reduceLT, reduceIte, reduceCtorEq, cl_0, cl_1, cl_2, cl_3, cl_4, cl_5, cl_6, cl_7, cl_8, cl_9, cl_10, cl_11, cl_12, cl_13, cl_14, cl_15, vl_0_5585, vl_1_5585, vl_2_5585, vl_3_5585, vl_4_5585, vl_5_5585, vl_6_5585, vl_0_7, vl_1_7, vl_2_7, vl_3_7, vl_4_7, vl_5_7, vl_6_7]
  refine s_in01 ⟨fun _ => ⟨ov_oK, s_isPerson hd (fun h1 h2 => ⟨fun z => absurd z (by decide), fun _ => ⟨ov_oK, s_isHouse hd (fun h3 h4 => ⟨fun _ => ⟨ov_oK, ?_⟩, fun z => absurd z (by decide)⟩) (fun _ => ⟨fun z => absurd rfl z, fun _ => k39⟩)⟩⟩) (fun _ => ⟨fun _ => k39, fun z => absurd rfl z⟩)⟩, fun z => absurd z (by decide)⟩ ⟨fun z => absurd rfl z, fun _ => ⟨ov_oK, g_tell hd hM0 (by decide) (h _)⟩⟩
  have b1 := hM0.1.2.1.2
  have b2 := hM0.1.1.2
  obtain ⟨p, hp, rfl⟩ := rg_in 8 (by omega) h1 (by omega)
  obtain ⟨e, he, rfl⟩ := rg_in 6 (by omega) h3 (by omega)
  refine s_lives hd hp (fun _ => ⟨fun z => absurd z (by decide), fun _ => ?_⟩) (fun _ => ⟨fun _ => k72, fun z => absurd rfl z⟩)
  simp (disch := decide) only [oi_gI, oi_gJ, oi_gP, oi_pI, oi_pZ, oi_pJ, oi_oK, oi_aI hd, oi_aZ hd, oi_aJ hd, oi_sI hd, oi_sZ hd, oi_sJ hd, mI_1, mI_2, mJ_1, mJ_2, mJ_3, mA_1, mA_2, mA_3, mA_4, mL_1, mL_2, mL_3, mL_4, mK, Nat.reduceEqDiff, if_true, if_false, ite_true, ite_false, true_and, Nat.reduceLT, reduceIte, reduceCtorEq, cl_0, cl_1, cl_2, cl_3, cl_4, cl_5, cl_6, cl_7, cl_8, cl_9, cl_10, cl_11, cl_12, cl_13, cl_14, cl_15, vl_0_5585, vl_1_5585, vl_2_5585, vl_3_5585, vl_4_5585, vl_5_5585, vl_6_5585, vl_0_7, vl_1_7, vl_2_7, vl_3_7, vl_4_7, vl_5_7, vl_6_7]
  rw [lit_nI 78, lit_nI 30, lit_nI 6, nImul, nIadd, nIadd, nIadd, nIadd]
  refine ⟨vp_in_nI (by omega) (by omega), fun _ => f_change hd (by omega) (fun N hF e => h _ N (mOk_row hF hM8 (by rw [e]; exact rowOk_free (by unfold rCon; omega) hM8.1) (by simp))), fun _ => k72⟩
theorem p_terms60 (hd : mD o ad) (hM : mOk mT M) {q : Int32 → hS → Prop} {a : Nat} {b t : Int32} (ha : a < 3) (ht : ¬ t = 0 → a = 0 → rg b 0 999) (h : ∀ r N, mOk mT N → q r (ov S o ad N)) : w_X12_terms_b60 q (ov S o ad M) o (nI a) b t := by
  have hM8 := mOk_u0 hM
  unfold w_X12_terms_b60
  simp (disch := decide) only [oi_gI, oi_gJ, oi_gP, oi_pI, oi_pZ, oi_pJ, oi_oK, oi_aI hd, oi_aZ hd, oi_aJ hd, oi_sI hd, oi_sZ hd, oi_sJ hd, mI_1, mI_2, mJ_1, mJ_2, mJ_3, mA_1, mA_2, mA_3, mA_4, mL_1, mL_2, mL_3, mL_4, mK, Nat.reduceEqDiff, if_true, if_false, ite_true, ite_false, true_and, Nat.reduceLT, reduceIte, reduceCtorEq, cl_0, cl_1, cl_2, cl_3, cl_4, cl_5, cl_6, cl_7, cl_8, cl_9, cl_10, cl_11, cl_12, cl_13, cl_14, cl_15, vl_0_5585, vl_1_5585, vl_2_5585, vl_3_5585, vl_4_5585, vl_5_5585, vl_6_5585, vl_0_7, vl_1_7, vl_2_7, vl_3_7, vl_4_7, vl_5_7, vl_6_7]
  rw [lit_nI 5, nIadd]
  refine ⟨fun c => f_change hd (by omega) (fun N hF e => h _ N (mOk_row hF hM8 ?_ (by simp))), fun _ => g_tell hd hM (by decide) (h _)⟩
  rw [e]
  exact rowOk_upd hM8.1 (by omega) (by omega) (fun e => by omega) (fun e => by omega) (fun e => by omega) (fun e => by omega) (fun e => ht c (by omega)) (fun e => by omega) (fun e => by omega) (by unfold rTk; omega)
theorem p_terms (hd : mD o ad) (hM : mOk mT M) {q : Int32 → hS → Prop} {a b : Int32} (h : ∀ r N, mOk mT N → q r (ov S o ad N)) : w_X12_terms q (ov S o ad M) o a b := by
  have hM0 : mOk mT (mI M 0 0) := mOk_i hM (by omega)
  have k59 : w_X12_terms_b59 q (ov S o ad (mI M 0 0)) o a b := by
    unfold w_X12_terms_b59 w_X12_terms_b60
    exact ⟨fun z => absurd rfl z, fun _ => ⟨ov_oK, g_tell hd hM0 (by decide) (h _)⟩⟩
  unfold w_X12_terms
  simp (disch := decide) only [oi_gI, oi_gJ, oi_gP, oi_pI, oi_pZ, oi_pJ, oi_oK, oi_aI hd, oi_aZ hd, oi_aJ hd, oi_sI hd, oi_sZ hd, oi_sJ hd, mI_1, mI_2, mJ_1, mJ_2, mJ_3, mA_1, mA_2, mA_3, mA_4, mL_1, mL_2, mL_3, mL_4, mK, Nat.reduceEqDiff, if_true, if_false, ite_true, ite_false, true_and, Nat.reduceLT, reduceIte, reduceCtorEq, cl_0, cl_1, cl_2, cl_3, cl_4, cl_5, cl_6, cl_7, cl_8, cl_9, cl_10, cl_11, cl_12, cl_13, cl_14, cl_15, vl_0_5585, vl_1_5585, vl_2_5585, vl_3_5585, vl_4_5585, vl_5_5585, vl_6_5585, vl_0_7, vl_1_7, vl_2_7, vl_3_7, vl_4_7, vl_5_7, vl_6_7]
  refine ⟨fun _ => ⟨fun _ => ⟨fun _ => k59, fun e => ?_⟩, fun e => ?_⟩, fun e => ?_⟩
  · subst e
    exact s_in01 ⟨fun z => absurd z (by decide), fun _ => p_terms60 hd hM0 (a := 2) (by omega) (fun _ z => by omega) h⟩ ⟨fun _ => k59, fun z => absurd rfl z⟩
  · subst e
    exact s_in01 (p_terms60 hd hM0 (a := 1) (by omega) (fun _ z => by omega) h) (p_terms60 hd hM0 (a := 1) (by omega) (fun _ z => by omega) h)
  · subst e
    refine s_in (fun x y => p_terms60 hd hM0 (a := 0) (by omega) (fun _ _ => ?_) h) (fun _ => p_terms60 hd hM0 (a := 0) (by omega) (fun z => absurd rfl z) h)
    rw [i64toInt] at x y
    exact ⟨by simpa using x, by simpa using y⟩
theorem p_forget (hd : mD o ad) (hM : mOk M M) {q : Int32 → hS → Prop} (h : ∀ N, mOk (mA M 3 (upd (M.2.2.1 3) 2 0)) N → q (M.2.2.1 3 2) (ov S o ad N)) : w_X12_forget q (ov S o ad M) o := by
  have hM0 : mOk M (mI M 0 0) := mOk_i hM (by omega)
  unfold w_X12_forget
  simp (disch := decide) only [oi_gI, oi_gJ, oi_gP, oi_pI, oi_pZ, oi_pJ, oi_oK, oi_aI hd, oi_aZ hd, oi_aJ hd, oi_sI hd, oi_sZ hd, oi_sJ hd, mI_1, mI_2, mJ_1, mJ_2, mJ_3, mA_1, mA_2, mA_3, mA_4, mL_1, mL_2, mL_3, mL_4, mK, Nat.reduceEqDiff, if_true, if_false, ite_true, ite_false, true_and, Nat.reduceLT, reduceIte, reduceCtorEq, cl_0, cl_1, cl_2, cl_3, cl_4, cl_5, cl_6, cl_7, cl_8, cl_9, cl_10, cl_11, cl_12, cl_13, cl_14, cl_15, vl_0_5585, vl_1_5585, vl_2_5585, vl_3_5585, vl_4_5585, vl_5_5585, vl_6_5585, vl_0_7, vl_1_7, vl_2_7, vl_3_7, vl_4_7, vl_5_7, vl_6_7]
  exact h _ (mOk_rT hM0 (rowOk_updT hM0.1 (by omega) (by omega) (fun e => by omega) (fun e => by omega) (fun _ => ⟨by decide, by decide⟩) (fun e => by omega) (fun e => by omega) (fun e => by omega) (fun e => by omega)))
theorem p_clue (hd : mD o ad) (hM : mOk M M) {q : Int32 → hS → Prop} {a b : Int32} (g1 : ¬ (0 ≤ b.toInt ∧ b.toInt ≤ 99) → ∀ N, mOk M N → q (-1) (ov S o ad N)) (g2 : (0 ≤ b.toInt ∧ b.toInt ≤ 99) → ¬ (0 ≤ a.toInt ∧ a.toInt < (M.2.2.1 3 0).toInt) → ∀ N, mOk M N → q (-2) (ov S o ad N)) (g5 : (0 ≤ b.toInt ∧ b.toInt ≤ 99) → (0 ≤ a.toInt ∧ a.toInt < (M.2.2.1 3 0).toInt) → M.2.2.1 3 2 = 6 → ∀ N, mOk M N → q (-5) (ov S o ad N)) (h : (0 ≤ b.toInt ∧ b.toInt ≤ 99) → (0 ≤ a.toInt ∧ a.toInt < (M.2.2.1 3 0).toInt) → ∀ n, n < 6 → M.2.2.1 3 2 = nI n → ∀ N, mOk (mA M 3 (upd (M.2.2.1 3) 2 (nI (n + 1)))) N → q (nI (n + 1)) (ov S o ad N)) : w_X12_clue q (ov S o ad M) o a b := by
  have hM0 : mOk M (mI M 0 0) := mOk_i hM (by omega)
  unfold w_X12_clue
  simp (disch := decide) only [oi_gI, oi_gJ, oi_gP, oi_pI, oi_pZ, oi_pJ, oi_oK, oi_aI hd, oi_aZ hd, oi_aJ hd, oi_sI hd, oi_sZ hd, oi_sJ hd, mI_1, mI_2, mJ_1, mJ_2, mJ_3, mA_1, mA_2, mA_3, mA_4, mL_1, mL_2, mL_3, mL_4, mK, Nat.reduceEqDiff, if_true, if_false, ite_true, ite_false, true_and, Nat.reduceLT, reduceIte, reduceCtorEq, cl_0, cl_1, cl_2, cl_3, cl_4, cl_5, cl_6, cl_7, cl_8, cl_9, cl_10, cl_11, cl_12, cl_13, cl_14, cl_15, vl_0_5585, vl_1_5585, vl_2_5585, vl_3_5585, vl_4_5585, vl_5_5585, vl_6_5585, vl_0_7, vl_1_7, vl_2_7, vl_3_7, vl_4_7, vl_5_7, vl_6_7]
  refine s_inI 0 99 (by decide) (by decide) (fun b1 b2 => ⟨fun _ => ⟨ov_oK, s_isHouse hd (fun h1 h2 => ⟨fun _ => ?_, fun z => absurd z (by decide)⟩) (fun nh => ⟨fun z => absurd rfl z, fun _ => ⟨ov_oK, g_tell hd hM0 (by decide) (g2 ⟨b1, b2⟩ nh)⟩⟩)⟩, fun z => absurd z (by decide)⟩) (fun nb => ⟨fun z => absurd rfl z, fun _ => ⟨ov_oK, g_tell hd hM0 (by decide) (g1 nb)⟩⟩)
  have hbb := And.intro b1 b2
  have haa : 0 ≤ a.toInt ∧ a.toInt < (M.2.2.1 3 0).toInt := And.intro h1 h2
  have b2 := hM0.1.1.2
  simp (disch := decide) only [oi_gI, oi_gJ, oi_gP, oi_pI, oi_pZ, oi_pJ, oi_oK, oi_aI hd, oi_aZ hd, oi_aJ hd, oi_sI hd, oi_sZ hd, oi_sJ hd, mI_1, mI_2, mJ_1, mJ_2, mJ_3, mA_1, mA_2, mA_3, mA_4, mL_1, mL_2, mL_3, mL_4, mK, Nat.reduceEqDiff, if_true, if_false, ite_true, ite_false, true_and, Nat.reduceLT, reduceIte, reduceCtorEq, cl_0, cl_1, cl_2, cl_3, cl_4, cl_5, cl_6, cl_7, cl_8, cl_9, cl_10, cl_11, cl_12, cl_13, cl_14, cl_15, vl_0_5585, vl_1_5585, vl_2_5585, vl_3_5585, vl_4_5585, vl_5_5585, vl_6_5585, vl_0_7, vl_1_7, vl_2_7, vl_3_7, vl_4_7, vl_5_7, vl_6_7]
  obtain ⟨n, hn, en, -⟩ := rg_nI (b := 6) hM.1.2.2.1 (by omega) (by omega)
  rw [en]
  refine ⟨fun c => ?_, fun c => g_tell hd hM0 (by decide) (g5 hbb haa (en.trans c))⟩
  have hn6 : n < 6 := by
    have : n ≠ 6 := fun e => c (by rw [e]; rfl)
    omega
  simp (disch := decide) only [oi_gI, oi_gJ, oi_gP, oi_pI, oi_pZ, oi_pJ, oi_oK, oi_aI hd, oi_aZ hd, oi_aJ hd, oi_sI hd, oi_sZ hd, oi_sJ hd, mI_1, mI_2, mJ_1, mJ_2, mJ_3, mA_1, mA_2, mA_3, mA_4, mL_1, mL_2, mL_3, mL_4, mK, Nat.reduceEqDiff, if_true, if_false, ite_true, ite_false, true_and, Nat.reduceLT, reduceIte, reduceCtorEq, cl_0, cl_1, cl_2, cl_3, cl_4, cl_5, cl_6, cl_7, cl_8, cl_9, cl_10, cl_11, cl_12, cl_13, cl_14, cl_15, vl_0_5585, vl_1_5585, vl_2_5585, vl_3_5585, vl_4_5585, vl_5_5585, vl_6_5585, vl_0_7, vl_1_7, vl_2_7, vl_3_7, vl_4_7, vl_5_7, vl_6_7, mA_mA]
  rw [lit_nI 170, lit_nI 2, nImul, nIadd, nI_1, nI_1, nI_clamp (by omega), nI_clamp (by omega)]
  have hf := rowOk_free (i := 170 + 2 * n + 1) (v := b) (by unfold rCon; omega) (rowOk_upd (i := 170 + 2 * n) (v := a) hM0.1 (by omega) (by omega) (fun e => by omega) (fun e => by omega) (fun e => by omega) (fun e => by omega) (fun e => by omega) (fun e => by omega) (fun _ _ => ⟨h1, by omega⟩) (by unfold rTk; omega))
  have e2 : upd (upd ((mI M 0 0).2.2.1 3) (170 + 2 * n) a) (170 + 2 * n + 1) b 2 = nI n := by
    rw [upd_ne _ _ (by omega), upd_ne _ _ (by omega)]; exact en
  have c2 : (nI 2).toNatClampNeg = 2 := nI_clamp (by omega)
  simp only [mI_2] at hf e2
  try rw [c2]
  rw [e2, nI_1]
  refine ⟨vp_in_nI (by omega) (by omega), vp_in_nI (by omega) (by omega), g_tell hd (mOk_rT hM0 (rowOk_updT hf (by omega) (by omega) (fun e => by omega) (fun e => by omega) (fun _ => ⟨?_, ?_⟩) (fun e => by omega) (fun e => by omega) (fun e => by omega) (fun e => by omega))) ?_ (h hbb haa n hn6 en)⟩
  · rw [nI_toInt (by omega)]; omega
  · rw [nI_toInt (by omega)]; omega
  · rw [nI_toInt (by omega)]; omega
/-- image(k): 0, or -1 -/
theorem p_image (hd : mD o ad) (hM : mOk M M) {q : Int32 → hS → Prop} {k : Int32} (g1 : ¬ (0 ≤ k.toInt ∧ k.toInt ≤ 1) → ∀ N, mOk M N → q (-1) (ov S o ad N)) (h : ∀ j, j ≤ 1 → k = nI j → ∀ N f, (∀ i, i < 5585 → f (5585 * j + i) = M.2.2.1 3 i) → (∀ t, (t < 5585 * j ∨ 5585 * j + 5585 ≤ t) → f t = M.2.2.1 4 t) → mOk (mA (mA M 4 f) 5 (upd (M.2.2.1 5) j (vp_nar FieldType.boolean 1))) N → q 0 (ov S o ad N)) : w_X12_image q (ov S o ad M) o k := by
  unfold w_X12_image
  simp (disch := decide) only [oi_gI, oi_gJ, oi_gP, oi_pI, oi_pZ, oi_pJ, oi_oK, oi_aI hd, oi_aZ hd, oi_aJ hd, oi_sI hd, oi_sZ hd, oi_sJ hd, mI_1, mI_2, mJ_1, mJ_2, mJ_3, mA_1, mA_2, mA_3, mA_4, mL_1, mL_2, mL_3, mL_4, mK, Nat.reduceEqDiff, if_true, if_false, ite_true, ite_false, true_and, Nat.reduceLT, reduceIte, reduceCtorEq]
  refine s_in (fun a b => ⟨fun _ => ?_, fun z => absurd z (by decide)⟩) (fun a => ⟨fun z => absurd rfl z, fun _ => ⟨ov_oK, f_tell hd (by decide) (fun N hF => ?_)⟩⟩)
  · rw [i64toInt] at a b
    have a : 0 ≤ k.toInt := by simpa using a
    have b : k.toInt ≤ 1 := by simpa using b
    obtain ⟨j, hj, rfl, -⟩ := rg_nI (z := k) (a := 0) (b := 1) ⟨a, b⟩ (by omega) (by omega)
    have key := loop_m (σ := (Nat → Int32) × Nat) (fun n s => w_X12_image_b23 q n (ov S o ad (mA (mI M 0 0) 4 s.1)) o (nI j) (nI s.2)) (fun s => s.2 ≤ 5585 ∧ (∀ i, i < s.2 → s.1 (5585 * j + i) = M.2.2.1 3 i) ∧ ∀ t, (t < 5585 * j ∨ 5585 * j + 5585 ≤ t) → s.1 t = M.2.2.1 4 t) (fun s => 5585 - s.2) ?_ ((mI M 0 0).2.2.1 4, 0) ⟨Nat.zero_le _, fun i hi => absurd hi (Nat.not_lt_zero i), fun _ _ => rfl⟩
    · rw [mA_self] at key
      exact key
    rintro n ⟨f, i⟩ ⟨hi, h1, h2⟩ ih
    dsimp only at hi h1 h2 ih ⊢
    rw [w_X12_image_b23]
    refine ⟨fun c => ?_, fun c => ?_⟩
    · have : i = 5585 := by
        have := (nI_leI (a := 5585) (b := i) (by omega) (by omega)).mp c
        omega
      subst this
      simp (disch := decide) only [oi_gI, oi_gJ, oi_gP, oi_pI, oi_pZ, oi_pJ, oi_oK, oi_aI hd, oi_aZ hd, oi_aJ hd, oi_sI hd, oi_sZ hd, oi_sJ hd, mI_1, mI_2, mJ_1, mJ_2, mJ_3, mA_1, mA_2, mA_3, mA_4, mL_1, mL_2, mL_3, mL_4, mK, Nat.reduceEqDiff, if_true, if_false, ite_true, ite_false, true_and, Nat.reduceLT, reduceIte, reduceCtorEq]
      rw [nI_clamp (by omega)]
      refine ⟨vp_in_nI (by omega) (by omega), f_tell hd (by decide) (fun N hF => h j hj rfl N f h1 h2 ?_)⟩
      have hFF := (((Fx.i (M := M) 0 0).tr (Fx.a 4 f)).tr (Fx.a 5 (upd ((mA (mI M 0 0) 4 f).2.2.1 5) j (vp_nar FieldType.boolean 1)))).tr hF
      unfold mOk at *
      rw [hFF.1 8 (by simp), hFF.1 13 (by simp), hFF.1 20 (by simp), hFF.1 59 (by simp), hFF.1 60 (by simp), hFF.1 11 (by simp), hFF.2.2.1 12 (by simp), hFF.2.2.1 3 (by simp), hFF.2.2.1 6 (by simp), hFF.2.2.1 9 (by simp), hFF.2.2.1 7 (by simp), hFF.2.2.1 10 (by simp), hF.2.2.1 4 (by simp), hF.2.2.1 5 (by simp)]
      refine ⟨hM.1, fun t ht hk => ?_, hM.2.2.1, hM.2.2.2.1, hM.2.2.2.2.1, hM.2.2.2.2.2.1, hM.2.2.2.2.2.2.1, hM.2.2.2.2.2.2.2.1, hM.2.2.2.2.2.2.2.2.1, hM.2.2.2.2.2.2.2.2.2.1, hM.2.2.2.2.2.2.2.2.2.2.1, rfl, rfl, hM.2.2.2.2.2.2.2.2.2.2.2.2.2.1, hM.2.2.2.2.2.2.2.2.2.2.2.2.2.2.1, hM.2.2.2.2.2.2.2.2.2.2.2.2.2.2.2⟩
      show rowOk (fun i => f (5585 * t + i)) (fun i => f (5585 * t + i))
      by_cases e : t = j
      · subst e
        refine rowOk_self (rowOk_congr (fun i hi => ?_) hM.1)
        have hl : i < 5585 := by unfold rCon at hi; omega
        exact h1 i hl
      · refine rowOk_self (rowOk_congr (f := fun i => M.2.2.1 4 (5585 * t + i)) (fun i hi => ?_) (hM.2.1 t ht ?_))
        · have hl : i < 5585 := by unfold rCon at hi; omega
          exact h2 _ (by omega)
        · rw [mA_3, if_pos rfl, upd_ne _ _ e] at hk
          exact hk
    · have c : i < 5585 := by
        rw [lit_nI 5585, nI_not_le (by omega) (by omega)] at c
        exact c
      simp (disch := decide) only [oi_gI, oi_gJ, oi_gP, oi_pI, oi_pZ, oi_pJ, oi_oK, oi_aI hd, oi_aZ hd, oi_aJ hd, oi_sI hd, oi_sZ hd, oi_sJ hd, mI_1, mI_2, mJ_1, mJ_2, mJ_3, mA_1, mA_2, mA_3, mA_4, mL_1, mL_2, mL_3, mL_4, mK, Nat.reduceEqDiff, if_true, if_false, ite_true, ite_false, true_and, Nat.reduceLT, reduceIte, reduceCtorEq, mA_mA]
      rw [lit_nI 5585, nImul, nIadd, nI_1, nI_clamp (by omega), nI_clamp (by omega)]
      refine ⟨vp_in_nI (by omega) (by omega), vp_in_nI (by omega) (by omega), eq_imp ?_⟩
      refine ih (upd f (5585 * j + i) (M.2.2.1 3 i), i + 1) ⟨by show i + 1 ≤ 5585; omega, fun t ht => ?_, fun t ht => ?_⟩ (by show 5585 - (i + 1) < 5585 - i; omega)
      · dsimp only at ht ⊢
        by_cases e : t = i
        · subst e; rw [upd_self]
        · rw [upd_ne f _ (by omega)]; exact h1 t (by omega)
      · dsimp only at ht ⊢
        rw [upd_ne f _ (by omega)]
        exact h2 t (by omega)
  · refine g1 (fun z => a ?_) N (mOk_fx ((Fx.i 0 0).tr hF) hM (by simp))
    rw [i64toInt]
    exact ⟨by simpa using z.1, by simpa using z.2⟩
theorem p_back (hd : mD o ad) (hM : mOk M M) {q : Int32 → hS → Prop} {k : Int32} (g1 : ¬ (0 ≤ k.toInt ∧ k.toInt ≤ 1) → ∀ N, mOk M N → q (-1) (ov S o ad N)) (g2 : ∀ j, j ≤ 1 → k = nI j → M.2.2.1 5 j = 0 → ∀ N, mOk M N → q (-2) (ov S o ad N)) (h : ∀ j, j ≤ 1 → k = nI j → ¬ M.2.2.1 5 j = 0 → ∀ N, mOk (mA M 3 (fun i => M.2.2.1 4 (5585 * j + i))) N → q 0 (ov S o ad N)) : w_X12_back q (ov S o ad M) o k := by
  have hM0 : mOk M (mI M 0 0) := mOk_i hM (by omega)
  unfold w_X12_back
  simp (disch := decide) only [oi_gI, oi_gJ, oi_gP, oi_pI, oi_pZ, oi_pJ, oi_oK, oi_aI hd, oi_aZ hd, oi_aJ hd, oi_sI hd, oi_sZ hd, oi_sJ hd, mI_1, mI_2, mJ_1, mJ_2, mJ_3, mA_1, mA_2, mA_3, mA_4, mL_1, mL_2, mL_3, mL_4, mK, Nat.reduceEqDiff, if_true, if_false, ite_true, ite_false, true_and, Nat.reduceLT, reduceIte, reduceCtorEq]
  refine s_inI 0 1 (by decide) (by decide) (fun a b => ⟨fun _ => ?_, fun z => absurd z (by decide)⟩) (fun a => ⟨fun z => absurd rfl z, fun _ => ⟨ov_oK, g_tell hd hM0 (by decide) (g1 a)⟩⟩)
  obtain ⟨j, hj, rfl, -⟩ := rg_nI (z := k) (a := 0) (b := 1) ⟨a, b⟩ (by omega) (by omega)
  simp (disch := decide) only [oi_gI, oi_gJ, oi_gP, oi_pI, oi_pZ, oi_pJ, oi_oK, oi_aI hd, oi_aZ hd, oi_aJ hd, oi_sI hd, oi_sZ hd, oi_sJ hd, mI_1, mI_2, mJ_1, mJ_2, mJ_3, mA_1, mA_2, mA_3, mA_4, mL_1, mL_2, mL_3, mL_4, mK, Nat.reduceEqDiff, if_true, if_false, ite_true, ite_false, true_and, Nat.reduceLT, reduceIte, reduceCtorEq]
  rw [nI_clamp (by omega)]
  refine ⟨vp_in_nI (by omega) (by omega), fun hk => ?_, fun hk => g_tell hd hM0 (by decide) (g2 j (by omega) rfl hk)⟩
  have key := loop_m (σ := (Nat → Int32) × Nat) (fun n s => w_X12_back_b39 q n (ov S o ad (mA (mI M 0 0) 3 s.1)) o (nI j) (nI s.2)) (fun s => s.2 ≤ 5585 ∧ (∀ i, i < s.2 → s.1 i = M.2.2.1 4 (5585 * j + i))) (fun s => 5585 - s.2) ?_ ((mI M 0 0).2.2.1 3, 0) ⟨Nat.zero_le _, fun i hi => absurd hi (Nat.not_lt_zero i)⟩
  · rw [mA_self] at key
    exact key
  rintro n ⟨f, i⟩ ⟨hi, h1⟩ ih
  dsimp only at hi h1 ih ⊢
  rw [w_X12_back_b39]
  refine ⟨fun c => ?_, fun c => ?_⟩
  · have : i = 5585 := by
      have := (nI_leI (a := 5585) (b := i) (by omega) (by omega)).mp c
      omega
    subst this
    refine ⟨ov_oK, g_settled hd (mOk_rT hM0 (u := fun i => M.2.2.1 4 (5585 * j + i)) (rowOk_congr (f := fun i => M.2.2.1 4 (5585 * j + i)) (fun i hi => ?_) (hM.2.1 j (by omega) hk))) (by decide) (h j (by omega) rfl hk)⟩
    have hl : i < 5585 := by unfold rCon at hi; omega
    exact h1 i hl
  · have c : i < 5585 := by
      rw [lit_nI 5585, nI_not_le (by omega) (by omega)] at c
      exact c
    simp (disch := decide) only [oi_gI, oi_gJ, oi_gP, oi_pI, oi_pZ, oi_pJ, oi_oK, oi_aI hd, oi_aZ hd, oi_aJ hd, oi_sI hd, oi_sZ hd, oi_sJ hd, mI_1, mI_2, mJ_1, mJ_2, mJ_3, mA_1, mA_2, mA_3, mA_4, mL_1, mL_2, mL_3, mL_4, mK, Nat.reduceEqDiff, if_true, if_false, ite_true, ite_false, true_and, Nat.reduceLT, reduceIte, reduceCtorEq, mA_mA]
    rw [lit_nI 5585, nImul, nIadd, nI_1, nI_clamp (by omega), nI_clamp (by omega)]
    refine ⟨vp_in_nI (by omega) (by omega), vp_in_nI (by omega) (by omega), eq_imp ?_⟩
    refine ih (upd f i (M.2.2.1 4 (5585 * j + i)), i + 1) ⟨by show i + 1 ≤ 5585; omega, fun t ht => ?_⟩ (by show 5585 - (i + 1) < 5585 - i; omega)
    dsimp only at ht ⊢
    by_cases e : t = i
    · subst e; rw [upd_self]
    · rw [upd_ne f _ e]; exact h1 t (by omega)
end REF8
