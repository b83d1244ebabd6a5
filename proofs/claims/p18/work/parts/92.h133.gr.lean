/-! GENERATIONS IN THE REFERENCE, AS A CALL -/
section GR
variable {S : hS} {o : Nat} {ad : Nat → Nat} {M N P M0 : mS} {mT : mS} {T T' : aS} {rs : Nat} {f g : Nat → Int32} {s s' : gS} {k n : Nat}
theorem RR.dr (h : RR M rs T) (hF : Fx [34, 38, 59, 60] [39, 40, 57] [3, 58] [35, 37] M N) (hc : cut (N.2.2.1 3) = T.1.1) (hr : ∀ i, 185 ≤ i → N.2.2.1 3 i = M.2.2.1 3 i) {p n : Int32} (h59 : N.1 59 = p) (h60 : N.1 60 = n) {dr : Nat → Int32} (hd : ∀ j, j < 48 → N.2.2.1 58 j = dr j) : RR N rs (aDr p n dr T) := by
  have fa : ∀ i, i < 185 → N.2.2.1 3 i = M.2.2.1 3 i := fun i hi => by rw [h.at hi, ← hc, cut_lt hi]
  obtain ⟨h1, h2, h3, h4, h5, h6, h7, h8, h9⟩ := h
  refine ⟨⟨hc, lawG_cg hr (iR_ge (fa 3 (by omega))) h1.2⟩, ?_, ⟨?_, ?_⟩, ?_, ⟨?_, ?_, ?_⟩, ?_, ⟨Or.inl ?_, Or.inl ?_, hd⟩, ?_, h9.fx hF (by simp)⟩
  · rw [hF.2.2.1 4 (by simp), hF.2.2.1 5 (by simp)]; exact h2
  · rw [hF.1 8 (by simp)]; exact h3.1
  · exact undU_cg (fun j _ => by rw [hF.2.2.1 6 (by simp)]) (fun k _ => by rw [hF.2.2.1 7 (by simp)]) ⟨fa 6 (by omega), fa 7 (by omega)⟩ h3.2
  · unfold tpM; rw [hF.1 13 (by simp), hF.2.2.1 12 (by simp)]; exact h4
  · show N.1 18 = upd (upd T.2.2.2.2.1 3 p) 4 n 0
    rw [upd_ne _ _ (by omega), upd_ne _ _ (by omega), hF.1 18 (by simp)]; exact h5.1
  · show N.1 55 = upd (upd T.2.2.2.2.1 3 p) 4 n 1
    rw [upd_ne _ _ (by omega), upd_ne _ _ (by omega), hF.1 55 (by simp)]; exact h5.2.1
  · show N.1 1 = upd (upd T.2.2.2.2.1 3 p) 4 n 2
    rw [upd_ne _ _ (by omega), upd_ne _ _ (by omega), hF.1 1 (by simp)]; exact h5.2.2
  · rw [hF.2.2.1 2 (by simp)]; exact h6
  · show N.1 59 = upd (upd T.2.2.2.2.1 3 p) 4 n 3
    rw [upd_ne _ _ (by omega), upd_self]; exact h59
  · show N.1 60 = upd (upd T.2.2.2.2.1 3 p) 4 n 4
    rw [upd_self]; exact h60
  · rw [hF.1 11 (by simp)]; exact h8
theorem mOk_dr {x y : Int32} (hM : mOk mT M) (hx : rg x (-1) 8) (hy : rg y (-1) 6) : mOk mT (mI (mI M 59 x) 60 y) := by
  unfold mOk at *
  exact ⟨hM.1, hM.2.1, hM.2.2.1, hM.2.2.2.1, hM.2.2.2.2.1, hM.2.2.2.2.2.1, hM.2.2.2.2.2.2.1, hM.2.2.2.2.2.2.2.1, hM.2.2.2.2.2.2.2.2.1, hx, hy, hM.2.2.2.2.2.2.2.2.2.2.2⟩
theorem x_gen188 (hd : mD o ad) (hA : aB T) (hR : RR M0 rs T) (hu : ∀ i, i < 121 → M0.2.2.1 6 (1936 + i) = M0.2.2.1 3 (5 + i)) (hI : GI mT M0 T k s M) (hk : k ≤ 60) {q : Int32 → hS → Prop} (h : ∀ N, mOk mT N → RR N rs (spAcc (nI s.2.2) (aDr (T.1.1 1) (T.1.1 0) (fun j => s.1 (30 + j)) T)).2 → q (spAcc (nI s.2.2) (aDr (T.1.1 1) (T.1.1 0) (fun j => s.1 (30 + j)) T)).1 (ov S o ad N)) : w_X12_generations_b188 q (ov S o ad M) o (nI s.2.2) := by
  obtain ⟨g1, g2, g3, g4, g5, g6, g7, g8, g9⟩ := id hI
  have bb := hA.hi
  have r1 : M.2.2.1 3 1 = T.1.1 1 := (hI.row (by omega)).trans (g6 1 (by unfold inLe; omega))
  have r0 : M.2.2.1 3 0 = T.1.1 0 := (hI.row (by omega)).trans (g6 0 (by unfold inLe; omega))
  unfold w_X12_generations_b188
  simp (disch := decide) only [oi_gI, oi_gJ, oi_gP, oi_pI, oi_pZ, oi_pJ, oi_oK, oi_aI hd, oi_aZ hd, oi_aJ hd, oi_sI hd, oi_sZ hd, oi_sJ hd, mI_1, mI_2, mJ_1, mJ_2, mJ_3, mA_1, mA_2, mA_3, mA_4, mL_1, mL_2, mL_3, mL_4, mK, Nat.reduceEqDiff, if_true, if_false, ite_true, ite_false, true_and, Nat.reduceLT, reduceIte, reduceCtorEq, cl_0, cl_1, cl_2, cl_3, cl_4, cl_5, cl_6, cl_7, cl_8, cl_9, cl_10, cl_11, cl_12, cl_13, cl_14, cl_15, vl_0_5585, vl_1_5585, vl_2_5585, vl_3_5585, vl_4_5585, vl_5_5585, vl_6_5585, vl_0_7, vl_1_7, vl_2_7, vl_3_7, vl_4_7, vl_5_7, vl_6_7]
  rw [r1, r0]
  have t1 : (T.1.1 1).toInt = iR T.1.1 1 := rfl
  have t0 : (T.1.1 0).toInt = iR T.1.1 0 := rfl
  have hM1 : mOk mT (mI (mI M 59 (T.1.1 1)) 60 (T.1.1 0)) := mOk_dr g1 ⟨by omega, by omega⟩ ⟨by omega, by omega⟩
  have hF1 : Fx [59, 60] [] [] [] M (mI (mI M 59 (T.1.1 1)) 60 (T.1.1 0)) := ((Fx.i 59 _).tr (Fx.i 60 _)).le (by simp) (by simp) (by simp) (by simp)
  have a59 : (mI (mI M 59 (T.1.1 1)) 60 (T.1.1 0)).1 59 = T.1.1 1 := by simp [mI_1]
  have a60 : (mI (mI M 59 (T.1.1 1)) 60 (T.1.1 0)).1 60 = T.1.1 0 := by simp [mI_1]
  generalize mI (mI M 59 (T.1.1 1)) 60 (T.1.1 0) = M1 at hM1 hF1 a59 a60 ⊢
  have e3 : M1.2.2.1 3 = M.2.2.1 3 := hF1.2.2.1 3 (by simp)
  have key := loop_m (σ := (Nat → Int32) × Nat) (fun m z => w_X12_generations_b211 q m (ov S o ad (mA M1 58 z.1)) o (nI s.2.2) (nI z.2)) (fun z => (∀ j, j < z.2 → z.1 j = s.1 (30 + j)) ∧ z.2 ≤ 48) (fun z => 48 - z.2) ?_ (M1.2.2.1 58, 0) ⟨fun j hj => absurd hj (Nat.not_lt_zero _), by omega⟩
  · rw [mA_self] at key
    exact key
  rintro m ⟨w, i⟩ ⟨hw, hi⟩ ih
  dsimp only at hw hi ih ⊢
  rw [w_X12_generations_b211, lit_nI 48, nI_leI (by omega) (by omega)]
  refine ⟨fun c => ⟨ov_oK, f_putBack hd (k := 16) (by omega) (fun N hF h1 h2 => ⟨ov_oK, ?_⟩)⟩, fun c => ?_⟩
  · have hFx : Fx [34, 38, 59, 60] [39, 40, 57] [3, 58] [35, 37] M0 N := (((Fx.tr g2 hF1).tr (Fx.a 58 w)).tr hF).le (by simp) (by simp) (by simp) (by simp)
    have e6 : (mA M1 58 w).2.2.1 6 = M0.2.2.1 6 := (hF1.2.2.1 6 (by simp)).trans (g2.2.2.1 6 (by simp))
    have row : ∀ i, i < 121 → N.2.2.1 3 (5 + i) = M0.2.2.1 3 (5 + i) := fun i hi => by
      rw [h1 i hi, e6, show 121 * 16 + i = 1936 + i by omega, hu i hi]
    have out : ∀ j, (j < 5 ∨ 126 ≤ j) → N.2.2.1 3 j = M.2.2.1 3 j := fun j hj => by
      rw [h2 j hj]
      show M1.2.2.1 3 j = _
      rw [e3]
    have hcut : cut (N.2.2.1 3) = T.1.1 := by
      rw [← hR.1.1]
      funext i
      by_cases c : i < 185
      · rw [cut_lt c, cut_lt c]
        by_cases c2 : 5 ≤ i ∧ i < 126
        · have := row (i - 5) (by omega)
          rw [show 5 + (i - 5) = i by omega] at this
          exact this
        · rw [out i (by omega), hI.row c, g6 i (by unfold inLe; omega), hR.at c]
      · unfold cut
        rw [if_neg c, if_neg c]
    have hN : mOk mT N := by
      have hMw : mOk mT (mA M1 58 w) := mOk_a hM1 (by omega)
      refine mOk_row hF hMw ?_ (by simp)
      refine rowOk_year (f := (mA M1 58 w).2.2.1 3) (fun i hi h5 => h2 i ?_) ?_ hMw.1
      · unfold rCon at hi; omega
      · have := h1 0 (by omega)
        rw [Nat.add_zero, Nat.add_zero] at this
        rw [this]
        exact hMw.2.2.1 16 (by omega)
    have hRN := hR.dr (dr := fun j => s.1 (30 + j)) hFx hcut (fun i hi => by rw [out i (by omega), g4 i hi]) (p := T.1.1 1) (n := T.1.1 0) (by rw [hF.1 59 (by simp)]; exact a59) (by rw [hF.1 60 (by simp)]; exact a60) (fun j hj => by
      rw [hF.2.2.1 58 (by simp)]
      show w j = _
      exact hw j (by omega))
    exact r_acc hd hN hRN (by rw [nI_toInt (by omega)]; omega) h
  · simp (disch := decide) only [oi_gI, oi_gJ, oi_gP, oi_pI, oi_pZ, oi_pJ, oi_oK, oi_aI hd, oi_aZ hd, oi_aJ hd, oi_sI hd, oi_sZ hd, oi_sJ hd, mI_1, mI_2, mJ_1, mJ_2, mJ_3, mA_1, mA_2, mA_3, mA_4, mL_1, mL_2, mL_3, mL_4, mK, Nat.reduceEqDiff, if_true, if_false, ite_true, ite_false, true_and, Nat.reduceLT, reduceIte, reduceCtorEq, cl_0, cl_1, cl_2, cl_3, cl_4, cl_5, cl_6, cl_7, cl_8, cl_9, cl_10, cl_11, cl_12, cl_13, cl_14, cl_15, vl_0_5585, vl_1_5585, vl_2_5585, vl_3_5585, vl_4_5585, vl_5_5585, vl_6_5585, vl_0_7, vl_1_7, vl_2_7, vl_3_7, vl_4_7, vl_5_7, vl_6_7, mA_mA]
    rw [show (30 : Int32) + nI i = nI (30 + i) by rw [lit_nI 30, nIadd], nI_1, nI_clamp (by omega), nI_clamp (by omega)]
    refine ⟨vp_in_nI (by omega) (by omega), vp_in_nI (by omega) (by omega), eq_imp ?_⟩
    refine ih (upd w i (M1.2.2.1 3 (30 + i)), i + 1) ⟨fun j hj => ?_, by dsimp only; omega⟩ (by dsimp only; omega)
    dsimp only at hj ⊢
    by_cases e : j = i
    · subst e; rw [upd_self, e3, hI.row (by omega)]
    · rw [upd_ne _ _ e]; exact hw j (by omega)
theorem xr_gen (hd : mD o ad) (hM : mOk M M) (hR : RR M rs T) (hA : aB T) {q : Int32 → hS → Prop} {a b : Int32} (h : ∀ N, mOk N N → RR N rs (spGen a.toInt b.toInt T).2 → q (spGen a.toInt b.toInt T).1 (ov S o ad N)) : w_X12_generations q (ov S o ad M) o a b := by
  have hM0 : mOk M (mI M 0 0) := mOk_i hM (by omega)
  have hR0 := hR.z (x := 0)
  have bb := hA.hi
  have e1 : (M.2.2.1 3 1).toInt = iR T.1.1 1 := hR.iR (by omega)
  have e0 : (M.2.2.1 3 0).toInt = iR T.1.1 0 := hR.iR (by omega)
  have k29 : (¬ (0 ≤ a.toInt ∧ a.toInt ≤ 1000000) ∨ ¬ (1 ≤ b.toInt ∧ b.toInt ≤ 60)) → w_X12_generations_b29 q (ov S o ad (mI M 0 0)) o := fun hn => ⟨ov_oK, r_ref hd hM0 hR0 (v := 1) (by omega) (by decide) (fun N hN hRN => by
    have e : spGen a.toInt b.toInt T = spRef 1 T := by
      unfold spGen
      by_cases c : 0 ≤ a.toInt ∧ a.toInt ≤ 1000000
      · rw [if_neg (fun z => z c), if_pos (hn.resolve_left (fun z => z c))]
      · rw [if_pos c]
    rw [e] at h
    exact h N (mOk_self hN) hRN)⟩
  unfold w_X12_generations
  simp (disch := decide) only [oi_gI, oi_gJ, oi_gP, oi_pI, oi_pZ, oi_pJ, oi_oK, oi_aI hd, oi_aZ hd, oi_aJ hd, oi_sI hd, oi_sZ hd, oi_sJ hd, mI_1, mI_2, mJ_1, mJ_2, mJ_3, mA_1, mA_2, mA_3, mA_4, mL_1, mL_2, mL_3, mL_4, mK, Nat.reduceEqDiff, if_true, if_false, ite_true, ite_false, true_and, Nat.reduceLT, reduceIte, reduceCtorEq, cl_0, cl_1, cl_2, cl_3, cl_4, cl_5, cl_6, cl_7, cl_8, cl_9, cl_10, cl_11, cl_12, cl_13, cl_14, cl_15, vl_0_5585, vl_1_5585, vl_2_5585, vl_3_5585, vl_4_5585, vl_5_5585, vl_6_5585, vl_0_7, vl_1_7, vl_2_7, vl_3_7, vl_4_7, vl_5_7, vl_6_7]
  refine s_inI 0 1000000 (by decide) (by decide) (fun a1 a2 => ⟨fun z => absurd z (by decide), fun _ => s_inI 1 60 (by decide) (by decide) (fun b1 b2 => ⟨fun _ => ?_, fun z => absurd z (by decide)⟩) (fun nb => ⟨fun z => absurd rfl z, fun _ => k29 (Or.inr nb)⟩)⟩) (fun na => ⟨fun _ => k29 (Or.inl na), fun z => absurd rfl z⟩)
  have k53 : (iR T.1.1 1 = 0 ∨ iR T.1.1 0 = 0) → w_X12_generations_b53 q (ov S o ad (mI M 0 0)) o := fun hn => ⟨ov_oK, r_ref hd hM0 hR0 (v := 3) (by omega) (by decide) (fun N hN hRN => by
    have e : spGen a.toInt b.toInt T = spRef 3 T := by
      unfold spGen
      rw [if_neg (fun z => z ⟨a1, a2⟩), if_neg (fun z => z ⟨b1, b2⟩), if_pos hn]
    rw [e] at h
    exact h N (mOk_self hN) hRN)⟩
  simp (disch := decide) only [oi_gI, oi_gJ, oi_gP, oi_pI, oi_pZ, oi_pJ, oi_oK, oi_aI hd, oi_aZ hd, oi_aJ hd, oi_sI hd, oi_sZ hd, oi_sJ hd, mI_1, mI_2, mJ_1, mJ_2, mJ_3, mA_1, mA_2, mA_3, mA_4, mL_1, mL_2, mL_3, mL_4, mK, Nat.reduceEqDiff, if_true, if_false, ite_true, ite_false, true_and, Nat.reduceLT, reduceIte, reduceCtorEq, cl_0, cl_1, cl_2, cl_3, cl_4, cl_5, cl_6, cl_7, cl_8, cl_9, cl_10, cl_11, cl_12, cl_13, cl_14, cl_15, vl_0_5585, vl_1_5585, vl_2_5585, vl_3_5585, vl_4_5585, vl_5_5585, vl_6_5585, vl_0_7, vl_1_7, vl_2_7, vl_3_7, vl_4_7, vl_5_7, vl_6_7]
  refine ⟨fun c1 => k53 (Or.inl (by rw [← e1]; exact i32_z.mp c1)), fun c1 => ⟨fun c0 => ?_, fun c0 => k53 (Or.inr (by rw [← e0]; exact i32_z.mp c0))⟩⟩
  have hP1 : iR T.1.1 1 ≠ 0 := fun z => c1 (i32_z.mpr (e1.trans z))
  have hH1 : iR T.1.1 0 ≠ 0 := fun z => c0 (i32_z.mpr (e0.trans z))
  have es : spGen a.toInt b.toInt T = spAcc (nI (genRun (csF T.1.1 T.1.2) b.toInt.toNat (T.1.1, a.toInt.toNat, 0)).2.2) (aDr (T.1.1 1) (T.1.1 0) (fun j => (genRun (csF T.1.1 T.1.2) b.toInt.toNat (T.1.1, a.toInt.toNat, 0)).1 (30 + j)) T) := by
    unfold spGen
    rw [if_neg (fun z => z ⟨a1, a2⟩), if_neg (fun z => z ⟨b1, b2⟩), if_neg (fun z => z.elim hP1 hH1)]
  rw [es] at h
  refine f_keepAll hd (k := 16) (by omega) (fun N hF k1 k2 => ?_)
  have hN : mOk M N := by
    refine mOk_und hF hM0 ?_ ?_ ?_ ?_ (by simp)
    · rw [hF.1 8 (by simp)]; exact hM0.2.2.2.2.2.2.1
    · refine undOk_keep hM0.2.2.1 ?_ k2
      have := k1 0 (by omega)
      rw [Nat.add_zero, Nat.add_zero] at this
      rw [this]; exact hM0.1.2.2.2.2.2.1
    · rw [hF.2.2.1 7 (by simp)]; exact hM0.2.2.2.2.1
    · rw [hF.2.2.1 3 (by simp)]; exact hM0.1
  have hRN : RR N rs T := hR0.k6 hF (fun j hj => k2 j (by omega))
  simp (disch := decide) only [oi_gI, oi_gJ, oi_gP, oi_pI, oi_pZ, oi_pJ, oi_oK, oi_aI hd, oi_aZ hd, oi_aJ hd, oi_sI hd, oi_sZ hd, oi_sJ hd, mI_1, mI_2, mJ_1, mJ_2, mJ_3, mA_1, mA_2, mA_3, mA_4, mL_1, mL_2, mL_3, mL_4, mK, Nat.reduceEqDiff, if_true, if_false, ite_true, ite_false, true_and, Nat.reduceLT, reduceIte, reduceCtorEq, cl_0, cl_1, cl_2, cl_3, cl_4, cl_5, cl_6, cl_7, cl_8, cl_9, cl_10, cl_11, cl_12, cl_13, cl_14, cl_15, vl_0_5585, vl_1_5585, vl_2_5585, vl_3_5585, vl_4_5585, vl_5_5585, vl_6_5585, vl_0_7, vl_1_7, vl_2_7, vl_3_7, vl_4_7, vl_5_7, vl_6_7]
  have hFJ : Fx [] [57] [] [] N (mJ N 57 a.toInt64) := Fx.j 57 _
  have hRJ : RR (mJ N 57 a.toInt64) rs T := hRN.fx hFJ (by simp) (by simp) (by simp)
  have hMJ : mOk M (mJ N 57 a.toInt64) := mOk_j hN
  have hu : ∀ i, i < 121 → (mJ N 57 a.toInt64).2.2.1 6 (1936 + i) = (mJ N 57 a.toInt64).2.2.1 3 (5 + i) := fun i hi => by
    show N.2.2.1 6 (1936 + i) = N.2.2.1 3 (5 + i)
    rw [show 1936 + i = 121 * 16 + i by omega, k1 i hi, hF.2.2.1 3 (by simp)]
  have e57 : (mJ N 57 a.toInt64).2.1 57 = jN a.toInt.toNat := by
    rw [mJ_2, if_pos rfl, jN_32i]
    congr 1
    omega
  generalize mJ N 57 a.toInt64 = M1 at hRJ hMJ hu e57 ⊢
  obtain ⟨K, hK, rfl⟩ : ∃ K : Nat, K ≤ 60 ∧ b = nI K := by
    obtain ⟨K, hK, e⟩ := rg_in 61 (by omega) (by omega) (show b.toInt < (61 : Nat) by omega)
    exact ⟨K, by omega, e⟩
  have tK : (nI K).toInt.toNat = K := by rw [nI_toInt (by omega)]; omega
  rw [tK] at h
  have hI : GI M M1 T 0 (T.1.1, a.toInt.toNat, 0) M1 := ⟨hMJ, Fx.rf', hRJ.1.1, fun _ _ => rfl, hA.1, fun _ _ => rfl, e57, by show a.toInt.toNat ≤ 1000003; omega, Nat.le_refl _⟩
  refine ⟨K + 1, x_gen77 (M0 := M1) (s0 := (T.1.1, a.toInt.toNat, 0)) hd hA hRJ.1.2 hRJ.1.1 hP1 hH1 hK (fun P s' k hk hIP e => x_gen188 hd hA hRJ hu hIP (by omega) (fun Q hQ hRQ => ?_)) K 0 M1 (T.1.1, a.toInt.toNat, 0) (by omega) hI rfl⟩
  rw [← e] at hRQ ⊢
  exact h Q (mOk_self hQ) hRQ
end GR
