/-! ROW IN THE REFERENCE, EXACTLY -/
section RX2
variable {S : hS} {o : Nat} {ad : Nat → Nat} {M N P M0 : mS} {mT : mS} {T T' : aS} {rs rs' : Nat} {f g : Nat → Int32} {G G' : pG} {k n : Nat}
theorem RR.r11 (h : RR M rs T) : RR (mI M 11 (nI rs')) rs' T := by
  obtain ⟨h1, h2, h3, h4, h5, h6, h7, h8, h9⟩ := h
  exact ⟨h1, h2, h3, h4, h5, h6, h7, rfl, h9⟩
theorem RR.e13 (h : RR M rs T) : RR (mI M 13 0) rs (aEm T) :=
  h.txt (sc := T.2.2.2.2.1) (Fx.i 13 0) (by simp) (by simp) (by simp) rfl h.2.2.2.2.1.1 h.2.2.2.2.1.2.1 rfl rfl rfl
/-- what of a row is fixed -/
theorem psX_67 {f : Nat → Int32} {n : Nat} {p a m : Int32} (hn : n < 8) {i : Nat} (hi : i = 3 ∨ i = 6 ∨ i = 7) : psX f n p a m i = f i := by
  unfold psX psR
  rw [if_neg (by omega), if_neg (by omega), if_neg (by omega), if_neg (by omega), if_neg (by omega), if_neg (by omega), if_neg (by omega), if_neg (by omega)]
theorem xr_row (hd : mD o ad) (hM : mOk M M) (hR : RR M rs T) {q : Int32 → hS → Prop} (h : ∀ N, mOk N N → RR N (rowRs T rs) (spRow T).2 → q (spRow T).1 (ov S o ad N)) : w_X12_row q (ov S o ad M) o := by
  have hM0 : mOk M (mI M 0 0) := mOk_i hM (by omega)
  have hM1 : mOk (mI M 13 0) (mI (mI M 0 0) 13 0) := mOk_13 hM0 ⟨by decide, by decide⟩
  have hR1 : RR (mI (mI M 0 0) 13 0) rs (aEm T) := RR.e13 hR.z
  have hG := hR.tpM
  obtain ⟨m, emm⟩ : ∃ m, T.2.2.2.1.2 = m := ⟨_, rfl⟩
  have hm : m ≤ 400 := by rw [← emm]; exact hG.2.1
  have em : M.1 13 = nI m := by rw [← emm]; exact hG.1
  unfold w_X12_row
  simp (disch := decide) only [oi_gI, oi_gJ, oi_gP, oi_pI, oi_pZ, oi_pJ, oi_oK, oi_aI hd, oi_aZ hd, oi_aJ hd, oi_sI hd, oi_sZ hd, oi_sJ hd, mI_1, mI_2, mJ_1, mJ_2, mJ_3, mA_1, mA_2, mA_3, mA_4, mL_1, mL_2, mL_3, mL_4, mK, Nat.reduceEqDiff, if_true, if_false, ite_true, ite_false, true_and, Nat.reduceLT, reduceIte, reduceCtorEq, cl_0, cl_1, cl_2, cl_3, cl_4, cl_5, cl_6, cl_7, cl_8, cl_9, cl_10, cl_11, cl_12, cl_13, cl_14, cl_15, vl_0_5585, vl_1_5585, vl_2_5585, vl_3_5585, vl_4_5585, vl_5_5585, vl_6_5585, vl_0_7, vl_1_7, vl_2_7, vl_3_7, vl_4_7, vl_5_7, vl_6_7]
  rw [em]
  refine ⟨fun c => ?_, fun c => ?_⟩
  · have hm0 : ¬ m = 0 := fun e => c (by rw [e]; rfl)
    have es : spRow T = spAcc (nI (rowSt T.2.2.2.1 T.1.1 (rowJ T.2.2.2.1)).2) (aCl (aEm (aTn (rowSt T.2.2.2.1 T.1.1 (rowJ T.2.2.2.1)).1 T))) := by
      unfold spRow
      rw [emm, if_neg hm0]
    have er : rowRs T rs = rowJ T.2.2.2.1 - (rowSt T.2.2.2.1 T.1.1 (rowJ T.2.2.2.1)).2 := by
      unfold rowRs
      rw [emm, if_neg hm0]
    rw [es, er] at h
    refine loop_m (σ := mS × Nat) (fun t s => w_X12_row_b35 q t (ov S o ad s.1) o (nI m) (nI (rowSt T.2.2.2.1 T.1.1 s.2).2) (nI (4 * s.2))) (fun s => (mOk s.1 s.1 ∧ RR s.1 (s.2 - (rowSt T.2.2.2.1 T.1.1 s.2).2) (aTn (rowSt T.2.2.2.1 T.1.1 s.2).1 (aEm T))) ∧ 4 * s.2 ≤ m + 3) (fun s => m + 4 - 4 * s.2) ?_ (mI (mI (mI M 0 0) 13 0) 11 0, 0) ⟨⟨mOk_self (mOk_11 hM1), ?_⟩, by dsimp only; omega⟩
    · rintro t ⟨N, k⟩ ⟨⟨hN, hRN⟩, hk⟩ ih
      dsimp only at hN hRN hk ih ⊢
      have le := rowSt_le (G := T.2.2.2.1) (f := T.1.1) k
      have eS : rowSt T.2.2.2.1 T.1.1 (k + 1) = if cmB (byG T.2.2.2.1) m (4 * k) (nPR (rowSt T.2.2.2.1 T.1.1 k).1) = true then (psX (rowSt T.2.2.2.1 T.1.1 k).1 (nPR (rowSt T.2.2.2.1 T.1.1 k).1) (byG T.2.2.2.1 (4 * k)) (byG T.2.2.2.1 (4 * k + 1)) (10 * byG T.2.2.2.1 (4 * k + 2) + byG T.2.2.2.1 (4 * k + 3)), (rowSt T.2.2.2.1 T.1.1 k).2 + 1) else rowSt T.2.2.2.1 T.1.1 k := by
        rw [rowSt, emm]
      obtain ⟨n0, en0⟩ : ∃ n0, nPR (rowSt T.2.2.2.1 T.1.1 k).1 = n0 := ⟨_, rfl⟩
      have r1 : N.2.2.1 3 1 = (rowSt T.2.2.2.1 T.1.1 k).1 1 := hRN.at (by omega)
      have b1 := hN.1.2.1
      unfold rg at b1
      have i1 : iR (rowSt T.2.2.2.1 T.1.1 k).1 1 = (N.2.2.1 3 1).toInt := by rw [r1]; rfl
      have hn0 : n0 ≤ 8 := by rw [← en0]; unfold nPR; omega
      have e1 : N.2.2.1 3 1 = nI n0 := by
        apply Int32.toInt_inj.mp
        rw [nI_toInt (by omega), ← en0]
        unfold nPR
        omega
      have e11 : N.1 11 = nI (k - (rowSt T.2.2.2.1 T.1.1 k).2) := hRN.2.2.2.2.2.2.2.1
      have eT : ∀ i, i < 400 → N.2.2.1 12 i = byG T.2.2.2.1 i := hRN.tpM.2.2.1
      rw [en0] at eS
      rw [w_X12_row_b35, show nI (4 * k) + 3 = nI (4 * k + 3) from nIadd _ 3, show nI (4 * k) + 2 = nI (4 * k + 2) from nIadd _ 2, nI_1 (4 * k), nI_leI (by omega) (by omega), nI_leI (by omega) (by omega)]
      have k107 : ¬ cmB (byG T.2.2.2.1) m (4 * k) n0 = true → 4 * k < m → w_X12_row_b107 q (fun S v0 v1 v2 v3 => w_X12_row_b35 q t S v0 v1 v2 v3) (ov S o ad N) o (nI m) (nI (rowSt T.2.2.2.1 T.1.1 k).2) (nI (4 * k)) := by
        intro hx hkm
        rw [if_neg hx] at eS
        unfold w_X12_row_b107
        simp (disch := decide) only [oi_gI, oi_gJ, oi_gP, oi_pI, oi_pZ, oi_pJ, oi_oK, oi_aI hd, oi_aZ hd, oi_aJ hd, oi_sI hd, oi_sZ hd, oi_sJ hd, mI_1, mI_2, mJ_1, mJ_2, mJ_3, mA_1, mA_2, mA_3, mA_4, mL_1, mL_2, mL_3, mL_4, mK, Nat.reduceEqDiff, if_true, if_false, ite_true, ite_false, true_and, Nat.reduceLT, reduceIte, reduceCtorEq, cl_0, cl_1, cl_2, cl_3, cl_4, cl_5, cl_6, cl_7, cl_8, cl_9, cl_10, cl_11, cl_12, cl_13, cl_14, cl_15, vl_0_5585, vl_1_5585, vl_2_5585, vl_3_5585, vl_4_5585, vl_5_5585, vl_6_5585, vl_0_7, vl_1_7, vl_2_7, vl_3_7, vl_4_7, vl_5_7, vl_6_7]
        rw [e11, nI_1]
        unfold w_X12_row_b117
        intro y ey
        rw [ey, show nI (4 * k) + 4 = nI (4 * (k + 1)) from nIadd (4 * k) 4]
        have := ih (mI N 11 (nI (k - (rowSt T.2.2.2.1 T.1.1 k).2 + 1)), k + 1) ⟨⟨mOk_self (mOk_11 hN), ?_⟩, by dsimp only; omega⟩ (by dsimp only; omega)
        · dsimp only at this
          rw [eS] at this
          exact this
        · dsimp only
          rw [eS, show k + 1 - (rowSt T.2.2.2.1 T.1.1 k).2 = k - (rowSt T.2.2.2.1 T.1.1 k).2 + 1 by omega]
          exact hRN.r11
      refine ⟨fun c1 => ⟨ov_oK, ?_⟩, fun c1 => ⟨fun c2 => k107 (fun z => by have := (cmB_iff.mp z).1; omega) (by omega), fun c2 => ?_⟩⟩
      · have ek : k = rowJ T.2.2.2.1 := by unfold rowJ; rw [emm]; omega
        rw [← ek] at h
        exact r_settled hd hN hRN.cl (by rw [nI_toInt (by omega)]; omega) (fun P hP hRP => h P (mOk_self hP) hRP)
      simp (disch := decide) only [oi_gI, oi_gJ, oi_gP, oi_pI, oi_pZ, oi_pJ, oi_oK, oi_aI hd, oi_aZ hd, oi_aJ hd, oi_sI hd, oi_sZ hd, oi_sJ hd, mI_1, mI_2, mJ_1, mJ_2, mJ_3, mA_1, mA_2, mA_3, mA_4, mL_1, mL_2, mL_3, mL_4, mK, Nat.reduceEqDiff, if_true, if_false, ite_true, ite_false, true_and, Nat.reduceLT, reduceIte, reduceCtorEq, cl_0, cl_1, cl_2, cl_3, cl_4, cl_5, cl_6, cl_7, cl_8, cl_9, cl_10, cl_11, cl_12, cl_13, cl_14, cl_15, vl_0_5585, vl_1_5585, vl_2_5585, vl_3_5585, vl_4_5585, vl_5_5585, vl_6_5585, vl_0_7, vl_1_7, vl_2_7, vl_3_7, vl_4_7, vl_5_7, vl_6_7]
      rw [nI_clamp (by omega), nI_clamp (by omega), nI_clamp (by omega), nI_clamp (by omega), eT _ (by omega), eT _ (by omega), eT _ (by omega), eT _ (by omega)]
      refine ⟨vp_in_nI (by omega) (by omega), fun c3 => k107 (fun z => absurd (cmB_iff.mp z).2.1 (Int32.not_lt.mpr c3)) (by omega), fun c3 => ⟨vp_in_nI (by omega) (by omega), vp_in_nI (by omega) (by omega), vp_in_nI (by omega) (by omega), vp_in_nI (by omega) (by omega), x_come hd hN.1 hn0 e1 (fun hx => ⟨fun _ => k107 (fun z => hx (cmB_iff.mp z).2.2.1) (by omega), fun z => absurd (by decide) z⟩) (fun _ e8 => ⟨fun _ => k107 (fun z => ?_) (by omega), fun z => absurd (by decide) z⟩) (fun hx hn1 f hf hcut hhi => ⟨fun z => ?_, fun _ y ey => ?_⟩)⟩⟩
      · have := (cmB_iff.mp z).2.2.2
        omega
      · exfalso
        rw [Int32.lt_iff_toInt_lt, nI_toInt (by omega)] at z
        have : (0 : Int32).toInt = 0 := by decide
        omega
      · have hat : cmB (byG T.2.2.2.1) m (4 * k) n0 = true := cmB_iff.mpr ⟨by omega, Int32.not_le.mp c3, hx, hn1⟩
        rw [if_pos hat] at eS
        rw [ey, nI_1]
        unfold w_X12_row_b117
        intro y2 ey2
        rw [ey2, show nI (4 * k) + 4 = nI (4 * (k + 1)) from nIadd (4 * k) 4]
        have ecut : cut (N.2.2.1 3) = (rowSt T.2.2.2.1 T.1.1 k).1 := hRN.1.1
        rw [ecut] at hcut
        have hRn := hRN.tn (f := f) hcut hhi (psX_67 hn1 (Or.inl rfl)) ⟨psX_67 hn1 (Or.inr (Or.inl rfl)), psX_67 hn1 (Or.inr (Or.inr rfl))⟩
        have := ih (mA N 3 f, k + 1) ⟨⟨mOk_self (mOk_rT hN hf), ?_⟩, by dsimp only; omega⟩ (by dsimp only; omega)
        · dsimp only at this
          rw [eS] at this
          exact this
        · dsimp only
          rw [eS]
          dsimp only
          rw [show k + 1 - ((rowSt T.2.2.2.1 T.1.1 k).2 + 1) = k - (rowSt T.2.2.2.1 T.1.1 k).2 by omega]
          exact hRn
    · show RR _ (0 - 0) (aTn T.1.1 (aEm T))
      exact RR.r11 (rs' := 0) hR1
  · have m0 : m = 0 := nI_inj (b := 0) (by omega) (by omega) c
    have es : spRow T = spRef 6 T := by
      unfold spRow
      rw [emm, if_pos m0]
    have er : rowRs T rs = rs := by
      unfold rowRs
      rw [emm, if_pos m0]
    rw [es, er] at h
    have eT : aEm T = T := by
      unfold aEm
      obtain ⟨t1, t2, t3, ⟨t4, t5⟩, t6⟩ := T
      have : t5 = m := emm
      rw [this, m0]
    rw [eT] at hR1
    exact r_ref hd hM1 hR1 (v := 6) (by omega) (by decide) (fun N hN hRN => h N (mOk_self hN) hRN)
end RX2
