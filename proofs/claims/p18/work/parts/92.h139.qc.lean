section QC
variable {S : hS} {o : Nat} {ad : Nat → Nat} {M N P M0 : mS} {mT : mS} {T T' : aS} {rs rs' : Nat} {f g : Nat → Int32} {k n : Nat}
theorem xr_count (hd : mD o ad) (hM : mOk M M) (hR : RR M rs T) (hA : aB T) {q : Int32 → hS → Prop} {a : Int32} (h : ∀ N, mOk N N → RR N rs T → q (spCount a T) (ov S o ad N)) : w_X12_count q (ov S o ad M) o a := by
  have hM0 : mOk M (mI M 0 0) := mOk_i hM (by omega)
  have hR0 := hR.z (x := 0)
  have h' := h _ (mOk_self hM0) hR0
  have hQ := hR0.QM hA
  have bb := hA.hi
  have hP : nPR T.1.1 ≤ 8 := by unfold nPR; omega
  have h6 := hR.2.2.2.2.2.1
  unfold w_X12_count
  simp (disch := decide) only [oi_gI, oi_gJ, oi_gP, oi_pI, oi_pZ, oi_pJ, oi_oK, oi_aI hd, oi_aZ hd, oi_aJ hd, oi_sI hd, oi_sZ hd, oi_sJ hd, mI_1, mI_2, mJ_1, mJ_2, mJ_3, mA_1, mA_2, mA_3, mA_4, mL_1, mL_2, mL_3, mL_4, mK, Nat.reduceEqDiff, if_true, if_false, ite_true, ite_false, true_and, Nat.reduceLT, reduceIte, reduceCtorEq, cl_0, cl_1, cl_2, cl_3, cl_4, cl_5, cl_6, cl_7, cl_8, cl_9, cl_10, cl_11, cl_12, cl_13, cl_14, cl_15, vl_0_5585, vl_1_5585, vl_2_5585, vl_3_5585, vl_4_5585, vl_5_5585, vl_6_5585, vl_0_7, vl_1_7, vl_2_7, vl_3_7, vl_4_7, vl_5_7, vl_6_7]
  intro y e
  subst e
  unfold spCount at h'
  refine ⟨fun c => ?_, fun c => ?_, fun c => ?_, fun c => ?_, fun c => ?_, fun c => ?_, fun c => ?_, fun c => ?_, fun c => ?_, fun c => ?_, fun c => ?_, fun c => ?_, fun c => ?_, fun c => ?_⟩
  · rw [if_pos c] at h'
    rw [hR.at (i := 0) (by omega)]
    exact h'
  · rw [if_neg (by omega), if_pos c] at h'
    rw [hR.at (i := 1) (by omega)]
    exact h'
  · rw [if_neg (by omega), if_neg (by omega), if_pos c] at h'
    refine x_living hd hQ.1 (fun x hx => x_ones ?_)
    have n1 : onesN x 8 = aliveR T.1.1 (nPR T.1.1) := by
      have hx' : ∀ j, j < 8 → (dB x j = 1 ↔ j < nPR T.1.1 ∧ liveR T.1.1 j = true) := by
        intro k hk
        have eN : nPR (M.2.2.1 3) = nPR T.1.1 := by
          unfold nPR
          rw [hR.iR (by omega)]
        have eL : liveR (M.2.2.1 3) k = liveR T.1.1 k := by
          unfold liveR
          rw [hR.iR (by omega)]
        rw [← eN, ← eL]
        exact hx k hk
      rw [onesN_alive hx' 8 (Nat.le_refl _), Nat.min_eq_right hP]
    rw [n1]
    exact h'
  · rw [if_neg (by omega), if_neg (by omega), if_neg (by omega), if_pos c] at h'
    rw [hR.at (i := 2) (by omega)]
    exact h'
  · rw [if_neg (by omega), if_neg (by omega), if_neg (by omega), if_neg (by omega), if_pos c] at h'
    rw [hR.at (i := 3) (by omega)]
    exact h'
  · rw [if_neg (by omega), if_neg (by omega), if_neg (by omega), if_neg (by omega), if_neg (by omega), if_pos c] at h'
    rw [hR.2.2.1.1]
    exact h'
  · rw [if_neg (by omega), if_neg (by omega), if_neg (by omega), if_neg (by omega), if_neg (by omega), if_neg (by omega), if_pos c] at h'
    rw [hR.tpM.1]
    exact h'
  · rw [if_neg (by omega), if_neg (by omega), if_neg (by omega), if_neg (by omega), if_neg (by omega), if_neg (by omega), if_neg (by omega), if_pos c] at h'
    rw [h6 1 (by omega)]
    exact h'
  · rw [if_neg (by omega), if_neg (by omega), if_neg (by omega), if_neg (by omega), if_neg (by omega), if_neg (by omega), if_neg (by omega), if_neg (by omega), if_pos c] at h'
    rw [h6 2 (by omega)]
    exact h'
  · rw [if_neg (by omega), if_neg (by omega), if_neg (by omega), if_neg (by omega), if_neg (by omega), if_neg (by omega), if_neg (by omega), if_neg (by omega), if_neg (by omega), if_pos c] at h'
    rw [h6 3 (by omega)]
    exact h'
  · rw [if_neg (by omega), if_neg (by omega), if_neg (by omega), if_neg (by omega), if_neg (by omega), if_neg (by omega), if_neg (by omega), if_neg (by omega), if_neg (by omega), if_neg (by omega), if_pos c] at h'
    rw [h6 5 (by omega)]
    exact h'
  · rw [if_neg (by omega), if_neg (by omega), if_neg (by omega), if_neg (by omega), if_neg (by omega), if_neg (by omega), if_neg (by omega), if_neg (by omega), if_neg (by omega), if_neg (by omega), if_neg (by omega), if_pos c] at h'
    rw [h6 6 (by omega)]
    exact h'
  · rw [if_neg (by omega), if_neg (by omega), if_neg (by omega), if_neg (by omega), if_neg (by omega), if_neg (by omega), if_neg (by omega), if_neg (by omega), if_neg (by omega), if_neg (by omega), if_neg (by omega), if_neg (by omega), if_pos c] at h'
    rw [hR.at (i := 4) (by omega)]
    exact h'
  · rw [if_neg (by omega), if_neg (by omega), if_neg (by omega), if_neg (by omega), if_neg (by omega), if_neg (by omega), if_neg (by omega), if_neg (by omega), if_neg (by omega), if_neg (by omega), if_neg (by omega), if_neg (by omega), if_neg (by omega)] at h'
    refine s_inI 13 15 (by decide) (by decide) (fun x1 x2 => ⟨fun z => absurd z (by decide), fun _ => ?_⟩) (fun nx => ⟨fun _ => ?_, fun z => absurd rfl z⟩)
    · simp (disch := decide) only [oi_gI, oi_gJ, oi_gP, oi_pI, oi_pZ, oi_pJ, oi_oK, oi_aI hd, oi_aZ hd, oi_aJ hd, oi_sI hd, oi_sZ hd, oi_sJ hd, mI_1, mI_2, mJ_1, mJ_2, mJ_3, mA_1, mA_2, mA_3, mA_4, mL_1, mL_2, mL_3, mL_4, mK, Nat.reduceEqDiff, if_true, if_false, ite_true, ite_false, true_and, Nat.reduceLT, reduceIte, reduceCtorEq, cl_0, cl_1, cl_2, cl_3, cl_4, cl_5, cl_6, cl_7, cl_8, cl_9, cl_10, cl_11, cl_12, cl_13, cl_14, cl_15, vl_0_5585, vl_1_5585, vl_2_5585, vl_3_5585, vl_4_5585, vl_5_5585, vl_6_5585, vl_0_7, vl_1_7, vl_2_7, vl_3_7, vl_4_7, vl_5_7, vl_6_7]
      obtain ⟨k, hk, rfl⟩ := rg_in (z := y) 16 (by omega) (by omega) (by omega)
      have tk : (nI k).toInt = k := nI_toInt (by omega)
      rw [tk] at h' x1
      have : (5 : Int32) + nI k - 13 = nI (k - 8) := by
        obtain ⟨j, rfl⟩ : ∃ j, k = j + 13 := ⟨k - 13, by omega⟩
        rw [show nI (j + 13) = nI j + 13 from (nIadd j 13).symm, ← Int32.add_assoc, Int32.add_sub_cancel, Int32.add_comm, show nI j + 5 = nI (j + 5) from nIadd j 5]
        rfl
      rw [this, nI_clamp (by omega), hR.at (i := k - 8) (by omega)]
      refine ⟨vp_in_nI (by omega) (by omega), ?_⟩
      have : k = 13 ∨ k = 14 ∨ k = 15 := by omega
      rcases this with rfl | rfl | rfl
      · rw [if_pos (show ((13 : Nat) : Int) = 13 from rfl)] at h'
        exact h'
      · rw [if_neg (by omega), if_pos (show ((14 : Nat) : Int) = 14 from rfl)] at h'
        exact h'
      · rw [if_neg (by omega), if_neg (by omega), if_pos (show ((15 : Nat) : Int) = 15 from rfl)] at h'
        exact h'
    · rw [if_neg (by omega), if_neg (by omega), if_neg (by omega)] at h'
      exact h'
end QC
