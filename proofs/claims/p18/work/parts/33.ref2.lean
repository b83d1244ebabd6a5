/-! LAYER 2, the reference: tell, change, settled, and what asks the row -/
section REF2
variable {S : hS} {o : Nat} {ad : Nat → Nat} {M : mS}
theorem s_tell (hd : mD o ad) {q : Int32 → hS → Prop} {v : Int32} (hv : -6 ≤ v.toInt) (h : ∀ f : Nat → Int32, q v (ov S o ad (mA (mI M 1 (if 0 ≤ v then 0 else v)) 2 f))) : w_X12_tell q (ov S o ad M) o v := by
  unfold w_X12_tell
  constructor
  · intro c
    unfold w_X12_tell_b10
    simp (disch := decide) only [oi_gI, oi_gJ, oi_gP, oi_pI, oi_pZ, oi_pJ, oi_oK, oi_aI hd, oi_aZ hd, oi_aJ hd, oi_sI hd, oi_sZ hd, oi_sJ hd, mI_1, mI_2, mJ_1, mJ_2, mJ_3, mA_1, mA_2, mA_3, mA_4, mL_1, mL_2, mL_3, mL_4, mK, Nat.reduceEqDiff, if_true, if_false, ite_true, ite_false, true_and, Nat.reduceLT, reduceIte, reduceCtorEq]
    refine ⟨fun _ => ?_, fun c2 => absurd c c2⟩
    have := h ((mI M 1 0).2.2.1 2)
    rw [if_pos c, mA_self] at this
    exact this
  · intro c
    unfold w_X12_tell_b10
    simp (disch := decide) only [oi_gI, oi_gJ, oi_gP, oi_pI, oi_pZ, oi_pJ, oi_oK, oi_aI hd, oi_aZ hd, oi_aJ hd, oi_sI hd, oi_sZ hd, oi_sJ hd, mI_1, mI_2, mJ_1, mJ_2, mJ_3, mA_1, mA_2, mA_3, mA_4, mL_1, mL_2, mL_3, mL_4, mK, Nat.reduceEqDiff, if_true, if_false, ite_true, ite_false, true_and, Nat.reduceLT, reduceIte, reduceCtorEq]
    refine ⟨fun c2 => absurd c2 c, fun _ => ?_⟩
    have hn : v.toInt < 0 := by
      rw [Int32.le_iff_toInt_le] at c
      simpa using c
    have hi : vp_in (-v) 7 := by
      rw [vp_in_iff, fb_negI (by omega)]
      omega
    refine ⟨hi, hi, ?_⟩
    have := h (upd (M.2.2.1 2) (-v).toNatClampNeg (M.2.2.1 2 (-v).toNatClampNeg + 1))
    rw [if_neg c] at this
    exact this
theorem s_change (hd : mD o ad) {q : Int32 → hS → Prop} {a : Nat} {v : Int32} (ha : a < 5585) (h : q (M.2.2.1 3 a) (ov S o ad (mI (mA M 3 (upd (M.2.2.1 3) a v)) 1 0))) : w_X12_change q (ov S o ad M) o (nI a) v := by
  unfold w_X12_change
  simp (disch := decide) only [oi_gI, oi_gJ, oi_gP, oi_pI, oi_pZ, oi_pJ, oi_oK, oi_aI hd, oi_aZ hd, oi_aJ hd, oi_sI hd, oi_sZ hd, oi_sJ hd, mI_1, mI_2, mJ_1, mJ_2, mJ_3, mA_1, mA_2, mA_3, mA_4, mL_1, mL_2, mL_3, mL_4, mK, Nat.reduceEqDiff, if_true, if_false, ite_true, ite_false, true_and, Nat.reduceLT, reduceIte, reduceCtorEq]
  rw [nI_clamp (by omega)]
  exact ⟨vp_in_nI ha (by omega), vp_in_nI ha (by omega), h⟩
end REF2
