/-! DRAWING IN THE REFERENCE -/
theorem nxtL {s : Nat} (hs : s ≤ 1000003) : (jN s * 1103 + 12345) - (jN s * 1103 + 12345) / 1000003 * 1000003 = jN (nxtD s) := by
  have e1 : (jN s).toInt = (s : Int) := jN_i (by omega) (by omega)
  have e2 : (jN s * 1103).toInt = (s * 1103 : Nat) := by
    rw [fb_mulL (by rw [e1, show (1103 : Int64).toInt = 1103 by decide]; omega) (by rw [e1, show (1103 : Int64).toInt = 1103 by decide]; omega), e1, show (1103 : Int64).toInt = 1103 by decide]
    omega
  have e3 : (jN s * 1103 + 12345).toInt = ((s * 1103 + 12345 : Nat) : Int) := by
    rw [fb_addL (by rw [e2, show (12345 : Int64).toInt = 12345 by decide]; omega) (by rw [e2, show (12345 : Int64).toInt = 12345 by decide]; omega), e2, show (12345 : Int64).toInt = 12345 by decide]
    omega
  generalize jN s * 1103 + 12345 = X at e3 ⊢
  unfold nxtD
  have hm : s * 1103 + 12345 ≤ 2000000000 := by omega
  generalize s * 1103 + 12345 = m at e3 hm ⊢
  have e4 : (X / 1000003).toInt = ((m / 1000003 : Nat) : Int) := by
    rw [Int64.toInt_div, e3, show (1000003 : Int64).toInt = 1000003 by decide, Int.tdiv_eq_ediv_of_nonneg (by omega)]
    rw [fb_bmodL (by omega) (by omega)]
    omega
  have e5 : (X / 1000003 * 1000003).toInt = ((m / 1000003 * 1000003 : Nat) : Int) := by
    rw [fb_mulL (by rw [e4, show (1000003 : Int64).toInt = 1000003 by decide]; omega) (by rw [e4, show (1000003 : Int64).toInt = 1000003 by decide]; omega), e4, show (1000003 : Int64).toInt = 1000003 by decide]
    omega
  have e6 : (X - X / 1000003 * 1000003).toInt = ((m % 1000003 : Nat) : Int) := by
    rw [fb_subL (by rw [e5, e3]; omega) (by rw [e5, e3]; omega), e5, e3]
    omega
  exact jN_of e6
theorem modL {m n : Nat} (hm : m ≤ 1000003) (hn : 1 ≤ n ∧ n < 1000) : jN m - jN m / jN n * jN n = jN (m % n : Nat) := by
  have e1 : (jN m).toInt = (m : Int) := jN_i (by omega) (by omega)
  have e2 : (jN n).toInt = (n : Int) := jN_i (by omega) (by omega)
  have d1 : m / n ≤ m := Nat.div_le_self _ _
  have d2 : m / n * n ≤ m := Nat.div_mul_le_self _ _
  have d3 := Nat.mod_eq_sub_div_mul (x := m) (k := n)
  obtain ⟨k, hk⟩ : ∃ k, m / n = k := ⟨_, rfl⟩
  obtain ⟨z, hz⟩ : ∃ z, k * n = z := ⟨_, rfl⟩
  rw [hk] at d1 d2 d3
  rw [hz] at d2 d3
  have e4 : (jN m / jN n).toInt = (k : Int) := by
    rw [Int64.toInt_div, e1, e2, Int.tdiv_eq_ediv_of_nonneg (by omega)]
    have : ((m : Int) / (n : Int)) = (k : Int) := by rw [← hk, Int.natCast_ediv]
    rw [this, fb_bmodL (by omega) (by omega)]
  have e5 : (jN m / jN n * jN n).toInt = (z : Int) := by
    have : ((k : Int) * (n : Int)) = (z : Int) := by rw [← hz, Int.natCast_mul]
    rw [fb_mulL (by rw [e4, e2, this]; omega) (by rw [e4, e2, this]; omega), e4, e2, this]
  have e6 : (jN m - jN m / jN n * jN n).toInt = ((m % n : Nat) : Int) := by
    rw [fb_subL (by rw [e5, e1]; omega) (by rw [e5, e1]; omega), e5, e1]
    omega
  exact jN_of e6
section DW
variable {S : hS} {o : Nat} {ad : Nat → Nat} {M N P : mS}
theorem x_draw (hd : mD o ad) {q : Int32 → hS → Prop} {s n : Nat} (es : M.2.1 57 = jN s) (hs : s ≤ 1000003) (hn : 1 ≤ n ∧ n < 1000) (h : q (nI (nxtD s % n)) (ov S o ad (mJ M 57 (jN (nxtD s))))) : w_X12_draw q (ov S o ad M) o (nI n) := by
  have l := nxtD_lt s
  unfold w_X12_draw
  simp (disch := decide) only [oi_gI, oi_gJ, oi_gP, oi_pI, oi_pZ, oi_pJ, oi_oK, oi_aI hd, oi_aZ hd, oi_aJ hd, oi_sI hd, oi_sZ hd, oi_sJ hd, mI_1, mI_2, mJ_1, mJ_2, mJ_3, mA_1, mA_2, mA_3, mA_4, mL_1, mL_2, mL_3, mL_4, mK, Nat.reduceEqDiff, if_true, if_false, ite_true, ite_false, true_and, Nat.reduceLT, reduceIte, reduceCtorEq, cl_0, cl_1, cl_2, cl_3, cl_4, cl_5, cl_6, cl_7, cl_8, cl_9, cl_10, cl_11, cl_12, cl_13, cl_14, cl_15, vl_0_5585, vl_1_5585, vl_2_5585, vl_3_5585, vl_4_5585, vl_5_5585, vl_6_5585, vl_0_7, vl_1_7, vl_2_7, vl_3_7, vl_4_7, vl_5_7, vl_6_7]
  rw [es, nxtL hs]
  refine ⟨fun z => ?_, ?_⟩
  · have := congrArg Int64.toInt z
    rw [jN_nI (by omega), jN_i (by omega) (by omega), show (0 : Int64).toInt = 0 by decide] at this
    omega
  · rw [jN_nI (by omega), modL (by omega) hn, toI32 (by have := Nat.mod_lt (nxtD s) (show 0 < n by omega); omega)]
    exact h
end DW
