/-! LAYER 2, the reference: orders() -/
/-- what running a clause changes -/
def RF (M N : mS) : Prop := Fx [8, 20, 34, 38, 53, 54, 56] [39, 40] [3, 6, 7] [35, 36, 37] M N
theorem RF.tr {M N P : mS} (h1 : RF M N) (h2 : RF N P) : RF M P := (Fx.tr h1 h2).le (by simp) (by simp) (by simp) (by simp)
theorem odP_rf {M N : mS} {n c : Nat} (h : RF M N) (ho : odP M n c) : odP N n c := odP_low ho (h.2.2.1 52 (by simp)) (lowEq.fx h (by simp) (by simp)) (Nat.le_refl _)
section REF32
variable {S : hS} {o : Nat} {ad : Nat → Nat} {M : mS} {mT : mS}
theorem f_sumOf (hd : mD o ad) (hM : mOk mT M) {q : Int32 → hS → Prop} {n c j s : Nat} (ho : odP M n c) (hc : c ≤ 400) (hn : n ≤ 12) (hj : j < n) (hs : odS s) (h : ∀ r N, mOk mT N → Fx [20, 38, 56] [39] [] [37] M N → q r (ov S o ad N)) : w_X12_sumOf q (ov S o ad M) o (nI (10 * j + s)) := by
  have hs7 : s ≤ 7 := by unfold odS at hs; omega
  obtain ⟨lo, hi, e1, e2, l1, l2, hcd⟩ := (ho j hj).1 s hs
  have hid : ∀ r, q r (ov S o ad M) := fun r => h r M hM Fx.rf'
  unfold w_X12_sumOf
  simp (disch := decide) only [oi_gI, oi_gJ, oi_gP, oi_pI, oi_pZ, oi_pJ, oi_oK, oi_aI hd, oi_aZ hd, oi_aJ hd, oi_sI hd, oi_sZ hd, oi_sJ hd, mI_1, mI_2, mJ_1, mJ_2, mJ_3, mA_1, mA_2, mA_3, mA_4, mL_1, mL_2, mL_3, mL_4, mK, Nat.reduceEqDiff, if_true, if_false, ite_true, ite_false, true_and, Nat.reduceLT, reduceIte, reduceCtorEq, cl_0, cl_1, cl_2, cl_3, cl_4, cl_5, cl_6, cl_7, cl_8, cl_9, cl_10, cl_11, cl_12, cl_13, cl_14, cl_15, vl_0_5585, vl_1_5585, vl_2_5585, vl_3_5585, vl_4_5585, vl_5_5585, vl_6_5585, vl_0_7, vl_1_7, vl_2_7, vl_3_7, vl_4_7, vl_5_7, vl_6_7]
  rw [nI_1, nI_clamp (by omega), nI_clamp (by omega), e1, e2]
  refine ⟨fun _ => hid _, fun _ => ⟨vp_in_nI (by omega) (by omega), vp_in_nI (by omega) (by omega), fun _ => ⟨by simp, vp_in_nI (by omega) (by omega), vp_in_nI (by omega) (by omega), ?_⟩, fun _ => hid _⟩⟩
  refine f_reckonAllb hd (M := mI M 20 1) l1 (by omega) hcd (by simp [mI_1]) hM.1.1 hM.1.2.1 (fun N hF h38 => ?_)
  simp (disch := decide) only [oi_gI, oi_gJ, oi_gP, oi_pI, oi_pZ, oi_pJ, oi_oK, oi_aI hd, oi_aZ hd, oi_aJ hd, oi_sI hd, oi_sZ hd, oi_sJ hd, mI_1, mI_2, mJ_1, mJ_2, mJ_3, mA_1, mA_2, mA_3, mA_4, mL_1, mL_2, mL_3, mL_4, mK, Nat.reduceEqDiff, if_true, if_false, ite_true, ite_false, true_and, Nat.reduceLT, reduceIte, reduceCtorEq, cl_0, cl_1, cl_2, cl_3, cl_4, cl_5, cl_6, cl_7, cl_8, cl_9, cl_10, cl_11, cl_12, cl_13, cl_14, cl_15, vl_0_5585, vl_1_5585, vl_2_5585, vl_3_5585, vl_4_5585, vl_5_5585, vl_6_5585, vl_0_7, vl_1_7, vl_2_7, vl_3_7, vl_4_7, vl_5_7, vl_6_7]
  have hF2 := (((Fx.i (M := M) 20 1).tr hF).tr (Fx.i 20 0)).tr (Fx.i 56 (N.1 38))
  refine ⟨by simp, h38, h _ _ (mOk_txt hF2 hM ?_ ?_ ⟨rfl, rfl, ?_⟩ (by simp)) (hF2.le (by simp) (by simp) (by simp) (by simp))⟩
  · rw [hF2.1 13 (by simp)]; exact hM.2.2.2.2.2.2.2.1
  · simp [mI_1]
  · rw [hF2.1 13 (by simp)]; exact hM.2.2.2.2.2.2.2.2.2.2.2.2.2.2.1
theorem f_act (hd : mD o ad) (hM : mOk mT M) {q : Int32 → hS → Prop} {a b c d : Int32} (h : ∀ r N, mOk mT N → Fq M N → -3 ≤ r.toInt → q r (ov S o ad N)) : w_X12_act q (ov S o ad M) o a b c d := by
  intro y _
  exact ⟨fun _ => ⟨ov_oK, d_ringNow hd hM h⟩, fun _ => ⟨ov_oK, d_sellNow hd hM h⟩, fun _ => ⟨ov_oK, d_dieNow hd hM h⟩, fun _ => ⟨ov_oK, d_passNow hd hM h⟩⟩
theorem f_run (hd : mD o ad) (hM : mOk mT M) {q : Int32 → hS → Prop} {n c j dn : Nat} (ho : odP M n c) (hc : c ≤ 400) (hn : n ≤ 12) (hj : j < n) (hdn : M.1 53 = nI dn) (h : ∀ r N, mOk mT N → RF M N → (N.1 53 = nI dn ∨ N.1 53 = nI (dn + 1)) → q r (ov S o ad N)) : w_X12_run q (ov S o ad M) o (nI (10 * j)) := by
  have o1 : odS 1 := by unfold odS; omega
  have o3 : odS 3 := by unfold odS; omega
  have o5 : odS 5 := by unfold odS; omega
  have o7 : odS 7 := by unfold odS; omega
  have e1 : nI (10 * j) + 1 = nI (10 * j + 1) := nIadd _ _
  have e3 : nI (10 * j) + 3 = nI (10 * j + 3) := nIadd _ _
  have e5 : nI (10 * j) + 5 = nI (10 * j + 5) := nIadd _ _
  have e7 : nI (10 * j) + 7 = nI (10 * j + 7) := nIadd _ _
  have k97 : ∀ N, mOk mT N → RF M N → N.1 53 = nI dn → w_X12_run_b97 q (ov S o ad N) o (nI (10 * j)) := by
    intro N hN hF h53
    unfold w_X12_run_b97
    rw [e1, e3, e5]
    refine ⟨ov_oK, f_sumOf hd hN (odP_rf hF ho) hc hn hj o1 (fun r1 N1 m1 F1 => ?_)⟩
    have R1 : RF M N1 := RF.tr hF (F1.le (by simp) (by simp) (by simp) (by simp))
    refine ⟨ov_oK, f_sumOf hd m1 (odP_rf R1 ho) hc hn hj o3 (fun r2 N2 m2 F2 => ?_)⟩
    have R2 : RF M N2 := RF.tr R1 (F2.le (by simp) (by simp) (by simp) (by simp))
    refine ⟨ov_oK, f_sumOf hd m2 (odP_rf R2 ho) hc hn hj o5 (fun r3 N3 m3 F3 => ?_)⟩
    have R3 : RF M N3 := RF.tr R2 (F3.le (by simp) (by simp) (by simp) (by simp))
    have d3 : N3.1 53 = nI dn := by rw [F3.1 53 (by simp), F2.1 53 (by simp), F1.1 53 (by simp)]; exact h53
    simp (disch := decide) only [oi_gI, oi_gJ, oi_gP, oi_pI, oi_pZ, oi_pJ, oi_oK, oi_aI hd, oi_aZ hd, oi_aJ hd, oi_sI hd, oi_sZ hd, oi_sJ hd, mI_1, mI_2, mJ_1, mJ_2, mJ_3, mA_1, mA_2, mA_3, mA_4, mL_1, mL_2, mL_3, mL_4, mK, Nat.reduceEqDiff, if_true, if_false, ite_true, ite_false, true_and, Nat.reduceLT, reduceIte, reduceCtorEq, cl_0, cl_1, cl_2, cl_3, cl_4, cl_5, cl_6, cl_7, cl_8, cl_9, cl_10, cl_11, cl_12, cl_13, cl_14, cl_15, vl_0_5585, vl_1_5585, vl_2_5585, vl_3_5585, vl_4_5585, vl_5_5585, vl_6_5585, vl_0_7, vl_1_7, vl_2_7, vl_3_7, vl_4_7, vl_5_7, vl_6_7]
    refine ⟨fun _ => ⟨vp_in_nI (by omega) (by omega), f_act hd m3 (fun r N4 m4 F4 hr => ?_)⟩, fun _ => h _ _ m3 R3 (Or.inl d3)⟩
    have R4 : RF M N4 := RF.tr R3 (Fx.le F4 (by simp) (by simp) (by simp) (by simp))
    have d4 : N4.1 53 = nI dn := by rw [F4.1 53 (by simp)]; exact d3
    have k175 : ∀ x, w_X12_run_b175 q (ov S o ad N4) o x o := by
      intro x
      unfold w_X12_run_b175
      simp (disch := decide) only [oi_gI, oi_gJ, oi_gP, oi_pI, oi_pZ, oi_pJ, oi_oK, oi_aI hd, oi_aZ hd, oi_aJ hd, oi_sI hd, oi_sZ hd, oi_sJ hd, mI_1, mI_2, mJ_1, mJ_2, mJ_3, mA_1, mA_2, mA_3, mA_4, mL_1, mL_2, mL_3, mL_4, mK, Nat.reduceEqDiff, if_true, if_false, ite_true, ite_false, true_and, Nat.reduceLT, reduceIte, reduceCtorEq, cl_0, cl_1, cl_2, cl_3, cl_4, cl_5, cl_6, cl_7, cl_8, cl_9, cl_10, cl_11, cl_12, cl_13, cl_14, cl_15, vl_0_5585, vl_1_5585, vl_2_5585, vl_3_5585, vl_4_5585, vl_5_5585, vl_6_5585, vl_0_7, vl_1_7, vl_2_7, vl_3_7, vl_4_7, vl_5_7, vl_6_7]
      rw [d4, nI_1]
      have F5 := (Fx.i (M := N4) 54 x).tr (Fx.i 53 (nI (dn + 1)))
      exact h _ _ (mOk_fx F5 m4 (by simp)) (RF.tr R4 (F5.le (by simp) (by simp) (by simp) (by simp))) (Or.inr (by simp [mI_1]))
    simp (disch := decide) only [oi_gI, oi_gJ, oi_gP, oi_pI, oi_pZ, oi_pJ, oi_oK, oi_aI hd, oi_aZ hd, oi_aJ hd, oi_sI hd, oi_sZ hd, oi_sJ hd, mI_1, mI_2, mJ_1, mJ_2, mJ_3, mA_1, mA_2, mA_3, mA_4, mL_1, mL_2, mL_3, mL_4, mK, Nat.reduceEqDiff, if_true, if_false, ite_true, ite_false, true_and, Nat.reduceLT, reduceIte, reduceCtorEq, cl_0, cl_1, cl_2, cl_3, cl_4, cl_5, cl_6, cl_7, cl_8, cl_9, cl_10, cl_11, cl_12, cl_13, cl_14, cl_15, vl_0_5585, vl_1_5585, vl_2_5585, vl_3_5585, vl_4_5585, vl_5_5585, vl_6_5585, vl_0_7, vl_1_7, vl_2_7, vl_3_7, vl_4_7, vl_5_7, vl_6_7]
    exact ⟨fun _ => ⟨vp_in_nI (by omega) (by omega), fun _ => k175 _, fun _ => k175 _⟩, fun _ => h _ _ m4 R4 (Or.inl d4)⟩
  have v13 : ∀ k : Nat, k < 13 → vp_in (nI k) 13 := fun k hk => vp_in_nI hk (by omega)
  unfold w_X12_run
  simp (disch := decide) only [oi_gI, oi_gJ, oi_gP, oi_pI, oi_pZ, oi_pJ, oi_oK, oi_aI hd, oi_aZ hd, oi_aJ hd, oi_sI hd, oi_sZ hd, oi_sJ hd, mI_1, mI_2, mJ_1, mJ_2, mJ_3, mA_1, mA_2, mA_3, mA_4, mL_1, mL_2, mL_3, mL_4, mK, Nat.reduceEqDiff, if_true, if_false, ite_true, ite_false, true_and, Nat.reduceLT, reduceIte, reduceCtorEq, cl_0, cl_1, cl_2, cl_3, cl_4, cl_5, cl_6, cl_7, cl_8, cl_9, cl_10, cl_11, cl_12, cl_13, cl_14, cl_15, vl_0_5585, vl_1_5585, vl_2_5585, vl_3_5585, vl_4_5585, vl_5_5585, vl_6_5585, vl_0_7, vl_1_7, vl_2_7, vl_3_7, vl_4_7, vl_5_7, vl_6_7]
  refine s_yearNow hd ?_
  simp (disch := decide) only [oi_gI, oi_gJ, oi_gP, oi_pI, oi_pZ, oi_pJ, oi_oK, oi_aI hd, oi_aZ hd, oi_aJ hd, oi_sI hd, oi_sZ hd, oi_sJ hd, mI_1, mI_2, mJ_1, mJ_2, mJ_3, mA_1, mA_2, mA_3, mA_4, mL_1, mL_2, mL_3, mL_4, mK, Nat.reduceEqDiff, if_true, if_false, ite_true, ite_false, true_and, Nat.reduceLT, reduceIte, reduceCtorEq, cl_0, cl_1, cl_2, cl_3, cl_4, cl_5, cl_6, cl_7, cl_8, cl_9, cl_10, cl_11, cl_12, cl_13, cl_14, cl_15, vl_0_5585, vl_1_5585, vl_2_5585, vl_3_5585, vl_4_5585, vl_5_5585, vl_6_5585, vl_0_7, vl_1_7, vl_2_7, vl_3_7, vl_4_7, vl_5_7, vl_6_7, mL_mL]
  refine ⟨v13 1 (by omega), v13 2 (by omega), v13 3 (by omega), s_living hd (by exact hM.1.2.1) (fun x => s_ones (fun y => ?_))⟩
  simp (disch := decide) only [oi_gI, oi_gJ, oi_gP, oi_pI, oi_pZ, oi_pJ, oi_oK, oi_aI hd, oi_aZ hd, oi_aJ hd, oi_sI hd, oi_sZ hd, oi_sJ hd, mI_1, mI_2, mJ_1, mJ_2, mJ_3, mA_1, mA_2, mA_3, mA_4, mL_1, mL_2, mL_3, mL_4, mK, Nat.reduceEqDiff, if_true, if_false, ite_true, ite_false, true_and, Nat.reduceLT, reduceIte, reduceCtorEq, cl_0, cl_1, cl_2, cl_3, cl_4, cl_5, cl_6, cl_7, cl_8, cl_9, cl_10, cl_11, cl_12, cl_13, cl_14, cl_15, vl_0_5585, vl_1_5585, vl_2_5585, vl_3_5585, vl_4_5585, vl_5_5585, vl_6_5585, vl_0_7, vl_1_7, vl_2_7, vl_3_7, vl_4_7, vl_5_7, vl_6_7, mL_mL]
  rw [e7, nI_1, nI_clamp (by omega), nI_clamp (by omega)]
  refine ⟨v13 4 (by omega), by simp, vp_in_nI (by omega) (by omega), vp_in_nI (by omega) (by omega), ?_⟩
  have F0 := fun (g : Nat → Int64) => (Fx.l (M := M) 36 g).tr (Fx.i 56 0)
  have m0 := fun (g : Nat → Int64) => mOk_fx (F0 g) hM (by simp)
  have R0 : ∀ g, RF M (mI (mL M 36 g) 56 0) := fun g => (F0 g).le (by simp) (by simp) (by simp) (by simp)
  refine ⟨fun _ => k97 _ (m0 _) (R0 _) hdn, fun _ => f_sumOf hd (m0 _) (odP_rf (R0 _) ho) hc hn hj o7 (fun r N m F => ?_)⟩
  have R1 : RF M N := RF.tr (R0 _) (F.le (by simp) (by simp) (by simp) (by simp))
  have d1 : N.1 53 = nI dn := by rw [F.1 53 (by simp)]; exact hdn
  simp (disch := decide) only [oi_gI, oi_gJ, oi_gP, oi_pI, oi_pZ, oi_pJ, oi_oK, oi_aI hd, oi_aZ hd, oi_aJ hd, oi_sI hd, oi_sZ hd, oi_sJ hd, mI_1, mI_2, mJ_1, mJ_2, mJ_3, mA_1, mA_2, mA_3, mA_4, mL_1, mL_2, mL_3, mL_4, mK, Nat.reduceEqDiff, if_true, if_false, ite_true, ite_false, true_and, Nat.reduceLT, reduceIte, reduceCtorEq, cl_0, cl_1, cl_2, cl_3, cl_4, cl_5, cl_6, cl_7, cl_8, cl_9, cl_10, cl_11, cl_12, cl_13, cl_14, cl_15, vl_0_5585, vl_1_5585, vl_2_5585, vl_3_5585, vl_4_5585, vl_5_5585, vl_6_5585, vl_0_7, vl_1_7, vl_2_7, vl_3_7, vl_4_7, vl_5_7, vl_6_7]
  exact ⟨fun _ => h _ _ m R1 (Or.inl d1), fun _ => ⟨fun _ => k97 N m R1 d1, fun _ => h _ _ m R1 (Or.inl d1)⟩⟩
end REF32
