/-! ORDERS IN THE REFERENCE, EXACTLY: THE LOOPS -/
section OO
variable {S : hS} {o : Nat} {ad : Nat → Nat} {M N P : mS} {mT : mS} {T T' : aS} {rs : Nat} {us : uL} {f g : Nat → Int32} {os : List pOr} {s s' : oS} {u : Nat}
theorem x_o150 (hd : mD o ad) {q : Int32 → hS → Prop} {K : hS → Nat → Int32 → Int32 → Prop} {j : Nat} (hj : j < os.length) (hO : okR os[j]) {v1 : Int32} (k0 : ∀ N s2, mOk mT N → RR N rs (oT T s2) → oB T s2 → Fo M N → orRep (csF T.1.1 T.1.2) os[j] os[j].2.2.1 s = none → oK (ov S o ad N) o 12 ∧ w_X12_giveBack (fun S => pI S o 12 55 (nI j) (fun S => oK S o 12 ∧ w_X12_tell (fun x190 S => q x190 S) S o (-3))) (ov S o ad N) o v1) (k1 : ∀ N s' , orRep (csF T.1.1 T.1.2) os[j] os[j].2.2.1 s = some s' → ORI mT rs os T (u + 20) s' N → Fo M N → K (ov S o ad N) o v1 (nI (j + 1))) (hu : u ≤ 400) : ∀ (n t : Nat) (N : mS) (s1 : oS) (w : Nat), t + n = os[j].2.2.1 → w ≤ u + t → ORI mT rs os T w s1 N → Fo M N → orRep (csF T.1.1 T.1.2) os[j] os[j].2.2.1 s = orRep (csF T.1.1 T.1.2) os[j] n s1 → w_X12_orders_b150 q K (n + 1) (ov S o ad N) o v1 (nI j) (nI t) := by
  have h20 := hO.2.2.2.2.2.2.2
  intro n
  induction n with
  | zero =>
    intro t N s1 w ht hw hI hF he
    obtain ⟨out, o1, o2, o3, o4⟩ := hI.2.2.2.2.1.mk hj
    have m5 := o4.2.2.2.2.2
    rw [w_X12_orders_b150]
    simp (disch := decide) only [oi_gI, oi_gJ, oi_gP, oi_pI, oi_pZ, oi_pJ, oi_oK, oi_aI hd, oi_aZ hd, oi_aJ hd, oi_sI hd, oi_sZ hd, oi_sJ hd, mI_1, mI_2, mJ_1, mJ_2, mJ_3, mA_1, mA_2, mA_3, mA_4, mL_1, mL_2, mL_3, mL_4, mK, Nat.reduceEqDiff, if_true, if_false, ite_true, ite_false, true_and, Nat.reduceLT, reduceIte, reduceCtorEq, cl_0, cl_1, cl_2, cl_3, cl_4, cl_5, cl_6, cl_7, cl_8, cl_9, cl_10, cl_11, cl_12, cl_13, cl_14, cl_15, vl_0_5585, vl_1_5585, vl_2_5585, vl_3_5585, vl_4_5585, vl_5_5585, vl_6_5585, vl_0_7, vl_1_7, vl_2_7, vl_3_7, vl_4_7, vl_5_7, vl_6_7]
    rw [lit_nI 10, nImul, lit_nI 9, nIadd, nI_clamp (by omega), m5, nI_leI (by omega) (by omega), nI_1]
    refine ⟨vp_in_nI (by omega) (by omega), fun _ y ey => ?_, fun z => absurd (by omega) z⟩
    rw [ey]
    rw [orRep] at he
    obtain ⟨i1, i2, i3, i4, i5, i6, i7⟩ := hI
    exact k1 N s1 he ⟨i1, i2, i3, i4, i5, i6, by omega⟩ hF
  | succ n ih =>
    intro t N s1 w ht hw hI hF he
    obtain ⟨out, o1, o2, o3, o4⟩ := hI.2.2.2.2.1.mk hj
    have m5 := o4.2.2.2.2.2
    rw [w_X12_orders_b150]
    simp (disch := decide) only [oi_gI, oi_gJ, oi_gP, oi_pI, oi_pZ, oi_pJ, oi_oK, oi_aI hd, oi_aZ hd, oi_aJ hd, oi_sI hd, oi_sZ hd, oi_sJ hd, mI_1, mI_2, mJ_1, mJ_2, mJ_3, mA_1, mA_2, mA_3, mA_4, mL_1, mL_2, mL_3, mL_4, mK, Nat.reduceEqDiff, if_true, if_false, ite_true, ite_false, true_and, Nat.reduceLT, reduceIte, reduceCtorEq, cl_0, cl_1, cl_2, cl_3, cl_4, cl_5, cl_6, cl_7, cl_8, cl_9, cl_10, cl_11, cl_12, cl_13, cl_14, cl_15, vl_0_5585, vl_1_5585, vl_2_5585, vl_3_5585, vl_4_5585, vl_5_5585, vl_6_5585, vl_0_7, vl_1_7, vl_2_7, vl_3_7, vl_4_7, vl_5_7, vl_6_7]
    rw [lit_nI 10, nImul, lit_nI 9, nIadd, nI_clamp (by omega), m5, nI_leI (by omega) (by omega), nI_1, nI_1]
    rw [orRep] at he
    refine ⟨vp_in_nI (by omega) (by omega), fun z => by omega, fun _ => x_run hd hI (by omega) hj hO (fun P w' s' hw' e hP hFP => ⟨fun _ y ey => ?_, fun z => absurd (by decide) z⟩) (fun P e hP hRP hFP => ⟨fun z => absurd z (by decide), fun _ => ?_⟩)⟩
    · rw [ey]
      rw [e] at he
      exact ih (t + 1) P s' w' (by omega) (by omega) hP (hF.tr hFP) he
    · rw [e] at he
      exact k0 P s1 hP hRP hI.2.2.2.2.2.1 (hF.tr hFP) he
theorem x_o140 (hd : mD o ad) {q : Int32 → hS → Prop} {v1 : Int32} {s0 : oS} {M0 : mS} (hO : ∀ x ∈ os, okR x) (h12 : os.length ≤ 12) (k0 : ∀ N j s2, j < os.length → mOk mT N → RR N rs (oT T s2) → oB T s2 → Fo M0 N → orRun (csF T.1.1 T.1.2) os 0 s0 = .inl j → oK (ov S o ad N) o 12 ∧ w_X12_giveBack (fun S => pI S o 12 55 (nI j) (fun S => oK S o 12 ∧ w_X12_tell (fun x190 S => q x190 S) S o (-3))) (ov S o ad N) o v1) (k1 : ∀ N s', orRun (csF T.1.1 T.1.2) os 0 s0 = .inr s' → ORI mT rs os T 240 s' N → Fo M0 N → w_X12_tell (fun x211 S => q x211 S) (ov S o ad N) o (N.1 53)) : ∀ (n j : Nat) (N : mS) (s1 : oS), j + n = os.length → ORI mT rs os T (20 * j) s1 N → Fo M0 N → orRun (csF T.1.1 T.1.2) os 0 s0 = orRun (csF T.1.1 T.1.2) (os.drop j) j s1 → w_X12_orders_b140 q (n + 1) (ov S o ad N) o v1 (nI j) := by
  intro n
  induction n with
  | zero =>
    intro j N s1 hj hI hF he
    have e21 : N.1 21 = nI os.length := by
      obtain ⟨out, h1, h2, h3, h4, h5, h6⟩ := hI.2.2.2.2.1
      exact h4
    rw [w_X12_orders_b140]
    simp (disch := decide) only [oi_gI, oi_gJ, oi_gP, oi_pI, oi_pZ, oi_pJ, oi_oK, oi_aI hd, oi_aZ hd, oi_aJ hd, oi_sI hd, oi_sZ hd, oi_sJ hd, mI_1, mI_2, mJ_1, mJ_2, mJ_3, mA_1, mA_2, mA_3, mA_4, mL_1, mL_2, mL_3, mL_4, mK, Nat.reduceEqDiff, if_true, if_false, ite_true, ite_false, true_and, Nat.reduceLT, reduceIte, reduceCtorEq, cl_0, cl_1, cl_2, cl_3, cl_4, cl_5, cl_6, cl_7, cl_8, cl_9, cl_10, cl_11, cl_12, cl_13, cl_14, cl_15, vl_0_5585, vl_1_5585, vl_2_5585, vl_3_5585, vl_4_5585, vl_5_5585, vl_6_5585, vl_0_7, vl_1_7, vl_2_7, vl_3_7, vl_4_7, vl_5_7, vl_6_7]
    rw [e21, nI_leI (by omega) (by omega)]
    refine ⟨fun _ => ?_, fun z => absurd (by omega) z⟩
    rw [List.drop_eq_nil_of_le (by omega), orRun] at he
    obtain ⟨i1, i2, i3, i4, i5, i6, i7⟩ := hI
    exact k1 N s1 he ⟨i1, i2, i3, i4, i5, i6, by omega⟩ hF
  | succ n ih =>
    intro j N s1 hj hI hF he
    have hjl : j < os.length := by omega
    have e21 : N.1 21 = nI os.length := by
      obtain ⟨out, h1, h2, h3, h4, h5, h6⟩ := hI.2.2.2.2.1
      exact h4
    rw [w_X12_orders_b140]
    simp (disch := decide) only [oi_gI, oi_gJ, oi_gP, oi_pI, oi_pZ, oi_pJ, oi_oK, oi_aI hd, oi_aZ hd, oi_aJ hd, oi_sI hd, oi_sZ hd, oi_sJ hd, mI_1, mI_2, mJ_1, mJ_2, mJ_3, mA_1, mA_2, mA_3, mA_4, mL_1, mL_2, mL_3, mL_4, mK, Nat.reduceEqDiff, if_true, if_false, ite_true, ite_false, true_and, Nat.reduceLT, reduceIte, reduceCtorEq, cl_0, cl_1, cl_2, cl_3, cl_4, cl_5, cl_6, cl_7, cl_8, cl_9, cl_10, cl_11, cl_12, cl_13, cl_14, cl_15, vl_0_5585, vl_1_5585, vl_2_5585, vl_3_5585, vl_4_5585, vl_5_5585, vl_6_5585, vl_0_7, vl_1_7, vl_2_7, vl_3_7, vl_4_7, vl_5_7, vl_6_7]
    rw [e21, nI_leI (by omega) (by omega)]
    rw [List.drop_eq_getElem_cons hjl, orRun] at he
    refine ⟨fun z => by omega, fun _ => ⟨os[j].2.2.1 + 1, x_o150 (M := N) (s := s1) (u := 20 * j) hd hjl (hO _ (List.getElem_mem hjl)) (fun P s2 hP hRP hBP hFP e => ?_) (fun P s' e hP hFP => ?_) (by omega) _ 0 N s1 (20 * j) (by omega) (by omega) hI ⟨Fx.rf', fun _ _ => rfl⟩ rfl⟩⟩
    · rw [e] at he
      exact k0 P j s2 hjl hP hRP hBP (hF.tr hFP) he
    · rw [e] at he
      exact ih (j + 1) P s' (by omega) (by rw [show 20 * (j + 1) = 20 * j + 20 by omega]; exact hP) (hF.tr hFP) he
end OO
