/-! AN EXCHANGE, BOTH SIDES -/
section XL2
variable {S : hS} {x o : Nat} {ad : Nat → Nat} {M : mS} {mT : mS} {T : aS} {rs : Nat}
theorem x_exchange (hd : mD o ad) (hM : mOk mT M) (hR : RR M rs T) (hA : aB T) {q : Int32 → hS → Prop} {a : Int32} (k : ∀ N, mOk mT N → RR N rs T → q (spExch a T) (ov S o ad N)) : w_X12_exchange q (ov S o ad M) o a := by
  have hM0 : mOk mT (mI M 0 0) := mOk_i hM (by omega)
  have hR0 : RR (mI M 0 0) rs T := hR.z
  have b1 := rB_1 hA.1
  have iP : iR T.1.1 1 = nPR T.1.1 := by unfold nPR; omega
  have hn : nPR T.1.1 ≤ 8 := by omega
  have i1 : (M.2.2.1 3 1).toInt = iR T.1.1 1 := hR.iR (by omega)
  have z0 : (0 : Int32).toInt = 0 := by decide
  have fe := fiX_e (F := T.1.1) hn
  have m0 := MX_0 (ed := edF T.1.1) hn
  unfold spExch at k
  unfold w_X12_exchange
  simp (disch := decide) only [oi_gI, oi_gJ, oi_gP, oi_pI, oi_pZ, oi_pJ, oi_oK, oi_aI hd, oi_aZ hd, oi_aJ hd, oi_sI hd, oi_sZ hd, oi_sJ hd, mI_1, mI_2, mJ_1, mJ_2, mJ_3, mA_1, mA_2, mA_3, mA_4, mL_1, mL_2, mL_3, mL_4, mK, Nat.reduceEqDiff, if_true, if_false, ite_true, ite_false, true_and, Nat.reduceLT, reduceIte, reduceCtorEq, cl_0, cl_1, cl_2, cl_3, cl_4, cl_5, cl_6, cl_7, cl_8, cl_9, cl_10, cl_11, cl_12, cl_13, cl_14, cl_15, vl_0_5585, vl_1_5585, vl_2_5585, vl_3_5585, vl_4_5585, vl_5_5585, vl_6_5585, vl_0_7, vl_1_7, vl_2_7, vl_3_7, vl_4_7, vl_5_7, vl_6_7]
  refine s_in (fun x1 x2 => ⟨fun _ => ⟨ov_oK, x_findExchange (F := T.1.1) hd hM0 hA.1 (fun i hi => hR0.at hi) rfl (fun N hF hb => ?_)⟩, fun z => absurd z (by decide)⟩) (fun nx => ⟨fun z => absurd rfl z, fun _ => ?_⟩)
  · rw [i64toInt] at x1 x2
    rw [i64toInt] at x2
    have x1 : 0 ≤ a.toInt := by simpa using x1
    have x2 : a.toInt ≤ iR T.1.1 1 := by rw [← i1]; exact x2
    have kk := k N (mOk_fx hF hM0 (by simp)) (hR0.fx hF (by simp) (by simp) (by simp))
    rw [if_neg (fun z => z ⟨x1, x2⟩)] at kk
    refine ⟨fun c => ?_, fun c => ?_⟩
    · have c' : a.toInt ≠ 0 := fun z => c (Int32.toInt_inj.mp (by rw [z]; decide))
      rw [if_neg c'] at kk
      obtain ⟨w, hw, rfl⟩ := pIx 9 (by omega) x1 (by omega)
      rw [nI_toInt (by omega)] at c' x2 kk
      simp (disch := decide) only [oi_gI, oi_gJ, oi_gP, oi_pI, oi_pZ, oi_pJ, oi_oK, oi_aI hd, oi_aZ hd, oi_aJ hd, oi_sI hd, oi_sZ hd, oi_sJ hd, mI_1, mI_2, mJ_1, mJ_2, mJ_3, mA_1, mA_2, mA_3, mA_4, mL_1, mL_2, mL_3, mL_4, mK, Nat.reduceEqDiff, if_true, if_false, ite_true, ite_false, true_and, Nat.reduceLT, reduceIte, reduceCtorEq, cl_0, cl_1, cl_2, cl_3, cl_4, cl_5, cl_6, cl_7, cl_8, cl_9, cl_10, cl_11, cl_12, cl_13, cl_14, cl_15, vl_0_5585, vl_1_5585, vl_2_5585, vl_3_5585, vl_4_5585, vl_5_5585, vl_6_5585, vl_0_7, vl_1_7, vl_2_7, vl_3_7, vl_4_7, vl_5_7, vl_6_7]
      rw [nI_s1 (by omega), nI_clamp (by omega), hb (by rw [fe.1]; exact m0) (w - 1) (by omega), fe.2 (w - 1) (by omega)]
      rw [show ((w : Int)).toNat - 1 = w - 1 by omega] at kk
      exact ⟨vp_in_nI (by omega) (by omega), kk⟩
    · rw [c, z0, if_pos rfl] at kk
      rw [fe.1]
      exact kk
  · have kk := k _ hM0 hR0
    rw [if_pos (fun z => nx ?_)] at kk
    · exact kk
    · rw [i64toInt, i64toInt]
      refine ⟨by simpa using z.1, ?_⟩
      have e : ((mI M 0 0).2.2.1 3 1).toInt = iR T.1.1 1 := i1
      show a.toInt ≤ (M.2.2.1 3 1).toInt
      rw [i1]
      exact z.2
def cwB (T : aS) : Prop := cluB T ∧ wtB T
set_option maxRecDepth 16384 in
theorem hcx_exchange {q : Int32 → hS → Prop} {a : Int32} (hI : HV S x o M rs T rs T) (hc : cwB T) (hq : ∀ S', HV S' x o M rs T rs T → q (spExch a T) S') : oK S x 11 ∧ w_X11_exchange q S x a := by
  obtain ⟨Γ, Φ, ρ, hs, hf, hC, hgo⟩ := hI.cly [4, 505, 506] (by decide)
  exact T_oK_11 hs (hC S hs).1 (cx_exchange hs hf (by simp) (by simp) (hC S hs) hc.2 (fun S' h' => hq S' (hgo S' h')))
theorem hrx_exchange {q : Int32 → hS → Prop} {a : Int32} (hI : HV S x o M rs T rs T) (hq : ∀ S' N, HV S' x o N rs T rs T → q (spExch a T) S') : oK S o 12 ∧ w_X12_exchange q S o a := by
  obtain ⟨ad, hd, hM, e, hR, hA, hN⟩ := hI.ref
  rw [← e]
  exact ⟨ov_oK, x_exchange hd hM hR hA (fun N hm hr => hq _ N (hN N _ _ (mOk_self hm) hr hA))⟩
theorem wt_0 : wtB t0 := ⟨fun k hk => by
  have : iR t0.1.1 1 = 0 := by decide
  rw [this] at hk
  omega, fun k _ t ht => by cases ht⟩
theorem ob_0 : cwB t0 := ⟨cb_0, wt_0⟩
theorem ob_house {a b : Int32} (hA : aB T) (h : cwB T) : cwB (spHouse a b T).2 := ⟨cb_house hA h.1, wt_house hA h.2⟩
theorem ob_person {a b c : Int32} (hA : aB T) (h : cwB T) : cwB (spPerson a b c T).2 := ⟨cb_person hA h.1, wt_person hA h.2⟩
theorem ob_want {a b : Int32} (hA : aB T) (h : cwB T) : cwB (spWant a b T).2 := ⟨cb_want hA h.1, wt_want hA h.2⟩
theorem ob_will {a b : Int32} (hA : aB T) (h : cwB T) : cwB (spWill a b T).2 := ⟨cb_will hA h.1, wt_will hA h.2⟩
theorem ob_right {a b c : Int32} (hA : aB T) (h : cwB T) : cwB (spRight a b c T).2 := ⟨cb_right hA h.1, wt_right hA h.2⟩
theorem ob_terms {a b : Int32} (hA : aB T) (h : cwB T) : cwB (spTerms a b T).2 := ⟨cb_terms h.1, wt_terms hA h.2⟩
theorem ob_feed {a b c d e : Int32} (hA : aB T) (h : cwB T) : cwB (spFeed a b c d e T).2 := ⟨cb_feed h.1, wt_feed h.2⟩
theorem ob_end {a : Int32} (hA : aB T) (h : cwB T) : cwB (spEnd a T).2 := ⟨cb_end h.1, wt_end h.2⟩
theorem ob_clue {a b : Int32} (hA : aB T) (h : cwB T) : cwB (spClue a b T).2 := ⟨cb_clue hA h.1, wt_clue hA h.2⟩
theorem ob_forget (hA : aB T) (h : cwB T) : cwB (spForget T).2 := ⟨cb_forget h.1, wt_forget hA h.2⟩
theorem ob_force {a : Int32} (hA : aB T) (h : cwB T) : cwB (spForce a T).2 := ⟨cb_force h.1, wt_force hA h.2⟩
theorem ob_image {a : Int32} (hA : aB T) (h : cwB T) : cwB (spImage a T).2 := ⟨cb_image h.1, wt_image h.2⟩
theorem ob_back {a : Int32} (hA : aB T) (h : cwB T) : cwB (spBack a T).2 := ⟨cb_back h.1, wt_back h.2⟩
theorem ob_deed {act : Nat} {a b c : Int} (hA : aB T) (h : cwB T) : cwB (spDeed act a b c T).2 := ⟨cb_deed hA h.1, wt_deed hA h.2⟩
theorem ob_undo (hA : aB T) (h : cwB T) : cwB (spUndo T).2 := ⟨cb_undo h.1, wt_undo hA h.2⟩
theorem ob_row (hA : aB T) (h : cwB T) : cwB (spRow T).2 := ⟨cb_row h.1, wt_row hA h.2⟩
theorem ob_law (hA : aB T) (h : cwB T) : cwB (spLaw T).2 := ⟨cb_law h.1, wt_law hA h.2⟩
theorem ob_orders (hA : aB T) (h : cwB T) : cwB (spOrders T).2 := ⟨cb_orders hA h.1, wt_orders hA h.2⟩
theorem ob_gen {a b : Int} (hA : aB T) (h : cwB T) : cwB (spGen a b T).2 := ⟨cb_gen h.1, wt_gen h.2⟩
end XL2
