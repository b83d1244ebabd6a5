/-! A ROUND OF VISITS, BOTH SIDES -/
section VF
variable {S : hS} {x o : Nat} {ad : Nat → Nat} {M : mS} {mT : mS} {T : aS} {rs : Nat}
theorem x_visits (hd : mD o ad) (hM : mOk mT M) (hR : RR M rs T) (hA : aB T) {q : Int32 → hS → Prop} {a b c : Int32} (k : ∀ N, mOk mT N → RR N rs T → q (spVisits a b c T) (ov S o ad N)) : w_X12_visits q (ov S o ad M) o a b c := by
  have hM0 : mOk mT (mI M 0 0) := mOk_i hM (by omega)
  have hR0 : RR (mI M 0 0) rs T := hR.z
  have b1 := rB_1 hA.1
  have i1 : ((mI M 0 0).2.2.1 3 1).toInt = iR T.1.1 1 := hR0.iR (by omega)
  have zm : (-1 : Int32).toInt = -1 := by decide
  unfold spVisits at k
  have kn : ¬ (((0 ≤ a.toInt ∧ a.toInt < iR T.1.1 1) ∧ liveR T.1.1 a.toInt.toNat = true) ∧ (0 ≤ b.toInt ∧ b.toInt ≤ 99) ∧ -1 ≤ c.toInt) → q (-1) (ov S o ad (mI M 0 0)) := fun z => by
    have := k _ hM0 hR0
    rw [if_neg z] at this
    exact this
  unfold w_X12_visits
  simp (disch := decide) only [oi_gI, oi_gJ, oi_gP, oi_pI, oi_pZ, oi_pJ, oi_oK, oi_aI hd, oi_aZ hd, oi_aJ hd, oi_sI hd, oi_sZ hd, oi_sJ hd, mI_1, mI_2, mJ_1, mJ_2, mJ_3, mA_1, mA_2, mA_3, mA_4, mL_1, mL_2, mL_3, mL_4, mK, Nat.reduceEqDiff, if_true, if_false, ite_true, ite_false, true_and, Nat.reduceLT, reduceIte, reduceCtorEq, cl_0, cl_1, cl_2, cl_3, cl_4, cl_5, cl_6, cl_7, cl_8, cl_9, cl_10, cl_11, cl_12, cl_13, cl_14, cl_15, vl_0_5585, vl_1_5585, vl_2_5585, vl_3_5585, vl_4_5585, vl_5_5585, vl_6_5585, vl_0_7, vl_1_7, vl_2_7, vl_3_7, vl_4_7, vl_5_7, vl_6_7]
  refine s_isPerson hd (fun h1 h2 => ⟨fun z => absurd z (by decide), fun _ => ⟨ov_oK, ?_⟩⟩) (fun np => ⟨fun _ => kn (fun z => np (by rw [i1]; exact z.1.1)), fun z => absurd rfl z⟩)
  rw [i1] at h2
  obtain ⟨p, hp, rfl⟩ := pIx 8 (by omega) h1 (by omega)
  have tp : (nI p).toInt.toNat = p := by rw [nI_toInt (by omega)]; omega
  rw [tp] at k kn
  have e22 : (mI M 0 0).2.2.1 3 (22 + p) = T.1.1 (22 + p) := hR0.at (by omega)
  refine s_lives hd hp (fun lp => ⟨fun z => absurd z (by decide), fun _ => s_inI 0 99 (by decide) (by decide) (fun x1 x2 => ⟨fun z => absurd z (by decide), fun _ => ⟨fun hc => ⟨ov_oK, ?_⟩, fun hc => kn (fun z => hc ?_)⟩⟩) (fun nx => ⟨fun _ => kn (fun z => nx z.2.1), fun z => absurd rfl z⟩)⟩) (fun lp => ⟨fun _ => kn (fun z => lp ?_), fun z => absurd rfl z⟩)
  · rw [Int32.le_iff_toInt_le, zm] at hc
    have lv : liveR T.1.1 p = true := by
      unfold liveR
      rw [decide_eq_true_eq]
      have : T.1.1 (22 + p) = 0 := by rw [← e22]; exact lp
      unfold iR
      rw [this]
      decide
    obtain ⟨n, hn, rfl⟩ := pIx 100 (by omega) x1 (by omega)
    have tn : (nI n).toInt.toNat = n := by rw [nI_toInt (by omega)]; omega
    rw [tn] at k
    refine x_findVisits (F := T.1.1) hd hA.1 (fun i hi => hR0.at hi) hp (by omega) (fun N hF h44 h6 hrow => ?_)
    have kk := k N (mOk_fx hF hM0 (by simp)) (hR0.fx hF (by simp) (by simp) (by simp))
    rw [if_pos ⟨⟨⟨h1, h2⟩, lv⟩, ⟨x1, x2⟩, hc⟩] at kk
    simp (disch := decide) only [oi_gI, oi_gJ, oi_gP, oi_pI, oi_pZ, oi_pJ, oi_oK, oi_aI hd, oi_aZ hd, oi_aJ hd, oi_sI hd, oi_sZ hd, oi_sJ hd, mI_1, mI_2, mJ_1, mJ_2, mJ_3, mA_1, mA_2, mA_3, mA_4, mL_1, mL_2, mL_3, mL_4, mK, Nat.reduceEqDiff, if_true, if_false, ite_true, ite_false, true_and, Nat.reduceLT, reduceIte, reduceCtorEq, cl_0, cl_1, cl_2, cl_3, cl_4, cl_5, cl_6, cl_7, cl_8, cl_9, cl_10, cl_11, cl_12, cl_13, cl_14, cl_15, vl_0_5585, vl_1_5585, vl_2_5585, vl_3_5585, vl_4_5585, vl_5_5585, vl_6_5585, vl_0_7, vl_1_7, vl_2_7, vl_3_7, vl_4_7, vl_5_7, vl_6_7]
    rw [h44, Int32.le_iff_toInt_le, nI_toInt (by omega)]
    refine ⟨fun cn => ⟨fun cl => ?_, fun cl => ?_⟩, fun cn => ?_⟩
    · rw [if_neg cn, if_neg (by omega)] at kk
      exact kk
    · have cn' : c.toInt ≠ -1 := fun z => cn (Int32.toInt_inj.mp (by rw [z, zm]))
      obtain ⟨j, hj, rfl⟩ := pIx 6 (by omega) (show 0 ≤ c.toInt by omega) (by omega)
      rw [nI_toInt (by omega)] at cl
      rw [if_neg cn, nI_toInt (by omega), if_pos (by omega), show ((j : Int)).toNat = j by omega] at kk
      rw [nI_clamp (by omega), hrow j (by omega)]
      exact ⟨vp_in_nI (by omega) (by omega), kk⟩
    · rw [if_pos cn] at kk
      exact kk
  · rw [Int32.le_iff_toInt_le, zm]
    exact z.2.2
  · have := z.1.2
    unfold liveR iR at this
    rw [decide_eq_true_eq] at this
    show (mI M 0 0).2.2.1 3 (22 + p) = 0
    rw [e22]
    exact Int32.toInt_inj.mp (by rw [this]; decide)
set_option maxRecDepth 16384 in
theorem hcx_visits {q : Int32 → hS → Prop} {a b c : Int32} (hI : HV S x o M rs T rs T) (hq : ∀ S', HV S' x o M rs T rs T → q (spVisits a b c T) S') : oK S x 11 ∧ w_X11_visits q S x a b c := by
  obtain ⟨Γ, Φ, ρ, hs, hf, hC, hgo⟩ := hI.cly [4, 500, 503] (by decide)
  exact T_oK_11 hs (hC S hs).1 (cx_visits hs hf (by simp) (by simp) (by simp) (hC S hs) (fun S' h' => hq S' (hgo S' h')))
theorem hrx_visits {q : Int32 → hS → Prop} {a b c : Int32} (hI : HV S x o M rs T rs T) (hq : ∀ S' N, HV S' x o N rs T rs T → q (spVisits a b c T) S') : oK S o 12 ∧ w_X12_visits q S o a b c := by
  obtain ⟨ad, hd, hM, e, hR, hA, hN⟩ := hI.ref
  rw [← e]
  exact ⟨ov_oK, x_visits hd hM hR hA (fun N hm hr => hq _ N (hN N _ _ (mOk_self hm) hr hA))⟩
end VF
