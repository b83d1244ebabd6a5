/-! AMENDED, BOTH QUESTIONS -/
section AO
variable {Γ : kG} {Φ : kF} {S : hS} {x : Nat} {ρ : Nat → Nat} {rs : Nat} {T : aS} {o : Nat} {ad : Nat → Nat} {M : mS} {mT : mS} {G : Nat → Int32}
theorem cx_amend {q : Int32 → hS → Prop} {a c : Int32} (h : CR Γ S x ρ rs T) (hs : St Γ Φ S) (k : q (spAmend a c T) S) : w_X11_amend q S x a c := by
  obtain ⟨t1, t2, t3, t4, t5⟩ := h.2.1
  have b0 := rB_0 t3
  have b1 := rB_1 t3
  have hP : nPR T.1.1 ≤ 8 := by unfold nPR; omega
  have i0 : (sV S (ρ 0) (bk 0 ρ) 0).toInt = iR T.1.1 0 := by rw [t2]; rfl
  unfold spAmend at k
  unfold w_X11_amend
  refine E_gP_11_0 hs h.1 (fun _ => T_oK_8 hs t1 (kx_X8_hasHouse hs t1 (fun nh => ⟨fun _ => ?_, fun z => absurd rfl z⟩) (fun h1 h2 h3 => ⟨fun z => absurd z (by decide), fun _ => ?_⟩)))
  · rw [if_neg (fun z => nh (by rw [i0]; exact z.1))] at k
    exact k
  · rw [i0] at h2 h3
    obtain ⟨e, he, rfl⟩ := pIx 6 (by omega) h1 (by omega)
    have te : (nI e).toInt.toNat = e := by rw [nI_toInt (by omega)]; omega
    rw [nI_toInt (by omega)] at h1 h2
    rw [te, nI_toInt (by omega)] at k
    have bs := bsA_is t3 (h := e) he hP
    have p2 := pw_256 (nPR T.1.1) (by omega)
    have b22 : (c = 0 ∨ c = 1) → w_X11_amend_b22 q S x (nI e) c := by
      intro hc
      rw [if_pos ⟨⟨h1, h2⟩, hc⟩] at k
      unfold w_X11_amend_b22
      refine E_gP_11_9 hs h.1 (fun h9 => E_gP_11_0 hs h.1 (fun _ => T_oK_7 hs h9 (kx_struckOut hs t1 (by rw [t2]; exact t3) rfl (by rw [t2]; exact h2) ?_)))
      rw [t2]
      refine ⟨fun c0 => ?_, fun c0 => x_bitCount (by have := bs.1.2.1; omega) ?_⟩
      · rw [if_neg c0] at k
        exact k
      · rw [if_pos c0] at k
        exact k
    refine ⟨fun c0 => b22 (Or.inl c0), fun c0 => ⟨fun c1 => b22 (Or.inr c1), fun c1 => ?_⟩⟩
    rw [if_neg (fun z => z.2.elim c0 c1)] at k
    exact k
theorem x_amend (hd : mD o ad) (hB : rB G) (hG : ∀ i, i < 185 → M.2.2.1 3 i = G i) {q : Int32 → hS → Prop} {a c : Int32} (eT : T.1.1 = G) (k : q (spAmend a c T) (ov S o ad (mI M 0 0))) : w_X12_amend q (ov S o ad M) o a c := by
  have b0 := rB_0 hB
  have b1 := rB_1 hB
  have hP : nPR G ≤ 8 := by unfold nPR; omega
  have e1 : G 1 = nI (nPR G) := by
    apply Int32.toInt_inj.mp
    have : iR G 1 = (G 1).toInt := rfl
    unfold nPR
    rw [nI_toInt (by omega)]; omega
  have hG0 : ∀ i, i < 185 → (mI M 0 0).2.2.1 3 i = G i := hG
  have i0 : ((mI M 0 0).2.2.1 3 0).toInt = iR G 0 := by rw [hG0 0 (by omega)]; rfl
  unfold spAmend at k
  rw [eT] at k
  unfold w_X12_amend
  simp (disch := decide) only [oi_gI, oi_gJ, oi_gP, oi_pI, oi_pZ, oi_pJ, oi_oK, oi_aI hd, oi_aZ hd, oi_aJ hd, oi_sI hd, oi_sZ hd, oi_sJ hd, mI_1, mI_2, mJ_1, mJ_2, mJ_3, mA_1, mA_2, mA_3, mA_4, mL_1, mL_2, mL_3, mL_4, mK, Nat.reduceEqDiff, if_true, if_false, ite_true, ite_false, true_and, Nat.reduceLT, reduceIte, reduceCtorEq, cl_0, cl_1, cl_2, cl_3, cl_4, cl_5, cl_6, cl_7, cl_8, cl_9, cl_10, cl_11, cl_12, cl_13, cl_14, cl_15, vl_0_5585, vl_1_5585, vl_2_5585, vl_3_5585, vl_4_5585, vl_5_5585, vl_6_5585, vl_0_7, vl_1_7, vl_2_7, vl_3_7, vl_4_7, vl_5_7, vl_6_7]
  refine s_isHouse hd (fun h1 h2 => ⟨fun z => absurd z (by decide), fun _ => ?_⟩) (fun nh => ⟨fun _ => ?_, fun z => absurd rfl z⟩)
  · rw [i0] at h2
    obtain ⟨e, he, rfl⟩ := pIx 6 (by omega) h1 (by omega)
    have te : (nI e).toInt.toNat = e := by rw [nI_toInt (by omega)]; omega
    rw [nI_toInt (by omega)] at h1 h2
    rw [te, nI_toInt (by omega)] at k
    have in01 : ∀ z : Int32, 0 ≤ z.toInt → z.toInt ≤ 1 → z = 0 ∨ z = 1 := fun z h1 h2 => by
      have : z.toInt = 0 ∨ z.toInt = 1 := by omega
      rcases this with e | e
      · exact Or.inl (Int32.toInt_inj.mp (by rw [e]; decide))
      · exact Or.inr (Int32.toInt_inj.mp (by rw [e]; decide))
    refine s_inI 0 1 (by decide) (by decide) (fun a1 a2 => ⟨fun _ => ?_, fun z => absurd z (by decide)⟩) (fun na => ⟨fun z => absurd rfl z, fun _ => ?_⟩)
    · have hc := in01 c a1 a2
      rw [if_pos ⟨⟨h1, h2⟩, hc⟩] at k
      have p2 := pw_256 (nPR G) (by omega)
      have bs := bsA_is hB (h := e) he hP
      have ar := amR_is (f := G) (h := e) (2 ^ nPR G)
      have gf := gd_full hB (h := e) he hP
      have eb : amR G e (2 ^ nPR G) = some (bsA G e) := by
        unfold bsA
        cases z : amR G e (2 ^ nPR G) with
        | none => exact absurd gf (ar.1 z _ (by omega))
        | some s => rfl
      obtain ⟨Q, eQ⟩ : ∃ Q, Q = 2 ^ nPR G := ⟨_, rfl⟩
      rw [← eQ] at p2 eb
      obtain ⟨fw, hfw⟩ : ∃ fw : Nat → Int32, fw = fun m => match amR G e m with | none => 100000000 | some s => nI (cnA s) := ⟨_, rfl⟩
      obtain ⟨is, his⟩ : ∃ is : Nat → Int32, is = fun m => match amR G e m with | none => 0 | some s => nI s := ⟨_, rfl⟩
      have key := loop_m (σ := Nat) (fun t m => w_X12_amend_b35 q t (ov S o ad (mI M 0 0)) o (nI e) c (fw m) (is m) (nI m)) (fun m => m ≤ Q) (fun m => Q - m) ?_ 0 (Nat.zero_le _)
      · rw [hfw, his] at key
        exact key
      rintro t m hm ih
      rw [w_X12_amend_b35]
      simp (disch := decide) only [oi_gI, oi_gJ, oi_gP, oi_pI, oi_pZ, oi_pJ, oi_oK, oi_aI hd, oi_aZ hd, oi_aJ hd, oi_sI hd, oi_sZ hd, oi_sJ hd, mI_1, mI_2, mJ_1, mJ_2, mJ_3, mA_1, mA_2, mA_3, mA_4, mL_1, mL_2, mL_3, mL_4, mK, Nat.reduceEqDiff, if_true, if_false, ite_true, ite_false, true_and, Nat.reduceLT, reduceIte, reduceCtorEq, cl_0, cl_1, cl_2, cl_3, cl_4, cl_5, cl_6, cl_7, cl_8, cl_9, cl_10, cl_11, cl_12, cl_13, cl_14, cl_15, vl_0_5585, vl_1_5585, vl_2_5585, vl_3_5585, vl_4_5585, vl_5_5585, vl_6_5585, vl_0_7, vl_1_7, vl_2_7, vl_3_7, vl_4_7, vl_5_7, vl_6_7]
      rw [hG 1 (by omega), e1, sh1 _ (by omega), ← eQ, nI_leI (by omega) (by omega)]
      refine ⟨fun cn => ?_, fun cn => ?_⟩
      · have em : m = Q := by omega
        rw [hfw, his, em]
        dsimp only
        rw [eb]
        dsimp only
        refine ⟨fun c0 => ?_, fun c0 => ?_⟩
        · rw [if_neg c0] at k
          exact k
        · rw [if_pos c0] at k
          exact k
      · have cm := cn_le m
        have nx : ∀ u v : Int32, u = fw (m + 1) → v = is (m + 1) → w_X12_amend_b156 q (fun S v0 v1 v2 v3 v4 v5 => w_X12_amend_b35 q t S v0 v1 v2 v3 v4 v5) (ov S o ad (mI M 0 0)) o (nI e) c v (nI m) u := by
          intro u v eu ev y ey
          rw [ey, nI_1, eu, ev]
          exact ih (m + 1) (by omega) (by omega)
        have keep : amR G e (m + 1) = amR G e m → w_X12_amend_b125 q (fun S v0 v1 v2 v3 v4 v5 => w_X12_amend_b35 q t S v0 v1 v2 v3 v4 v5) (ov S o ad (mI M 0 0)) o (nI e) c (fw m) (is m) (nI m) := by
          intro ea
          refine ⟨fun _ => ⟨fun _ => nx _ _ ?_ ?_, fun z => absurd rfl z⟩, fun z => absurd rfl z⟩
          · rw [hfw]
            dsimp only
            rw [ea]
          · rw [his]
            dsimp only
            rw [ea]
        refine loop_m (σ := Nat) (fun t' p => w_X12_amend_b54 q (fun S v0 v1 v2 v3 v4 v5 => w_X12_amend_b35 q t S v0 v1 v2 v3 v4 v5) t' (ov S o ad (mI M 0 0)) o (nI e) c (fw m) (is m) (nI m) (wI (reN G e m p)) (nI p)) (fun p => p ≤ nPR G) (fun p => nPR G - p) ?_ 0 (Nat.zero_le _)
        rintro t' p hp ih'
        have rb := reN_b (s := m) hB (h := e) he p (by omega)
        rw [w_X12_amend_b54]
        simp (disch := decide) only [oi_gI, oi_gJ, oi_gP, oi_pI, oi_pZ, oi_pJ, oi_oK, oi_aI hd, oi_aZ hd, oi_aJ hd, oi_sI hd, oi_sZ hd, oi_sJ hd, mI_1, mI_2, mJ_1, mJ_2, mJ_3, mA_1, mA_2, mA_3, mA_4, mL_1, mL_2, mL_3, mL_4, mK, Nat.reduceEqDiff, if_true, if_false, ite_true, ite_false, true_and, Nat.reduceLT, reduceIte, reduceCtorEq, cl_0, cl_1, cl_2, cl_3, cl_4, cl_5, cl_6, cl_7, cl_8, cl_9, cl_10, cl_11, cl_12, cl_13, cl_14, cl_15, vl_0_5585, vl_1_5585, vl_2_5585, vl_3_5585, vl_4_5585, vl_5_5585, vl_6_5585, vl_0_7, vl_1_7, vl_2_7, vl_3_7, vl_4_7, vl_5_7, vl_6_7]
        rw [hG 1 (by omega), e1, nI_leI (by omega) (by omega)]
        have nb : ∀ u : Int32, wI (reN G e m p) + u = wI (reN G e m (p + 1)) → p < nPR G → w_X12_amend_b88 q (fun S v0 v1 v2 v3 v4 v5 => w_X12_amend_b35 q t S v0 v1 v2 v3 v4 v5) (fun S v0 v1 v2 v3 v4 v5 v6 v7 => w_X12_amend_b54 q (fun S v0 v1 v2 v3 v4 v5 => w_X12_amend_b35 q t S v0 v1 v2 v3 v4 v5) t' S v0 v1 v2 v3 v4 v5 v6 v7) (ov S o ad (mI M 0 0)) o (nI e) c (fw m) (is m) (nI m) (nI p) u (wI (reN G e m p)) := by
          intro u eu hl y89 e89 y91 e91
          rw [e89, e91, eu, nI_1]
          exact ih' (p + 1) (by omega) (by omega)
        refine ⟨fun c2 => ?_, fun c2 => s_isB (by omega) (fun hb => ⟨fun z => absurd z (by decide), fun _ => nb _ ?_ (by omega)⟩) (fun hb => ⟨fun _ => ⟨ov_oK, s_rights hd (by omega) he (nb _ ?_ (by omega))⟩, fun z => absurd rfl z⟩)⟩
        · have ep : p = nPR G := by omega
          rw [lit_nI 132, nIadd, nI_clamp (by omega)]
          refine ⟨vp_in_nI (by omega) (by omega), ?_⟩
          rw [hG _ (by omega)]
          have gj : G (132 + e) < wI (reN G e m p) ↔ ¬ gdA G e m = true := by
            unfold gdA
            rw [decide_eq_true_eq, Int32.lt_iff_toInt_lt, wI_i (by omega), ep]
            show iR G (132 + e) < _ ↔ _
            omega
          refine ⟨fun c3 => keep (by rw [amR, if_neg (gj.mp c3)]), fun c3 => x_ones ?_⟩
          have g : gdA G e m = true := Decidable.of_not_not (fun z => c3 (gj.mpr z))
          have le : fw m ≤ nI (onesN (nI m) 8) ↔ ∃ s, amR G e m = some s ∧ cnA s ≤ cnA m := by
            rw [hfw]
            dsimp only
            show _ ≤ nI (cnA m) ↔ _
            cases z : amR G e m with
            | none =>
              dsimp only
              rw [Int32.le_iff_toInt_le, nI_toInt (by omega), show (100000000 : Int32).toInt = 100000000 by decide]
              exact ⟨fun z => by omega, fun ⟨s, z, _⟩ => by cases z⟩
            | some s =>
              dsimp only
              have := cn_le s
              rw [nI_leI (by omega) (by omega)]
              exact ⟨fun z => ⟨s, rfl, z⟩, fun ⟨s', z, z'⟩ => by cases z; exact z'⟩
          refine ⟨fun c4 => ?_, fun c4 => ⟨fun z => absurd z (by decide), fun _ => ⟨fun z => absurd z (by decide), fun _ => x_ones (nx _ _ ?_ ?_)⟩⟩⟩
          · obtain ⟨s, z1, z2⟩ := le.mp c4
            refine keep ?_
            rw [amR, if_pos g, z1]
            dsimp only
            rw [if_neg (by omega)]
          · have : amR G e (m + 1) = some m := by
              rw [amR, if_pos g]
              cases z : amR G e m with
              | none => rfl
              | some s =>
                dsimp only
                rw [if_pos (by
                  have : ¬ cnA s ≤ cnA m := fun w => c4 (le.mpr ⟨s, z, w⟩)
                  omega)]
            rw [hfw]
            dsimp only
            rw [this]
            rfl
          · have : amR G e (m + 1) = some m := by
              rw [amR, if_pos g]
              cases z : amR G e m with
              | none => rfl
              | some s =>
                dsimp only
                rw [if_pos (by
                  have : ¬ cnA s ≤ cnA m := fun w => c4 (le.mpr ⟨s, z, w⟩)
                  omega)]
            rw [his]
            dsimp only
            rw [this]
        · rw [reN, if_pos hb, Int32.add_zero, Int.add_zero]
        · have b := hB.1 (30 + 6 * p + e) (by omega)
          rw [(hi_r (by omega)).1, (hi_r (by omega)).2] at b
          have : (M.2.2.1 3 (30 + 6 * p + e)).toInt = iR G (30 + 6 * p + e) := by rw [hG _ (by omega)]; rfl
          rw [reN, if_neg hb]
          exact wI_add (wI_i (by omega)) this (by omega) (by omega)
    · rw [if_neg (fun z => na (by rcases z.2 with w | w <;> rw [w] <;> decide))] at k
      exact k
  · rw [if_neg (fun z => nh (by rw [i0]; exact z.1))] at k
    exact k
end AO
