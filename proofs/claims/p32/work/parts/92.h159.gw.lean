/-! RINGS GIVEN OUT, BOTH QUESTIONS -/
def spGiven (a b c : Int32) (T : aS) : Int32 := if (0 ≤ a.toInt ∧ a.toInt < iR T.1.1 0) ∧ (0 ≤ b.toInt ∧ b.toInt ≤ 99) ∧ (0 ≤ c.toInt ∧ c.toInt < iR T.1.1 1) then nI (gvS T.1.1 a.toInt.toNat b.toInt.toNat c.toInt.toNat) else -1
section GW
variable {Γ : kG} {Φ : kF} {S : hS} {x : Nat} {ρ : Nat → Nat} {rs : Nat} {T : aS} {o : Nat} {ad : Nat → Nat} {M : mS} {mT : mS} {G : Nat → Int32} {L : List Nat}
theorem cx_given {q : Int32 → hS → Prop} {a c e : Int32} (h : CR Γ S x ρ rs T) (hs : St Γ Φ S) (hf : fre Γ Φ L) (hL : 800 ∈ L) (k : ∀ S', St Γ Φ S' → q (spGiven a c e T) S') : w_X11_given q S x a c e := by
  obtain ⟨t1, t2, t3, t4, t5⟩ := h.2.1
  have b0 := rB_0 t3
  have b1 := rB_1 t3
  have i0 : (sV S (ρ 0) (bk 0 ρ) 0).toInt = iR T.1.1 0 := by rw [t2]; rfl
  have i1 : (sV S (ρ 0) (bk 0 ρ) 1).toInt = iR T.1.1 1 := by rw [t2]; rfl
  unfold spGiven at k
  unfold w_X11_given
  refine E_gP_11_0 hs h.1 (fun _ => T_oK_8 hs t1 (kx_X8_hasHouse hs t1 (fun nh => ⟨fun _ => ?_, fun z => absurd rfl z⟩) (fun h1 h2 h3 => ⟨fun z => absurd z (by decide), fun _ => E_gP_11_0 hs h.1 (fun _ => T_oK_8 hs t1 (kx_X8_hasPerson hs t1 (fun np => ⟨fun _ => ?_, fun z => absurd rfl z⟩) (fun p1 p2 p3 => ⟨fun z => absurd z (by decide), fun _ => kx_isWithin (fun nw => ⟨fun z => absurd rfl z, fun _ => ?_⟩) (fun hw => ⟨fun _ => ?_, fun z => absurd z (by decide)⟩)⟩)))⟩)))
  · have := k S hs
    rw [if_neg (fun z => nh (by rw [i0]; exact z.1))] at this
    exact this
  · have := k S hs
    rw [if_neg (fun z => np (by rw [i1]; exact z.2.2))] at this
    exact this
  · have := k S hs
    rw [if_neg (fun z => nw z.2.1)] at this
    exact this
  · rw [i0] at h2
    rw [i1] at p2
    have hw2 : c.toInt ≤ 99 := hw.2
    rw [if_pos ⟨⟨h1, h2⟩, ⟨hw.1, hw2⟩, p1, p2⟩] at k
    obtain ⟨e', he, rfl⟩ := pIx 6 (by omega) h1 (by omega)
    obtain ⟨n, hn, rfl⟩ := pIx 100 (by omega) hw.1 (by omega)
    obtain ⟨p, hp, rfl⟩ := pIx 8 (by omega) p1 (by omega)
    rw [nI_toInt (by omega)] at h2 p2
    have te : (nI e').toInt.toNat = e' := by rw [nI_toInt (by omega)]; omega
    have tn : (nI n).toInt.toNat = n := by rw [nI_toInt (by omega)]; omega
    have tp : (nI p).toInt.toNat = p := by rw [nI_toInt (by omega)]; omega
    rw [te, tn, tp] at k
    refine E_gP_11_9 hs h.1 (fun h9 => E_gP_11_0 hs h.1 (fun _ => T_oK_7 hs h9 (kx_giveOut hs hf hL h9 t1 (by rw [t2]; exact t3) rfl rfl (by omega) (by rw [t2]; exact h2) (fun S' h' _ e4 => E_gP_11_9 h' h.1 (fun _ => E_gP_7_0 h' h9 (fun hg => T_aI_20 h' hg ⟨by rw [nI_toInt (by omega)]; omega, by rw [nI_toInt (by omega)]; omega⟩ (fun y ey _ => ?_)))))))
    rw [nI_clamp (by omega), e4 p hp, t2] at ey
    rw [ey]
    exact k S' h'
theorem x_given (hd : mD o ad) (hB : rB G) (hG : ∀ i, i < 185 → M.2.2.1 3 i = G i) {q : Int32 → hS → Prop} {a b c : Int32} (eT : T.1.1 = G) (k : ∀ N, Fx [0] [] [47] [] M N → q (spGiven a b c T) (ov S o ad N)) : w_X12_given q (ov S o ad M) o a b c := by
  have b0 := rB_0 hB
  have b1 := rB_1 hB
  have hP : nPR G ≤ 8 := by unfold nPR; omega
  have iP : iR G 1 = nPR G := by unfold nPR; omega
  have e1 : G 1 = nI (nPR G) := by
    apply Int32.toInt_inj.mp
    have : iR G 1 = (G 1).toInt := rfl
    rw [nI_toInt (by omega)]; omega
  have k : ∀ N, Fx [] [] [47] [] (mI M 0 0) N → q (spGiven a b c T) (ov S o ad N) := fun N hN => k N (((Fx.i 0 0).tr hN).le (by simp) (by simp) (by simp) (by simp))
  have hG : ∀ i, i < 185 → (mI M 0 0).2.2.1 3 i = G i := hG
  have f0 : Fx [] [] [47] [] (mI M 0 0) (mI M 0 0) := ⟨fun _ _ => rfl, fun _ _ => rfl, fun _ _ => rfl, fun _ _ => rfl⟩
  have fa : ∀ g, Fx [] [] [47] [] (mI M 0 0) (mA (mI M 0 0) 47 g) := fun g => Fx.a 47 g
  have i0 : ((mI M 0 0).2.2.1 3 0).toInt = iR G 0 := by rw [hG 0 (by omega)]; rfl
  have i1 : ((mI M 0 0).2.2.1 3 1).toInt = iR G 1 := by rw [hG 1 (by omega)]; rfl
  unfold spGiven at k
  rw [eT] at k
  unfold w_X12_given
  simp (disch := decide) only [oi_gI, oi_gJ, oi_gP, oi_pI, oi_pZ, oi_pJ, oi_oK, oi_aI hd, oi_aZ hd, oi_aJ hd, oi_sI hd, oi_sZ hd, oi_sJ hd, mI_1, mI_2, mJ_1, mJ_2, mJ_3, mA_1, mA_2, mA_3, mA_4, mL_1, mL_2, mL_3, mL_4, mK, Nat.reduceEqDiff, if_true, if_false, ite_true, ite_false, true_and, Nat.reduceLT, reduceIte, reduceCtorEq, cl_0, cl_1, cl_2, cl_3, cl_4, cl_5, cl_6, cl_7, cl_8, cl_9, cl_10, cl_11, cl_12, cl_13, cl_14, cl_15, vl_0_5585, vl_1_5585, vl_2_5585, vl_3_5585, vl_4_5585, vl_5_5585, vl_6_5585, vl_0_7, vl_1_7, vl_2_7, vl_3_7, vl_4_7, vl_5_7, vl_6_7]
  refine s_isHouse hd (fun h1 h2 => ⟨fun z => absurd z (by decide), fun _ => s_inI 0 99 (by decide) (by decide) (fun x1 x2 => ⟨fun z => absurd z (by decide), fun _ => ⟨ov_oK, s_isPerson hd (fun h3 h4 => ⟨fun _ => ?_, fun z => absurd z (by decide)⟩) (fun np => ⟨fun z => absurd rfl z, fun _ => ?_⟩)⟩⟩) (fun nw => ⟨fun _ => ?_, fun z => absurd rfl z⟩)⟩) (fun nh => ⟨fun _ => ?_, fun z => absurd rfl z⟩)
  · rw [i0] at h2
    rw [i1] at h4
    rw [if_pos ⟨⟨h1, h2⟩, ⟨x1, x2⟩, h3, h4⟩] at k
    obtain ⟨e, he, rfl⟩ := pIx 6 (by omega) h1 (by omega)
    obtain ⟨n, hn, rfl⟩ := pIx 100 (by omega) x1 (by omega)
    obtain ⟨pp, hpp, rfl⟩ := pIx 8 (by omega) h3 (by omega)
    rw [nI_toInt (by omega)] at h2 h4
    have te : (nI e).toInt.toNat = e := by rw [nI_toInt (by omega)]; omega
    have tn : (nI n).toInt.toNat = n := by rw [nI_toInt (by omega)]; omega
    have tp : (nI pp).toInt.toNat = pp := by rw [nI_toInt (by omega)]; omega
    rw [te, tn, tp] at k
    generalize mI M 0 0 = N at *
    have k62 : ∀ f0 : Nat → Int32, (∀ p, p < 8 → f0 p = nI 0) → ∃ t, w_X12_given_b62 q t (ov S o ad (mA N 47 f0)) o (nI e) (nI n) (nI pp) 0 := by
      intro f0 hz
      refine loop_m (σ := (Nat → Int32) × Nat) (fun t s => w_X12_given_b62 q t (ov S o ad (mA N 47 s.1)) o (nI e) (nI n) (nI pp) (nI s.2)) (fun s => s.2 ≤ n ∧ ∀ p, p < 8 → s.1 p = nI (gvS G e s.2 p)) (fun s => n - s.2) ?_ (f0, 0) ⟨Nat.zero_le _, hz⟩
      rintro t ⟨f, m⟩ ⟨hm, hgt⟩ ih
      dsimp only at hm hgt ih ⊢
      rw [w_X12_given_b62]
      simp (disch := decide) only [oi_gI, oi_gJ, oi_gP, oi_pI, oi_pZ, oi_pJ, oi_oK, oi_aI hd, oi_aZ hd, oi_aJ hd, oi_sI hd, oi_sZ hd, oi_sJ hd, mI_1, mI_2, mJ_1, mJ_2, mJ_3, mA_1, mA_2, mA_3, mA_4, mL_1, mL_2, mL_3, mL_4, mK, Nat.reduceEqDiff, if_true, if_false, ite_true, ite_false, true_and, Nat.reduceLT, reduceIte, reduceCtorEq, cl_0, cl_1, cl_2, cl_3, cl_4, cl_5, cl_6, cl_7, cl_8, cl_9, cl_10, cl_11, cl_12, cl_13, cl_14, cl_15, vl_0_5585, vl_1_5585, vl_2_5585, vl_3_5585, vl_4_5585, vl_5_5585, vl_6_5585, vl_0_7, vl_1_7, vl_2_7, vl_3_7, vl_4_7, vl_5_7, vl_6_7]
      rw [nI_leI (by omega) (by omega), nI_clamp (by omega)]
      refine ⟨fun cn => ⟨vp_in_nI (by omega) (by omega), ?_⟩, fun cn => ?_⟩
      · have em : m = n := by omega
        rw [hgt pp hpp, em]
        exact k _ (fa f)
      refine loop_m (σ := Nat) (fun t' p => w_X12_given_b74 q (fun S v0 v1 v2 v3 v4 => w_X12_given_b62 q t S v0 v1 v2 v3 v4) t' (ov S o ad (mA N 47 f)) o (nI e) (nI n) (nI pp) (nI m) (obN (gvB G e (gvS G e m) p)) (nI p)) (fun p => p ≤ nPR G) (fun p => nPR G - p) ?_ 0 (Nat.zero_le _)
      rintro t' p hp ih'
      rw [w_X12_given_b74]
      simp (disch := decide) only [oi_gI, oi_gJ, oi_gP, oi_pI, oi_pZ, oi_pJ, oi_oK, oi_aI hd, oi_aZ hd, oi_aJ hd, oi_sI hd, oi_sZ hd, oi_sJ hd, mI_1, mI_2, mJ_1, mJ_2, mJ_3, mA_1, mA_2, mA_3, mA_4, mL_1, mL_2, mL_3, mL_4, mK, Nat.reduceEqDiff, if_true, if_false, ite_true, ite_false, true_and, Nat.reduceLT, reduceIte, reduceCtorEq, cl_0, cl_1, cl_2, cl_3, cl_4, cl_5, cl_6, cl_7, cl_8, cl_9, cl_10, cl_11, cl_12, cl_13, cl_14, cl_15, vl_0_5585, vl_1_5585, vl_2_5585, vl_3_5585, vl_4_5585, vl_5_5585, vl_6_5585, vl_0_7, vl_1_7, vl_2_7, vl_3_7, vl_4_7, vl_5_7, vl_6_7, mA_mA]
      rw [hG 1 (by omega), e1, nI_leI (by omega) (by omega)]
      have nx : p < nPR G → ∀ u : Int32, u = obN (gvB G e (gvS G e m) (p + 1)) → w_X12_given_b142 q (fun S v0 v1 v2 v3 v4 => w_X12_given_b62 q t S v0 v1 v2 v3 v4) (fun S v0 v1 v2 v3 v4 v5 v6 => w_X12_given_b74 q (fun S v0 v1 v2 v3 v4 => w_X12_given_b62 q t S v0 v1 v2 v3 v4) t' S v0 v1 v2 v3 v4 v5 v6) (ov S o ad (mA N 47 f)) o (nI e) (nI n) (nI pp) (nI m) u (nI p) := by
        intro hl u eu y ey
        rw [ey, nI_1, eu]
        exact ih' (p + 1) (by omega) (by omega)
      have k165 : ∀ g : Nat → Int32, (∀ p, p < 8 → g p = nI (gvS G e (m + 1) p)) → w_X12_given_b165 q (fun S v0 v1 v2 v3 v4 => w_X12_given_b62 q t S v0 v1 v2 v3 v4) (ov S o ad (mA N 47 g)) o (nI e) (nI n) (nI pp) (nI m) := by
        intro g hg y ey
        rw [ey, nI_1]
        exact ih (g, m + 1) ⟨by dsimp only; omega, hg⟩ (by dsimp only; omega)
      refine ⟨fun c2 => ?_, fun c2 => s_rights hd (p := p) (by omega) he ?_⟩
      · have ep : p = nPR G := by omega
        cases z : gvB G e (gvS G e m) p with
        | none =>
          refine ⟨fun _ => k165 f (fun p' hp' => ?_), fun z => absurd rfl z⟩
          rw [ep] at z
          rw [gvS, z]
          exact hgt p' hp'
        | some u =>
          have lu := gvB_lt p u z
          rw [show obN (some u) = nI u from rfl]
          refine ⟨fun z => absurd z ?_, fun _ => ?_⟩
          · intro e'
            have := congrArg Int32.toInt e'
            rw [nI_toInt (by omega), show (-1 : Int32).toInt = -1 by decide] at this
            omega
          · rw [nI_clamp (by omega)]
            refine ⟨vp_in_nI (by omega) (by omega), vp_in_nI (by omega) (by omega), k165 _ (fun p' hp' => ?_)⟩
            rw [ep] at z
            rw [gvS, z]
            dsimp only
            unfold upd
            by_cases cp : p' = u
            · rw [if_pos cp, if_pos cp, hgt u (by omega), nI_1, cp]
            · rw [if_neg cp, if_neg cp]
              exact hgt p' hp'
      · have rp := rgA_e hB (p := p) (h := e) (by omega) he
        show (N.2.2.1 3 (30 + 6 * p + e) ≤ 0 → _) ∧ (¬ N.2.2.1 3 (30 + 6 * p + e) ≤ 0 → _)
        rw [hG _ (by omega), rp.1]
        have r0 : nI (rgA G e p) ≤ 0 ↔ ¬ 0 < rgA G e p := by rw [Int32.le_iff_toInt_le, nI_toInt (by omega), show (0 : Int32).toInt = 0 by decide]; omega
        rw [r0]
        refine ⟨fun c3 => nx (by omega) _ (by rw [gvB, if_neg c3]), fun c3 => ?_⟩
        have c3 : 0 < rgA G e p := Decidable.of_not_not c3
        cases z : gvB G e (gvS G e m) p with
        | none =>
          refine ⟨fun _ => nx (by omega) _ ?_, fun z => absurd rfl z⟩
          rw [gvB, if_pos c3, z]
          rfl
        | some u =>
          have lu := gvB_lt p u z
          rw [show obN (some u) = nI u from rfl]
          refine ⟨fun z => absurd z ?_, fun _ => ⟨ov_oK, s_rights hd (p := p) (by omega) he ?_⟩⟩
          · intro e'
            have := congrArg Int32.toInt e'
            rw [nI_toInt (by omega), show (-1 : Int32).toInt = -1 by decide] at this
            omega
          · simp (disch := decide) only [oi_gI, oi_gJ, oi_gP, oi_pI, oi_pZ, oi_pJ, oi_oK, oi_aI hd, oi_aZ hd, oi_aJ hd, oi_sI hd, oi_sZ hd, oi_sJ hd, mI_1, mI_2, mJ_1, mJ_2, mJ_3, mA_1, mA_2, mA_3, mA_4, mL_1, mL_2, mL_3, mL_4, mK, Nat.reduceEqDiff, if_true, if_false, ite_true, ite_false, true_and, Nat.reduceLT, reduceIte, reduceCtorEq, cl_0, cl_1, cl_2, cl_3, cl_4, cl_5, cl_6, cl_7, cl_8, cl_9, cl_10, cl_11, cl_12, cl_13, cl_14, cl_15, vl_0_5585, vl_1_5585, vl_2_5585, vl_3_5585, vl_4_5585, vl_5_5585, vl_6_5585, vl_0_7, vl_1_7, vl_2_7, vl_3_7, vl_4_7, vl_5_7, vl_6_7, mA_mA]
            rw [nI_clamp (by omega)]
            refine ⟨vp_in_nI (by omega) (by omega), s_rights hd (p := u) (by omega) he ?_⟩
            simp (disch := decide) only [oi_gI, oi_gJ, oi_gP, oi_pI, oi_pZ, oi_pJ, oi_oK, oi_aI hd, oi_aZ hd, oi_aJ hd, oi_sI hd, oi_sZ hd, oi_sJ hd, mI_1, mI_2, mJ_1, mJ_2, mJ_3, mA_1, mA_2, mA_3, mA_4, mL_1, mL_2, mL_3, mL_4, mK, Nat.reduceEqDiff, if_true, if_false, ite_true, ite_false, true_and, Nat.reduceLT, reduceIte, reduceCtorEq, cl_0, cl_1, cl_2, cl_3, cl_4, cl_5, cl_6, cl_7, cl_8, cl_9, cl_10, cl_11, cl_12, cl_13, cl_14, cl_15, vl_0_5585, vl_1_5585, vl_2_5585, vl_3_5585, vl_4_5585, vl_5_5585, vl_6_5585, vl_0_7, vl_1_7, vl_2_7, vl_3_7, vl_4_7, vl_5_7, vl_6_7, mA_mA]
            rw [nI_clamp (by omega)]
            refine ⟨vp_in_nI (by omega) (by omega), ?_⟩
            have ru := rgA_e hB (p := u) (h := e) (by omega) he
            have g1 := gvS_le (f := G) (h := e) m u
            have g2 := gvS_le (f := G) (h := e) m p
            have m1 : rgA G e p * (gvS G e m u + 1) ≤ 99 * 100 := Nat.mul_le_mul rp.2 (by omega)
            have m2 : rgA G e u * (gvS G e m p + 1) ≤ 99 * 100 := Nat.mul_le_mul ru.2 (by omega)
            rw [hG _ (by omega), hG _ (by omega), rp.1, ru.1, hgt u (by omega), hgt p (by omega), nI_1, nI_1, nImul, nImul, nI_leI (by omega) (by omega)]
            refine ⟨fun c4 => nx (by omega) _ ?_, fun c4 => nx (by omega) _ ?_⟩
            · rw [gvB, if_pos c3, z]
              dsimp only
              rw [if_neg (by omega)]
              rfl
            · rw [gvB, if_pos c3, z]
              dsimp only
              rw [if_pos (by omega)]
              rfl
    have hs := mA_self (M := N) 47
    have key : ∃ t, w_X12_given_b38 q t (ov S o ad (mA N 47 (N.2.2.1 47))) o (nI e) (nI n) (nI pp) (nI 0) := by
      refine loop_m (σ := (Nat → Int32) × Nat) (fun t s => w_X12_given_b38 q t (ov S o ad (mA N 47 s.1)) o (nI e) (nI n) (nI pp) (nI s.2)) (fun s => s.2 ≤ 8 ∧ ∀ p, p < s.2 → s.1 p = nI 0) (fun s => 8 - s.2) ?_ (N.2.2.1 47, 0) ⟨Nat.zero_le _, fun p hp => absurd hp (Nat.not_lt_zero _)⟩
      rintro t ⟨f, i⟩ ⟨hi, hz⟩ ih
      dsimp only at hi hz ih ⊢
      rw [w_X12_given_b38]
      simp (disch := decide) only [oi_gI, oi_gJ, oi_gP, oi_pI, oi_pZ, oi_pJ, oi_oK, oi_aI hd, oi_aZ hd, oi_aJ hd, oi_sI hd, oi_sZ hd, oi_sJ hd, mI_1, mI_2, mJ_1, mJ_2, mJ_3, mA_1, mA_2, mA_3, mA_4, mL_1, mL_2, mL_3, mL_4, mK, Nat.reduceEqDiff, if_true, if_false, ite_true, ite_false, true_and, Nat.reduceLT, reduceIte, reduceCtorEq, cl_0, cl_1, cl_2, cl_3, cl_4, cl_5, cl_6, cl_7, cl_8, cl_9, cl_10, cl_11, cl_12, cl_13, cl_14, cl_15, vl_0_5585, vl_1_5585, vl_2_5585, vl_3_5585, vl_4_5585, vl_5_5585, vl_6_5585, vl_0_7, vl_1_7, vl_2_7, vl_3_7, vl_4_7, vl_5_7, vl_6_7, mA_mA]
      rw [lit_nI 8, nI_leI (by omega) (by omega), nI_clamp (by omega)]
      refine ⟨fun cn => k62 f (fun p hp => hz p (by omega)), fun cn => ⟨vp_in_nI (by omega) (by omega), fun y ey => ?_⟩⟩
      rw [ey, nI_1]
      refine ih (_, i + 1) ⟨by dsimp only; omega, fun p hp => ?_⟩ (by dsimp only; omega)
      dsimp only at hp
      show upd f i 0 p = nI 0
      unfold upd
      by_cases cp : p = i
      · rw [if_pos cp]
        rfl
      · rw [if_neg cp]
        exact hz p (by omega)
    rw [hs] at key
    exact key
  · have := k _ f0
    rw [if_neg (fun z => np (by rw [i1]; exact z.2.2))] at this
    exact this
  · have := k _ f0
    rw [if_neg (fun z => nw z.2.1)] at this
    exact this
  · have := k _ f0
    rw [if_neg (fun z => nh (by rw [i0]; exact z.1))] at this
    exact this
end GW
