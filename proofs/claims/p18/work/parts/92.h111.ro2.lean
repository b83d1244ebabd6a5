/-! ORDERS' SUMS IN THE REFERENCE -/
/-- a leaf of orders: what word p with its number comes to -/
def lfN (F nw : Nat → Int32) (p : Nat) (arg : Int32) : Int32 := if p = 0 then arg else if p < 5 then nw p else if p = 7 then (if 0 ≤ arg.toInt ∧ arg.toInt < iR F 0 then F (8 + arg.toInt.toNat) else -1) else if 0 ≤ arg.toInt ∧ arg.toInt < iR F 1 then (if p = 5 then F (14 + arg.toInt.toNat) else wI (allLR F arg.toInt.toNat (nHR F))) else -1
section RO2
variable {S : hS} {o : Nat} {ad : Nat → Nat} {M : mS}
theorem allLR_b {F : Nat → Int32} (hB : rB F) {p : Nat} (hp : p < 8) : ∀ n, n ≤ 6 → 0 ≤ allLR F p n ∧ allLR F p n ≤ 99 * n
  | 0, _ => by rw [allLR]; omega
  | n + 1, hn => by
    have ih := allLR_b hB hp n (by omega)
    have h1 := hB.1 (30 + 6 * p + n) (by omega)
    have h2 := hB.1 (78 + 6 * p + n) (by omega)
    have h3 := hB.2.2.2.2.1 (6 * p + n) (by omega)
    rw [(hi_r (by omega)).1, (hi_r (by omega)).2] at h1
    rw [(hi_u (by omega)).1, (hi_u (by omega)).2] at h2
    rw [show 78 + (6 * p + n) = 78 + 6 * p + n by omega, show 30 + (6 * p + n) = 30 + 6 * p + n by omega] at h3
    rw [allLR]
    unfold leftR
    omega
theorem s_leftOfAllX (hd : mD o ad) (hB : rB (M.2.2.1 3)) {q : Int32 → hS → Prop} {p : Nat} (hp : p < 8) (h : q (wI (allLR (cut (M.2.2.1 3)) p (nHR (cut (M.2.2.1 3))))) (ov S o ad M)) : w_X12_leftOfAll q (ov S o ad M) o (nI p) := by
  have hBc := rB_cut.mpr hB
  have b0 := hBc.1 0 (by omega)
  rw [show rLo 0 = 0 by decide, show rHi 0 = 6 by decide] at b0
  have en : M.2.2.1 3 0 = nI (nHR (cut (M.2.2.1 3))) := by
    apply Int32.toInt_inj.mp
    have e : iR (cut (M.2.2.1 3)) 0 = (M.2.2.1 3 0).toInt := iR_cut (by omega)
    unfold nHR
    rw [nI_toInt (by omega)]; omega
  have hn : nHR (cut (M.2.2.1 3)) ≤ 6 := by unfold nHR; omega
  generalize nHR (cut (M.2.2.1 3)) = n0 at en hn h
  refine loop_m (σ := Int32 × Nat) (fun n s => w_X12_leftOfAll_b4 q n (ov S o ad M) o (nI p) s.1 (nI s.2)) (fun s => s.2 ≤ n0 ∧ s.1 = wI (allLR (cut (M.2.2.1 3)) p s.2)) (fun s => n0 - s.2) ?_ (0, 0) ⟨Nat.zero_le _, rfl⟩
  rintro n ⟨v, i⟩ ⟨hi, hv⟩ ih
  dsimp only at hi hv ih ⊢
  rw [w_X12_leftOfAll_b4]
  simp (disch := decide) only [oi_gI, oi_gJ, oi_gP, oi_pI, oi_pZ, oi_pJ, oi_oK, oi_aI hd, oi_aZ hd, oi_aJ hd, oi_sI hd, oi_sZ hd, oi_sJ hd, mI_1, mI_2, mJ_1, mJ_2, mJ_3, mA_1, mA_2, mA_3, mA_4, mL_1, mL_2, mL_3, mL_4, mK, Nat.reduceEqDiff, if_true, if_false, ite_true, ite_false, true_and, Nat.reduceLT, reduceIte, reduceCtorEq]
  have e : (0 : Int32).toNatClampNeg = 0 := by decide
  rw [e, en]
  refine ⟨vp_in_iff.mpr (by decide), fun c => ?_, fun c => s_leftOf hd hp (h := i) ?_ ?_⟩
  · rw [nI_leI (by omega) (by omega)] at c
    have : i = n0 := by omega
    rw [hv, this]
    exact h
  · rw [nI_not_le (by omega) (by omega)] at c; omega
  · rw [nI_not_le (by omega) (by omega)] at c
    intro y ey z ez
    rw [ez, nI_1]
    have := allLR_b hBc hp i (by omega)
    have l := left_eq (M := M) hB hp (e := i) (by omega)
    refine ih (y, i + 1) ⟨by show i + 1 ≤ n0; omega, ?_⟩ (by show n0 - (i + 1) < n0 - i; omega)
    dsimp only
    rw [ey, hv, wI_add (wI_i (by omega)) l.1 (by omega) (by omega), allLR]
theorem lfN_0 {F nw : Nat → Int32} {arg : Int32} : lfN F nw 0 arg = arg := if_pos rfl
set_option maxHeartbeats 1000000 in
theorem s_rk95g (hd : mD o ad) {N : mS} {q : hS → Prop} {K : hS → Nat → Int32 → Int32 → Int32 → Prop} {opv argv opv' argv' : Int32} {set : Nat → Int64} {nw : Nat → Int32} {d : Nat → Nat} {n k hi : Nat} (hn : n = d k) (hdb : ∀ k, d k ≤ 399) (hs : stepOk opv argv d k hi) (hk : k < hi) (hhi : hi ≤ 400) (hB : rB (N.2.2.1 3)) (hb : N.1 38 = 0) (co : ¬ N.1 20 = 0) (hnw : ∀ j, 1 ≤ j → j ≤ 4 → N.2.2.2 36 j = (nw j).toInt64) (hlf : ∀ p, p ≤ 9 → opv = nI p → opv' = 0 ∧ argv' = lfN (cut (N.2.2.1 3)) nw p argv) (hnl : 20 ≤ opv.toInt → opv' = opv ∧ argv' = argv)
    (hK : ∀ N' n' k', Fx [38] [] [] [37] N N' → k < k' → k' ≤ hi → n' = d k' → (∀ r, (∀ i, i < n → N.2.2.2 37 i = r i) → ∃ r', evStep opv' argv' set n k r = (n', k', N'.1 38, r') ∧ ∀ i, i < n' → N'.2.2.2 37 i = r' i) → K (ov S o ad N') o (nI hi) (nI n') (nI k')) : w_X12_reckonAll_b95 q K (ov S o ad N) o (nI hi) (nI n) (nI k) opv argv := by
  have hn4 : n ≤ 399 := hn ▸ hdb k
  have hBc := rB_cut.mpr hB
  have b0 := hBc.1 0 (by omega)
  have b1 := hBc.1 1 (by omega)
  rw [show rLo 0 = 0 by decide, show rHi 0 = 6 by decide] at b0
  rw [show rLo 1 = 0 by decide, show rHi 1 = 8 by decide] at b1
  have i0 : (N.2.2.1 3 0).toInt = iR (cut (N.2.2.1 3)) 0 := (iR_cut (by omega)).symm
  have i1 : (N.2.2.1 3 1).toInt = iR (cut (N.2.2.1 3)) 1 := (iR_cut (by omega)).symm
  unfold w_X12_reckonAll_b95
  intro y ey
  rw [nI_1] at ey
  subst ey
  rcases hs with ⟨ho, e1⟩ | ⟨ho, h2, e1⟩ | ⟨rfl, h1, e1⟩ | ⟨ho, h1, e1, t, rfl, ht1, ht2, ht3⟩
  · -- a leaf
    obtain ⟨p, hp9, rfl, -⟩ := rg_nI (b := 9) ho (by omega) (by omega)
    obtain ⟨rfl, ea⟩ := hlf p hp9 rfl
    have hw : ∀ x : Int64, x = (lfN (cut (N.2.2.1 3)) nw p argv).toInt64 → w_X12_reckonAll_b232 q K (ov S o ad N) o (nI hi) (nI n) (nI (k + 1)) x (nI n) (ad 37) := by
      intro x hx
      refine s_rk232 hd (by omega) (hK _ (n + 1) (k + 1) ((Fx.l 37 _).le (by simp) (by simp) (by simp) (by simp)) (by omega) (by omega) (by omega) (fun r hr => ⟨vp_updL r n x, ?_, ?_⟩))
      · rw [evStep, if_pos (by decide), if_pos rfl, ea, ← hx]
        show _ = (n + 1, k + 1, N.1 38, _)
        rw [hb]
      · intro i hi
        show vp_updL (N.2.2.2 37) n x i = _
        by_cases e : i = n
        · subst e; rw [updL_self, updL_self]
        · rw [updL_ne _ _ e, updL_ne _ _ e, hr i (by omega)]
    have ho20 : ¬ (20 : Int32) ≤ nI p := by rw [i32ge, i32lit 20 (by omega)]; have := ho.2; omega
    refine ⟨fun c => absurd c ho20, fun _ => ?_⟩
    unfold w_X12_reckonAll_b186
    simp (disch := decide) only [oi_gI, oi_gJ, oi_gP, oi_pI, oi_pZ, oi_pJ, oi_oK, oi_aI hd, oi_aZ hd, oi_aJ hd, oi_sI hd, oi_sZ hd, oi_sJ hd, mI_1, mI_2, mJ_1, mJ_2, mJ_3, mA_1, mA_2, mA_3, mA_4, mL_1, mL_2, mL_3, mL_4, mK, Nat.reduceEqDiff, if_true, if_false, ite_true, ite_false, true_and, Nat.reduceLT, reduceIte, reduceCtorEq, cl_0, cl_1, cl_2, cl_3, cl_4, cl_5, cl_6, cl_7, cl_8, cl_9, cl_10, cl_11, cl_12, cl_13, cl_14, cl_15, vl_0_5585, vl_1_5585, vl_2_5585, vl_3_5585, vl_4_5585, vl_5_5585, vl_6_5585, vl_0_7, vl_1_7, vl_2_7, vl_3_7, vl_4_7, vl_5_7, vl_6_7]
    have p0 : nI p = 0 ↔ p = 0 := by rw [i32_z, nI_toInt (by omega)]; omega
    have p7 : nI p = 7 ↔ p = 7 := by rw [lit_nI 7, nI_eq (by omega) (by omega)]
    have p5 : (5 : Int32) ≤ nI p ↔ 5 ≤ p := by rw [lit_nI 5, nI_leI (by omega) (by omega)]
    have p5' : nI p = 5 ↔ p = 5 := by rw [lit_nI 5, nI_eq (by omega) (by omega)]
    refine ⟨fun c0 => ⟨fun co => ⟨fun c5 => ⟨fun c7 => ?_, fun c7 => ?_⟩, fun c5 => ⟨vp_in_nI (by omega) (by omega), hw _ ?_⟩⟩, fun z => absurd z co⟩, fun c0 => hw _ ?_⟩
    · have n0 : ¬ p = 0 := fun z => c0 (p0.mpr z)
      have n5 : ¬ p < 5 := by have := p5.mp c5; omega
      have n7 : ¬ p = 7 := fun z => c7 (p7.mpr z)
      unfold lfN at hw
      rw [if_neg n0, if_neg n5, if_neg n7] at hw
      refine s_isPerson hd (fun h1 h2 => ⟨fun _ => ?_, fun z => absurd z (by decide)⟩) (fun cn => ⟨fun z => absurd rfl z, fun _ => hw _ ?_⟩)
      · rw [i1] at h2
        rw [if_pos ⟨h1, h2⟩] at hw
        obtain ⟨a, ha, rfl⟩ := rg_in 8 (by omega) h1 (by omega)
        have ta : (nI a).toInt.toNat = a := by rw [nI_toInt (by omega)]; omega
        rw [ta] at hw
        simp (disch := decide) only [oi_gI, oi_gJ, oi_gP, oi_pI, oi_pZ, oi_pJ, oi_oK, oi_aI hd, oi_aZ hd, oi_aJ hd, oi_sI hd, oi_sZ hd, oi_sJ hd, mI_1, mI_2, mJ_1, mJ_2, mJ_3, mA_1, mA_2, mA_3, mA_4, mL_1, mL_2, mL_3, mL_4, mK, Nat.reduceEqDiff, if_true, if_false, ite_true, ite_false, true_and, Nat.reduceLT, reduceIte, reduceCtorEq, cl_0, cl_1, cl_2, cl_3, cl_4, cl_5, cl_6, cl_7, cl_8, cl_9, cl_10, cl_11, cl_12, cl_13, cl_14, cl_15, vl_0_5585, vl_1_5585, vl_2_5585, vl_3_5585, vl_4_5585, vl_5_5585, vl_6_5585, vl_0_7, vl_1_7, vl_2_7, vl_3_7, vl_4_7, vl_5_7, vl_6_7]
        refine ⟨fun c => s_leftOfAllX hd hB ha (hw _ ?_), fun c => ?_⟩
        · rw [if_neg (fun z => c (p5'.mpr z))]
        · rw [lit_nI 14, nIadd, nI_clamp (by omega)]
          refine ⟨vp_in_nI (by omega) (by omega), hw _ ?_⟩
          rw [if_pos (p5'.mp c), cut_lt (by omega)]
      · rw [i1] at cn
        rw [if_neg cn]
        rfl
    · have n0 : ¬ p = 0 := fun z => c0 (p0.mpr z)
      have n5 : ¬ p < 5 := by have := p5.mp c5; omega
      unfold lfN at hw
      rw [if_neg n0, if_neg n5, if_pos (p7.mp c7)] at hw
      refine s_isHouse hd (fun h1 h2 => ⟨fun z => absurd z (by decide), fun _ => ?_⟩) (fun cn => ⟨fun _ => hw _ ?_, fun z => absurd rfl z⟩)
      · rw [i0] at h2
        rw [if_pos ⟨h1, h2⟩] at hw
        obtain ⟨a, ha, rfl⟩ := rg_in 6 (by omega) h1 (by omega)
        have ta : (nI a).toInt.toNat = a := by rw [nI_toInt (by omega)]; omega
        rw [ta] at hw
        simp (disch := decide) only [oi_gI, oi_gJ, oi_gP, oi_pI, oi_pZ, oi_pJ, oi_oK, oi_aI hd, oi_aZ hd, oi_aJ hd, oi_sI hd, oi_sZ hd, oi_sJ hd, mI_1, mI_2, mJ_1, mJ_2, mJ_3, mA_1, mA_2, mA_3, mA_4, mL_1, mL_2, mL_3, mL_4, mK, Nat.reduceEqDiff, if_true, if_false, ite_true, ite_false, true_and, Nat.reduceLT, reduceIte, reduceCtorEq, cl_0, cl_1, cl_2, cl_3, cl_4, cl_5, cl_6, cl_7, cl_8, cl_9, cl_10, cl_11, cl_12, cl_13, cl_14, cl_15, vl_0_5585, vl_1_5585, vl_2_5585, vl_3_5585, vl_4_5585, vl_5_5585, vl_6_5585, vl_0_7, vl_1_7, vl_2_7, vl_3_7, vl_4_7, vl_5_7, vl_6_7]
        rw [lit_nI 8, nIadd, nI_clamp (by omega)]
        refine ⟨vp_in_nI (by omega) (by omega), hw _ ?_⟩
        rw [cut_lt (by omega)]
      · rw [i0] at cn
        rw [if_neg cn]
    · have n0 : ¬ p = 0 := fun z => c0 (p0.mpr z)
      have n5 : p < 5 := by
        refine Decidable.byContradiction (fun z => c5 (p5.mpr (by omega)))
      unfold lfN
      rw [if_neg n0, if_pos n5, nI_clamp (by omega), hnw p (by omega) (by omega)]
    · rw [p0.mp c0, lfN_0]
  · -- two values into one
    obtain ⟨z1, z2⟩ := hnl ho.1
    have z1 := z1.symm
    have z2 := z2.symm
    subst z1
    subst z2
    have c20 : (20 : Int32) ≤ opv := by rw [i32ge, i32lit 20 (by omega)]; exact ho.1
    have c28 : ¬ (28 : Int32) ≤ opv := by rw [i32ge, i32lit 28 (by omega)]; have := ho.2; omega
    refine ⟨fun _ => ⟨fun c => absurd c c28, fun _ y ey => ?_⟩, fun c => absurd c20 c⟩
    rw [nI_m1 (by omega)] at ey
    subst ey
    rw [nI_s1 (by omega)]
    simp (disch := decide) only [oi_gI, oi_gJ, oi_gP, oi_pI, oi_pZ, oi_pJ, oi_oK, oi_aI hd, oi_aZ hd, oi_aJ hd, oi_sI hd, oi_sZ hd, oi_sJ hd, mI_1, mI_2, mJ_1, mJ_2, mJ_3, mA_1, mA_2, mA_3, mA_4, mL_1, mL_2, mL_3, mL_4, mK, Nat.reduceEqDiff, if_true, if_false, ite_true, ite_false, true_and, Nat.reduceLT, reduceIte, reduceCtorEq, cl_0, cl_1, cl_2, cl_3, cl_4, cl_5, cl_6, cl_7, cl_8, cl_9, cl_10, cl_11, cl_12, cl_13, cl_14, cl_15, vl_0_5585, vl_1_5585, vl_2_5585, vl_3_5585, vl_4_5585, vl_5_5585, vl_6_5585, vl_0_7, vl_1_7, vl_2_7, vl_3_7, vl_4_7, vl_5_7, vl_6_7]
    rw [nI_clamp (by omega), nI_clamp (by omega)]
    have e2 : n - 1 - 1 = n - 2 := by omega
    rw [e2]
    refine ⟨vp_in_nI (by omega) (by omega), vp_in_nI (by omega) (by omega), s_reckon hd hb (fun N1 hF h38 => ?_)⟩
    simp (disch := decide) only [oi_gI, oi_gJ, oi_gP, oi_pI, oi_pZ, oi_pJ, oi_oK, oi_aI hd, oi_aZ hd, oi_aJ hd, oi_sI hd, oi_sZ hd, oi_sJ hd, mI_1, mI_2, mJ_1, mJ_2, mJ_3, mA_1, mA_2, mA_3, mA_4, mL_1, mL_2, mL_3, mL_4, mK, Nat.reduceEqDiff, if_true, if_false, ite_true, ite_false, true_and, Nat.reduceLT, reduceIte, reduceCtorEq, cl_0, cl_1, cl_2, cl_3, cl_4, cl_5, cl_6, cl_7, cl_8, cl_9, cl_10, cl_11, cl_12, cl_13, cl_14, cl_15, vl_0_5585, vl_1_5585, vl_2_5585, vl_3_5585, vl_4_5585, vl_5_5585, vl_6_5585, vl_0_7, vl_1_7, vl_2_7, vl_3_7, vl_4_7, vl_5_7, vl_6_7]
    rw [nI_clamp (by omega), updL_self]
    have hfin : ∀ b : Int32, (b = if rkB opv (N.2.2.2 37 (n - 1)) = 0 ∧ -1000000000 ≤ (rkV opv (N.2.2.2 37 (n - 2)) (N.2.2.2 37 (n - 1))).toInt ∧ (rkV opv (N.2.2.2 37 (n - 2)) (N.2.2.2 37 (n - 1))).toInt ≤ 1000000000 then 0 else 1) → K (ov S o ad (mI (mL N1 37 (vp_updL (N1.2.2.2 37) (n - 2) (rkV opv (N.2.2.2 37 (n - 2)) (N.2.2.2 37 (n - 1))))) 38 b)) o (nI hi) (nI (n - 1)) (nI (k + 1)) := by
      intro b hb2
      refine hK _ (n - 1) (k + 1) (((hF.tr (Fx.l 37 _)).tr (Fx.i 38 b)).le (by simp) (by simp) (by simp) (by simp)) (by omega) (by omega) (by omega) (fun r hr => ⟨vp_updL r (n - 2) (rkV opv (r (n - 2)) (r (n - 1))), ?_, ?_⟩)
      · rw [evStep, if_neg (by have := ho.1; omega), if_pos (by have := ho.2; omega), ← hr (n - 1) (by omega), ← hr (n - 2) (by omega), ← hb2]
        rfl
      · intro i hi
        show vp_updL (N1.2.2.2 37) (n - 2) _ i = _
        rw [← hr (n - 1) (by omega), ← hr (n - 2) (by omega)]
        by_cases e : i = n - 2
        · subst e; rw [updL_self, updL_self]
        · have : N1.2.2.2 = N.2.2.2 := funext fun k => hF.2.2.2 k (by simp)
          rw [updL_ne _ _ e, updL_ne _ _ e, ← hr i (by omega), this]
    refine ⟨vp_in_nI (by omega) (by omega), ?_⟩
    unfold w_X12_reckonAll_b305 w_X12_reckonAll_b310 w_X12_reckonAll_b378
    simp (disch := decide) only [oi_gI, oi_gJ, oi_gP, oi_pI, oi_pZ, oi_pJ, oi_oK, oi_aI hd, oi_aZ hd, oi_aJ hd, oi_sI hd, oi_sZ hd, oi_sJ hd, mI_1, mI_2, mJ_1, mJ_2, mJ_3, mA_1, mA_2, mA_3, mA_4, mL_1, mL_2, mL_3, mL_4, mK, Nat.reduceEqDiff, if_true, if_false, ite_true, ite_false, true_and, Nat.reduceLT, reduceIte, reduceCtorEq, cl_0, cl_1, cl_2, cl_3, cl_4, cl_5, cl_6, cl_7, cl_8, cl_9, cl_10, cl_11, cl_12, cl_13, cl_14, cl_15, vl_0_5585, vl_1_5585, vl_2_5585, vl_3_5585, vl_4_5585, vl_5_5585, vl_6_5585, vl_0_7, vl_1_7, vl_2_7, vl_3_7, vl_4_7, vl_5_7, vl_6_7]
    rw [h38]
    refine ⟨fun c => ⟨by simp, hfin 1 (by rw [if_neg (fun z => c z.1)])⟩, fun c => ⟨vp_in_nI (by omega) (by omega), s_in (fun a b => ⟨fun _ => ?_, fun z => absurd z (by decide)⟩) (fun a => ⟨fun z => absurd rfl z, fun _ => ?_⟩)⟩⟩
    · simp (disch := decide) only [oi_gI, oi_gJ, oi_gP, oi_pI, oi_pZ, oi_pJ, oi_oK, oi_aI hd, oi_aZ hd, oi_aJ hd, oi_sI hd, oi_sZ hd, oi_sJ hd, mI_1, mI_2, mJ_1, mJ_2, mJ_3, mA_1, mA_2, mA_3, mA_4, mL_1, mL_2, mL_3, mL_4, mK, Nat.reduceEqDiff, if_true, if_false, ite_true, ite_false, true_and, Nat.reduceLT, reduceIte, reduceCtorEq, cl_0, cl_1, cl_2, cl_3, cl_4, cl_5, cl_6, cl_7, cl_8, cl_9, cl_10, cl_11, cl_12, cl_13, cl_14, cl_15, vl_0_5585, vl_1_5585, vl_2_5585, vl_3_5585, vl_4_5585, vl_5_5585, vl_6_5585, vl_0_7, vl_1_7, vl_2_7, vl_3_7, vl_4_7, vl_5_7, vl_6_7]
      exact ⟨by simp, hfin 0 (by rw [if_pos ⟨c, a, b⟩])⟩
    · simp (disch := decide) only [oi_gI, oi_gJ, oi_gP, oi_pI, oi_pZ, oi_pJ, oi_oK, oi_aI hd, oi_aZ hd, oi_aJ hd, oi_sI hd, oi_sZ hd, oi_sJ hd, mI_1, mI_2, mJ_1, mJ_2, mJ_3, mA_1, mA_2, mA_3, mA_4, mL_1, mL_2, mL_3, mL_4, mK, Nat.reduceEqDiff, if_true, if_false, ite_true, ite_false, true_and, Nat.reduceLT, reduceIte, reduceCtorEq, cl_0, cl_1, cl_2, cl_3, cl_4, cl_5, cl_6, cl_7, cl_8, cl_9, cl_10, cl_11, cl_12, cl_13, cl_14, cl_15, vl_0_5585, vl_1_5585, vl_2_5585, vl_3_5585, vl_4_5585, vl_5_5585, vl_6_5585, vl_0_7, vl_1_7, vl_2_7, vl_3_7, vl_4_7, vl_5_7, vl_6_7]
      exact ⟨by simp, hfin 1 (by rw [if_neg (fun z => a z.2)])⟩
  · -- not
    obtain ⟨rfl, rfl⟩ := hnl (by decide)
    refine ⟨fun _ => ⟨fun _ => ⟨fun z => absurd rfl z, fun _ => ?_⟩, fun c => absurd (by decide) c⟩, fun c => absurd (by decide) c⟩
    unfold w_X12_reckonAll_b378
    simp (disch := decide) only [oi_gI, oi_gJ, oi_gP, oi_pI, oi_pZ, oi_pJ, oi_oK, oi_aI hd, oi_aZ hd, oi_aJ hd, oi_sI hd, oi_sZ hd, oi_sJ hd, mI_1, mI_2, mJ_1, mJ_2, mJ_3, mA_1, mA_2, mA_3, mA_4, mL_1, mL_2, mL_3, mL_4, mK, Nat.reduceEqDiff, if_true, if_false, ite_true, ite_false, true_and, Nat.reduceLT, reduceIte, reduceCtorEq, cl_0, cl_1, cl_2, cl_3, cl_4, cl_5, cl_6, cl_7, cl_8, cl_9, cl_10, cl_11, cl_12, cl_13, cl_14, cl_15, vl_0_5585, vl_1_5585, vl_2_5585, vl_3_5585, vl_4_5585, vl_5_5585, vl_6_5585, vl_0_7, vl_1_7, vl_2_7, vl_3_7, vl_4_7, vl_5_7, vl_6_7]
    rw [nI_s1 (by omega), nI_clamp (by omega)]
    refine ⟨vp_in_nI (by omega) (by omega), vp_in_nI (by omega) (by omega), hK _ n (k + 1) ((Fx.l 37 _).le (by simp) (by simp) (by simp) (by simp)) (by omega) (by omega) (by omega) (fun r hr => ⟨vp_updL r (n - 1) (1 - r (n - 1)), ?_, ?_⟩)⟩
    · rw [evStep, if_neg (by decide), if_neg (by decide), if_pos rfl]
      show _ = (n, k + 1, N.1 38, _)
      rw [hb]
    · intro i hi
      show vp_updL (N.2.2.2 37) (n - 1) _ i = _
      rw [← hr (n - 1) (by omega)]
      by_cases e : i = n - 1
      · subst e; rw [updL_self, updL_self]
      · rw [updL_ne _ _ e, updL_ne _ _ e, hr i (by omega)]
  · -- and, or
    obtain ⟨z1, z2⟩ := hnl (by rcases ho with rfl | rfl <;> decide)
    have z1 := z1.symm
    have z2 := z2.symm
    subst z1
    subst z2
    have ht : t < 2 ^ 31 := by omega
    have h29 : 29 ≤ opv.toInt ∧ opv ≠ 28 := by rcases ho with rfl | rfl <;> exact ⟨by decide, by decide⟩
    have c20 : (20 : Int32) ≤ opv := by rw [i32ge, i32lit 20 (by omega)]; have := h29.1; omega
    have c28 : (28 : Int32) ≤ opv := by rw [i32ge, i32lit 28 (by omega)]; have := h29.1; omega
    refine ⟨fun _ => ⟨fun _ => ⟨fun _ => ?_, fun z => absurd z h29.2⟩, fun c => absurd c28 c⟩, fun c => absurd c20 c⟩
    have hfin : ∀ v : Int64, (v = if opv = 29 then 0 else 1) → w_X12_reckonAll_b364 q K (ov S o ad N) o (nI hi) (nI n) (nI (k + 1)) (nI t) v (N.2.2.2 37 (n - 1)) := by
      intro v hv
      unfold w_X12_reckonAll_b364 w_X12_reckonAll_b378
      simp only [lgc0]
      refine ⟨fun c y ey => ?_, fun c => ?_⟩
      · rw [ey, nI_m1 (by omega)]
        refine hK N (n - 1) (k + 1) Fx.rf' (by omega) (by omega) (by omega) (fun r hr => ⟨r, ?_, fun i hi => hr i (by omega)⟩)
        rw [evStep, if_neg (by have := h29.1; omega), if_neg (by have := h29.1; omega), if_neg h29.2, ← hr (n - 1) (by omega), ← hv, if_neg c, hb]
      · refine hK N n t Fx.rf' ht1 ht2 (by omega) (fun r hr => ⟨r, ?_, fun i hi => hr i (by omega)⟩)
        rw [evStep, if_neg (by have := h29.1; omega), if_neg (by have := h29.1; omega), if_neg h29.2, ← hr (n - 1) (by omega), ← hv, if_pos c, hb, nI_clamp ht]
    simp (disch := decide) only [oi_gI, oi_gJ, oi_gP, oi_pI, oi_pZ, oi_pJ, oi_oK, oi_aI hd, oi_aZ hd, oi_aJ hd, oi_sI hd, oi_sZ hd, oi_sJ hd, mI_1, mI_2, mJ_1, mJ_2, mJ_3, mA_1, mA_2, mA_3, mA_4, mL_1, mL_2, mL_3, mL_4, mK, Nat.reduceEqDiff, if_true, if_false, ite_true, ite_false, true_and, Nat.reduceLT, reduceIte, reduceCtorEq, cl_0, cl_1, cl_2, cl_3, cl_4, cl_5, cl_6, cl_7, cl_8, cl_9, cl_10, cl_11, cl_12, cl_13, cl_14, cl_15, vl_0_5585, vl_1_5585, vl_2_5585, vl_3_5585, vl_4_5585, vl_5_5585, vl_6_5585, vl_0_7, vl_1_7, vl_2_7, vl_3_7, vl_4_7, vl_5_7, vl_6_7]
    rw [nI_s1 (by omega), nI_clamp (by omega)]
    exact ⟨vp_in_nI (by omega) (by omega), fun c => hfin _ (by rw [if_neg c]), fun c => hfin _ (by rw [if_pos c])⟩
end RO2
