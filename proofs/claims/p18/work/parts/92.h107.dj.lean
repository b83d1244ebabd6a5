/-! DIVISION AMONG THE HEIRS IN THE REFERENCE -/
section DJ
variable {S : hS} {o : Nat} {ad : Nat → Nat} {M N P M1 : mS} {mT : mS} {T : aS} {rs : Nat} {L : Nat → List pCl} {us : uL} {f g u s F r : Nat → Int32}
theorem s_isB {q : Int32 → hS → Prop} {T : hS} {a : Int32} {j : Nat} (hj : j < 8) (h1 : dB a j = 1 → q 1 T) (h0 : ¬ dB a j = 1 → q 0 T) : w_X12_is q T a (nI j) := by
  have e : (a >>> (nI j &&& 31)) &&& 1 = dB a j := by rw [n31 j hj]; rfl
  unfold w_X12_is
  rw [e]
  exact ⟨h0, h1⟩
/-- a row of the division: below 185 as g, and the laws as in r -/
def dvR (r g s : Nat → Int32) : Prop := cut s = g ∧ ∀ i, 185 ≤ i → s i = r i
theorem dvR.at (h : dvR r g s) {i : Nat} (hi : i < 185) : s i = g i := by rw [← h.1, cut_lt hi]
theorem dvR.up (h : dvR r g s) {i : Nat} {v : Int32} (hi : i < 185) : dvR r (upd g i v) (upd s i v) := ⟨by rw [cut_upd hi, h.1], fun j hj => by rw [upd_ne _ _ (by omega)]; exact h.2 j hj⟩
theorem upd_cm {h : Nat → Int32} {a b : Nat} {x y : Int32} (n : a ≠ b) : upd (upd h a x) b y = upd (upd h b y) a x := by
  funext i
  unfold upd
  by_cases c1 : i = b
  · rw [if_pos c1, if_neg (by omega), if_pos c1]
  · rw [if_neg c1, if_neg c1]
theorem x_die34 (hd : mD o ad) {q : Int32 → hS → Prop} {p mm : Nat} {z : Int32} (hp : p < 8) (hB : rB F) (hz : ∀ j, j < 8 → (dB z j = 1 ↔ heirB F p j = true)) (hm : mm = manyR F p) (h : ∀ s, dvR r (dieF F p) s → q (nI mm) (ov S o ad (mA M 3 s))) {s0 : Nat → Int32} (h0 : dvR r (upd F (22 + p) 1) s0) : ∃ n, w_X12_dieIt_b34 q n (ov S o ad (mA M 3 s0)) o (nI p) z (nI mm) 0 := by
  have b0 := hB.1 0 (by omega)
  have b1 := hB.1 1 (by omega)
  rw [show rLo 0 = 0 by decide, show rHi 0 = 6 by decide] at b0
  rw [show rLo 1 = 0 by decide, show rHi 1 = 8 by decide] at b1
  have hH : nHR F ≤ 6 := by unfold nHR; omega
  have hP : nPR F ≤ 8 := by unfold nPR; omega
  have eH : F 0 = nI (nHR F) := by
    apply Int32.toInt_inj.mp
    have : iR F 0 = (F 0).toInt := rfl
    unfold nHR
    rw [nI_toInt (by omega)]; omega
  have eP : F 1 = nI (nPR F) := by
    apply Int32.toInt_inj.mp
    have : iR F 1 = (F 1).toInt := rfl
    unfold nPR
    rw [nI_toInt (by omega)]; omega
  have hpp := heir_pp hB hp
  have hmany : mm ≤ 8 := by rw [hm]; have := rank_le (f := F) (p := p) (nPR F); unfold manyR; omega
  have hend : ∀ j, nPR F ≤ j → j < 8 → heirB F p j = false := fun j hj _ => by
    unfold heirB
    have : ¬ (j : Int) < iR F 1 := by unfold nPR at hj; omega
    rw [decide_eq_false this, Bool.and_false]
  have bR : ∀ j i, j < 8 → i < 6 → 0 ≤ iR F (30 + 6 * j + i) ∧ iR F (30 + 6 * j + i) ≤ 99 := fun j i hj hi => by
    have := hB.1 (30 + 6 * j + i) (by omega)
    rw [(hi_r (by omega)).1, (hi_r (by omega)).2] at this
    exact this
  refine loop_m (σ := (Nat → Int32) × Nat) (fun n s => w_X12_dieIt_b34 q n (ov S o ad (mA M 3 s.1)) o (nI p) z (nI mm) (nI s.2)) (fun s => dvR r (upd (dieH F p s.2) (22 + p) 1) s.1 ∧ s.2 ≤ nHR F) (fun s => nHR F - s.2) ?_ (s0, 0) ⟨by dsimp only; rw [dieH_0]; exact h0, Nat.zero_le _⟩
  rintro n ⟨f, i⟩ ⟨hf, hi⟩ ih
  dsimp only at hf hi ih ⊢
  rw [w_X12_dieIt_b34]
  simp (disch := decide) only [oi_gI, oi_gJ, oi_gP, oi_pI, oi_pZ, oi_pJ, oi_oK, oi_aI hd, oi_aZ hd, oi_aJ hd, oi_sI hd, oi_sZ hd, oi_sJ hd, mI_1, mI_2, mJ_1, mJ_2, mJ_3, mA_1, mA_2, mA_3, mA_4, mL_1, mL_2, mL_3, mL_4, mK, Nat.reduceEqDiff, if_true, if_false, ite_true, ite_false, true_and, Nat.reduceLT, reduceIte, reduceCtorEq, cl_0, cl_1, cl_2, cl_3, cl_4, cl_5, cl_6, cl_7, cl_8, cl_9, cl_10, cl_11, cl_12, cl_13, cl_14, cl_15, vl_0_5585, vl_1_5585, vl_2_5585, vl_3_5585, vl_4_5585, vl_5_5585, vl_6_5585, vl_0_7, vl_1_7, vl_2_7, vl_3_7, vl_4_7, vl_5_7, vl_6_7, mA_mA]
  have f0 : f 0 = F 0 := by rw [hf.at (by omega), upd_ne _ _ (by omega), dieH_o (by omega)]
  rw [f0, eH, nI_leI (by omega) (by omega)]
  have own : i < nHR F → f (30 + 6 * p + i) = nI (ownR F p i) := fun hiH => by
    rw [hf.at (by omega), upd_ne _ _ (by omega), dieH_r (by omega) hp]
    apply Int32.toInt_inj.mp
    have := bR p i hp (by omega)
    have e : iR F (30 + 6 * p + i) = (F (30 + 6 * p + i)).toInt := rfl
    unfold ownR
    rw [nI_toInt (by omega)]; omega
  have ownb : i < nHR F → ownR F p i ≤ 99 := fun hiH => by
    have := bR p i hp (by omega)
    unfold ownR; omega
  have k81 : ∀ over, i < nHR F → (mm ≠ 0 → over = nI (ownR F p i % mm)) → ∀ each, (mm ≠ 0 → each = nI (ownR F p i / mm)) → w_X12_dieIt_b81 q (fun S v0 v1 v2 v3 v4 => w_X12_dieIt_b34 q n S v0 v1 v2 v3 v4) (ov S o ad (mA M 3 f)) o (nI p) z (nI mm) (nI i) each over := by
    intro over hiH hov each heach
    have ob := ownb hiH
    unfold w_X12_dieIt_b81
    refine loop_m (σ := (Nat → Int32) × Int32 × Nat) (fun n' s => w_X12_dieIt_b86 q (fun S v0 v1 v2 v3 v4 => w_X12_dieIt_b34 q n S v0 v1 v2 v3 v4) n' (ov S o ad (mA M 3 s.1)) o (nI p) z (nI mm) (nI i) each s.2.1 (nI s.2.2)) (fun s => (dvR r (upd (dieX F p i s.2.2) (22 + p) 1) s.1 ∧ (mm ≠ 0 → s.2.1.toInt = ((ownR F p i % mm : Nat) : Int) - rankR F p s.2.2)) ∧ s.2.2 ≤ nPR F) (fun s => nPR F - s.2.2) ?_ (f, over, 0) ⟨⟨by dsimp only; rw [dieX_0 hp (by omega)]; exact hf, fun hm0 => by
      dsimp only
      have : ownR F p i % mm ≤ ownR F p i := Nat.mod_le _ _
      rw [hov hm0, nI_toInt (by omega), rankR]; omega⟩, Nat.zero_le _⟩
    rintro n' ⟨g, ov', j⟩ ⟨⟨hg, hr⟩, hj⟩ ih'
    dsimp only at hg hr hj ih' ⊢
    rw [w_X12_dieIt_b86]
    simp (disch := decide) only [oi_gI, oi_gJ, oi_gP, oi_pI, oi_pZ, oi_pJ, oi_oK, oi_aI hd, oi_aZ hd, oi_aJ hd, oi_sI hd, oi_sZ hd, oi_sJ hd, mI_1, mI_2, mJ_1, mJ_2, mJ_3, mA_1, mA_2, mA_3, mA_4, mL_1, mL_2, mL_3, mL_4, mK, Nat.reduceEqDiff, if_true, if_false, ite_true, ite_false, true_and, Nat.reduceLT, reduceIte, reduceCtorEq, cl_0, cl_1, cl_2, cl_3, cl_4, cl_5, cl_6, cl_7, cl_8, cl_9, cl_10, cl_11, cl_12, cl_13, cl_14, cl_15, vl_0_5585, vl_1_5585, vl_2_5585, vl_3_5585, vl_4_5585, vl_5_5585, vl_6_5585, vl_0_7, vl_1_7, vl_2_7, vl_3_7, vl_4_7, vl_5_7, vl_6_7, mA_mA]
    have g1 : g 1 = F 1 := by rw [hg.at (by omega), upd_ne _ _ (by omega), dieX_o hp (by omega) (by omega)]
    rw [g1, eP, nI_leI (by omega) (by omega), lit_nI 30, lit_nI 78, lit_nI 6, nImul, nImul, nIadd, nIadd, nIadd, nIadd, nIadd, nIadd, nI_clamp (by omega), nI_clamp (by omega)]
    refine ⟨fun c => ⟨vp_in_nI (by omega) (by omega), vp_in_nI (by omega) (by omega), fun y ey => ?_⟩, fun c => s_isB (by omega) (fun hb => ⟨fun z => absurd z (by decide), fun _ => ?_⟩) (fun hb => ⟨fun _ y ey => ?_, fun z => absurd rfl z⟩)⟩
    · rw [ey, nI_1]
      have ej : j = nPR F := by omega
      subst ej
      refine ih (upd (upd g (30 + 6 * p + i) 0) (78 + 6 * p + i) 0, i + 1) ⟨?_, by dsimp only; omega⟩ (by dsimp only; omega)
      dsimp only
      have := (hg.up (i := 30 + 6 * p + i) (v := 0) (by omega)).up (i := 78 + 6 * p + i) (v := 0) (by omega)
      rw [upd_cm (show 22 + p ≠ 30 + 6 * p + i by omega), upd_cm (show 22 + p ≠ 78 + 6 * p + i by omega), dieX_e hp (by omega) hend] at this
      exact this
    · have hh : heirB F p j = true := (hz j (by omega)).mp hb
      have rk := (heir_lt hB hh).2
      rw [← hm] at rk
      have m0 : mm ≠ 0 := by omega
      have hr' := hr m0
      have gj : g (30 + 6 * j + i) = F (30 + 6 * j + i) := by rw [hg.at (by omega), upd_ne _ _ (by omega), dieX_r hp (by omega) (by omega) (Nat.le_refl _)]
      have bj := bR j i (by omega) (by omega)
      have mdl : ownR F p i % mm ≤ ownR F p i := Nat.mod_le _ _
      have dvl : ownR F p i / mm ≤ ownR F p i := Nat.div_le_self _ _
      have rkl := rank_le (f := F) (p := p) j
      obtain ⟨dq, hdq⟩ : ∃ dq, ownR F p i / mm = dq := ⟨_, rfl⟩
      obtain ⟨dm, hdm⟩ : ∃ dm, ownR F p i % mm = dm := ⟨_, rfl⟩
      have hea := heach m0
      rw [hdq] at dvl hea
      rw [hdm] at mdl hr'
      have k142 : ∀ t0 : Int32, t0 = (if rankR F p j < ownR F p i % mm then 1 else 0) → w_X12_dieIt_b142 q (fun S v0 v1 v2 v3 v4 => w_X12_dieIt_b34 q n S v0 v1 v2 v3 v4) (fun S v0 v1 v2 v3 v4 v5 v6 v7 => w_X12_dieIt_b86 q (fun S v0 v1 v2 v3 v4 => w_X12_dieIt_b34 q n S v0 v1 v2 v3 v4) n' S v0 v1 v2 v3 v4 v5 v6 v7) (ov S o ad (mA M 3 g)) o (nI p) z (nI mm) (nI i) each ov' (nI j) t0 (g (30 + 6 * j + i) + each) (nI (30 + 6 * j + i)) (ad 3) := by
        intro t0 et
        unfold w_X12_dieIt_b142 w_X12_dieIt_b154
        refine s_withinV ?_
        have ti : t0.toInt = if rankR F p j < ownR F p i % mm then 1 else 0 := by rw [et]; split <;> rfl
        have tl : 0 ≤ t0.toInt ∧ t0.toInt ≤ 1 := by rw [ti]; split <;> omega
        have ev : wiV (Int32.toInt64 (g (30 + 6 * j + i) + each + t0)) 0 99 = gotR F p i j := by
          have es : (g (30 + 6 * j + i) + each).toInt = iR F (30 + 6 * j + i) + (dq : Int) := by
            rw [gj, hea, wI_add (x := F (30 + 6 * j + i)) (z := iR F (30 + 6 * j + i)) (w := (dq : Int)) rfl (nI_toInt (by omega)) (by omega) (by omega), wI_i (by omega)]
          rw [wiV_add es rfl (by omega) (by omega) (by omega) (by decide)]
          unfold gotR shareR
          rw [← hm, hdq, hdm]
          have : (99 : Int32).toInt = 99 := by decide
          rw [hdm] at ti
          rw [this, ti]
          congr 2
          split <;> omega
        rw [ev]
        simp (disch := decide) only [oi_gI, oi_gJ, oi_gP, oi_pI, oi_pZ, oi_pJ, oi_oK, oi_aI hd, oi_aZ hd, oi_aJ hd, oi_sI hd, oi_sZ hd, oi_sJ hd, mI_1, mI_2, mJ_1, mJ_2, mJ_3, mA_1, mA_2, mA_3, mA_4, mL_1, mL_2, mL_3, mL_4, mK, Nat.reduceEqDiff, if_true, if_false, ite_true, ite_false, true_and, Nat.reduceLT, reduceIte, reduceCtorEq, cl_0, cl_1, cl_2, cl_3, cl_4, cl_5, cl_6, cl_7, cl_8, cl_9, cl_10, cl_11, cl_12, cl_13, cl_14, cl_15, vl_0_5585, vl_1_5585, vl_2_5585, vl_3_5585, vl_4_5585, vl_5_5585, vl_6_5585, vl_0_7, vl_1_7, vl_2_7, vl_3_7, vl_4_7, vl_5_7, vl_6_7, mA_mA]
        rw [nI_clamp (by omega)]
        refine ⟨vp_in_nI (by omega) (by omega), fun y ey z' ez => ?_⟩
        rw [ez, nI_1]
        refine ih' (upd g (30 + 6 * j + i) (gotR F p i j), y, j + 1) ⟨⟨?_, fun _ => ?_⟩, by dsimp only; omega⟩ (by dsimp only; omega)
        · dsimp only
          rw [dieX_s (by omega) (by omega) hpp, if_pos hh]
          have := hg.up (i := 30 + 6 * j + i) (v := gotR F p i j) (by omega)
          rw [upd_cm (show 22 + p ≠ 30 + 6 * j + i by omega)] at this
          exact this
        · dsimp only
          have e1 : (-1 : Int32).toInt = -1 := by decide
          have y1 : (ov' + -1).toInt = ov'.toInt + (-1) := by rw [fb_addI] <;> rw [e1] <;> omega
          rw [ey, y1, hr', rankR, if_pos hh]
          omega
      simp (disch := decide) only [oi_gI, oi_gJ, oi_gP, oi_pI, oi_pZ, oi_pJ, oi_oK, oi_aI hd, oi_aZ hd, oi_aJ hd, oi_sI hd, oi_sZ hd, oi_sJ hd, mI_1, mI_2, mJ_1, mJ_2, mJ_3, mA_1, mA_2, mA_3, mA_4, mL_1, mL_2, mL_3, mL_4, mK, Nat.reduceEqDiff, if_true, if_false, ite_true, ite_false, true_and, Nat.reduceLT, reduceIte, reduceCtorEq, cl_0, cl_1, cl_2, cl_3, cl_4, cl_5, cl_6, cl_7, cl_8, cl_9, cl_10, cl_11, cl_12, cl_13, cl_14, cl_15, vl_0_5585, vl_1_5585, vl_2_5585, vl_3_5585, vl_4_5585, vl_5_5585, vl_6_5585, vl_0_7, vl_1_7, vl_2_7, vl_3_7, vl_4_7, vl_5_7, vl_6_7]
      refine s_rights hd (p := j) (h := i) (by omega) (by omega) ?_
      have z0 : (0 : Int32).toInt = 0 := by decide
      show (ov' ≤ 0 → _) ∧ (¬ ov' ≤ 0 → _)
      rw [Int32.le_iff_toInt_le, z0, hr']
      refine ⟨fun cz => k142 0 ?_, fun cz => k142 1 ?_⟩
      · rw [if_neg (by omega)]
      · rw [if_pos (by omega)]
    · rw [ey, nI_1]
      have hh : ¬ heirB F p j = true := fun w => hb ((hz j (by omega)).mpr w)
      refine ih' (g, ov', j + 1) ⟨⟨?_, fun m0 => ?_⟩, by dsimp only; omega⟩ (by dsimp only; omega)
      · dsimp only
        rw [dieX_s (by omega) (by omega) hpp, if_neg hh]
        exact hg
      · dsimp only
        rw [hr m0, rankR, if_neg hh]
        omega
  have mz : nI mm = 0 ↔ mm = 0 := by
    rw [i32_z, nI_toInt (by omega)]; omega
  have k62 : ∀ each, i < nHR F → (mm ≠ 0 → each = nI (ownR F p i / mm)) → w_X12_dieIt_b62 q (fun S v0 v1 v2 v3 v4 => w_X12_dieIt_b34 q n S v0 v1 v2 v3 v4) (ov S o ad (mA M 3 f)) o (nI p) z (nI mm) (nI i) each := fun each hiH heach =>
    ⟨fun c => ⟨ov_oK, s_rights hd hp (by omega) ⟨c, k81 _ hiH (fun _ => by
      have := ownb hiH
      show f (30 + 6 * p + i) - f (30 + 6 * p + i) / nI mm * nI mm = _
      have hdv : ownR F p i / mm * mm ≤ ownR F p i := Nat.div_mul_le_self _ _
      rw [own hiH, nIdiv (by omega) (by omega), nImul, nIsub hdv, Nat.mod_eq_sub_div_mul]) each heach⟩⟩, fun c => k81 0 hiH (fun m0 => absurd (mz.mp c) m0) each heach⟩
  refine ⟨fun c => ?_, fun c => ⟨fun c2 => s_rights hd hp (by omega) ⟨c2, k62 _ (by omega) (fun _ => by
    have := ownb (by omega)
    show f (30 + 6 * p + i) / nI mm = _
    rw [own (by omega), nIdiv (by omega) (by omega)])⟩, fun c2 => k62 _ (by omega) (fun m0 => absurd (mz.mp c2) m0)⟩⟩
  have ei : i = nHR F := by omega
  rw [ei] at hf
  exact h f hf
end DJ
