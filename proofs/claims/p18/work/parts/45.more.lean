/-! LAYER 2, the reference: deaths, the tape, counts -/
theorem nI_ltz {n : Nat} (h : n < 2 ^ 31) : ¬ nI n < 0 := nI_pos h
theorem mOk_13 {M mT : mS} {x : Int32} (hM : mOk mT M) (hx : rg x 0 400) : mOk (mI mT 13 x) (mI M 13 x) := ⟨hM.1, hM.2.1, hM.2.2.1, hM.2.2.2.1, hM.2.2.2.2.1, hM.2.2.2.2.2.1, hM.2.2.2.2.2.2.1, hx, hM.2.2.2.2.2.2.2.2.1, hM.2.2.2.2.2.2.2.2.2.1, hM.2.2.2.2.2.2.2.2.2.2.1, hM.2.2.2.2.2.2.2.2.2.2.2.1, hM.2.2.2.2.2.2.2.2.2.2.2.2.1, hM.2.2.2.2.2.2.2.2.2.2.2.2.2.1, rfl, hM.2.2.2.2.2.2.2.2.2.2.2.2.2.2.2⟩
theorem mOk_11 {M mT : mS} {x : Int32} (hM : mOk mT M) : mOk (mI mT 11 x) (mI M 11 x) := ⟨hM.1, hM.2.1, hM.2.2.1, hM.2.2.2.1, hM.2.2.2.2.1, hM.2.2.2.2.2.1, hM.2.2.2.2.2.2.1, hM.2.2.2.2.2.2.2.1, hM.2.2.2.2.2.2.2.2.1, hM.2.2.2.2.2.2.2.2.2.1, hM.2.2.2.2.2.2.2.2.2.2.1, hM.2.2.2.2.2.2.2.2.2.2.2.1, hM.2.2.2.2.2.2.2.2.2.2.2.2.1, hM.2.2.2.2.2.2.2.2.2.2.2.2.2.1, hM.2.2.2.2.2.2.2.2.2.2.2.2.2.2.1, rfl⟩
theorem mOk_12 {M mT : mS} {f g : Nat → Int32} (hM : mOk mT M) (e : f = g) : mOk (mA mT 12 g) (mA M 12 f) := ⟨hM.1, hM.2.1, hM.2.2.1, hM.2.2.2.1, hM.2.2.2.2.1, hM.2.2.2.2.2.1, hM.2.2.2.2.2.2.1, hM.2.2.2.2.2.2.2.1, hM.2.2.2.2.2.2.2.2.1, hM.2.2.2.2.2.2.2.2.2.1, hM.2.2.2.2.2.2.2.2.2.2.1, hM.2.2.2.2.2.2.2.2.2.2.2.1, hM.2.2.2.2.2.2.2.2.2.2.2.2.1, by rw [mA_3, mA_3, if_pos rfl, if_pos rfl, e], hM.2.2.2.2.2.2.2.2.2.2.2.2.2.2.1, hM.2.2.2.2.2.2.2.2.2.2.2.2.2.2.2⟩
theorem mOk_self {M mT : mS} (hM : mOk mT M) : mOk M M := ⟨rowOk_self hM.1, hM.2.1, hM.2.2.1, hM.2.2.2.1, hM.2.2.2.2.1, hM.2.2.2.2.2.1, hM.2.2.2.2.2.2.1, hM.2.2.2.2.2.2.2.1, hM.2.2.2.2.2.2.2.2.1, hM.2.2.2.2.2.2.2.2.2.1, hM.2.2.2.2.2.2.2.2.2.2.1, rfl, rfl, rfl, rfl, rfl⟩
theorem mOk_a {M mT : mS} {k : Nat} {f : Nat → Int32} (hM : mOk mT M) (hk : 3 ≠ k ∧ 4 ≠ k ∧ 5 ≠ k ∧ 6 ≠ k ∧ 9 ≠ k ∧ 7 ≠ k ∧ 10 ≠ k ∧ 12 ≠ k) : mOk mT (mA M k f) := mOk_fx (Fx.a k f) hM (by simp; omega)
theorem mOk_l {M mT : mS} {k : Nat} {f : Nat → Int64} (hM : mOk mT M) : mOk mT (mL M k f) := mOk_fx (Fx.l k f) hM (by simp)
theorem mOk_j {M mT : mS} {k : Nat} {x : Int64} (hM : mOk mT M) : mOk mT (mJ M k x) := mOk_fx (Fx.j k x) hM (by simp)
theorem rg_n {n b : Nat} (h : n ≤ b) (hb : b < 2 ^ 31) : rg (nI n) 0 b := by unfold rg; rw [nI_toInt (by omega)]; omega
section REF14
variable {S : hS} {o : Nat} {ad : Nat → Nat} {M : mS} {mT : mS}
theorem d_die34 (hd : mD o ad) (hM : mOk mT M) {q : Int32 → hS → Prop} {p : Nat} {z many : Int32} (hp : p < 8) (h : ∀ f, rEq (M.2.2.1 3) f → q many (ov S o ad (mA M 3 f))) {f0 : Nat → Int32} (h0 : rEq (M.2.2.1 3) f0) : ∃ n, w_X12_dieIt_b34 q n (ov S o ad (mA M 3 f0)) o (nI p) z many 0 := by
  obtain ⟨H, hH, eH⟩ := rg_inR (b := 6) hM.1.1 (by omega) (by omega)
  obtain ⟨P, hP, eP⟩ := rg_inR (b := 8) hM.1.2.1 (by omega) (by omega)
  refine loop_m (σ := (Nat → Int32) × Nat) (fun n s => w_X12_dieIt_b34 q n (ov S o ad (mA M 3 s.1)) o (nI p) z many (nI s.2)) (fun s => rEq (M.2.2.1 3) s.1 ∧ s.2 ≤ H) (fun s => H - s.2) ?_ (f0, 0) ⟨h0, Nat.zero_le _⟩
  rintro n ⟨f, i⟩ ⟨hf, hi⟩ ih
  dsimp only at hf hi ih ⊢
  rw [w_X12_dieIt_b34]
  simp (disch := decide) only [oi_gI, oi_gJ, oi_gP, oi_pI, oi_pZ, oi_pJ, oi_oK, oi_aI hd, oi_aZ hd, oi_aJ hd, oi_sI hd, oi_sZ hd, oi_sJ hd, mI_1, mI_2, mJ_1, mJ_2, mJ_3, mA_1, mA_2, mA_3, mA_4, mL_1, mL_2, mL_3, mL_4, mK, Nat.reduceEqDiff, if_true, if_false, ite_true, ite_false, true_and, Nat.reduceLT, reduceIte, reduceCtorEq, cl_0, cl_1, cl_2, cl_3, cl_4, cl_5, cl_6, cl_7, cl_8, cl_9, cl_10, cl_11, cl_12, cl_13, cl_14, cl_15, vl_0_5585, vl_1_5585, vl_2_5585, vl_3_5585, vl_4_5585, vl_5_5585, vl_6_5585, vl_0_7, vl_1_7, vl_2_7, vl_3_7, vl_4_7, vl_5_7, vl_6_7, mA_mA]
  rw [hf.c (by omega), eH, nI_leI (by omega) (by omega)]
  have k81 : ∀ each over, i < H → w_X12_dieIt_b81 q (fun S v0 v1 v2 v3 v4 => w_X12_dieIt_b34 q n S v0 v1 v2 v3 v4) (ov S o ad (mA M 3 f)) o (nI p) z many (nI i) each over := by
    intro each over hiH
    unfold w_X12_dieIt_b81
    refine loop_m (σ := (Nat → Int32) × Int32 × Nat) (fun n' s => w_X12_dieIt_b86 q (fun S v0 v1 v2 v3 v4 => w_X12_dieIt_b34 q n S v0 v1 v2 v3 v4) n' (ov S o ad (mA M 3 s.1)) o (nI p) z many (nI i) each s.2.1 (nI s.2.2)) (fun s => rEq (M.2.2.1 3) s.1 ∧ s.2.2 ≤ P) (fun s => P - s.2.2) ?_ (f, over, 0) ⟨hf, Nat.zero_le _⟩
    rintro n' ⟨g, ov', j⟩ ⟨hg, hj⟩ ih'
    dsimp only at hg hj ih' ⊢
    rw [w_X12_dieIt_b86]
    simp (disch := decide) only [oi_gI, oi_gJ, oi_gP, oi_pI, oi_pZ, oi_pJ, oi_oK, oi_aI hd, oi_aZ hd, oi_aJ hd, oi_sI hd, oi_sZ hd, oi_sJ hd, mI_1, mI_2, mJ_1, mJ_2, mJ_3, mA_1, mA_2, mA_3, mA_4, mL_1, mL_2, mL_3, mL_4, mK, Nat.reduceEqDiff, if_true, if_false, ite_true, ite_false, true_and, Nat.reduceLT, reduceIte, reduceCtorEq, cl_0, cl_1, cl_2, cl_3, cl_4, cl_5, cl_6, cl_7, cl_8, cl_9, cl_10, cl_11, cl_12, cl_13, cl_14, cl_15, vl_0_5585, vl_1_5585, vl_2_5585, vl_3_5585, vl_4_5585, vl_5_5585, vl_6_5585, vl_0_7, vl_1_7, vl_2_7, vl_3_7, vl_4_7, vl_5_7, vl_6_7, mA_mA]
    rw [hg.c (by omega), eP, nI_leI (by omega) (by omega), lit_nI 30, lit_nI 78, lit_nI 6, nImul, nImul, nIadd, nIadd, nIadd, nIadd, nIadd, nIadd, nI_clamp (by omega), nI_clamp (by omega)]
    refine ⟨fun _ => ⟨vp_in_nI (by omega) (by omega), vp_in_nI (by omega) (by omega), fun y ey => ?_⟩, fun c => s_is ⟨fun z => absurd z (by decide), fun _ => ?_⟩ ⟨fun _ y ey => ?_, fun z => absurd rfl z⟩⟩
    · rw [ey, nI_1]
      exact ih (_, i + 1) ⟨(hg.up (by unfold rCon; omega)).up (by unfold rCon; omega), by dsimp only; omega⟩ (by dsimp only; omega)
    · have k142 : ∀ a b, w_X12_dieIt_b142 q (fun S v0 v1 v2 v3 v4 => w_X12_dieIt_b34 q n S v0 v1 v2 v3 v4) (fun S v0 v1 v2 v3 v4 v5 v6 v7 => w_X12_dieIt_b86 q (fun S v0 v1 v2 v3 v4 => w_X12_dieIt_b34 q n S v0 v1 v2 v3 v4) n' S v0 v1 v2 v3 v4 v5 v6 v7) (ov S o ad (mA M 3 g)) o (nI p) z many (nI i) each ov' (nI j) a b (nI (30 + 6 * j + i)) (ad 3) := by
        intro a b
        unfold w_X12_dieIt_b142 w_X12_dieIt_b154
        refine s_withinV ?_
        simp (disch := decide) only [oi_gI, oi_gJ, oi_gP, oi_pI, oi_pZ, oi_pJ, oi_oK, oi_aI hd, oi_aZ hd, oi_aJ hd, oi_sI hd, oi_sZ hd, oi_sJ hd, mI_1, mI_2, mJ_1, mJ_2, mJ_3, mA_1, mA_2, mA_3, mA_4, mL_1, mL_2, mL_3, mL_4, mK, Nat.reduceEqDiff, if_true, if_false, ite_true, ite_false, true_and, Nat.reduceLT, reduceIte, reduceCtorEq, cl_0, cl_1, cl_2, cl_3, cl_4, cl_5, cl_6, cl_7, cl_8, cl_9, cl_10, cl_11, cl_12, cl_13, cl_14, cl_15, vl_0_5585, vl_1_5585, vl_2_5585, vl_3_5585, vl_4_5585, vl_5_5585, vl_6_5585, vl_0_7, vl_1_7, vl_2_7, vl_3_7, vl_4_7, vl_5_7, vl_6_7, mA_mA]
        rw [nI_clamp (by omega)]
        refine ⟨vp_in_nI (by omega) (by omega), fun y _ z' ez => ?_⟩
        rw [ez, nI_1]
        exact ih' (_, y, j + 1) ⟨hg.up (by unfold rCon; omega), by dsimp only; omega⟩ (by dsimp only; omega)
      simp (disch := decide) only [oi_gI, oi_gJ, oi_gP, oi_pI, oi_pZ, oi_pJ, oi_oK, oi_aI hd, oi_aZ hd, oi_aJ hd, oi_sI hd, oi_sZ hd, oi_sJ hd, mI_1, mI_2, mJ_1, mJ_2, mJ_3, mA_1, mA_2, mA_3, mA_4, mL_1, mL_2, mL_3, mL_4, mK, Nat.reduceEqDiff, if_true, if_false, ite_true, ite_false, true_and, Nat.reduceLT, reduceIte, reduceCtorEq, cl_0, cl_1, cl_2, cl_3, cl_4, cl_5, cl_6, cl_7, cl_8, cl_9, cl_10, cl_11, cl_12, cl_13, cl_14, cl_15, vl_0_5585, vl_1_5585, vl_2_5585, vl_3_5585, vl_4_5585, vl_5_5585, vl_6_5585, vl_0_7, vl_1_7, vl_2_7, vl_3_7, vl_4_7, vl_5_7, vl_6_7]
      exact s_rights hd (p := j) (h := i) (by omega) (by omega) ⟨fun _ => k142 _ _, fun _ => k142 _ _⟩
    · rw [ey, nI_1]
      exact ih' (g, ov', j + 1) ⟨hg, by dsimp only; omega⟩ (by dsimp only; omega)
  have k62 : ∀ each, i < H → w_X12_dieIt_b62 q (fun S v0 v1 v2 v3 v4 => w_X12_dieIt_b34 q n S v0 v1 v2 v3 v4) (ov S o ad (mA M 3 f)) o (nI p) z many (nI i) each := fun each hiH =>
    ⟨fun c => ⟨ov_oK, s_rights hd hp (by omega) ⟨c, k81 _ _ hiH⟩⟩, fun _ => k81 _ _ hiH⟩
  exact ⟨fun _ => h f hf, fun c => ⟨fun c2 => s_rights hd hp (by omega) ⟨c2, k62 _ (by omega)⟩, fun _ => k62 _ (by omega)⟩⟩
theorem d_dieIt (hd : mD o ad) (hM : mOk mT M) {q : Int32 → hS → Prop} {p : Nat} (hp : p < 8) (h : ∀ r f, rEq (M.2.2.1 3) f → rg r 0 8 → q r (ov S o ad (mA M 3 f))) : w_X12_dieIt q (ov S o ad M) o (nI p) := by
  unfold w_X12_dieIt
  simp (disch := decide) only [oi_gI, oi_gJ, oi_gP, oi_pI, oi_pZ, oi_pJ, oi_oK, oi_aI hd, oi_aZ hd, oi_aJ hd, oi_sI hd, oi_sZ hd, oi_sJ hd, mI_1, mI_2, mJ_1, mJ_2, mJ_3, mA_1, mA_2, mA_3, mA_4, mL_1, mL_2, mL_3, mL_4, mK, Nat.reduceEqDiff, if_true, if_false, ite_true, ite_false, true_and, Nat.reduceLT, reduceIte, reduceCtorEq, cl_0, cl_1, cl_2, cl_3, cl_4, cl_5, cl_6, cl_7, cl_8, cl_9, cl_10, cl_11, cl_12, cl_13, cl_14, cl_15, vl_0_5585, vl_1_5585, vl_2_5585, vl_3_5585, vl_4_5585, vl_5_5585, vl_6_5585, vl_0_7, vl_1_7, vl_2_7, vl_3_7, vl_4_7, vl_5_7, vl_6_7]
  rw [lit_nI 22, lit_nI 162, nIadd, nIadd, nI_clamp (by omega), nI_clamp (by omega)]
  have h0 : rEq (M.2.2.1 3) (upd (M.2.2.1 3) (22 + p) 1) := rEq.rf.up (by unfold rCon; omega)
  refine ⟨vp_in_nI (by omega) (by omega), vp_in_nI (by omega) (by omega), s_living hd ?_ (fun x y _ => s_ones8 (fun r hr => d_die34 hd hM hp (fun f hf => h r f hf hr) h0))⟩
  show rg (upd (M.2.2.1 3) (22 + p) 1 1) 0 8
  rw [h0.c (by omega)]
  exact hM.1.2.1
theorem d_dieNow (hd : mD o ad) (hM : mOk mT M) {q : Int32 → hS → Prop} {a : Int32} (h : ∀ r N, mOk mT N → Fq M N → -3 ≤ r.toInt → q r (ov S o ad N)) : w_X12_dieNow q (ov S o ad M) o a := by
  refine ⟨ov_oK, s_isPerson hd (fun h1 h2 => ⟨fun _ => ⟨ov_oK, ?_⟩, fun z => absurd z (by decide)⟩) (fun _ => ⟨fun z => absurd rfl z, fun _ => h _ _ hM Fq.rf (by decide)⟩)⟩
  have b2 := hM.1.2.1.2
  obtain ⟨p, hp, rfl⟩ := rg_in 8 (by omega) h1 (by omega)
  exact s_lives hd hp (fun _ => ⟨fun _ => ⟨ov_oK, d_remember hd hM ⟨by decide, by decide⟩ (fun N hN hF => ⟨ov_oK, d_dieIt hd hN hp (fun r f hf hr => h _ _ (mOk_r hN (hf.ok hN.1)) (Fq.tr (hF.le (by simp) (by simp) (by simp) (by simp)) Fq.r) (by have := hr.1; omega))⟩)⟩, fun z => absurd z (by decide)⟩) (fun _ => ⟨fun z => absurd rfl z, fun _ => h _ _ hM Fq.rf (by decide)⟩)
theorem p_die (hd : mD o ad) (hM : mOk mT M) {q : Int32 → hS → Prop} {a : Int32} (h : ∀ r N, mOk mT N → q r (ov S o ad N)) : w_X12_die q (ov S o ad M) o a := by
  unfold w_X12_die
  simp (disch := decide) only [oi_gI, oi_gJ, oi_gP, oi_pI, oi_pZ, oi_pJ, oi_oK, oi_aI hd, oi_aZ hd, oi_aJ hd, oi_sI hd, oi_sZ hd, oi_sJ hd, mI_1, mI_2, mJ_1, mJ_2, mJ_3, mA_1, mA_2, mA_3, mA_4, mL_1, mL_2, mL_3, mL_4, mK, Nat.reduceEqDiff, if_true, if_false, ite_true, ite_false, true_and, Nat.reduceLT, reduceIte, reduceCtorEq, cl_0, cl_1, cl_2, cl_3, cl_4, cl_5, cl_6, cl_7, cl_8, cl_9, cl_10, cl_11, cl_12, cl_13, cl_14, cl_15, vl_0_5585, vl_1_5585, vl_2_5585, vl_3_5585, vl_4_5585, vl_5_5585, vl_6_5585, vl_0_7, vl_1_7, vl_2_7, vl_3_7, vl_4_7, vl_5_7, vl_6_7]
  exact d_dieNow hd (mOk_i hM (by omega)) (fun r N hN _ hr => ⟨ov_oK, g_tell hd hN (by omega) (h _)⟩)
theorem mI_mI {M : mS} {k : Nat} {x y : Int32} : mI (mI M k x) k y = mI M k y := by
  unfold mI
  refine congrArg (fun f => (f, M.2)) (funext fun j => ?_)
  show (if j = k then y else if j = k then x else M.1 j) = if j = k then y else M.1 j
  by_cases h : j = k
  · rw [if_pos h, if_pos h]
  · rw [if_neg h, if_neg h, if_neg h]
theorem mA_mI {M : mS} {k j : Nat} {x : Int32} {f : Nat → Int32} : mA (mI M k x) j f = mI (mA M j f) k x := rfl
theorem mOk_cg {M mT mT' : mS} (h : mOk mT M) (e : mT = mT') : mOk mT' M := e ▸ h
/-- people who come by the tape: whether one does at k, how many there are behind j of them -/
def cmAt (f : Nat → Int32) (m k n : Nat) : Prop := k + 3 < m ∧ f (k + 3) < 10 ∧ cmIn (f k) (f (k + 1)) (10 * f (k + 2) + f (k + 3)) ∧ n < 8
noncomputable def cmN (f : Nat → Int32) (m n : Nat) : Nat → Nat
  | 0 => n
  | j + 1 => @ite Nat (cmAt f m (4 * j) (cmN f m n j)) (Classical.propDecidable _) (cmN f m n j + 1) (cmN f m n j)
theorem cmN_y {f : Nat → Int32} {m n j : Nat} (h : cmAt f m (4 * j) (cmN f m n j)) : cmN f m n (j + 1) = cmN f m n j + 1 := by
  rw [cmN]; exact if_pos h
theorem cmN_n {f : Nat → Int32} {m n j : Nat} (h : ¬ cmAt f m (4 * j) (cmN f m n j)) : cmN f m n (j + 1) = cmN f m n j := by
  rw [cmN]; exact if_neg h
theorem cmN_le {f : Nat → Int32} {m n : Nat} (hn : n ≤ 8) : ∀ j, n ≤ cmN f m n j ∧ cmN f m n j ≤ 8 ∧ cmN f m n j ≤ n + j
  | 0 => ⟨Nat.le_refl _, hn, Nat.le_refl _⟩
  | j + 1 => by
    have := cmN_le (f := f) (m := m) hn j
    by_cases h : cmAt f m (4 * j) (cmN f m n j)
    · rw [cmN_y h]
      have := h.2.2.2
      omega
    · rw [cmN_n h]; omega
/-- the row behind so many more people -/
def cmR (u : Nat → Int32) (n n' : Nat) : Nat → Int32 := fun i => if i = 1 then nI n' else if 162 + n ≤ i ∧ i < 162 + n' then 0 else u i
theorem cmR_0 {u : Nat → Int32} {n : Nat} (h : u 1 = nI n) : cmR u n n = u := by
  funext i
  unfold cmR
  by_cases c : i = 1
  · rw [if_pos c, c, h]
  · rw [if_neg c, if_neg (by omega)]
theorem cmR_s {u : Nat → Int32} {n n' : Nat} (h : n ≤ n') : upd (upd (cmR u n n') (162 + n') 0) 1 (nI (n' + 1)) = cmR u n (n' + 1) := by
  funext i
  by_cases c : i = 1
  · subst c; rw [upd_self]; unfold cmR; rw [if_pos rfl]
  · rw [upd_ne _ _ c]
    by_cases c2 : i = 162 + n'
    · subst c2; rw [upd_self]; unfold cmR; rw [if_neg c, if_pos ⟨by omega, by omega⟩]
    · rw [upd_ne _ _ c2]
      unfold cmR
      rw [if_neg c, if_neg c]
      by_cases c3 : 162 + n ≤ i ∧ i < 162 + n'
      · rw [if_pos c3, if_pos ⟨c3.1, by omega⟩]
      · rw [if_neg c3, if_neg (by omega)]
theorem p_row (hd : mD o ad) (hM : mOk M M) {q : Int32 → hS → Prop} {n m : Nat} (hn8 : n ≤ 8) (en : M.2.2.1 3 1 = nI n) (hm : m ≤ 400) (em : M.1 13 = nI m) (h6 : m = 0 → ∀ N, mOk (mI M 13 0) N → q (-6) (ov S o ad N)) (h : ¬ m = 0 → ∀ J, J = (m + 3) / 4 → ∀ N, mOk (mI (mI (mA M 3 (cmR (M.2.2.1 3) n (cmN (M.2.2.1 12) m n J))) 13 0) 11 (nI (J - (cmN (M.2.2.1 12) m n J - n)))) N → q (nI (cmN (M.2.2.1 12) m n J - n)) (ov S o ad N)) : w_X12_row q (ov S o ad M) o := by
  have hM0 : mOk M (mI M 0 0) := mOk_i hM (by omega)
  have hM1 : mOk (mI M 13 0) (mI (mI M 0 0) 13 0) := mOk_13 hM0 ⟨by decide, by decide⟩
  unfold w_X12_row
  simp (disch := decide) only [oi_gI, oi_gJ, oi_gP, oi_pI, oi_pZ, oi_pJ, oi_oK, oi_aI hd, oi_aZ hd, oi_aJ hd, oi_sI hd, oi_sZ hd, oi_sJ hd, mI_1, mI_2, mJ_1, mJ_2, mJ_3, mA_1, mA_2, mA_3, mA_4, mL_1, mL_2, mL_3, mL_4, mK, Nat.reduceEqDiff, if_true, if_false, ite_true, ite_false, true_and, Nat.reduceLT, reduceIte, reduceCtorEq, cl_0, cl_1, cl_2, cl_3, cl_4, cl_5, cl_6, cl_7, cl_8, cl_9, cl_10, cl_11, cl_12, cl_13, cl_14, cl_15, vl_0_5585, vl_1_5585, vl_2_5585, vl_3_5585, vl_4_5585, vl_5_5585, vl_6_5585, vl_0_7, vl_1_7, vl_2_7, vl_3_7, vl_4_7, vl_5_7, vl_6_7]
  rw [em]
  refine ⟨fun c => ?_, fun c => g_tell hd hM1 (by decide) (h6 ?_)⟩
  rotate_left
  · exact nI_inj (b := 0) (by omega) (by omega) c
  have hm0 : ¬ m = 0 := fun e => c (by rw [e]; rfl)
  refine (fun z : (∃ t, w_X12_row_b35 q t (ov S o ad (mI (mI (mI M 0 0) 13 0) 11 0)) o (nI m) (nI (cmN (M.2.2.1 12) m n 0 - n)) (nI (4 * 0))) => ?_) (loop_m (σ := mS × Nat) (fun t s => w_X12_row_b35 q t (ov S o ad s.1) o (nI m) (nI (cmN (M.2.2.1 12) m n s.2 - n)) (nI (4 * s.2))) (fun s => mOk (mI (mI (mA M 3 (cmR (M.2.2.1 3) n (cmN (M.2.2.1 12) m n s.2))) 13 0) 11 (nI (s.2 - (cmN (M.2.2.1 12) m n s.2 - n)))) s.1 ∧ 4 * s.2 ≤ m + 3) (fun s => m + 4 - 4 * s.2) ?_ (mI (mI (mI M 0 0) 13 0) 11 0, 0) ⟨?_, by dsimp only; omega⟩)
  · rw [show cmN (M.2.2.1 12) m n 0 = n from rfl, Nat.sub_self] at z
    exact z
  rotate_left
  · dsimp only
    rw [show cmN (M.2.2.1 12) m n 0 = n from rfl, cmR_0 en, mA_self, Nat.sub_self]
    exact mOk_11 hM1
  rintro t ⟨N, k⟩ ⟨hN, hk⟩ ih
  dsimp only at hN hk ih ⊢
  have hc := cmN_le (f := M.2.2.1 12) (m := m) hn8 k
  have eT : N.2.2.1 12 = M.2.2.1 12 := hN.2.2.2.2.2.2.2.2.2.2.2.2.2.1
  have e1 : N.2.2.1 3 1 = nI (cmN (M.2.2.1 12) m n k) := by
    rw [hN.1.2.2.2.2.2.2.2.2.2 1 (Or.inl (by omega))]
    show cmR (M.2.2.1 3) n (cmN (M.2.2.1 12) m n k) 1 = _
    unfold cmR
    rw [if_pos rfl]
  have e11 : N.1 11 = nI (k - (cmN (M.2.2.1 12) m n k - n)) := hN.2.2.2.2.2.2.2.2.2.2.2.2.2.2.2
  rw [w_X12_row_b35, show nI (4 * k) + 3 = nI (4 * k + 3) from nIadd _ 3, show nI (4 * k) + 2 = nI (4 * k + 2) from nIadd _ 2, nI_1 (4 * k), nI_leI (by omega) (by omega), nI_leI (by omega) (by omega)]
  -- one who doesn't come
  have k107 : ¬ cmAt (M.2.2.1 12) m (4 * k) (cmN (M.2.2.1 12) m n k) → 4 * k < m → w_X12_row_b107 q (fun S v0 v1 v2 v3 => w_X12_row_b35 q t S v0 v1 v2 v3) (ov S o ad N) o (nI m) (nI (cmN (M.2.2.1 12) m n k - n)) (nI (4 * k)) := by
    intro hx hkm
    unfold w_X12_row_b107
    simp (disch := decide) only [oi_gI, oi_gJ, oi_gP, oi_pI, oi_pZ, oi_pJ, oi_oK, oi_aI hd, oi_aZ hd, oi_aJ hd, oi_sI hd, oi_sZ hd, oi_sJ hd, mI_1, mI_2, mJ_1, mJ_2, mJ_3, mA_1, mA_2, mA_3, mA_4, mL_1, mL_2, mL_3, mL_4, mK, Nat.reduceEqDiff, if_true, if_false, ite_true, ite_false, true_and, Nat.reduceLT, reduceIte, reduceCtorEq, cl_0, cl_1, cl_2, cl_3, cl_4, cl_5, cl_6, cl_7, cl_8, cl_9, cl_10, cl_11, cl_12, cl_13, cl_14, cl_15, vl_0_5585, vl_1_5585, vl_2_5585, vl_3_5585, vl_4_5585, vl_5_5585, vl_6_5585, vl_0_7, vl_1_7, vl_2_7, vl_3_7, vl_4_7, vl_5_7, vl_6_7]
    rw [e11, nI_1]
    unfold w_X12_row_b117
    intro y ey
    rw [ey, show nI (4 * k) + 4 = nI (4 * (k + 1)) from nIadd (4 * k) 4]
    have := ih (mI N 11 (nI (k - (cmN (M.2.2.1 12) m n k - n) + 1)), k + 1) ⟨?_, by dsimp only; omega⟩ (by dsimp only; omega)
    · dsimp only at this
      rw [cmN_n hx] at this
      exact this
    · dsimp only
      rw [cmN_n hx, show k + 1 - (cmN (M.2.2.1 12) m n k - n) = k - (cmN (M.2.2.1 12) m n k - n) + 1 by omega]
      have := mOk_11 (x := nI (k - (cmN (M.2.2.1 12) m n k - n) + 1)) hN
      rwa [mI_mI] at this
  refine ⟨fun c1 => ⟨ov_oK, g_settled hd hN (by rw [nI_toInt (by omega)]; omega) (h hm0 k (by omega))⟩, fun c1 => ⟨fun c2 => k107 (fun z => by have := z.1; omega) (by omega), fun c2 => ?_⟩⟩
  simp (disch := decide) only [oi_gI, oi_gJ, oi_gP, oi_pI, oi_pZ, oi_pJ, oi_oK, oi_aI hd, oi_aZ hd, oi_aJ hd, oi_sI hd, oi_sZ hd, oi_sJ hd, mI_1, mI_2, mJ_1, mJ_2, mJ_3, mA_1, mA_2, mA_3, mA_4, mL_1, mL_2, mL_3, mL_4, mK, Nat.reduceEqDiff, if_true, if_false, ite_true, ite_false, true_and, Nat.reduceLT, reduceIte, reduceCtorEq, cl_0, cl_1, cl_2, cl_3, cl_4, cl_5, cl_6, cl_7, cl_8, cl_9, cl_10, cl_11, cl_12, cl_13, cl_14, cl_15, vl_0_5585, vl_1_5585, vl_2_5585, vl_3_5585, vl_4_5585, vl_5_5585, vl_6_5585, vl_0_7, vl_1_7, vl_2_7, vl_3_7, vl_4_7, vl_5_7, vl_6_7]
  rw [eT, nI_clamp (by omega), nI_clamp (by omega), nI_clamp (by omega), nI_clamp (by omega)]
  refine ⟨vp_in_nI (by omega) (by omega), fun c3 => k107 (fun z => absurd z.2.1 (Int32.not_lt.mpr c3)) (by omega), fun c3 => ⟨vp_in_nI (by omega) (by omega), vp_in_nI (by omega) (by omega), vp_in_nI (by omega) (by omega), vp_in_nI (by omega) (by omega), s_come hd hN.1 (fun hx => ⟨fun _ => k107 (fun z => hx z.2.2.1) (by omega), fun z => absurd (by decide) z⟩) (fun _ e8 => ⟨fun _ => k107 (fun z => ?_) (by omega), fun z => absurd (by decide) z⟩) (fun hx n1 hn1 en1 f hf => ⟨fun z => ?_, fun _ y ey => ?_⟩)⟩⟩
  · have h8 : nI (cmN (M.2.2.1 12) m n k) = nI 8 := e1.symm.trans e8
    have := nI_inj (by omega) (by omega) h8
    have := z.2.2.2
    omega
  · exfalso
    rw [Int32.lt_iff_toInt_lt, nI_toInt (by omega)] at z
    have : (0 : Int32).toInt = 0 := by decide
    omega
  · have e2 : n1 = cmN (M.2.2.1 12) m n k := nI_inj (by omega) (by omega) (en1.symm.trans e1)
    subst e2
    have hat : cmAt (M.2.2.1 12) m (4 * k) (cmN (M.2.2.1 12) m n k) := ⟨by omega, Int32.not_le.mp c3, hx, hn1⟩
    rw [ey, nI_1]
    unfold w_X12_row_b117
    intro y2 ey2
    rw [ey2, show nI (4 * k) + 4 = nI (4 * (k + 1)) from nIadd (4 * k) 4]
    have := ih (mA N 3 f, k + 1) ⟨?_, by dsimp only; omega⟩ (by dsimp only; omega)
    · dsimp only at this
      rw [cmN_y hat, show cmN (M.2.2.1 12) m n k + 1 - n = cmN (M.2.2.1 12) m n k - n + 1 by omega] at this
      exact this
    · dsimp only
      rw [cmN_y hat, show k + 1 - (cmN (M.2.2.1 12) m n k + 1 - n) = k - (cmN (M.2.2.1 12) m n k - n) by omega, ← cmR_s (by omega)]
      exact mOk_cg (mOk_rT hN hf) (by rw [mA_mI, mA_mI, mA_mA]; rfl)
/-- four bytes more on a tape -/
def fo4 (f : Nat → Int32) (m : Nat) (v : Int32) : Nat → Int32 := upd (upd (upd (upd f m ((v >>> ((24 : Int32) &&& 31)) &&& 255)) (m + 1) ((v >>> ((16 : Int32) &&& 31)) &&& 255)) (m + 2) ((v >>> ((8 : Int32) &&& 31)) &&& 255)) (m + 3) ((v >>> ((0 : Int32) &&& 31)) &&& 255)
theorem s_four (hd : mD o ad) {q : hS → Prop} {v : Int32} {m : Nat} (hm : m + 4 ≤ 400) (em : M.1 13 = nI m) (hM : mOk mT M) (h : ∀ N, mOk (mI (mA mT 12 (fo4 (mT.2.2.1 12) m v)) 13 (nI (m + 4))) N → N.1 13 = nI (m + 4) → q (ov S o ad N)) : w_X12_four q (ov S o ad M) o v := by
  have key : ∀ N, ∀ j, N.1 13 = nI j → j < 400 → ∀ n (by' by2 : Int32), ¬ by' < 0 → by2 = by' + (-8) → w_X12_four_b3 q n (ov S o ad (mI (mA N 12 (upd (N.2.2.1 12) j ((v >>> (by' &&& 31)) &&& 255))) 13 (nI (j + 1)))) o v by2 → w_X12_four_b3 q (n + 1) (ov S o ad N) o v by' := by
    intro N j ej hj n b1 b2 hb eb hw
    rw [w_X12_four_b3]
    simp (disch := decide) only [oi_gI, oi_gJ, oi_gP, oi_pI, oi_pZ, oi_pJ, oi_oK, oi_aI hd, oi_aZ hd, oi_aJ hd, oi_sI hd, oi_sZ hd, oi_sJ hd, mI_1, mI_2, mJ_1, mJ_2, mJ_3, mA_1, mA_2, mA_3, mA_4, mL_1, mL_2, mL_3, mL_4, mK, Nat.reduceEqDiff, if_true, if_false, ite_true, ite_false, true_and, Nat.reduceLT, reduceIte, reduceCtorEq, cl_0, cl_1, cl_2, cl_3, cl_4, cl_5, cl_6, cl_7, cl_8, cl_9, cl_10, cl_11, cl_12, cl_13, cl_14, cl_15, vl_0_5585, vl_1_5585, vl_2_5585, vl_3_5585, vl_4_5585, vl_5_5585, vl_6_5585, vl_0_7, vl_1_7, vl_2_7, vl_3_7, vl_4_7, vl_5_7, vl_6_7]
    rw [ej, nI_clamp (by omega), nI_1]
    refine ⟨fun z => absurd z hb, fun _ => ⟨vp_in_nI (by omega) (by omega), fun y ey => ?_⟩⟩
    rw [ey, ← eb]
    exact hw
  have st : ∀ T N, mOk T N → ∀ j (x : Int32), j < 400 → mOk (mI (mA T 12 (upd (T.2.2.1 12) j x)) 13 (nI (j + 1))) (mI (mA N 12 (upd (N.2.2.1 12) j x)) 13 (nI (j + 1))) := fun T N hN j x hj => mOk_13 (mOk_12 hN (by rw [hN.2.2.2.2.2.2.2.2.2.2.2.2.2.1])) (rg_n (b := 400) (by omega) (by omega))
  have h1 := st _ _ hM m ((v >>> ((24 : Int32) &&& 31)) &&& 255) (by omega)
  have h2 := st _ _ h1 (m + 1) ((v >>> ((16 : Int32) &&& 31)) &&& 255) (by omega)
  have h3 := st _ _ h2 (m + 2) ((v >>> ((8 : Int32) &&& 31)) &&& 255) (by omega)
  have h4 := st _ _ h3 (m + 3) ((v >>> ((0 : Int32) &&& 31)) &&& 255) (by omega)
  refine ⟨5, key M m em (by omega) 4 24 16 (by decide) (by decide) (key _ (m + 1) rfl (by omega) 3 16 8 (by decide) (by decide) (key _ (m + 2) rfl (by omega) 2 8 0 (by decide) (by decide) (key _ (m + 3) rfl (by omega) 1 0 (-8) (by decide) (by decide) ?_)))⟩
  rw [w_X12_four_b3]
  exact ⟨fun _ => h _ (mOk_cg h4 (by simp only [mA_mI, mI_mI, mA_mA]; rfl)) rfl, fun c => absurd (by decide) c⟩
/-- twenty bytes more -/
def fo20 (f : Nat → Int32) (m : Nat) (a b c d e : Int32) : Nat → Int32 := fo4 (fo4 (fo4 (fo4 (fo4 f m a) (m + 4) b) (m + 8) c) (m + 12) d) (m + 16) e
theorem p_feed (hd : mD o ad) (hM : mOk M M) {q : Int32 → hS → Prop} {a b c d e : Int32} {m : Nat} (hm : m ≤ 400) (em : M.1 13 = nI m) (h0 : 380 < m → ∀ N, mOk M N → q (-1) (ov S o ad N)) (h : m ≤ 380 → ∀ N, mOk (mI (mA M 12 (fo20 (M.2.2.1 12) m a b c d e)) 13 (nI (m + 20))) N → q (nI (m + 20)) (ov S o ad N)) : w_X12_feed q (ov S o ad M) o a b c d e := by
  have hM0 : mOk M (mI M 0 0) := mOk_i hM (by omega)
  have em0 : (mI M 0 0).1 13 = nI m := em
  unfold w_X12_feed
  simp (disch := decide) only [oi_gI, oi_gJ, oi_gP, oi_pI, oi_pZ, oi_pJ, oi_oK, oi_aI hd, oi_aZ hd, oi_aJ hd, oi_sI hd, oi_sZ hd, oi_sJ hd, mI_1, mI_2, mJ_1, mJ_2, mJ_3, mA_1, mA_2, mA_3, mA_4, mL_1, mL_2, mL_3, mL_4, mK, Nat.reduceEqDiff, if_true, if_false, ite_true, ite_false, true_and, Nat.reduceLT, reduceIte, reduceCtorEq, cl_0, cl_1, cl_2, cl_3, cl_4, cl_5, cl_6, cl_7, cl_8, cl_9, cl_10, cl_11, cl_12, cl_13, cl_14, cl_15, vl_0_5585, vl_1_5585, vl_2_5585, vl_3_5585, vl_4_5585, vl_5_5585, vl_6_5585, vl_0_7, vl_1_7, vl_2_7, vl_3_7, vl_4_7, vl_5_7, vl_6_7]
  rw [em, show nI m + 20 = nI (m + 20) from nIadd m 20, lit_nI 400, nI_leI (by omega) (by omega)]
  refine ⟨fun c => s_four hd (m := m) (by omega) em0 hM0 (fun N1 h1 e1 => ⟨ov_oK, s_four hd (m := m + 4) (by omega) e1 h1 (fun N2 h2 e2 => ⟨ov_oK, s_four hd (m := m + 8) (by omega) e2 h2 (fun N3 h3 e3 => ⟨ov_oK, s_four hd (m := m + 12) (by omega) e3 h3 (fun N4 h4 e4 => ⟨ov_oK, s_four hd (m := m + 16) (by omega) e4 h4 (fun N5 h5 e5 => ?_)⟩)⟩)⟩)⟩), fun c => h0 (by omega) _ hM0⟩
  simp (disch := decide) only [oi_gI, oi_gJ, oi_gP, oi_pI, oi_pZ, oi_pJ, oi_oK, oi_aI hd, oi_aZ hd, oi_aJ hd, oi_sI hd, oi_sZ hd, oi_sJ hd, mI_1, mI_2, mJ_1, mJ_2, mJ_3, mA_1, mA_2, mA_3, mA_4, mL_1, mL_2, mL_3, mL_4, mK, Nat.reduceEqDiff, if_true, if_false, ite_true, ite_false, true_and, Nat.reduceLT, reduceIte, reduceCtorEq, cl_0, cl_1, cl_2, cl_3, cl_4, cl_5, cl_6, cl_7, cl_8, cl_9, cl_10, cl_11, cl_12, cl_13, cl_14, cl_15, vl_0_5585, vl_1_5585, vl_2_5585, vl_3_5585, vl_4_5585, vl_5_5585, vl_6_5585, vl_0_7, vl_1_7, vl_2_7, vl_3_7, vl_4_7, vl_5_7, vl_6_7]
  rw [e5]
  exact h (by omega) _ (mOk_cg h5 (by simp only [mA_mI, mI_mI, mA_mA]; rfl))
theorem p_end (hd : mD o ad) (hM : mOk M M) {q : Int32 → hS → Prop} {a : Int32} (h0 : ¬ (0 ≤ a.toInt ∧ a.toInt ≤ (M.1 13).toInt) → ∀ N, mOk M N → q (-1) (ov S o ad N)) (h : (0 ≤ a.toInt ∧ a.toInt ≤ (M.1 13).toInt) → ∀ N, mOk (mI M 13 a) N → q a (ov S o ad N)) : w_X12_end q (ov S o ad M) o a := by
  have hM0 : mOk M (mI M 0 0) := mOk_i hM (by omega)
  have h13 := hM.2.2.2.2.2.2.2.1
  have z0 : (0 : Int32).toInt = 0 := by decide
  unfold w_X12_end
  simp (disch := decide) only [oi_gI, oi_gJ, oi_gP, oi_pI, oi_pZ, oi_pJ, oi_oK, oi_aI hd, oi_aZ hd, oi_aJ hd, oi_sI hd, oi_sZ hd, oi_sJ hd, mI_1, mI_2, mJ_1, mJ_2, mJ_3, mA_1, mA_2, mA_3, mA_4, mL_1, mL_2, mL_3, mL_4, mK, Nat.reduceEqDiff, if_true, if_false, ite_true, ite_false, true_and, Nat.reduceLT, reduceIte, reduceCtorEq, cl_0, cl_1, cl_2, cl_3, cl_4, cl_5, cl_6, cl_7, cl_8, cl_9, cl_10, cl_11, cl_12, cl_13, cl_14, cl_15, vl_0_5585, vl_1_5585, vl_2_5585, vl_3_5585, vl_4_5585, vl_5_5585, vl_6_5585, vl_0_7, vl_1_7, vl_2_7, vl_3_7, vl_4_7, vl_5_7, vl_6_7]
  refine ⟨fun c => h0 (fun z => ?_) _ hM0, fun c => ⟨fun c2 => ?_, fun c2 => h0 (fun z => c2 ?_) _ hM0⟩⟩
  · rw [Int32.lt_iff_toInt_lt, z0] at c; omega
  · rw [Int32.lt_iff_toInt_lt, z0] at c
    rw [i32ge] at c2
    have := h13.2
    exact h ⟨by omega, c2⟩ _ (mOk_13 hM0 ⟨by omega, by omega⟩)
  · rw [i32ge]; exact z.2
theorem i64s1 (x y : Int32) (h : (Int32.toInt64 y).toInt ≤ (Int32.toInt64 x - 1).toInt) : y.toInt < x.toInt := by
  rw [i64sub1, i64toInt] at h
  omega
theorem i64ge0 (y : Int32) (h : (0 : Int64).toInt ≤ (Int32.toInt64 y).toInt) : 0 ≤ y.toInt := by
  rw [i64toInt] at h
  simpa using h
theorem p_drawn (hd : mD o ad) (hM : mOk mT M) {q : Int32 → hS → Prop} {a b : Int32} (h : ∀ r N, mOk mT N → q r (ov S o ad N)) : w_X12_drawn q (ov S o ad M) o a b := by
  have hM0 : mOk mT (mI M 0 0) := mOk_i hM (by omega)
  have h9 := hM.2.2.2.2.2.2.2.2.2.1.2
  have h10 := hM.2.2.2.2.2.2.2.2.2.2.1.2
  unfold w_X12_drawn
  simp (disch := decide) only [oi_gI, oi_gJ, oi_gP, oi_pI, oi_pZ, oi_pJ, oi_oK, oi_aI hd, oi_aZ hd, oi_aJ hd, oi_sI hd, oi_sZ hd, oi_sJ hd, mI_1, mI_2, mJ_1, mJ_2, mJ_3, mA_1, mA_2, mA_3, mA_4, mL_1, mL_2, mL_3, mL_4, mK, Nat.reduceEqDiff, if_true, if_false, ite_true, ite_false, true_and, Nat.reduceLT, reduceIte, reduceCtorEq, cl_0, cl_1, cl_2, cl_3, cl_4, cl_5, cl_6, cl_7, cl_8, cl_9, cl_10, cl_11, cl_12, cl_13, cl_14, cl_15, vl_0_5585, vl_1_5585, vl_2_5585, vl_3_5585, vl_4_5585, vl_5_5585, vl_6_5585, vl_0_7, vl_1_7, vl_2_7, vl_3_7, vl_4_7, vl_5_7, vl_6_7]
  refine s_in (fun x1 x2 => ⟨fun z => absurd z (by decide), fun _ => ?_⟩) (fun _ => ⟨fun _ => h _ _ hM0, fun z => absurd rfl z⟩)
  simp (disch := decide) only [oi_gI, oi_gJ, oi_gP, oi_pI, oi_pZ, oi_pJ, oi_oK, oi_aI hd, oi_aZ hd, oi_aJ hd, oi_sI hd, oi_sZ hd, oi_sJ hd, mI_1, mI_2, mJ_1, mJ_2, mJ_3, mA_1, mA_2, mA_3, mA_4, mL_1, mL_2, mL_3, mL_4, mK, Nat.reduceEqDiff, if_true, if_false, ite_true, ite_false, true_and, Nat.reduceLT, reduceIte, reduceCtorEq, cl_0, cl_1, cl_2, cl_3, cl_4, cl_5, cl_6, cl_7, cl_8, cl_9, cl_10, cl_11, cl_12, cl_13, cl_14, cl_15, vl_0_5585, vl_1_5585, vl_2_5585, vl_3_5585, vl_4_5585, vl_5_5585, vl_6_5585, vl_0_7, vl_1_7, vl_2_7, vl_3_7, vl_4_7, vl_5_7, vl_6_7]
  refine s_in (fun y1 y2 => ⟨fun z => absurd z (by decide), fun _ => ?_⟩) (fun _ => ⟨fun _ => h _ _ hM0, fun z => absurd rfl z⟩)
  simp (disch := decide) only [oi_gI, oi_gJ, oi_gP, oi_pI, oi_pZ, oi_pJ, oi_oK, oi_aI hd, oi_aZ hd, oi_aJ hd, oi_sI hd, oi_sZ hd, oi_sJ hd, mI_1, mI_2, mJ_1, mJ_2, mJ_3, mA_1, mA_2, mA_3, mA_4, mL_1, mL_2, mL_3, mL_4, mK, Nat.reduceEqDiff, if_true, if_false, ite_true, ite_false, true_and, Nat.reduceLT, reduceIte, reduceCtorEq, cl_0, cl_1, cl_2, cl_3, cl_4, cl_5, cl_6, cl_7, cl_8, cl_9, cl_10, cl_11, cl_12, cl_13, cl_14, cl_15, vl_0_5585, vl_1_5585, vl_2_5585, vl_3_5585, vl_4_5585, vl_5_5585, vl_6_5585, vl_0_7, vl_1_7, vl_2_7, vl_3_7, vl_4_7, vl_5_7, vl_6_7]
  have a2 := i64s1 _ _ x2
  have b2 := i64s1 _ _ y2
  obtain ⟨p, hp, rfl⟩ := rg_in 8 (by omega) (i64ge0 _ x1) (by omega)
  obtain ⟨e, he, rfl⟩ := rg_in 6 (by omega) (i64ge0 _ y1) (by omega)
  rw [lit_nI 6, nImul, nIadd]
  exact ⟨vp_in_nI (by omega) (by omega), h _ _ hM0⟩
theorem p_count (hd : mD o ad) (hM : mOk mT M) {q : Int32 → hS → Prop} {a : Int32} (h : ∀ r N, mOk mT N → q r (ov S o ad N)) : w_X12_count q (ov S o ad M) o a := by
  have hM0 : mOk mT (mI M 0 0) := mOk_i hM (by omega)
  unfold w_X12_count
  simp (disch := decide) only [oi_gI, oi_gJ, oi_gP, oi_pI, oi_pZ, oi_pJ, oi_oK, oi_aI hd, oi_aZ hd, oi_aJ hd, oi_sI hd, oi_sZ hd, oi_sJ hd, mI_1, mI_2, mJ_1, mJ_2, mJ_3, mA_1, mA_2, mA_3, mA_4, mL_1, mL_2, mL_3, mL_4, mK, Nat.reduceEqDiff, if_true, if_false, ite_true, ite_false, true_and, Nat.reduceLT, reduceIte, reduceCtorEq, cl_0, cl_1, cl_2, cl_3, cl_4, cl_5, cl_6, cl_7, cl_8, cl_9, cl_10, cl_11, cl_12, cl_13, cl_14, cl_15, vl_0_5585, vl_1_5585, vl_2_5585, vl_3_5585, vl_4_5585, vl_5_5585, vl_6_5585, vl_0_7, vl_1_7, vl_2_7, vl_3_7, vl_4_7, vl_5_7, vl_6_7]
  intro y e
  subst e
  refine ⟨fun _ => h _ _ hM0, fun _ => h _ _ hM0, fun _ => s_living hd hM0.1.2.1 (fun x => s_ones (fun _ => h _ _ hM0)), fun _ => h _ _ hM0, fun _ => h _ _ hM0, fun _ => h _ _ hM0, fun _ => h _ _ hM0, fun _ => h _ _ hM0, fun _ => h _ _ hM0, fun _ => h _ _ hM0, fun _ => h _ _ hM0, fun _ => h _ _ hM0, fun _ => h _ _ hM0, fun _ => s_in (fun x1 x2 => ⟨fun z => absurd z (by decide), fun _ => ?_⟩) (fun _ => ⟨fun _ => h _ _ hM0, fun z => absurd rfl z⟩)⟩
  simp (disch := decide) only [oi_gI, oi_gJ, oi_gP, oi_pI, oi_pZ, oi_pJ, oi_oK, oi_aI hd, oi_aZ hd, oi_aJ hd, oi_sI hd, oi_sZ hd, oi_sJ hd, mI_1, mI_2, mJ_1, mJ_2, mJ_3, mA_1, mA_2, mA_3, mA_4, mL_1, mL_2, mL_3, mL_4, mK, Nat.reduceEqDiff, if_true, if_false, ite_true, ite_false, true_and, Nat.reduceLT, reduceIte, reduceCtorEq, cl_0, cl_1, cl_2, cl_3, cl_4, cl_5, cl_6, cl_7, cl_8, cl_9, cl_10, cl_11, cl_12, cl_13, cl_14, cl_15, vl_0_5585, vl_1_5585, vl_2_5585, vl_3_5585, vl_4_5585, vl_5_5585, vl_6_5585, vl_0_7, vl_1_7, vl_2_7, vl_3_7, vl_4_7, vl_5_7, vl_6_7]
  rw [i64toInt] at x1 x2
  have e1 : (13 : Int64).toInt = 13 := by decide
  have e2 : (15 : Int64).toInt = 15 := by decide
  obtain ⟨k, hk, rfl⟩ := rg_in (z := y) 16 (by omega) (by omega) (by omega)
  rw [nI_toInt (by omega)] at x1
  refine ⟨?_, h _ _ hM0⟩
  have : (5 : Int32) + nI k - 13 = nI (k - 8) := by
    obtain ⟨j, rfl⟩ : ∃ j, k = j + 13 := ⟨k - 13, by omega⟩
    rw [show nI (j + 13) = nI j + 13 from (nIadd j 13).symm, ← Int32.add_assoc, Int32.add_sub_cancel, Int32.add_comm, show nI j + 5 = nI (j + 5) from nIadd j 5]
    rfl
  rw [this]
  exact vp_in_nI (by omega) (by omega)
theorem p_force (hd : mD o ad) (hM : mOk mT M) {q : Int32 → hS → Prop} {a : Int32} (h : ∀ r N, mOk mT N → q r (ov S o ad N)) : w_X12_force q (ov S o ad M) o a := by
  have hM0 : mOk mT (mI M 0 0) := mOk_i hM (by omega)
  have k28 : (-1 ≤ a.toInt ∧ a.toInt < (M.2.2.1 3 3).toInt) → w_X12_force_b28 q (ov S o ad (mI M 0 0)) o a := fun ha =>
    ⟨ov_oK, f_change hd (a := 4) (by omega) (fun N hF e => h _ N (mOk_row hF hM0 (by rw [e]; exact rowOk_upd hM0.1 (by omega) (by omega) (fun e => by omega) (fun e => by omega) (fun e => by omega) (fun _ => ha) (fun e => by omega) (fun e => by omega) (fun e => by omega) (by unfold rTk; omega)) (by simp)))⟩
  have h3 := hM.1.2.2.2.1
  unfold w_X12_force
  simp (disch := decide) only [oi_gI, oi_gJ, oi_gP, oi_pI, oi_pZ, oi_pJ, oi_oK, oi_aI hd, oi_aZ hd, oi_aJ hd, oi_sI hd, oi_sZ hd, oi_sJ hd, mI_1, mI_2, mJ_1, mJ_2, mJ_3, mA_1, mA_2, mA_3, mA_4, mL_1, mL_2, mL_3, mL_4, mK, Nat.reduceEqDiff, if_true, if_false, ite_true, ite_false, true_and, Nat.reduceLT, reduceIte, reduceCtorEq, cl_0, cl_1, cl_2, cl_3, cl_4, cl_5, cl_6, cl_7, cl_8, cl_9, cl_10, cl_11, cl_12, cl_13, cl_14, cl_15, vl_0_5585, vl_1_5585, vl_2_5585, vl_3_5585, vl_4_5585, vl_5_5585, vl_6_5585, vl_0_7, vl_1_7, vl_2_7, vl_3_7, vl_4_7, vl_5_7, vl_6_7]
  refine ⟨fun e => k28 ?_, fun _ => s_in (fun x1 x2 => ⟨fun z => absurd z (by decide), fun _ => k28 ⟨?_, i64s1 _ _ x2⟩⟩) (fun _ => ⟨fun _ => ⟨ov_oK, g_tell hd hM0 (by decide) (h _)⟩, fun z => absurd rfl z⟩)⟩
  · have e1 : (-1 : Int32).toInt = -1 := by decide
    rw [e, e1]
    have := h3.1
    omega
  · have := i64ge0 _ x1
    omega
end REF14
