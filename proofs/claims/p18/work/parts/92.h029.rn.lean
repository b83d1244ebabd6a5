/-! THE REFERENCE'S LAW, EXACTLY: into the row -/
def tlM (M : mS) (v : Int32) : mS := if 0 ≤ v then mI M 1 0 else mA (mI M 1 v) 2 (upd (M.2.2.1 2) (-v).toNatClampNeg (M.2.2.1 2 (-v).toNatClampNeg + 1))
/-- a law stands in the row from b on -/
def lwR (f : Nat → Int32) (b : Nat) (cs : List pCl) : Prop := f (b + 1) = nI cs.length ∧ (∀ j, (h : j < (rMk cs 0).length) → f (b + 2 + 8 * j) = nI ((rMk cs 0)[j]).1 ∧ f (b + 2 + (8 * j + 3)) = nI ((rMk cs 0)[j]).2.1 ∧ f (b + 2 + (8 * j + 4)) = nI ((rMk cs 0)[j]).2.2.1 ∧ f (b + 2 + (8 * j + 5)) = nI ((rMk cs 0)[j]).2.2.1 ∧ f (b + 2 + (8 * j + 6)) = nI ((rMk cs 0)[j]).2.2.2) ∧ outAt (rAll cs 0) (fun k => f (b + 98 + 2 * k)) (fun k => f (b + 98 + 2 * k + 1))
section RN
variable {S : hS} {o : Nat} {ad : Nat → Nat} {M : mS} {G : pG} {p k : Nat}
theorem x_tell (hd : mD o ad) {q : Int32 → hS → Prop} {v : Int32} (hv : -6 ≤ v.toInt) (h : q v (ov S o ad (tlM M v))) : w_X12_tell q (ov S o ad M) o v := by
  unfold tlM at h
  unfold w_X12_tell
  constructor
  · intro c
    unfold w_X12_tell_b10
    simp (disch := decide) only [oi_gI, oi_gJ, oi_gP, oi_pI, oi_pZ, oi_pJ, oi_oK, oi_aI hd, oi_aZ hd, oi_aJ hd, oi_sI hd, oi_sZ hd, oi_sJ hd, mI_1, mI_2, mJ_1, mJ_2, mJ_3, mA_1, mA_2, mA_3, mA_4, mL_1, mL_2, mL_3, mL_4, mK, Nat.reduceEqDiff, if_true, if_false, ite_true, ite_false, true_and, Nat.reduceLT, reduceIte, reduceCtorEq]
    refine ⟨fun _ => ?_, fun c2 => absurd c c2⟩
    rw [if_pos c] at h
    exact h
  · intro c
    unfold w_X12_tell_b10
    simp (disch := decide) only [oi_gI, oi_gJ, oi_gP, oi_pI, oi_pZ, oi_pJ, oi_oK, oi_aI hd, oi_aZ hd, oi_aJ hd, oi_sI hd, oi_sZ hd, oi_sJ hd, mI_1, mI_2, mJ_1, mJ_2, mJ_3, mA_1, mA_2, mA_3, mA_4, mL_1, mL_2, mL_3, mL_4, mK, Nat.reduceEqDiff, if_true, if_false, ite_true, ite_false, true_and, Nat.reduceLT, reduceIte, reduceCtorEq]
    refine ⟨fun c2 => absurd c2 c, fun _ => ?_⟩
    have hn : v.toInt < 0 := by
      rw [Int32.le_iff_toInt_le] at c
      simpa using c
    have hi : vp_in (-v) 7 := by
      rw [vp_in_iff, fb_negI (by omega)]
      omega
    rw [if_neg c] at h
    exact ⟨hi, hi, h⟩
theorem x_law146 (hd : mD o ad) {q : Int32 → hS → Prop} {cs : List pCl} {c nl : Nat} (e3 : M.2.2.1 3 3 = nI nl) (hnl : nl < 6) (hn : cs.length ≤ 12) (hc : c = (rAll cs 0).length) (hc4 : c ≤ 400) (e23 : M.1 23 = nI c) (hout : outAt (rAll cs 0) (M.2.2.1 24) (M.2.2.1 25)) (hm : mkM M cs) (h : ∀ g, lwR g (185 + 900 * nl) cs → g 3 = nI (nl + 1) → (∀ i, i ≠ 3 → (i < 185 + 900 * nl ∨ 185 + 900 * nl + 900 ≤ i) → g i = M.2.2.1 3 i) → q (nI nl) (ov S o ad (tlM (mA M 3 g) (nI nl)))) {g : Nat → Int32} (g1 : g (185 + 900 * nl + 1) = nI cs.length) (g2 : ∀ k, k < 8 * cs.length → g (185 + 900 * nl + 2 + k) = M.2.2.1 22 k) (g3 : ∀ i, (i < 185 + 900 * nl ∨ 185 + 900 * nl + 900 ≤ i) → g i = M.2.2.1 3 i) : ∃ m, w_X12_law_b146 q m (ov S o ad (mA M 3 g)) o (nI (185 + 900 * nl)) 0 := by
  refine loop_m (σ := (Nat → Int32) × Nat) (fun m s => w_X12_law_b146 q m (ov S o ad (mA M 3 s.1)) o (nI (185 + 900 * nl)) (nI s.2)) (fun s => s.2 ≤ c ∧ s.1 (185 + 900 * nl + 1) = nI cs.length ∧ (∀ k, k < 8 * cs.length → s.1 (185 + 900 * nl + 2 + k) = M.2.2.1 22 k) ∧ (∀ i, (i < 185 + 900 * nl ∨ 185 + 900 * nl + 900 ≤ i) → s.1 i = M.2.2.1 3 i) ∧ ∀ k, k < s.2 → s.1 (185 + 900 * nl + 98 + 2 * k) = M.2.2.1 24 k ∧ s.1 (185 + 900 * nl + 98 + 2 * k + 1) = M.2.2.1 25 k) (fun s => c - s.2) ?_ (g, 0) ⟨Nat.zero_le _, g1, g2, g3, fun k hk => by omega⟩
  rintro m ⟨u, i⟩ ⟨h1, h2, h3, h4, h5⟩ ih
  dsimp only at h1 h2 h3 h4 h5 ih ⊢
  rw [w_X12_law_b146]
  simp (disch := decide) only [oi_gI, oi_gJ, oi_gP, oi_pI, oi_pZ, oi_pJ, oi_oK, oi_aI hd, oi_aZ hd, oi_aJ hd, oi_sI hd, oi_sZ hd, oi_sJ hd, mI_1, mI_2, mJ_1, mJ_2, mJ_3, mA_1, mA_2, mA_3, mA_4, mL_1, mL_2, mL_3, mL_4, mK, Nat.reduceEqDiff, if_true, if_false, ite_true, ite_false, true_and, Nat.reduceLT, reduceIte, reduceCtorEq, cl_0, cl_1, cl_2, cl_3, cl_4, cl_5, cl_6, cl_7, cl_8, cl_9, cl_10, cl_11, cl_12, cl_13, cl_14, cl_15, vl_0_5585, vl_1_5585, vl_2_5585, vl_3_5585, vl_4_5585, vl_5_5585, vl_6_5585, vl_0_7, vl_1_7, vl_2_7, vl_3_7, vl_4_7, vl_5_7, vl_6_7, mA_mA]
  rw [e23, nI_leI (by omega) (by omega)]
  refine ⟨fun c1 => ?_, fun c1 => ?_⟩
  · obtain rfl : i = c := by omega
    have u3 : u 3 = nI nl := by rw [h4 3 (by omega)]; exact e3
    rw [upd_self, u3, nI_1, nI_s1 (by omega), show nl + 1 - 1 = nl by omega]
    have lm := rMk_len cs 0
    refine x_tell hd (by rw [nI_toInt (by omega)]; omega) (h _ ⟨?_, fun j hj => ?_, fun j hj => ?_⟩ (upd_self _ _ _) (fun j j1 j2 => by rw [upd_ne _ _ j1]; exact h4 j j2))
    · rw [upd_ne _ _ (by omega)]; exact h2
    · rw [upd_ne _ _ (by omega), upd_ne _ _ (by omega), upd_ne _ _ (by omega), upd_ne _ _ (by omega), upd_ne _ _ (by omega), h3 _ (by omega), h3 _ (by omega), h3 _ (by omega), h3 _ (by omega), h3 _ (by omega)]
      exact hm j hj
    · dsimp only
      rw [upd_ne _ _ (by omega), upd_ne _ _ (by omega), (h5 j (by omega)).1, (h5 j (by omega)).2]
      exact hout j hj
  · rw [lit_nI 98, lit_nI 2, nImul, nIadd, nIadd, nI_1, nI_clamp (by omega), nI_clamp (by omega), nI_clamp (by omega)]
    refine ⟨vp_in_nI (by omega) (by omega), vp_in_nI (by omega) (by omega), vp_in_nI (by omega) (by omega), vp_in_nI (by omega) (by omega), fun y ey => ?_⟩
    rw [ey, nI_1]
    refine ih (upd (upd u (185 + 900 * nl + 98 + 2 * i) (M.2.2.1 24 i)) (185 + 900 * nl + 98 + 2 * i + 1) (M.2.2.1 25 i), i + 1) ⟨by dsimp only; omega, ?_, fun k hk => ?_, fun j hj => ?_, fun k hk => ?_⟩ (by dsimp only; omega)
    · dsimp only
      rw [upd_ne _ _ (by omega), upd_ne _ _ (by omega)]; exact h2
    · dsimp only
      rw [upd_ne _ _ (by omega), upd_ne _ _ (by omega)]; exact h3 k hk
    · dsimp only
      rw [upd_ne _ _ (by omega), upd_ne _ _ (by omega)]; exact h4 j hj
    · dsimp only at hk ⊢
      by_cases e : k = i
      · subst e
        rw [upd_ne _ _ (by omega), upd_self, upd_self]
        exact ⟨rfl, rfl⟩
      · rw [upd_ne _ _ (by omega), upd_ne _ _ (by omega), upd_ne _ _ (by omega), upd_ne _ _ (by omega)]
        exact h5 k (by omega)
theorem x_law111 (hd : mD o ad) {q : Int32 → hS → Prop} {cs : List pCl} {c nl : Nat} (e3 : M.2.2.1 3 3 = nI nl) (hnl : nl < 6) (hn : cs.length ≤ 12) (hc : c = (rAll cs 0).length) (hc4 : c ≤ 400) (e23 : M.1 23 = nI c) (e21 : M.1 21 = nI cs.length) (hout : outAt (rAll cs 0) (M.2.2.1 24) (M.2.2.1 25)) (hm : mkM M cs) (h : ∀ g, lwR g (185 + 900 * nl) cs → g 3 = nI (nl + 1) → (∀ i, i ≠ 3 → (i < 185 + 900 * nl ∨ 185 + 900 * nl + 900 ≤ i) → g i = M.2.2.1 3 i) → q (nI nl) (ov S o ad (tlM (mA M 3 g) (nI nl)))) {g : Nat → Int32} (g1 : g (185 + 900 * nl + 1) = nI cs.length) (g3 : ∀ i, (i < 185 + 900 * nl ∨ 185 + 900 * nl + 900 ≤ i) → g i = M.2.2.1 3 i) : ∃ m, w_X12_law_b111 q m (ov S o ad (mA M 3 g)) o (nI (185 + 900 * nl)) 0 := by
  refine loop_m (σ := (Nat → Int32) × Nat) (fun m s => w_X12_law_b111 q m (ov S o ad (mA M 3 s.1)) o (nI (185 + 900 * nl)) (nI s.2)) (fun s => s.2 ≤ 8 * cs.length ∧ s.1 (185 + 900 * nl + 1) = nI cs.length ∧ (∀ k, k < s.2 → s.1 (185 + 900 * nl + 2 + k) = M.2.2.1 22 k) ∧ ∀ i, (i < 185 + 900 * nl ∨ 185 + 900 * nl + 900 ≤ i) → s.1 i = M.2.2.1 3 i) (fun s => 8 * cs.length - s.2) ?_ (g, 0) ⟨Nat.zero_le _, g1, fun k hk => by omega, g3⟩
  rintro m ⟨u, i⟩ ⟨h1, h2, h3, h4⟩ ih
  dsimp only at h1 h2 h3 h4 ih ⊢
  rw [w_X12_law_b111]
  simp (disch := decide) only [oi_gI, oi_gJ, oi_gP, oi_pI, oi_pZ, oi_pJ, oi_oK, oi_aI hd, oi_aZ hd, oi_aJ hd, oi_sI hd, oi_sZ hd, oi_sJ hd, mI_1, mI_2, mJ_1, mJ_2, mJ_3, mA_1, mA_2, mA_3, mA_4, mL_1, mL_2, mL_3, mL_4, mK, Nat.reduceEqDiff, if_true, if_false, ite_true, ite_false, true_and, Nat.reduceLT, reduceIte, reduceCtorEq, cl_0, cl_1, cl_2, cl_3, cl_4, cl_5, cl_6, cl_7, cl_8, cl_9, cl_10, cl_11, cl_12, cl_13, cl_14, cl_15, vl_0_5585, vl_1_5585, vl_2_5585, vl_3_5585, vl_4_5585, vl_5_5585, vl_6_5585, vl_0_7, vl_1_7, vl_2_7, vl_3_7, vl_4_7, vl_5_7, vl_6_7, mA_mA]
  rw [e21, lit_nI 8, nImul, nI_leI (by omega) (by omega)]
  refine ⟨fun c1 => ?_, fun c1 => ?_⟩
  · obtain rfl : i = 8 * cs.length := by omega
    exact x_law146 hd e3 hnl hn hc hc4 e23 hout hm h h2 h3 h4
  · rw [lit_nI 2, nIadd, nIadd, nI_clamp (by omega), nI_clamp (by omega)]
    refine ⟨vp_in_nI (by omega) (by omega), vp_in_nI (by omega) (by omega), fun y ey => ?_⟩
    rw [ey, nI_1]
    refine ih (upd u (185 + 900 * nl + 2 + i) (M.2.2.1 22 i), i + 1) ⟨by dsimp only; omega, ?_, fun k hk => ?_, fun j hj => ?_⟩ (by dsimp only; omega)
    · dsimp only
      rw [upd_ne _ _ (by omega)]; exact h2
    · dsimp only at hk ⊢
      by_cases e : k = i
      · subst e; rw [upd_self]
      · rw [upd_ne _ _ (by omega)]; exact h3 k (by omega)
    · dsimp only
      rw [upd_ne _ _ (by omega)]; exact h4 j hj
/-- what law() may change -/
def WF (M N : mS) : Prop := Fx [0, 1, 13, 14, 15, 16, 18, 19, 20, 21, 23, 26, 29, 30] [17] [2, 3, 22, 24, 25, 27, 28] [] M N
theorem tlM_fx {v : Int32} : Fx [1] [] [2] [] M (tlM M v) := by
  unfold tlM
  split
  · exact (Fx.i 1 _).le (by simp) (by simp) (by simp) (by simp)
  · exact ((Fx.i 1 _).tr (Fx.a 2 _)).le (by simp) (by simp) (by simp) (by simp)
/-- behind the clauses, bad -/
theorem x_64bad (hd : mD o ad) {q : Int32 → hS → Prop} {f : Nat} (hB : RBo G M f ∨ ((∃ k out, R0 G M f k out) ∧ tK G f ≠ 0)) (h : ∀ N, Fx [13, 18, 19, 20] [] [] [] M N → N.1 13 = 0 → N.1 20 = 0 → N.1 18 = nI (tS G f) → q (-6) (ov S o ad (tlM N (-6)))) : w_X12_law_b64 q (ov S o ad M) o := by
  refine ⟨ov_oK, x_endBad hd hB (fun N hF h13 h20 h19 h18 => ?_)⟩
  simp (disch := decide) only [oi_gI, oi_gJ, oi_gP, oi_pI, oi_pZ, oi_pJ, oi_oK, oi_aI hd, oi_aZ hd, oi_aJ hd, oi_sI hd, oi_sZ hd, oi_sJ hd, mI_1, mI_2, mJ_1, mJ_2, mJ_3, mA_1, mA_2, mA_3, mA_4, mL_1, mL_2, mL_3, mL_4, mK, Nat.reduceEqDiff, if_true, if_false, ite_true, ite_false, true_and, Nat.reduceLT, reduceIte, reduceCtorEq, cl_0, cl_1, cl_2, cl_3, cl_4, cl_5, cl_6, cl_7, cl_8, cl_9, cl_10, cl_11, cl_12, cl_13, cl_14, cl_15, vl_0_5585, vl_1_5585, vl_2_5585, vl_3_5585, vl_4_5585, vl_5_5585, vl_6_5585, vl_0_7, vl_1_7, vl_2_7, vl_3_7, vl_4_7, vl_5_7, vl_6_7]
  rw [h19]
  exact ⟨fun z => absurd z (by decide), fun _ => x_tell hd (by decide) (h N hF h13 h20 h18)⟩
/-- behind the clauses, read -/
theorem x_64ok (hd : mD o ad) {q : Int32 → hS → Prop} {cs : List pCl} {nl : Nat} (hR : R1 G M p k cs) (hk : tK G p = 0) (e3 : M.2.2.1 3 3 = nI nl) (hnl : nl < 6) (h : ∀ N g, Fx [13, 20] [] [] [] M N → N.1 13 = 0 → N.1 20 = 0 → lwR g (185 + 900 * nl) cs → g 3 = nI (nl + 1) → (∀ i, i ≠ 3 → (i < 185 + 900 * nl ∨ 185 + 900 * nl + 900 ≤ i) → g i = M.2.2.1 3 i) → q (nI nl) (ov S o ad (tlM (mA N 3 g) (nI nl)))) : w_X12_law_b64 q (ov S o ad M) o := by
  obtain ⟨hR0, r21, hn, hm, hh, r20⟩ := id hR
  obtain ⟨s1, s2, s3, s4, s5, s6, s7, s8, s9⟩ := id hR0
  have hT := s3.2.1
  refine ⟨ov_oK, x_endOk hd hR0 hk (fun P hFP h13 h20 => ?_)⟩
  have p3 : P.2.2.1 3 3 = nI nl := by rw [hFP.2.2.1 3 (by simp)]; exact e3
  have hmP : mkM P cs := by
    unfold mkM at *
    rw [hFP.2.2.1 22 (by simp)]
    exact hm
  simp (disch := decide) only [oi_gI, oi_gJ, oi_gP, oi_pI, oi_pZ, oi_pJ, oi_oK, oi_aI hd, oi_aZ hd, oi_aJ hd, oi_sI hd, oi_sZ hd, oi_sJ hd, mI_1, mI_2, mJ_1, mJ_2, mJ_3, mA_1, mA_2, mA_3, mA_4, mL_1, mL_2, mL_3, mL_4, mK, Nat.reduceEqDiff, if_true, if_false, ite_true, ite_false, true_and, Nat.reduceLT, reduceIte, reduceCtorEq, cl_0, cl_1, cl_2, cl_3, cl_4, cl_5, cl_6, cl_7, cl_8, cl_9, cl_10, cl_11, cl_12, cl_13, cl_14, cl_15, vl_0_5585, vl_1_5585, vl_2_5585, vl_3_5585, vl_4_5585, vl_5_5585, vl_6_5585, vl_0_7, vl_1_7, vl_2_7, vl_3_7, vl_4_7, vl_5_7, vl_6_7]
  rw [(hFP.1 21 (by simp)).trans r21, (hFP.1 19 (by simp)).trans s1, p3, lit_nI 185, lit_nI 900, nImul, nIadd]
  refine ⟨fun z y ey => ?_, fun z => absurd rfl z⟩
  rw [ey, nI_1, nI_clamp (by omega)]
  refine ⟨vp_in_nI (by omega) (by omega), x_law111 hd p3 hnl hn rfl (by omega) ((hFP.1 23 (by simp)).trans s4.1) ((hFP.1 21 (by simp)).trans r21) (by rw [hFP.2.2.1 24 (by simp), hFP.2.2.1 25 (by simp)]; exact s4.2) hmP (fun g g1 g2 g3 => h P g hFP h13 h20 g1 g2 (fun i i1 i2 => by rw [← hFP.2.2.1 3 (by simp)]; exact g3 i i1 i2)) (upd_self _ _ _) (fun i hi => upd_ne _ _ (by omega))⟩
end RN
