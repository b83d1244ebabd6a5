/-! ORDERS' SUMS IN THE REFERENCE, ALL STEPS -/
section RO3
variable {S : hS} {o : Nat} {ad : Nat → Nat} {M : mS}
/-- a code of orders, its leaves told: op and arg of the run -/
def opO (op : Nat → Int32) : Nat → Int32 := fun k => if (op k).toInt < 20 then 0 else op k
def argO (F nw op arg : Nat → Int32) : Nat → Int32 := fun k => if (op k).toInt < 20 then lfN F nw (op k).toNatClampNeg (arg k) else arg k
theorem x_reckonO (hd : mD o ad) {q : hS → Prop} {op arg nw : Nat → Int32} {lo hi : Nat} (hl : lo ≤ hi) (hhi : hi ≤ 400) (hc : codeOk op arg lo hi) (co : ¬ M.1 20 = 0) (eop : op = M.2.2.1 24) (earg : arg = M.2.2.1 25) (hB : rB (M.2.2.1 3)) (hnw : ∀ j, 1 ≤ j → j ≤ 4 → M.2.2.2 36 j = (nw j).toInt64)
    (h : ∀ N, Fx [38] [39] [] [37] M N → (N.2.1 39, N.1 38) = evRun (opO op) (argO (cut (M.2.2.1 3)) nw op arg) (fun _ => 0) hi 401 (0, lo, 0, fun _ => 0) → q (ov S o ad N)) : w_X12_reckonAll q (ov S o ad M) o (nI lo) (nI hi) := by
  obtain ⟨d, d0, db, ds⟩ := hc
  unfold w_X12_reckonAll
  simp (disch := decide) only [oi_gI, oi_gJ, oi_gP, oi_pI, oi_pZ, oi_pJ, oi_oK, oi_aI hd, oi_aZ hd, oi_aJ hd, oi_sI hd, oi_sZ hd, oi_sJ hd, mI_1, mI_2, mJ_1, mJ_2, mJ_3, mA_1, mA_2, mA_3, mA_4, mL_1, mL_2, mL_3, mL_4, mK, Nat.reduceEqDiff, if_true, if_false, ite_true, ite_false, true_and, Nat.reduceLT, reduceIte, reduceCtorEq, cl_0, cl_1, cl_2, cl_3, cl_4, cl_5, cl_6, cl_7, cl_8, cl_9, cl_10, cl_11, cl_12, cl_13, cl_14, cl_15, vl_0_5585, vl_1_5585, vl_2_5585, vl_3_5585, vl_4_5585, vl_5_5585, vl_6_5585, vl_0_7, vl_1_7, vl_2_7, vl_3_7, vl_4_7, vl_5_7, vl_6_7]
  refine ⟨by simp, ?_⟩
  refine loop_m (σ := mS × Nat × Nat × Nat × (Nat → Int64)) (fun n s => w_X12_reckonAll_b10 q n (ov S o ad s.1) o (nI hi) (nI s.2.1) (nI s.2.2.1)) (fun s => Fx [38] [] [] [37] M s.1 ∧ s.2.1 = d s.2.2.1 ∧ s.2.2.1 ≤ hi ∧ lo ≤ s.2.2.1 ∧ ((∀ i, i < s.2.1 → s.1.2.2.2 37 i = s.2.2.2.2 i) ∧ hi + 1 ≤ s.2.2.2.1 + s.2.2.1 ∧ evRun (opO op) (argO (cut (M.2.2.1 3)) nw op arg) (fun _ => 0) hi s.2.2.2.1 (s.2.1, s.2.2.1, s.1.1 38, s.2.2.2.2) = evRun (opO op) (argO (cut (M.2.2.1 3)) nw op arg) (fun _ => 0) hi 401 (0, lo, 0, fun _ => 0))) (fun s => hi - s.2.2.1) ?_ (mI M 38 0, 0, lo, 401, fun _ => 0) ⟨(Fx.i 38 0).le (by simp) (by simp) (by simp) (by simp), d0.symm, hl, Nat.le_refl _, ⟨fun i hi => absurd hi (by simp), by show hi + 1 ≤ 401 + lo; omega, by rw [mI_1, if_pos rfl]⟩⟩
  rintro f ⟨N, n, k, g, r⟩ ⟨hF, hn, hk, hlk, hD⟩ ih
  dsimp only at hF hn hk hlk hD ih ⊢
  have hn4 : n ≤ 399 := hn ▸ db k
  rw [w_X12_reckonAll_b10]
  have e20 : N.1 20 = M.1 20 := hF.1 20 (by simp)
  have e34 : N.1 34 = M.1 34 := hF.1 34 (by simp)
  have er : N.2.2.1 = M.2.2.1 := funext fun j => hF.2.2.1 j (by simp)
  have hend : (hi ≤ k ∨ ¬ N.1 38 = 0) → w_X12_reckonAll_b381 q (ov S o ad N) o (nI n) := by
    intro hc
    unfold w_X12_reckonAll_b381 w_X12_reckonAll_b396
    simp (disch := decide) only [oi_gI, oi_gJ, oi_gP, oi_pI, oi_pZ, oi_pJ, oi_oK, oi_aI hd, oi_aZ hd, oi_aJ hd, oi_sI hd, oi_sZ hd, oi_sJ hd, mI_1, mI_2, mJ_1, mJ_2, mJ_3, mA_1, mA_2, mA_3, mA_4, mL_1, mL_2, mL_3, mL_4, mK, Nat.reduceEqDiff, if_true, if_false, ite_true, ite_false, true_and, Nat.reduceLT, reduceIte, reduceCtorEq, cl_0, cl_1, cl_2, cl_3, cl_4, cl_5, cl_6, cl_7, cl_8, cl_9, cl_10, cl_11, cl_12, cl_13, cl_14, cl_15, vl_0_5585, vl_1_5585, vl_2_5585, vl_3_5585, vl_4_5585, vl_5_5585, vl_6_5585, vl_0_7, vl_1_7, vl_2_7, vl_3_7, vl_4_7, vl_5_7, vl_6_7]
    have hv : ∀ x : Int64, (x = if 0 < n then N.2.2.2 37 0 else 0) → q (ov S o ad (mJ N 39 x)) := by
      intro x hx
      refine h _ ((hF.tr (Fx.j 39 x)).le (by simp) (by simp) (by simp) (by simp)) ?_
      obtain ⟨a1, a2, a3⟩ := hD
      rw [← a3]
      obtain ⟨g', rfl⟩ : ∃ g', g = g' + 1 := ⟨g - 1, by omega⟩
      rw [evRun, if_pos hc, mJ_2, if_pos rfl, mJ_1, hx]
      by_cases e : 0 < n
      · rw [if_pos e, if_pos e, a1 0 e]
      · rw [if_neg e, if_neg e]
    refine ⟨fun c => hv 0 ?_, fun c => ⟨vp_in_iff.mpr (by decide), hv _ ?_⟩⟩
    · rw [show (0 : Int32) = nI 0 from rfl, nI_leI (by omega) (by omega)] at c
      rw [if_neg (by omega)]
    · rw [show (0 : Int32) = nI 0 from rfl, nI_leI (by omega) (by omega)] at c
      rw [if_pos (by omega)]
  simp (disch := decide) only [oi_gI, oi_gJ, oi_gP, oi_pI, oi_pZ, oi_pJ, oi_oK, oi_aI hd, oi_aZ hd, oi_aJ hd, oi_sI hd, oi_sZ hd, oi_sJ hd, mI_1, mI_2, mJ_1, mJ_2, mJ_3, mA_1, mA_2, mA_3, mA_4, mL_1, mL_2, mL_3, mL_4, mK, Nat.reduceEqDiff, if_true, if_false, ite_true, ite_false, true_and, Nat.reduceLT, reduceIte, reduceCtorEq, cl_0, cl_1, cl_2, cl_3, cl_4, cl_5, cl_6, cl_7, cl_8, cl_9, cl_10, cl_11, cl_12, cl_13, cl_14, cl_15, vl_0_5585, vl_1_5585, vl_2_5585, vl_3_5585, vl_4_5585, vl_5_5585, vl_6_5585, vl_0_7, vl_1_7, vl_2_7, vl_3_7, vl_4_7, vl_5_7, vl_6_7]
  rw [nI_leI (by omega) (by omega)]
  refine ⟨fun c => hend (Or.inl c), fun c => ⟨fun c2 => hend (Or.inr c2), fun c2 => ?_⟩⟩
  have hstep : w_X12_reckonAll_b95 q (fun S v0 v2 v3 v4 => w_X12_reckonAll_b10 q f S v0 v2 v3 v4) (ov S o ad N) o (nI hi) (nI n) (nI k) (op k) (arg k) := by
    refine s_rk95g hd (opv' := opO op k) (argv' := argO (cut (M.2.2.1 3)) nw op arg k) (set := fun _ => 0) (nw := nw) (d := d) hn db (ds k hlk (by omega)) (by omega) hhi (by rw [er]; exact hB) c2 (by rw [e20]; exact co) (fun j j1 j4 => by rw [hF.2.2.2 36 (by simp)]; exact hnw j j1 j4) (fun p hp9 ep => ?_) (fun h20 => ?_) (fun N' n' k' hF' h1 h2 h3 hD' => ?_)
    · have e1 : (op k).toInt = p := by rw [ep, nI_toInt (by omega)]
      refine ⟨?_, ?_⟩
      · unfold opO
        rw [if_pos (by omega)]
      · unfold argO
        rw [if_pos (by omega), er, ep, nI_clamp (by omega)]
    · unfold opO argO
      rw [if_neg (by omega), if_neg (by omega)]
      exact ⟨rfl, rfl⟩
    · obtain ⟨a1, a2, a3⟩ := hD
      obtain ⟨r', b1, b2⟩ := hD' r a1
      obtain ⟨g', rfl⟩ : ∃ g', g = g' + 1 := ⟨g - 1, by omega⟩
      refine ih (N', n', k', g', r') ⟨(hF.tr hF').le (by simp) (by simp) (by simp) (by simp), h3, h2, by dsimp only; omega, ⟨b2, by dsimp only; omega, ?_⟩⟩ (by dsimp only; omega)
      dsimp only
      rw [← a3, evRun, if_neg (by rintro (z | z); exact c z; exact z c2)]
      dsimp only
      rw [← b1]
  unfold w_X12_reckonAll_b57
  simp (disch := decide) only [oi_gI, oi_gJ, oi_gP, oi_pI, oi_pZ, oi_pJ, oi_oK, oi_aI hd, oi_aZ hd, oi_aJ hd, oi_sI hd, oi_sZ hd, oi_sJ hd, mI_1, mI_2, mJ_1, mJ_2, mJ_3, mA_1, mA_2, mA_3, mA_4, mL_1, mL_2, mL_3, mL_4, mK, Nat.reduceEqDiff, if_true, if_false, ite_true, ite_false, true_and, Nat.reduceLT, reduceIte, reduceCtorEq, cl_0, cl_1, cl_2, cl_3, cl_4, cl_5, cl_6, cl_7, cl_8, cl_9, cl_10, cl_11, cl_12, cl_13, cl_14, cl_15, vl_0_5585, vl_1_5585, vl_2_5585, vl_3_5585, vl_4_5585, vl_5_5585, vl_6_5585, vl_0_7, vl_1_7, vl_2_7, vl_3_7, vl_4_7, vl_5_7, vl_6_7]
  rw [e20, er]
  refine ⟨fun z => absurd z co, fun _ => ?_⟩
  rw [nI_clamp (by omega), ← eop, ← earg]
  exact ⟨vp_in_nI (by omega) (by omega), fun z => absurd z co, fun _ => ⟨vp_in_nI (by omega) (by omega), hstep⟩⟩
end RO3
