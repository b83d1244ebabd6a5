/-! LAYER 2, the reference: exchange() -/
def vE (f : Nat → Int32) (P j : Nat) : Prop := j ≤ P + 1 ∧ (∀ i, i + 1 < j → 0 ≤ (f i).toInt ∧ (f i).toInt ≤ P) ∧ ∀ k, j = k + 1 → -1 ≤ (f k).toInt ∧ (f k).toInt ≤ P
def vx (f : Nat → Int32) (P j : Nat) : Nat := lx (tI f) (P + 2) (P + 3) 10 j
section XCH
variable {f : Nat → Int32} {P k : Nat}
theorem x_t (h : vE f P (k + 1)) (hP : P ≤ 8) : (f k + 1).toInt = (f k).toInt + 1 ∧ tI (upd f k (f k + 1)) k = tI f k + 1 ∧ tI f k < P + 2 := by
  have := h.2.2 k rfl
  have e := i32s1 (a := f k) (by omega) (by omega)
  refine ⟨e, ?_, ?_⟩
  · unfold tI; rw [upd_self, e]; omega
  · unfold tI; omega
theorem x_pop (h : vE f P (k + 1)) (hP : P ≤ 8) {g : Nat → Int32} (hg : ∀ i, i < k → g i = f i) : vE g P k ∧ vx g P k < vx f P (k + 1) := by
  have ht : tI f k < P + 2 := by
    have := h.2.2 k rfl
    unfold tI; omega
  refine ⟨⟨by have := h.1; omega, fun i hi => ?_, fun k' hk => ?_⟩, ?_⟩
  · rw [hg i (by omega)]; exact h.2.1 i (by omega)
  · rw [hg k' (by omega)]
    have := h.2.1 k' (by omega)
    omega
  · have e : lx (tI g) (P + 2) (P + 3) 10 k = lx (tI f) (P + 2) (P + 3) 10 k := lx_congr k (fun i hi => by unfold tI; rw [hg i hi])
    have p := lx_pow (B := P + 3) (E := 10) (k := k) (by omega)
    have : 0 < (P + 2 - tI f k) * (P + 3) ^ (10 - k) := Nat.mul_pos (by omega) p
    unfold vx
    rw [lx, e]
    omega
theorem x_stay (h : vE f P (k + 1)) (hP : P ≤ 8) (hl : (f k + 1).toInt ≤ P) : vE (upd f k (f k + 1)) P (k + 1) ∧ vx (upd f k (f k + 1)) P (k + 1) < vx f P (k + 1) := by
  obtain ⟨e, e1, e2⟩ := x_t h hP
  refine ⟨⟨h.1, fun i hi => ?_, fun k' hk => ?_⟩, ?_⟩
  · rw [upd_ne _ _ (by omega)]; exact h.2.1 i hi
  · obtain rfl : k' = k := by omega
    rw [upd_self]
    have := h.2.2 k' rfl
    omega
  · have := lx_inc (t := tI f) (t' := tI (upd f k (f k + 1))) (C := P + 2) (B := P + 3) (E := 10) (k := k) (fun i hi => tI_up _ i (by omega)) e1 e2
    have p := lx_pow (B := P + 3) (E := 10) (k := k) (by omega)
    unfold vx
    omega
theorem x_push (h : vE f P (k + 1)) (hP : P ≤ 8) (hk : k < P) (hl : (f k + 1).toInt ≤ P) : vE (upd (upd f k (f k + 1)) (k + 1) (-1)) P (k + 2) ∧ vx (upd (upd f k (f k + 1)) (k + 1) (-1)) P (k + 2) < vx f P (k + 1) := by
  obtain ⟨e, e1, e2⟩ := x_t h hP
  have hkk := h.2.2 k rfl
  refine ⟨⟨by omega, fun i hi => ?_, fun k' hk => ?_⟩, ?_⟩
  · rw [upd_ne _ _ (by omega)]
    by_cases c : i = k
    · subst c; rw [upd_self]; omega
    · rw [upd_ne _ _ c]; exact h.2.1 i (by omega)
  · obtain rfl : k' = k + 1 := by omega
    rw [upd_self, show (-1 : Int32).toInt = -1 by decide]
    omega
  · have h1 := lx_inc (t := tI f) (t' := tI (upd f k (f k + 1))) (C := P + 2) (B := P + 3) (E := 10) (k := k) (fun i hi => tI_up _ i (by omega)) e1 e2
    have h2 := lx_push (t := tI (upd f k (f k + 1))) (t' := tI (upd (upd f k (f k + 1)) (k + 1) (-1))) (C := P + 2) (B := P + 3) (E := 10) (k := k) (fun i hi => tI_up _ i (by omega)) (by omega) (by omega)
    unfold vx
    omega
end XCH
section REF37
variable {S : hS} {o : Nat} {ad : Nat → Nat} {M : mS} {mT : mS}
theorem s_canGive (hd : mD o ad) {mU : Nat → Int32} (hr : rowOk mU (M.2.2.1 3)) {q : Int32 → hS → Prop} {k g : Nat} (hk : k < 8) (hg : g < 8) (eg : M.2.2.1 45 k = nI g) (h : ∀ r, q r (ov S o ad M)) : w_X12_canGive q (ov S o ad M) o (nI k) := by
  have k71 : ∀ t : Int32, w_X12_canGive_b71 q (ov S o ad M) o (nI k) (nI g) t := by
    intro t0
    unfold w_X12_canGive_b71
    refine loop_m (σ := Int32 × Nat) (fun n s => w_X12_canGive_b75 q n (ov S o ad M) o (nI k) (nI g) s.1 (nI s.2)) (fun s => s.2 ≤ k) (fun s => k - s.2) ?_ (t0, 0) (Nat.zero_le _)
    rintro n ⟨x, i⟩ hi ih
    dsimp only at hi ih ⊢
    have nx : ∀ y : Int32, i < k → ∀ z : Int32, z = nI i + 1 → w_X12_canGive_b75 q n (ov S o ad M) o (nI k) (nI g) y z := fun y hik z ez => by
      rw [ez, nI_1]
      exact ih (y, i + 1) (by dsimp only; omega) (by dsimp only; omega)
    rw [w_X12_canGive_b75]
    unfold w_X12_canGive_b132 w_X12_canGive_b100 w_X12_canGive_b101
    simp (disch := decide) only [oi_gI, oi_gJ, oi_gP, oi_pI, oi_pZ, oi_pJ, oi_oK, oi_aI hd, oi_aZ hd, oi_aJ hd, oi_sI hd, oi_sZ hd, oi_sJ hd, mI_1, mI_2, mJ_1, mJ_2, mJ_3, mA_1, mA_2, mA_3, mA_4, mL_1, mL_2, mL_3, mL_4, mK, Nat.reduceEqDiff, if_true, if_false, ite_true, ite_false, true_and, Nat.reduceLT, reduceIte, reduceCtorEq, cl_0, cl_1, cl_2, cl_3, cl_4, cl_5, cl_6, cl_7, cl_8, cl_9, cl_10, cl_11, cl_12, cl_13, cl_14, cl_15, vl_0_5585, vl_1_5585, vl_2_5585, vl_3_5585, vl_4_5585, vl_5_5585, vl_6_5585, vl_0_7, vl_1_7, vl_2_7, vl_3_7, vl_4_7, vl_5_7, vl_6_7]
    rw [nI_leI (by omega) (by omega), nI_leI (by omega) (by omega)]
    exact ⟨fun _ => ⟨fun _ => h _, fun _ => ⟨fun _ => h _, fun _ => ⟨vp_in_nI (by omega) (by omega), fun _ => h _, fun _ => h _⟩⟩⟩, fun c => ⟨fun _ => nx _ (by omega), fun _ => ⟨vp_in_nI (by omega) (by omega), fun _ => nx _ (by omega), fun _ => nx _ (by omega)⟩⟩⟩
  have k70 : w_X12_canGive_b70 q (ov S o ad M) o (nI k) (nI g) := k71 0
  have wk' := hr.2.2.2.2.2.2.1 k hk
  unfold w_X12_canGive
  simp (disch := decide) only [oi_gI, oi_gJ, oi_gP, oi_pI, oi_pZ, oi_pJ, oi_oK, oi_aI hd, oi_aZ hd, oi_aJ hd, oi_sI hd, oi_sZ hd, oi_sJ hd, mI_1, mI_2, mJ_1, mJ_2, mJ_3, mA_1, mA_2, mA_3, mA_4, mL_1, mL_2, mL_3, mL_4, mK, Nat.reduceEqDiff, if_true, if_false, ite_true, ite_false, true_and, Nat.reduceLT, reduceIte, reduceCtorEq, cl_0, cl_1, cl_2, cl_3, cl_4, cl_5, cl_6, cl_7, cl_8, cl_9, cl_10, cl_11, cl_12, cl_13, cl_14, cl_15, vl_0_5585, vl_1_5585, vl_2_5585, vl_3_5585, vl_4_5585, vl_5_5585, vl_6_5585, vl_0_7, vl_1_7, vl_2_7, vl_3_7, vl_4_7, vl_5_7, vl_6_7]
  rw [nI_clamp (by omega), eg]
  refine ⟨vp_in_nI (by omega) (by omega), fun _ => k70, fun _ => s_lives hd hg (fun _ => ⟨fun z => absurd z (by decide), fun _ => ?_⟩) (fun _ => ⟨fun _ => k70, fun z => absurd rfl z⟩)⟩
  simp (disch := decide) only [oi_gI, oi_gJ, oi_gP, oi_pI, oi_pZ, oi_pJ, oi_oK, oi_aI hd, oi_aZ hd, oi_aJ hd, oi_sI hd, oi_sZ hd, oi_sJ hd, mI_1, mI_2, mJ_1, mJ_2, mJ_3, mA_1, mA_2, mA_3, mA_4, mL_1, mL_2, mL_3, mL_4, mK, Nat.reduceEqDiff, if_true, if_false, ite_true, ite_false, true_and, Nat.reduceLT, reduceIte, reduceCtorEq, cl_0, cl_1, cl_2, cl_3, cl_4, cl_5, cl_6, cl_7, cl_8, cl_9, cl_10, cl_11, cl_12, cl_13, cl_14, cl_15, vl_0_5585, vl_1_5585, vl_2_5585, vl_3_5585, vl_4_5585, vl_5_5585, vl_6_5585, vl_0_7, vl_1_7, vl_2_7, vl_3_7, vl_4_7, vl_5_7, vl_6_7]
  rw [lit_nI 154, nIadd, nIadd, nI_clamp (by omega), nI_clamp (by omega)]
  refine ⟨vp_in_nI (by omega) (by omega), fun _ => k70, fun c1 => ⟨vp_in_nI (by omega) (by omega), fun _ => k70, fun _ => ⟨vp_in_nI (by omega) (by omega), ?_⟩⟩⟩
  have c1' : (M.2.2.1 3 (154 + k)).toInt ≠ -1 := fun z => c1 (Int32.toInt_inj.mp z)
  obtain ⟨e, he, ee⟩ := rg_in (z := M.2.2.1 3 (154 + k)) 6 (by omega) (by have := wk'.1; omega) (by have := wk'.2; omega)
  rw [ee]
  exact s_leftOf hd hg he ⟨fun _ => k70, fun _ => k71 1⟩
theorem s_gets (hd : mD o ad) {q : Int32 → hS → Prop} {P : Nat} (hP : P ≤ 8) (eP : M.2.2.1 3 1 = nI P) (h : ∀ r, q r (ov S o ad M)) : w_X12_gets q (ov S o ad M) o := by
  unfold w_X12_gets
  simp (disch := decide) only [oi_gI, oi_gJ, oi_gP, oi_pI, oi_pZ, oi_pJ, oi_oK, oi_aI hd, oi_aZ hd, oi_aJ hd, oi_sI hd, oi_sZ hd, oi_sJ hd, mI_1, mI_2, mJ_1, mJ_2, mJ_3, mA_1, mA_2, mA_3, mA_4, mL_1, mL_2, mL_3, mL_4, mK, Nat.reduceEqDiff, if_true, if_false, ite_true, ite_false, true_and, Nat.reduceLT, reduceIte, reduceCtorEq, cl_0, cl_1, cl_2, cl_3, cl_4, cl_5, cl_6, cl_7, cl_8, cl_9, cl_10, cl_11, cl_12, cl_13, cl_14, cl_15, vl_0_5585, vl_1_5585, vl_2_5585, vl_3_5585, vl_4_5585, vl_5_5585, vl_6_5585, vl_0_7, vl_1_7, vl_2_7, vl_3_7, vl_4_7, vl_5_7, vl_6_7]
  rw [eP]
  refine loop_m (σ := Int32 × Int32 × Nat) (fun n s => w_X12_gets_b14 q n (ov S o ad M) o (nI P) s.1 s.2.1 (nI s.2.2)) (fun s => s.2.2 ≤ P) (fun s => P - s.2.2) ?_ (0, 0, 0) (Nat.zero_le _)
  rintro n ⟨x, y, i⟩ hi ih
  dsimp only at hi ih ⊢
  have k67 : ∀ a b c : Int32, i < P → w_X12_gets_b67 q (fun S v0 v1 v2 v3 v4 => w_X12_gets_b14 q n S v0 v1 v2 v3 v4) (ov S o ad M) o (nI P) a (nI i) b c := by
    intro a b c hip z _ w ew
    rw [ew, nI_1]
    exact ih (z, a, i + 1) (by dsimp only; omega) (by dsimp only; omega)
  have k40 : ∀ a b c : Int32, i < P → w_X12_gets_b40 q (fun S v0 v1 v2 v3 v4 => w_X12_gets_b14 q n S v0 v1 v2 v3 v4) (ov S o ad M) o (nI P) a (nI i) b c := by
    intro a b c hip z _
    simp (disch := decide) only [oi_gI, oi_gJ, oi_gP, oi_pI, oi_pZ, oi_pJ, oi_oK, oi_aI hd, oi_aZ hd, oi_aJ hd, oi_sI hd, oi_sZ hd, oi_sJ hd, mI_1, mI_2, mJ_1, mJ_2, mJ_3, mA_1, mA_2, mA_3, mA_4, mL_1, mL_2, mL_3, mL_4, mK, Nat.reduceEqDiff, if_true, if_false, ite_true, ite_false, true_and, Nat.reduceLT, reduceIte, reduceCtorEq, cl_0, cl_1, cl_2, cl_3, cl_4, cl_5, cl_6, cl_7, cl_8, cl_9, cl_10, cl_11, cl_12, cl_13, cl_14, cl_15, vl_0_5585, vl_1_5585, vl_2_5585, vl_3_5585, vl_4_5585, vl_5_5585, vl_6_5585, vl_0_7, vl_1_7, vl_2_7, vl_3_7, vl_4_7, vl_5_7, vl_6_7]
    exact ⟨vp_in_nI (by omega) (by omega), fun _ => ⟨vp_in_nI (by omega) (by omega), k67 _ _ _ hip⟩, fun _ => k67 _ _ _ hip⟩
  rw [w_X12_gets_b14]
  simp (disch := decide) only [oi_gI, oi_gJ, oi_gP, oi_pI, oi_pZ, oi_pJ, oi_oK, oi_aI hd, oi_aZ hd, oi_aJ hd, oi_sI hd, oi_sZ hd, oi_sJ hd, mI_1, mI_2, mJ_1, mJ_2, mJ_3, mA_1, mA_2, mA_3, mA_4, mL_1, mL_2, mL_3, mL_4, mK, Nat.reduceEqDiff, if_true, if_false, ite_true, ite_false, true_and, Nat.reduceLT, reduceIte, reduceCtorEq, cl_0, cl_1, cl_2, cl_3, cl_4, cl_5, cl_6, cl_7, cl_8, cl_9, cl_10, cl_11, cl_12, cl_13, cl_14, cl_15, vl_0_5585, vl_1_5585, vl_2_5585, vl_3_5585, vl_4_5585, vl_5_5585, vl_6_5585, vl_0_7, vl_1_7, vl_2_7, vl_3_7, vl_4_7, vl_5_7, vl_6_7]
  rw [nI_leI (by omega) (by omega)]
  exact ⟨fun _ => ⟨fun _ => h _, fun _ => s_ones (fun x => h x)⟩, fun c => ⟨vp_in_nI (by omega) (by omega), fun _ => k40 _ _ _ (by omega), fun _ => k40 _ _ _ (by omega)⟩⟩
theorem f_findExchange (hd : mD o ad) (hM : mOk mT M) {q : Int32 → hS → Prop} (h : ∀ r N, mOk mT N → Fx [] [] [45, 46] [] M N → q r (ov S o ad N)) : w_X12_findExchange q (ov S o ad M) o := by
  obtain ⟨P, hP, eP⟩ := rg_inR (b := 8) hM.1.2.1 (by omega) (by omega)
  have z0 : (0 : Int32).toInt = 0 := by decide
  unfold w_X12_findExchange
  simp (disch := decide) only [oi_gI, oi_gJ, oi_gP, oi_pI, oi_pZ, oi_pJ, oi_oK, oi_aI hd, oi_aZ hd, oi_aJ hd, oi_sI hd, oi_sZ hd, oi_sJ hd, mI_1, mI_2, mJ_1, mJ_2, mJ_3, mA_1, mA_2, mA_3, mA_4, mL_1, mL_2, mL_3, mL_4, mK, Nat.reduceEqDiff, if_true, if_false, ite_true, ite_false, true_and, Nat.reduceLT, reduceIte, reduceCtorEq, cl_0, cl_1, cl_2, cl_3, cl_4, cl_5, cl_6, cl_7, cl_8, cl_9, cl_10, cl_11, cl_12, cl_13, cl_14, cl_15, vl_0_5585, vl_1_5585, vl_2_5585, vl_3_5585, vl_4_5585, vl_5_5585, vl_6_5585, vl_0_7, vl_1_7, vl_2_7, vl_3_7, vl_4_7, vl_5_7, vl_6_7]
  rw [eP]
  refine ⟨vp_in_iff.mpr (by decide), ?_⟩
  refine loop_m (σ := mS × Int32 × Nat × Int32) (fun n s => w_X12_findExchange_b18 q n (ov S o ad s.1) o (nI P) s.2.1 s.2.2.2) (fun s => Fx [] [] [45, 46] [] M s.1 ∧ vE (s.1.2.2.1 45) P s.2.2.1 ∧ s.2.2.2.toInt = (s.2.2.1 : Int) - 1) (fun s => vx (s.1.2.2.1 45) P s.2.2.1) ?_ (mA M 45 (upd (M.2.2.1 45) 0 (-1)), -1, 1, 0) ⟨(Fx.a 45 _).le (by simp) (by simp) (by simp) (by simp), ⟨by dsimp only; omega, fun i hi => by dsimp only at hi; omega, fun k hk => ?_⟩, by dsimp only; omega⟩
  · rintro n ⟨N, most, j, kk⟩ ⟨hF, hv, hkk⟩ ih
    dsimp only at hF hv hkk ih ⊢
    have hN : mOk mT N := mOk_fx hF hM (by simp)
    have n3 : N.2.2.1 3 = M.2.2.1 3 := hF.2.2.1 3 (by simp)
    have eP' : N.2.2.1 3 1 = nI P := by rw [n3]; exact eP
    rw [w_X12_findExchange_b18]
    rw [i32lt, z0]
    refine ⟨fun _ => h _ _ hN hF, fun c => ?_⟩
    have hjP := hv.1
    obtain ⟨k, rfl⟩ : ∃ k, j = k + 1 := ⟨j - 1, by omega⟩
    have ek : kk = nI k := Int32.toInt_inj.mp (by rw [nI_toInt (by omega)]; omega)
    subst ek
    -- one step back
    have pop : ∀ Q x y, Fx [] [] [45, 46] [] M Q → (∀ i, i < k → Q.2.2.1 45 i = N.2.2.1 45 i) → y = nI k + (-1) → w_X12_findExchange_b18 q n (ov S o ad Q) o (nI P) x y := by
      intro Q x y hQ hq ey
      obtain ⟨p1, p2⟩ := x_pop hv hP hq
      refine ih (Q, x, k, y) ⟨hQ, p1, ?_⟩ p2
      dsimp only
      rw [ey, fb_addI] <;> rw [nI_toInt (by omega), show (-1 : Int32).toInt = -1 by decide] <;> omega
    rw [nI_eq (by omega) (by omega)]
    refine ⟨fun c1 => ?_, fun c1 => ⟨ov_oK, s_gets hd hP eP' (fun r => ?_)⟩⟩
    · have hkP : k < P := by omega
      obtain ⟨e1, -, -⟩ := x_t hv hP
      have hk0 := hv.2.2 k rfl
      simp (disch := decide) only [oi_gI, oi_gJ, oi_gP, oi_pI, oi_pZ, oi_pJ, oi_oK, oi_aI hd, oi_aZ hd, oi_aJ hd, oi_sI hd, oi_sZ hd, oi_sJ hd, mI_1, mI_2, mJ_1, mJ_2, mJ_3, mA_1, mA_2, mA_3, mA_4, mL_1, mL_2, mL_3, mL_4, mK, Nat.reduceEqDiff, if_true, if_false, ite_true, ite_false, true_and, Nat.reduceLT, reduceIte, reduceCtorEq, cl_0, cl_1, cl_2, cl_3, cl_4, cl_5, cl_6, cl_7, cl_8, cl_9, cl_10, cl_11, cl_12, cl_13, cl_14, cl_15, vl_0_5585, vl_1_5585, vl_2_5585, vl_3_5585, vl_4_5585, vl_5_5585, vl_6_5585, vl_0_7, vl_1_7, vl_2_7, vl_3_7, vl_4_7, vl_5_7, vl_6_7]
      rw [nI_clamp (by omega), upd_self, i32ge, nI_toInt (by omega)]
      have hFu : Fx [] [] [45, 46] [] M (mA N 45 (upd (N.2.2.1 45) k (N.2.2.1 45 k + 1))) := (hF.tr (Fx.a 45 _)).le (by simp) (by simp) (by simp) (by simp)
      have e45 : (mA N 45 (upd (N.2.2.1 45) k (N.2.2.1 45 k + 1))).2.2.1 45 = upd (N.2.2.1 45) k (N.2.2.1 45 k + 1) := by simp [mA_3]
      have hUr : rowOk (mT.2.2.1 3) ((mA N 45 (upd (N.2.2.1 45) k (N.2.2.1 45 k + 1))).2.2.1 3) := hN.1
      refine ⟨vp_in_nI (by omega) (by omega), vp_in_nI (by omega) (by omega), vp_in_nI (by omega) (by omega), fun c2 => ⟨vp_in_nI (by omega) (by omega), ?_⟩, fun c2 y ey => pop _ _ y hFu (fun i hi => by rw [e45, upd_ne _ _ (by omega)]) ey⟩
      have stay : w_X12_findExchange_b18 q n (ov S o ad (mA N 45 (upd (N.2.2.1 45) k (N.2.2.1 45 k + 1)))) o (nI P) most (nI k) := by
        obtain ⟨s1, s2⟩ := x_stay hv hP c2
        refine ih (mA N 45 (upd (N.2.2.1 45) k (N.2.2.1 45 k + 1)), most, k + 1, nI k) ⟨hFu, by dsimp only; rw [e45]; exact s1, by dsimp only; rw [nI_toInt (by omega)]; omega⟩ (by dsimp only; rw [e45]; exact s2)
      have push : w_X12_findExchange_b155 q (fun S v0 v1 v2 v3 => w_X12_findExchange_b18 q n S v0 v1 v2 v3) (ov S o ad (mA N 45 (upd (N.2.2.1 45) k (N.2.2.1 45 k + 1)))) o (nI P) most (nI k) := by
        intro y ey
        rw [nI_1] at ey
        rw [ey]
        simp (disch := decide) only [oi_gI, oi_gJ, oi_gP, oi_pI, oi_pZ, oi_pJ, oi_oK, oi_aI hd, oi_aZ hd, oi_aJ hd, oi_sI hd, oi_sZ hd, oi_sJ hd, mI_1, mI_2, mJ_1, mJ_2, mJ_3, mA_1, mA_2, mA_3, mA_4, mL_1, mL_2, mL_3, mL_4, mK, Nat.reduceEqDiff, if_true, if_false, ite_true, ite_false, true_and, Nat.reduceLT, reduceIte, reduceCtorEq, cl_0, cl_1, cl_2, cl_3, cl_4, cl_5, cl_6, cl_7, cl_8, cl_9, cl_10, cl_11, cl_12, cl_13, cl_14, cl_15, vl_0_5585, vl_1_5585, vl_2_5585, vl_3_5585, vl_4_5585, vl_5_5585, vl_6_5585, vl_0_7, vl_1_7, vl_2_7, vl_3_7, vl_4_7, vl_5_7, vl_6_7, mA_mA]
        rw [nI_clamp (by omega)]
        obtain ⟨s1, s2⟩ := x_push hv hP hkP c2
        have f45 : (mA N 45 (upd (upd (N.2.2.1 45) k (N.2.2.1 45 k + 1)) (k + 1) (-1))).2.2.1 45 = upd (upd (N.2.2.1 45) k (N.2.2.1 45 k + 1)) (k + 1) (-1) := by simp [mA_3]
        refine ⟨vp_in_nI (by omega) (by omega), ih (mA N 45 (upd (upd (N.2.2.1 45) k (N.2.2.1 45 k + 1)) (k + 1) (-1)), most, k + 2, nI (k + 1)) ⟨(hF.tr (Fx.a 45 _)).le (by simp) (by simp) (by simp) (by simp), by dsimp only; rw [f45]; exact s1, by dsimp only; rw [nI_toInt (by omega)]; omega⟩ (by dsimp only; rw [f45]; exact s2)⟩
      refine ⟨fun _ => push, fun c3 => s_lives hd (by omega) (fun _ => ⟨fun z => absurd z (by decide), fun _ => ⟨ov_oK, ?_⟩⟩) (fun _ => ⟨fun _ => stay, fun z => absurd rfl z⟩)⟩
      have c3' : (N.2.2.1 45 k + 1).toInt ≠ P := fun z => c3 (Int32.toInt_inj.mp (by rw [nI_toInt (by omega)]; exact z))
      obtain ⟨g, hg, eg⟩ := rg_in (z := N.2.2.1 45 k + 1) 8 (by omega) (by omega) (by omega)
      exact s_canGive hd hUr (by omega) hg (by rw [e45, upd_self]; exact eg) (fun r => ⟨fun _ => stay, fun _ => push⟩)
    · -- all have a giver
      subst c1
      refine loop_m (σ := (Nat → Int32) × Nat) (fun n' s => w_X12_findExchange_b36 q (fun S v0 v1 v2 v3 => w_X12_findExchange_b18 q n S v0 v1 v2 v3) n' (ov S o ad (mA N 46 s.1)) o (nI k) most (nI k) r (nI s.2)) (fun s => s.2 ≤ k) (fun s => k - s.2) ?_ (N.2.2.1 46, 0) (Nat.zero_le _) |> (fun z => by rw [mA_self] at z; exact z)
      rintro n' ⟨g, i⟩ hi ih'
      dsimp only at hi ih' ⊢
      have hFg : Fx [] [] [45, 46] [] M (mA N 46 g) := (hF.tr (Fx.a 46 _)).le (by simp) (by simp) (by simp) (by simp)
      have k84 : w_X12_findExchange_b84 q (fun S v0 v1 v2 v3 => w_X12_findExchange_b18 q n S v0 v1 v2 v3) (ov S o ad (mA N 46 g)) o (nI k) most (nI k) r :=
        ⟨fun _ y ey => pop _ _ y hFg (fun _ _ => rfl) ey, fun _ y ey => pop _ _ y hFg (fun _ _ => rfl) ey⟩
      have k77 : ∀ x : Int32, i < k → w_X12_findExchange_b77 q (fun S v0 v1 v2 v3 => w_X12_findExchange_b18 q n S v0 v1 v2 v3) (fun S v0 v1 v2 v3 v4 v5 => w_X12_findExchange_b36 q (fun S v0 v1 v2 v3 => w_X12_findExchange_b18 q n S v0 v1 v2 v3) n' S v0 v1 v2 v3 v4 v5) (ov S o ad (mA N 46 g)) o (nI k) most (nI k) r (nI i) x (nI i) (ad 46) := by
        intro x hik
        unfold w_X12_findExchange_b77
        simp (disch := decide) only [oi_gI, oi_gJ, oi_gP, oi_pI, oi_pZ, oi_pJ, oi_oK, oi_aI hd, oi_aZ hd, oi_aJ hd, oi_sI hd, oi_sZ hd, oi_sJ hd, mI_1, mI_2, mJ_1, mJ_2, mJ_3, mA_1, mA_2, mA_3, mA_4, mL_1, mL_2, mL_3, mL_4, mK, Nat.reduceEqDiff, if_true, if_false, ite_true, ite_false, true_and, Nat.reduceLT, reduceIte, reduceCtorEq, cl_0, cl_1, cl_2, cl_3, cl_4, cl_5, cl_6, cl_7, cl_8, cl_9, cl_10, cl_11, cl_12, cl_13, cl_14, cl_15, vl_0_5585, vl_1_5585, vl_2_5585, vl_3_5585, vl_4_5585, vl_5_5585, vl_6_5585, vl_0_7, vl_1_7, vl_2_7, vl_3_7, vl_4_7, vl_5_7, vl_6_7, mA_mA]
        rw [nI_clamp (by omega)]
        refine ⟨vp_in_nI (by omega) (by omega), fun y ey => ?_⟩
        rw [ey, nI_1]
        exact ih' (upd g i x, i + 1) (by dsimp only; omega) (by dsimp only; omega)
      rw [w_X12_findExchange_b36]
      simp (disch := decide) only [oi_gI, oi_gJ, oi_gP, oi_pI, oi_pZ, oi_pJ, oi_oK, oi_aI hd, oi_aZ hd, oi_aJ hd, oi_sI hd, oi_sZ hd, oi_sJ hd, mI_1, mI_2, mJ_1, mJ_2, mJ_3, mA_1, mA_2, mA_3, mA_4, mL_1, mL_2, mL_3, mL_4, mK, Nat.reduceEqDiff, if_true, if_false, ite_true, ite_false, true_and, Nat.reduceLT, reduceIte, reduceCtorEq, cl_0, cl_1, cl_2, cl_3, cl_4, cl_5, cl_6, cl_7, cl_8, cl_9, cl_10, cl_11, cl_12, cl_13, cl_14, cl_15, vl_0_5585, vl_1_5585, vl_2_5585, vl_3_5585, vl_4_5585, vl_5_5585, vl_6_5585, vl_0_7, vl_1_7, vl_2_7, vl_3_7, vl_4_7, vl_5_7, vl_6_7]
      rw [nI_leI (by omega) (by omega)]
      exact ⟨fun _ => k84, fun c2 => ⟨fun _ => k84, fun _ => ⟨vp_in_nI (by omega) (by omega), fun _ => ⟨vp_in_nI (by omega) (by omega), k77 _ (by omega)⟩, fun _ => k77 _ (by omega)⟩⟩⟩
  · dsimp only at hk ⊢
    obtain rfl : k = 0 := by omega
    have e45 : (mA M 45 (upd (M.2.2.1 45) 0 (-1))).2.2.1 45 0 = -1 := by rw [mA_3, if_pos rfl, upd_self]
    rw [e45, show (-1 : Int32).toInt = -1 by decide]
    omega
theorem p_exchange (hd : mD o ad) (hM : mOk mT M) {q : Int32 → hS → Prop} {a : Int32} (h : ∀ r N, mOk mT N → q r (ov S o ad N)) : w_X12_exchange q (ov S o ad M) o a := by
  have hM0 : mOk mT (mI M 0 0) := mOk_i hM (by omega)
  have b2 := hM.1.2.1.2
  unfold w_X12_exchange
  simp (disch := decide) only [oi_gI, oi_gJ, oi_gP, oi_pI, oi_pZ, oi_pJ, oi_oK, oi_aI hd, oi_aZ hd, oi_aJ hd, oi_sI hd, oi_sZ hd, oi_sJ hd, mI_1, mI_2, mJ_1, mJ_2, mJ_3, mA_1, mA_2, mA_3, mA_4, mL_1, mL_2, mL_3, mL_4, mK, Nat.reduceEqDiff, if_true, if_false, ite_true, ite_false, true_and, Nat.reduceLT, reduceIte, reduceCtorEq, cl_0, cl_1, cl_2, cl_3, cl_4, cl_5, cl_6, cl_7, cl_8, cl_9, cl_10, cl_11, cl_12, cl_13, cl_14, cl_15, vl_0_5585, vl_1_5585, vl_2_5585, vl_3_5585, vl_4_5585, vl_5_5585, vl_6_5585, vl_0_7, vl_1_7, vl_2_7, vl_3_7, vl_4_7, vl_5_7, vl_6_7]
  refine s_in (fun x1 x2 => ⟨fun _ => ⟨ov_oK, f_findExchange hd hM0 (fun r N hN hF => ⟨fun c => ?_, fun _ => h _ _ hN⟩)⟩, fun z => absurd z (by decide)⟩) (fun _ => ⟨fun z => absurd rfl z, fun _ => h _ _ hM0⟩)
  rw [i64toInt] at x1 x2
  rw [i64toInt] at x2
  have x1 : 0 ≤ a.toInt := by simpa using x1
  have c' : a.toInt ≠ 0 := fun z => c (Int32.toInt_inj.mp (by rw [z]; decide))
  obtain ⟨w, hw, rfl⟩ := rg_in (z := a) 9 (by omega) x1 (by omega)
  rw [nI_toInt (by omega)] at c'
  simp (disch := decide) only [oi_gI, oi_gJ, oi_gP, oi_pI, oi_pZ, oi_pJ, oi_oK, oi_aI hd, oi_aZ hd, oi_aJ hd, oi_sI hd, oi_sZ hd, oi_sJ hd, mI_1, mI_2, mJ_1, mJ_2, mJ_3, mA_1, mA_2, mA_3, mA_4, mL_1, mL_2, mL_3, mL_4, mK, Nat.reduceEqDiff, if_true, if_false, ite_true, ite_false, true_and, Nat.reduceLT, reduceIte, reduceCtorEq, cl_0, cl_1, cl_2, cl_3, cl_4, cl_5, cl_6, cl_7, cl_8, cl_9, cl_10, cl_11, cl_12, cl_13, cl_14, cl_15, vl_0_5585, vl_1_5585, vl_2_5585, vl_3_5585, vl_4_5585, vl_5_5585, vl_6_5585, vl_0_7, vl_1_7, vl_2_7, vl_3_7, vl_4_7, vl_5_7, vl_6_7]
  rw [nI_s1 (by omega)]
  exact ⟨vp_in_nI (by omega) (by omega), h _ _ hN⟩
end REF37
