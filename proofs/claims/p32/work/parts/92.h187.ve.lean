/-! A ROUND OF VISITS, THE REFERENCE'S SEARCH -/
section VE
variable {S : hS} {o : Nat} {ad : Nat → Nat} {M : mS} {mT : mS} {F : Nat → Int32} {f : Nat → Nat}
theorem x_isNew (hd : mD o ad) {q : Int32 → hS → Prop} {k t : Nat} (hk : k < 7) (ht : t < 6) (hA : ∀ i, i < k → M.2.2.1 41 i = nI (f i) ∧ f i < 6) (et : M.2.2.1 41 k = nI t) (h : q (if noN f t k = true then 1 else 0) (ov S o ad M)) : w_X12_isNew q (ov S o ad M) o (nI k) := by
  refine loop_m (σ := Nat) (fun n i => w_X12_isNew_b4 q n (ov S o ad M) o (nI k) (if noN f t i = true then 1 else 0) (nI i)) (fun i => i ≤ k) (fun i => k - i) ?_ 0 (Nat.zero_le _)
  rintro n i hi ih
  have b1 : (if noN f t i = true then (1 : Int32) else 0) = 0 ↔ ¬ noN f t i = true := by
    by_cases z : noN f t i = true
    · rw [if_pos z]
      exact ⟨fun y => absurd y (by decide), fun y => absurd z y⟩
    · rw [if_neg z]
      exact ⟨fun _ => z, fun _ => rfl⟩
  have k33 : ∀ y : Int32, i < k → y = (if noN f t (i + 1) = true then 1 else 0) → w_X12_isNew_b33 q (fun S v0 v1 v2 v3 => w_X12_isNew_b4 q n S v0 v1 v2 v3) (ov S o ad M) o (nI k) (nI i) y := by
    intro y hik ey z ez
    rw [ez, nI_1, ey]
    exact ih (i + 1) (by omega) (by omega)
  rw [w_X12_isNew_b4]
  unfold w_X12_isNew_b32
  simp (disch := decide) only [oi_gI, oi_gJ, oi_gP, oi_pI, oi_pZ, oi_pJ, oi_oK, oi_aI hd, oi_aZ hd, oi_aJ hd, oi_sI hd, oi_sZ hd, oi_sJ hd, mI_1, mI_2, mJ_1, mJ_2, mJ_3, mA_1, mA_2, mA_3, mA_4, mL_1, mL_2, mL_3, mL_4, mK, Nat.reduceEqDiff, if_true, if_false, ite_true, ite_false, true_and, Nat.reduceLT, reduceIte, reduceCtorEq, cl_0, cl_1, cl_2, cl_3, cl_4, cl_5, cl_6, cl_7, cl_8, cl_9, cl_10, cl_11, cl_12, cl_13, cl_14, cl_15, vl_0_5585, vl_1_5585, vl_2_5585, vl_3_5585, vl_4_5585, vl_5_5585, vl_6_5585, vl_0_7, vl_1_7, vl_2_7, vl_3_7, vl_4_7, vl_5_7, vl_6_7]
  rw [nI_leI (by omega) (by omega), nI_clamp (by omega), nI_clamp (by omega), b1]
  refine ⟨fun c => ⟨?_, ?_⟩, fun c => ⟨fun z => k33 0 (by omega) ?_, fun z => ?_⟩⟩
  · by_cases z : noN f t i = true
    · exact Or.inr (if_pos z)
    · exact Or.inl z
  · have : i = k := by omega
    rw [this]
    exact h
  · rw [if_neg]
    intro y
    rw [noN, Bool.and_eq_true] at y
    exact z y.1
  · have z := Decidable.of_not_not z
    obtain ⟨a1, a2⟩ := hA i (by omega)
    rw [a1, et, nI_eq (by omega) (by omega)]
    refine ⟨vp_in_nI (by omega) (by omega), vp_in_nI (by omega) (by omega), fun e => k33 0 (by omega) ?_, fun e => k33 1 (by omega) ?_⟩
    · rw [if_neg]
      intro y
      rw [noN, Bool.and_eq_true, decide_eq_true_eq] at y
      exact y.2 e
    · rw [if_pos]
      rw [noN, z, decide_eq_true e]
      rfl
set_option maxHeartbeats 1600000 in
theorem x_findVisits (hd : mD o ad) (hB : rB F) (hG3 : ∀ i, i < 185 → M.2.2.1 3 i = F i) {q : hS → Prop} {p n : Nat} (hp : p < 8) (hn : n ≤ 99) (h : ∀ N, Fx [44] [] [41, 42, 43] [] M N → N.1 44 = nI (vfV F p n).1 → (vfV F p n).1 ≤ 6 → (∀ i, i < (vfV F p n).1 → N.2.2.1 43 i = nI ((vfV F p n).2.2 i)) → q (ov S o ad N)) : w_X12_findVisits q (ov S o ad M) o (nI p) (nI n) := by
  have b0 := rB_0 hB
  obtain ⟨H, eHR⟩ : ∃ H, H = nHR F := ⟨_, rfl⟩
  have iH : iR F 0 = H := by rw [eHR]; unfold nHR; omega
  have hH : H ≤ 6 := by omega
  have eH : M.2.2.1 3 0 = nI H := by
    rw [hG3 0 (by omega)]
    apply Int32.toInt_inj.mp
    have : iR F 0 = (F 0).toInt := rfl
    rw [nI_toInt (by omega)]; omega
  have zm : (-1 : Int32).toInt = -1 := by decide
  unfold w_X12_findVisits
  simp (disch := decide) only [oi_gI, oi_gJ, oi_gP, oi_pI, oi_pZ, oi_pJ, oi_oK, oi_aI hd, oi_aZ hd, oi_aJ hd, oi_sI hd, oi_sZ hd, oi_sJ hd, mI_1, mI_2, mJ_1, mJ_2, mJ_3, mA_1, mA_2, mA_3, mA_4, mL_1, mL_2, mL_3, mL_4, mK, Nat.reduceEqDiff, if_true, if_false, ite_true, ite_false, true_and, Nat.reduceLT, reduceIte, reduceCtorEq, cl_0, cl_1, cl_2, cl_3, cl_4, cl_5, cl_6, cl_7, cl_8, cl_9, cl_10, cl_11, cl_12, cl_13, cl_14, cl_15, vl_0_5585, vl_1_5585, vl_2_5585, vl_3_5585, vl_4_5585, vl_5_5585, vl_6_5585, vl_0_7, vl_1_7, vl_2_7, vl_3_7, vl_4_7, vl_5_7, vl_6_7]
  have e01 : nI 1 - 1 = 0 := by decide
  suffices key : ∃ m, w_X12_findVisits_b24 q m (ov S o ad (mA (mA (mI M 44 0) 41 (upd (M.2.2.1 41) 0 (-1))) 42 (upd (M.2.2.1 42) 0 0))) o (nI p) (nI n) 0 (nI 1 - 1) by
    rw [e01] at key
    exact key
  refine loop_m (σ := mS × Nat × (Nat → Nat) × (Nat → Nat) × vtS) (fun m s => w_X12_findVisits_b24 q m (ov S o ad s.1) o (nI p) (nI n) (nI s.2.2.2.2.2.1) (nI s.2.1 - 1)) (fun s => Fx [44] [] [41, 42, 43] [] M s.1 ∧ vI (s.1.2.2.1 41) H s.2.1 ∧ (∀ i, i + 1 < s.2.1 → s.1.2.2.1 41 i = nI (s.2.2.1 i) ∧ s.2.2.1 i < H) ∧ (∀ i, i < s.2.1 → s.1.2.2.1 42 i = nI (s.2.2.2.1 i) ∧ s.2.2.2.1 i ≤ n) ∧ ((s.2.1 = 0 → s.2.2.2.2 = vfV F p n) ∧ ∀ k, s.2.1 = k + 1 → atV F p n k s.2.2.1 s.2.2.2.1 ((s.1.2.2.1 41 k).toInt + 1).toNat s.2.2.2.2) ∧ (s.1.1 44 = nI s.2.2.2.2.1 ∧ s.2.2.2.2.1 ≤ 6 ∧ s.2.2.2.2.2.1 ≤ n) ∧ ∀ i, i < s.2.2.2.2.1 → s.1.2.2.1 43 i = nI (s.2.2.2.2.2.2 i)) (fun s => vm (s.1.2.2.1 41) H s.2.1) ?_ (mA (mA (mI M 44 0) 41 (upd (M.2.2.1 41) 0 (-1))) 42 (upd (M.2.2.1 42) 0 0), 1, (fun _ => 0), (fun _ => 0), (0, 0, fun _ => 0)) ⟨(((Fx.i 44 0).tr (Fx.a 41 _)).tr (Fx.a 42 _)).le (by simp) (by simp) (by simp) (by simp), ⟨by dsimp only; omega, fun i hi => absurd hi (by dsimp only; omega), fun a b _ hb => absurd hb (by dsimp only; omega), fun k hk => ?_⟩, fun i hi => absurd hi (by dsimp only; omega), fun i hi => ?_, ⟨fun z => absurd (show (1 : Nat) = 0 from z) (by decide), fun k hk => ?_⟩, ⟨rfl, Nat.zero_le _, Nat.zero_le _⟩, fun i hi => absurd (show i < 0 from hi) (Nat.not_lt_zero _)⟩
  · rintro m ⟨N, j, f, g, st⟩ ⟨hF, hv, hA, hG, hX, ⟨h44, hs1, hs2⟩, hrow⟩ ih
    dsimp only at hF hv hA hG hX h44 hs1 hs2 hrow ih ⊢
    have er : N.2.2.1 3 = M.2.2.1 3 := hF.2.2.1 3 (by simp)
    have hGN : ∀ i, i < 185 → N.2.2.1 3 i = F i := fun i hi => by rw [er]; exact hG3 i hi
    rw [w_X12_findVisits_b24]
    cases j with
    | zero =>
      refine ⟨fun _ => ?_, fun c => absurd (by decide) c⟩
      have e := hX.1 rfl
      rw [e] at h44 hs1 hrow
      exact h N hF h44 hs1 hrow
    | succ k =>
      have hj := hv.1
      have hkv := hv.2.2.2 k rfl
      have hat := hX.2 k rfl
      obtain ⟨g1, g2⟩ := hG k (by omega)
      obtain ⟨e1, -, -⟩ := v_t hv (by omega)
      obtain ⟨t, et⟩ : ∃ t : Nat, ((N.2.2.1 41 k).toInt + 1).toNat = t := ⟨_, rfl⟩
      rw [et] at hat
      have e1t : (N.2.2.1 41 k + 1).toInt = t := by rw [e1]; omega
      have en1 : N.2.2.1 41 k + 1 = nI t := Int32.toInt_inj.mp (by rw [nI_toInt (by omega)]; exact e1t)
      rw [nI_pm1]
      refine ⟨fun z => absurd z (nI_ltz (by omega)), fun _ => ?_⟩
      simp (disch := decide) only [oi_gI, oi_gJ, oi_gP, oi_pI, oi_pZ, oi_pJ, oi_oK, oi_aI hd, oi_aZ hd, oi_aJ hd, oi_sI hd, oi_sZ hd, oi_sJ hd, mI_1, mI_2, mJ_1, mJ_2, mJ_3, mA_1, mA_2, mA_3, mA_4, mL_1, mL_2, mL_3, mL_4, mK, Nat.reduceEqDiff, if_true, if_false, ite_true, ite_false, true_and, Nat.reduceLT, reduceIte, reduceCtorEq, cl_0, cl_1, cl_2, cl_3, cl_4, cl_5, cl_6, cl_7, cl_8, cl_9, cl_10, cl_11, cl_12, cl_13, cl_14, cl_15, vl_0_5585, vl_1_5585, vl_2_5585, vl_3_5585, vl_4_5585, vl_5_5585, vl_6_5585, vl_0_7, vl_1_7, vl_2_7, vl_3_7, vl_4_7, vl_5_7, vl_6_7]
      rw [nI_clamp (by omega), upd_self, er, eH, i32lt, e1t, nI_toInt (by omega)]
      have hF1 : Fx [44] [] [41, 42, 43] [] M (mA N 41 (upd (N.2.2.1 41) k (N.2.2.1 41 k + 1))) := (hF.tr (Fx.a 41 _)).le (by simp) (by simp) (by simp) (by simp)
      have f41 : (mA N 41 (upd (N.2.2.1 41) k (N.2.2.1 41 k + 1))).2.2.1 41 = upd (N.2.2.1 41) k (N.2.2.1 41 k + 1) := by simp [mA_3]
      have f42 : (mA N 41 (upd (N.2.2.1 41) k (N.2.2.1 41 k + 1))).2.2.1 42 = N.2.2.1 42 := by simp [mA_3]
      have f43 : (mA N 41 (upd (N.2.2.1 41) k (N.2.2.1 41 k + 1))).2.2.1 43 = N.2.2.1 43 := by simp [mA_3]
      refine ⟨vp_in_nI (by omega) (by omega), vp_in_nI (by omega) (by omega), vp_in_nI (by omega) (by omega), fun c => ?_, fun c y ey => ?_⟩
      rotate_left
      · obtain ⟨w1, w2⟩ := v_pop hv (by omega) (by omega)
        have etH : t = H := by have := hat.1; omega
        rw [ey, nI_am1]
        refine ih (mA N 41 (upd (N.2.2.1 41) k (N.2.2.1 41 k + 1)), k, f, g, st) ⟨hF1, by dsimp only; rw [f41]; exact w1, fun i hi => ?_, fun i hi => ?_, ⟨fun z => ?_, fun k' hk' => ?_⟩, ⟨h44, hs1, hs2⟩, fun i hi => by dsimp only; rw [f43]; exact hrow i hi⟩ (by dsimp only; rw [f41]; exact w2)
        · dsimp only at hi ⊢
          rw [f41, upd_ne _ _ (by omega)]
          exact hA i (by omega)
        · dsimp only at hi ⊢
          rw [f42]
          exact hG i (by omega)
        · dsimp only at z ⊢
          subst z
          rw [etH, eHR] at hat
          exact atV_fin hat
        · dsimp only at hk' ⊢
          subst hk'
          obtain ⟨a1, a2⟩ := hA k' (by omega)
          rw [f41, upd_ne _ _ (by omega), a1, nI_toInt (by omega), show (((f k' : Nat) : Int) + 1).toNat = f k' + 1 by omega]
          rw [etH, eHR] at hat
          exact atV_out hat (by omega)
      have htH : t < H := by omega
      obtain ⟨w1, w2⟩ := v_stay hv (by omega) (by omega)
      have hf6 : ∀ i, i < k → f i < 6 := fun i hi => by have := (hA i (by omega)).2; omega
      have stay : ¬ okVi F p n f k (g k) t = true → w_X12_findVisits_b24 q m (ov S o ad (mA N 41 (upd (N.2.2.1 41) k (N.2.2.1 41 k + 1)))) o (nI p) (nI n) (nI st.2.1) (nI k) := by
        intro hno
        have := ih (mA N 41 (upd (N.2.2.1 41) k (N.2.2.1 41 k + 1)), k + 1, f, g, st) ⟨hF1, by dsimp only; rw [f41]; exact w1, fun i hi => ?_, fun i hi => ?_, ⟨fun z => absurd z (by dsimp only; omega), fun k' hk' => ?_⟩, ⟨h44, hs1, hs2⟩, fun i hi => by dsimp only; rw [f43]; exact hrow i hi⟩ (by dsimp only; rw [f41]; exact w2)
        · dsimp only at this
          rw [nI_pm1] at this
          exact this
        · dsimp only at hi ⊢
          rw [f41, upd_ne _ _ (by omega)]
          exact hA i (by omega)
        · dsimp only at hi ⊢
          rw [f42]
          exact hG i hi
        · dsimp only at hk' ⊢
          obtain rfl : k' = k := by omega
          rw [f41, upd_self, e1t, show ((t : Int) + 1).toNat = t + 1 by omega]
          exact atV_no hat (by omega) hno
      have trA : ∀ i, i < k → (mA N 41 (upd (N.2.2.1 41) k (N.2.2.1 41 k + 1))).2.2.1 41 i = nI (f i) ∧ f i < 6 := fun i hi => by
        rw [f41, upd_ne _ _ (by omega)]
        exact ⟨(hA i (by omega)).1, hf6 i hi⟩
      refine x_isNew (f := f) (t := t) hd (by omega) (by omega) trA (by rw [f41, upd_self]; exact en1) ⟨fun z => stay (fun y => ?_), fun z => ?_⟩
      · rw [if_pos ((noN_iff k).mpr (okVi_iff.mp y).1)] at z
        exact absurd z (by decide)
      have nw : noN f t k = true := by
        cases y : noN f t k with
        | true => rfl
        | false =>
          rw [y, if_neg (by decide)] at z
          exact absurd rfl z
      have nw' := (noN_iff k).mp nw
      simp (disch := decide) only [oi_gI, oi_gJ, oi_gP, oi_pI, oi_pZ, oi_pJ, oi_oK, oi_aI hd, oi_aZ hd, oi_aJ hd, oi_sI hd, oi_sZ hd, oi_sJ hd, mI_1, mI_2, mJ_1, mJ_2, mJ_3, mA_1, mA_2, mA_3, mA_4, mL_1, mL_2, mL_3, mL_4, mK, Nat.reduceEqDiff, if_true, if_false, ite_true, ite_false, true_and, Nat.reduceLT, reduceIte, reduceCtorEq, cl_0, cl_1, cl_2, cl_3, cl_4, cl_5, cl_6, cl_7, cl_8, cl_9, cl_10, cl_11, cl_12, cl_13, cl_14, cl_15, vl_0_5585, vl_1_5585, vl_2_5585, vl_3_5585, vl_4_5585, vl_5_5585, vl_6_5585, vl_0_7, vl_1_7, vl_2_7, vl_3_7, vl_4_7, vl_5_7, vl_6_7]
      rw [nI_clamp (by omega), upd_self, en1]
      rw [en1] at stay trA f41 f42 f43 hF1
      have hnew' : ∀ i, i < k → N.2.2.1 41 i ≠ N.2.2.1 41 k + 1 := by
        intro i hi e
        rw [(hA i (by omega)).1, en1, nI_eq (by have := hf6 i hi; omega) (by omega)] at e
        exact nw' i hi e
      obtain ⟨p1, p2, p3⟩ := v_push hv (by omega) (by omega) hnew'
      rw [en1] at p2 p3
      have hne : ∀ i j, i < j → j < k → f i ≠ f j := fun i j hij hjk e => by
        have := hv.2.2.1 i j hij (by omega)
        rw [(hA i (by omega)).1, (hA j (by omega)).1, e] at this
        exact this rfl
      have ste := st_e hB hp hf6 (show t < 6 by omega)
      have nxb : nxV F p f k (g k) t ≤ 107 := by
        unfold nxV
        omega
      -- deeper
      have k228 : okVi F p n f k (g k) t = true → ∀ N' (st' : vtS), st' = bvU (k + 1) (nxV F p f k (g k) t) (upN (tr0 k f) k t) st → Fx [44] [] [43] [] (mA N 41 (upd (N.2.2.1 41) k (nI t))) N' → N'.1 44 = nI st'.1 → (∀ i, i < st'.1 → N'.2.2.1 43 i = nI (st'.2.2 i)) → w_X12_findVisits_b228 q (fun S v0 v1 v2 v3 v4 => w_X12_findVisits_b24 q m S v0 v1 v2 v3 v4) (ov S o ad N') o (nI p) (nI n) (nI st'.2.1) (nI k) (nI (nxV F p f k (g k) t)) := by
        intro ho N' st' est hF' h44' hrow'
        have nn := (okVi_iff.mp ho).2.2
        unfold w_X12_findVisits_b228 w_X12_findVisits_b248
        intro y ey
        rw [nI_1] at ey
        subst ey
        simp (disch := decide) only [oi_gI, oi_gJ, oi_gP, oi_pI, oi_pZ, oi_pJ, oi_oK, oi_aI hd, oi_aZ hd, oi_aJ hd, oi_sI hd, oi_sZ hd, oi_sJ hd, mI_1, mI_2, mJ_1, mJ_2, mJ_3, mA_1, mA_2, mA_3, mA_4, mL_1, mL_2, mL_3, mL_4, mK, Nat.reduceEqDiff, if_true, if_false, ite_true, ite_false, true_and, Nat.reduceLT, reduceIte, reduceCtorEq, cl_0, cl_1, cl_2, cl_3, cl_4, cl_5, cl_6, cl_7, cl_8, cl_9, cl_10, cl_11, cl_12, cl_13, cl_14, cl_15, vl_0_5585, vl_1_5585, vl_2_5585, vl_3_5585, vl_4_5585, vl_5_5585, vl_6_5585, vl_0_7, vl_1_7, vl_2_7, vl_3_7, vl_4_7, vl_5_7, vl_6_7]
        rw [nI_clamp (by omega)]
        refine ⟨vp_in_nI (by omega) (by omega), vp_in_nI (by omega) (by omega), ?_⟩
        have e41 : N'.2.2.1 41 = upd (N.2.2.1 41) k (nI t) := (hF'.2.2.1 41 (by simp)).trans f41
        have e42 : N'.2.2.1 42 = N.2.2.1 42 := (hF'.2.2.1 42 (by simp)).trans f42
        have bs : st'.1 ≤ 6 ∧ st'.2.1 ≤ n := by
          rw [est]
          unfold bvU
          split
          · exact ⟨by dsimp only; omega, nn⟩
          · exact ⟨hs1, hs2⟩
        have d41 : ∀ i, (mA (mA N' 42 (upd (N'.2.2.1 42) (k + 1) (nI (nxV F p f k (g k) t)))) 41 (upd (N'.2.2.1 41) (k + 1) (-1))).2.2.1 41 i = upd (upd (N.2.2.1 41) k (nI t)) (k + 1) (-1) i := fun i => by rw [mA_3, if_pos rfl, e41]
        have d42 : ∀ i, (mA (mA N' 42 (upd (N'.2.2.1 42) (k + 1) (nI (nxV F p f k (g k) t)))) 41 (upd (N'.2.2.1 41) (k + 1) (-1))).2.2.1 42 i = upd (N.2.2.1 42) (k + 1) (nI (nxV F p f k (g k) t)) i := fun i => by rw [mA_3, if_neg (by decide), mA_3, if_pos rfl, e42]
        have d43 : (mA (mA N' 42 (upd (N'.2.2.1 42) (k + 1) (nI (nxV F p f k (g k) t)))) 41 (upd (N'.2.2.1 41) (k + 1) (-1))).2.2.1 43 = N'.2.2.1 43 := by simp [mA_3]
        have g41 : (mA (mA N' 42 (upd (N'.2.2.1 42) (k + 1) (nI (nxV F p f k (g k) t)))) 41 (upd (N'.2.2.1 41) (k + 1) (-1))).2.2.1 41 = upd (upd (N.2.2.1 41) k (nI t)) (k + 1) (-1) := funext d41
        have := ih (mA (mA N' 42 (upd (N'.2.2.1 42) (k + 1) (nI (nxV F p f k (g k) t)))) 41 (upd (N'.2.2.1 41) (k + 1) (-1)), k + 2, upN f k t, upN g (k + 1) (nxV F p f k (g k) t), st') ⟨(((hF1.tr hF').tr (Fx.a 42 _)).tr (Fx.a 41 _)).le (by simp) (by simp) (by simp) (by simp), by dsimp only; rw [g41]; exact p2, fun i hi => ?_, fun i hi => ?_, ⟨fun z => absurd z (by dsimp only; omega), fun k' hk' => ?_⟩, ⟨h44', bs.1, bs.2⟩, fun i hi => by dsimp only; rw [d43]; exact hrow' i hi⟩ (by dsimp only; rw [g41]; exact p3)
        · dsimp only at this
          rw [nI_pm1] at this
          exact this
        · dsimp only at hi ⊢
          rw [d41, upd_ne _ _ (by omega)]
          unfold upN
          by_cases ci : i = k
          · rw [ci, upd_self, if_pos rfl]
            exact ⟨rfl, htH⟩
          · rw [upd_ne _ _ ci, if_neg ci]
            exact hA i (by omega)
        · dsimp only at hi ⊢
          rw [d42]
          unfold upN
          by_cases ci : i = k + 1
          · rw [ci, upd_self, if_pos rfl]
            exact ⟨rfl, nn⟩
          · rw [upd_ne _ _ ci, if_neg ci]
            exact hG i (by omega)
        · dsimp only at hk' ⊢
          obtain rfl : k' = k + 1 := by omega
          rw [d41, upd_self, zm, est]
          exact atV_in (by omega) hat (by omega) (by omega) (fun i hi => by have := (hA i (by omega)).2; omega) hne ho
      have k187 : okVi F p n f k (g k) t = true → (st.1 < k + 1 ∨ (k + 1 = st.1 ∧ nxV F p f k (g k) t < st.2.1)) → w_X12_findVisits_b187 q (fun S v0 v1 v2 v3 v4 => w_X12_findVisits_b24 q m S v0 v1 v2 v3 v4) (ov S o ad (mA N 41 (upd (N.2.2.1 41) k (nI t)))) o (nI p) (nI n) (nI k) (nI (nxV F p f k (g k) t)) := by
        intro ho hbt
        have eb : bvU (k + 1) (nxV F p f k (g k) t) (upN (tr0 k f) k t) st = (k + 1, nxV F p f k (g k) t, upN (tr0 k f) k t) := if_pos hbt
        unfold w_X12_findVisits_b187
        simp (disch := decide) only [oi_gI, oi_gJ, oi_gP, oi_pI, oi_pZ, oi_pJ, oi_oK, oi_aI hd, oi_aZ hd, oi_aJ hd, oi_sI hd, oi_sZ hd, oi_sJ hd, mI_1, mI_2, mJ_1, mJ_2, mJ_3, mA_1, mA_2, mA_3, mA_4, mL_1, mL_2, mL_3, mL_4, mK, Nat.reduceEqDiff, if_true, if_false, ite_true, ite_false, true_and, Nat.reduceLT, reduceIte, reduceCtorEq, cl_0, cl_1, cl_2, cl_3, cl_4, cl_5, cl_6, cl_7, cl_8, cl_9, cl_10, cl_11, cl_12, cl_13, cl_14, cl_15, vl_0_5585, vl_1_5585, vl_2_5585, vl_3_5585, vl_4_5585, vl_5_5585, vl_6_5585, vl_0_7, vl_1_7, vl_2_7, vl_3_7, vl_4_7, vl_5_7, vl_6_7]
        rw [nI_1]
        refine loop_m (σ := mS × Nat) (fun n' s => w_X12_findVisits_b201 q (fun S v0 v1 v2 v3 v4 => w_X12_findVisits_b24 q m S v0 v1 v2 v3 v4) n' (ov S o ad s.1) o (nI p) (nI n) (nI (nxV F p f k (g k) t)) (nI k) (nI (nxV F p f k (g k) t)) (nI s.2)) (fun s => Fx [44] [] [43] [] (mA N 41 (upd (N.2.2.1 41) k (nI t))) s.1 ∧ s.1.1 44 = nI (k + 1) ∧ s.2 ≤ k + 1 ∧ ∀ i, i < s.2 → s.1.2.2.1 43 i = nI (upN (tr0 k f) k t i)) (fun s => k + 1 - s.2) ?_ (_, 0) ⟨(Fx.i 44 (nI (k + 1))).le (by simp) (by simp) (by simp) (by simp), by simp (disch := decide) only [oi_gI, oi_gJ, oi_gP, oi_pI, oi_pZ, oi_pJ, oi_oK, oi_aI hd, oi_aZ hd, oi_aJ hd, oi_sI hd, oi_sZ hd, oi_sJ hd, mI_1, mI_2, mJ_1, mJ_2, mJ_3, mA_1, mA_2, mA_3, mA_4, mL_1, mL_2, mL_3, mL_4, mK, Nat.reduceEqDiff, if_true, if_false, ite_true, ite_false, true_and, Nat.reduceLT, reduceIte, reduceCtorEq, cl_0, cl_1, cl_2, cl_3, cl_4, cl_5, cl_6, cl_7, cl_8, cl_9, cl_10, cl_11, cl_12, cl_13, cl_14, cl_15, vl_0_5585, vl_1_5585, vl_2_5585, vl_3_5585, vl_4_5585, vl_5_5585, vl_6_5585, vl_0_7, vl_1_7, vl_2_7, vl_3_7, vl_4_7, vl_5_7, vl_6_7], Nat.zero_le _, fun i hi => absurd hi (Nat.not_lt_zero _)⟩
        rintro n' ⟨N', i⟩ ⟨hF', h44', hi, hr'⟩ ih'
        dsimp only at hF' h44' hi hr' ih' ⊢
        rw [w_X12_findVisits_b201]
        simp (disch := decide) only [oi_gI, oi_gJ, oi_gP, oi_pI, oi_pZ, oi_pJ, oi_oK, oi_aI hd, oi_aZ hd, oi_aJ hd, oi_sI hd, oi_sZ hd, oi_sJ hd, mI_1, mI_2, mJ_1, mJ_2, mJ_3, mA_1, mA_2, mA_3, mA_4, mL_1, mL_2, mL_3, mL_4, mK, Nat.reduceEqDiff, if_true, if_false, ite_true, ite_false, true_and, Nat.reduceLT, reduceIte, reduceCtorEq, cl_0, cl_1, cl_2, cl_3, cl_4, cl_5, cl_6, cl_7, cl_8, cl_9, cl_10, cl_11, cl_12, cl_13, cl_14, cl_15, vl_0_5585, vl_1_5585, vl_2_5585, vl_3_5585, vl_4_5585, vl_5_5585, vl_6_5585, vl_0_7, vl_1_7, vl_2_7, vl_3_7, vl_4_7, vl_5_7, vl_6_7]
        rw [nI_ltI (by omega) (by omega)]
        refine ⟨fun c2 => ?_, fun c2 => ⟨vp_in_nI (by omega) (by omega), vp_in_nI (by omega) (by omega), fun y ey => ?_⟩⟩
        · have := k228 ho N' (k + 1, nxV F p f k (g k) t, upN (tr0 k f) k t) eb.symm hF' h44' (fun j hj => hr' j (by dsimp only at hj; omega))
          exact this
        · rw [ey, nI_1, nI_clamp (by omega)]
          have e41 : N'.2.2.1 41 = upd (N.2.2.1 41) k (nI t) := (hF'.2.2.1 41 (by simp)).trans f41
          refine ih' (_, i + 1) ⟨(hF'.tr (Fx.a 43 _)).le (by simp) (by simp) (by simp) (by simp), h44', by dsimp only; omega, fun j hj => ?_⟩ (by dsimp only; omega)
          dsimp only at hj ⊢
          rw [if_pos rfl]
          by_cases cj : j = i
          · rw [cj, upd_self, e41]
            unfold upN tr0
            by_cases ck : i = k
            · rw [ck, upd_self, if_pos rfl]
            · rw [upd_ne _ _ ck, if_neg ck, if_pos (by omega)]
              exact (hA i (by omega)).1
          · rw [upd_ne _ _ cj]
            exact hr' j (by omega)
      have lfl := left_G hB hp (e := t) (by omega)
      have lz : (mA N 41 (upd (N.2.2.1 41) k (nI t))).2.2.1 3 (30 + 6 * p + t) - (mA N 41 (upd (N.2.2.1 41) k (nI t))).2.2.1 3 (78 + 6 * p + t) ≤ 0 ↔ ¬ 1 ≤ leftR F p t := by
        have e1' : (mA N 41 (upd (N.2.2.1 41) k (nI t))).2.2.1 3 (30 + 6 * p + t) = F (30 + 6 * p + t) := hGN _ (by omega)
        have e2' : (mA N 41 (upd (N.2.2.1 41) k (nI t))).2.2.1 3 (78 + 6 * p + t) = F (78 + 6 * p + t) := hGN _ (by omega)
        rw [e1', e2', Int32.le_iff_toInt_le, lfl.1, show (0 : Int32).toInt = 0 by decide]
        omega
      have k121 : 1 ≤ leftR F p t → w_X12_findVisits_b121 q (fun S v0 v1 v2 v3 v4 => w_X12_findVisits_b24 q m S v0 v1 v2 v3 v4) (ov S o ad (mA N 41 (upd (N.2.2.1 41) k (nI t)))) o (nI p) (nI n) (nI st.2.1) (nI k) (frV F p f k) := by
        intro hl
        unfold w_X12_findVisits_b121 w_X12_findVisits_b248
        simp (disch := decide) only [oi_gI, oi_gJ, oi_gP, oi_pI, oi_pZ, oi_pJ, oi_oK, oi_aI hd, oi_aZ hd, oi_aJ hd, oi_sI hd, oi_sZ hd, oi_sJ hd, mI_1, mI_2, mJ_1, mJ_2, mJ_3, mA_1, mA_2, mA_3, mA_4, mL_1, mL_2, mL_3, mL_4, mK, Nat.reduceEqDiff, if_true, if_false, ite_true, ite_false, true_and, Nat.reduceLT, reduceIte, reduceCtorEq, cl_0, cl_1, cl_2, cl_3, cl_4, cl_5, cl_6, cl_7, cl_8, cl_9, cl_10, cl_11, cl_12, cl_13, cl_14, cl_15, vl_0_5585, vl_1_5585, vl_2_5585, vl_3_5585, vl_4_5585, vl_5_5585, vl_6_5585, vl_0_7, vl_1_7, vl_2_7, vl_3_7, vl_4_7, vl_5_7, vl_6_7]
        rw [nI_clamp (by omega), upd_self, lit_nI 126, nIadd, nI_clamp (by omega), hGN _ (by omega), g1]
        refine ⟨vp_in_nI (by omega) (by omega), vp_in_nI (by omega) (by omega), vp_in_nI (by omega) (by omega), x_stepsOf (fun y ey => ?_)⟩
        have ey : y = nI (nxV F p f k (g k) t) := by
          rw [ey, ste.1, nIadd]
          rfl
        rw [ey, nI_ltI (by omega) (by omega)]
        refine ⟨fun c2 => stay (fun z => ?_), fun c2 => ?_⟩
        · have := (okVi_iff.mp z).2.2
          omega
        have ho : okVi F p n f k (g k) t = true := okVi_iff.mpr ⟨nw', hl, by omega⟩
        have plain : ¬ (st.1 < k + 1 ∨ (k + 1 = st.1 ∧ nxV F p f k (g k) t < st.2.1)) → w_X12_findVisits_b228 q (fun S v0 v1 v2 v3 v4 => w_X12_findVisits_b24 q m S v0 v1 v2 v3 v4) (ov S o ad (mA N 41 (upd (N.2.2.1 41) k (nI t)))) o (nI p) (nI n) (nI st.2.1) (nI k) (nI (nxV F p f k (g k) t)) := by
          intro hnb
          have eb : bvU (k + 1) (nxV F p f k (g k) t) (upN (tr0 k f) k t) st = st := if_neg hnb
          exact k228 ho _ st eb.symm Fx.rf' h44 (fun i hi => by rw [f43]; exact hrow i hi)
        simp (disch := decide) only [oi_gI, oi_gJ, oi_gP, oi_pI, oi_pZ, oi_pJ, oi_oK, oi_aI hd, oi_aZ hd, oi_aJ hd, oi_sI hd, oi_sZ hd, oi_sJ hd, mI_1, mI_2, mJ_1, mJ_2, mJ_3, mA_1, mA_2, mA_3, mA_4, mL_1, mL_2, mL_3, mL_4, mK, Nat.reduceEqDiff, if_true, if_false, ite_true, ite_false, true_and, Nat.reduceLT, reduceIte, reduceCtorEq, cl_0, cl_1, cl_2, cl_3, cl_4, cl_5, cl_6, cl_7, cl_8, cl_9, cl_10, cl_11, cl_12, cl_13, cl_14, cl_15, vl_0_5585, vl_1_5585, vl_2_5585, vl_3_5585, vl_4_5585, vl_5_5585, vl_6_5585, vl_0_7, vl_1_7, vl_2_7, vl_3_7, vl_4_7, vl_5_7, vl_6_7]
        rw [h44, nI_1, nI_ltI (by omega) (by omega), nI_eq (by omega) (by omega), nI_leI (by omega) (by omega)]
        refine ⟨fun c3 => k187 ho (Or.inl c3), fun c3 => ⟨fun c4 => plain (fun z => z.elim c3 (fun y => c4 y.1)), fun c4 => ⟨fun c5 => plain (fun z => z.elim c3 (fun y => by omega)), fun c5 => k187 ho (Or.inr ⟨c4, by omega⟩)⟩⟩⟩
      refine ⟨vp_in_nI (by omega) (by omega), s_leftOf hd hp (by omega) ⟨fun cl => stay (fun y => (lz.mp cl) (okVi_iff.mp y).2.1), fun cl => ?_⟩⟩
      have hl : 1 ≤ leftR F p t := Decidable.of_not_not (fun y => cl (lz.mpr y))
      refine ⟨fun ck => ?_, fun ck => ?_⟩
      · have hk1 : 1 ≤ k := by
          rcases Nat.eq_zero_or_pos k with rfl | c
          · exact absurd rfl ck
          · exact c
        simp (disch := decide) only [oi_gI, oi_gJ, oi_gP, oi_pI, oi_pZ, oi_pJ, oi_oK, oi_aI hd, oi_aZ hd, oi_aJ hd, oi_sI hd, oi_sZ hd, oi_sJ hd, mI_1, mI_2, mJ_1, mJ_2, mJ_3, mA_1, mA_2, mA_3, mA_4, mL_1, mL_2, mL_3, mL_4, mK, Nat.reduceEqDiff, if_true, if_false, ite_true, ite_false, true_and, Nat.reduceLT, reduceIte, reduceCtorEq, cl_0, cl_1, cl_2, cl_3, cl_4, cl_5, cl_6, cl_7, cl_8, cl_9, cl_10, cl_11, cl_12, cl_13, cl_14, cl_15, vl_0_5585, vl_1_5585, vl_2_5585, vl_3_5585, vl_4_5585, vl_5_5585, vl_6_5585, vl_0_7, vl_1_7, vl_2_7, vl_3_7, vl_4_7, vl_5_7, vl_6_7]
        have a1 := (hA (k - 1) (by omega)).1
        have a2 := hf6 (k - 1) (by omega)
        rw [nI_s1 hk1, nI_clamp (by omega), upd_ne _ _ (by omega), lit_nI 126, a1, nIadd, nI_clamp (by omega), hGN _ (by omega)]
        refine ⟨vp_in_nI (by omega) (by omega), vp_in_nI (by omega) (by omega), ?_⟩
        have e : F (126 + f (k - 1)) = frV F p f k := by
          unfold frV
          rw [if_neg (by omega)]
        rw [e]
        exact k121 hl
      · have hk0 : k = 0 := by
          rw [show (0 : Int32) = nI 0 from rfl, nI_eq (by omega) (by omega)] at ck
          exact ck
        simp (disch := decide) only [oi_gI, oi_gJ, oi_gP, oi_pI, oi_pZ, oi_pJ, oi_oK, oi_aI hd, oi_aZ hd, oi_aJ hd, oi_sI hd, oi_sZ hd, oi_sJ hd, mI_1, mI_2, mJ_1, mJ_2, mJ_3, mA_1, mA_2, mA_3, mA_4, mL_1, mL_2, mL_3, mL_4, mK, Nat.reduceEqDiff, if_true, if_false, ite_true, ite_false, true_and, Nat.reduceLT, reduceIte, reduceCtorEq, cl_0, cl_1, cl_2, cl_3, cl_4, cl_5, cl_6, cl_7, cl_8, cl_9, cl_10, cl_11, cl_12, cl_13, cl_14, cl_15, vl_0_5585, vl_1_5585, vl_2_5585, vl_3_5585, vl_4_5585, vl_5_5585, vl_6_5585, vl_0_7, vl_1_7, vl_2_7, vl_3_7, vl_4_7, vl_5_7, vl_6_7]
        rw [lit_nI 138, nIadd, nI_clamp (by omega), hGN _ (by omega)]
        have e : F (138 + p) = frV F p f k := by
          unfold frV
          rw [if_pos hk0]
        rw [e]
        exact ⟨vp_in_nI (by omega) (by omega), k121 hl⟩
  · obtain rfl : k = 0 := by dsimp only at hk; omega
    show -1 ≤ (upd (M.2.2.1 41) 0 (-1) 0).toInt ∧ (upd (M.2.2.1 41) 0 (-1) 0).toInt < (H : Int)
    rw [upd_self]
    omega
  · obtain rfl : i = 0 := by dsimp only at hi; omega
    show upd (M.2.2.1 42) 0 0 0 = nI 0 ∧ 0 ≤ n
    rw [upd_self]
    exact ⟨rfl, Nat.zero_le _⟩
  · obtain rfl : k = 0 := by dsimp only at hk; omega
    show atV F p n 0 (fun _ => 0) (fun _ => 0) ((upd (M.2.2.1 41) 0 (-1) 0).toInt + 1).toNat (0, 0, fun _ => 0)
    rw [upd_self, zm]
    exact atV_st rfl
end VE
