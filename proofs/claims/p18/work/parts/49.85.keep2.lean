/-! LAYER 2, the reference: keep(), as a whole -/
theorem kv_congr {W y l m : Nat} {g g' : Nat → Int32} (h : g' (21 * y + 21 + (l - m)) = g (21 * y + 21 + (l - m))) : kv W g' y l m = kv W g y l m := by unfold kv; rw [h]
/-- rows from y on are found -/
def KR (W : Nat → Nat) (g : Nat → Int32) (k n y : Nat) : Prop := (∀ y', y ≤ y' → y' < n → ∀ l, l ≤ k → KP W g y' l) ∧ ∀ y', y ≤ y' → y' ≤ n → ∀ l, l ≤ k → rg (g (21 * y' + l)) 0 (1980 * (8 - y'))
section REF35
variable {S : hS} {o : Nat} {ad : Nat → Nat} {M : mS} {mT : mS}
theorem f_kp187 (hd : mD o ad) {M0 : mS} (hM : mOk mT M0) {q : Int32 → hS → Prop} {e k n : Nat} {v4 : Int32} (he : e < 6) (hk : k ≤ 20) (hn : n ≤ 8) (hv : -1 ≤ v4.toInt ∧ v4.toInt < n) (hF0 : KF M0 M) (hKP : ∀ y, y < n → ∀ l, l ≤ k → KP (Wy M0 e) (M.2.2.1 48) y l) (h : ∀ r N, mOk mT N → q r (ov S o ad N)) : ∃ t, w_X12_keep_b187 q t (ov S o ad M) o (nI e) (nI k) v4 (nI k) 0 0 := by
  refine loop_m (σ := mS × Nat × Int32 × Nat) (fun t s => w_X12_keep_b187 q t (ov S o ad s.1) o (nI e) (nI k) v4 (nI s.2.1) s.2.2.1 (nI s.2.2.2)) (fun s => Fz M s.1 ∧ s.2.1 ≤ k ∧ s.2.2.2 ≤ n) (fun s => n - s.2.2.2) ?_ (M, k, 0, 0) ⟨Fz.rf, Nat.le_refl _, Nat.zero_le _⟩
  rintro t ⟨N, L, mm, y⟩ ⟨hF, hL, hy⟩ ih
  dsimp only at hF hL hy ih ⊢
  have hN : mOk mT N := mOk_z hF (hF0.ok hM)
  rw [w_X12_keep_b187]
  simp (disch := decide) only [oi_gI, oi_gJ, oi_gP, oi_pI, oi_pZ, oi_pJ, oi_oK, oi_aI hd, oi_aZ hd, oi_aJ hd, oi_sI hd, oi_sZ hd, oi_sJ hd, mI_1, mI_2, mJ_1, mJ_2, mJ_3, mA_1, mA_2, mA_3, mA_4, mL_1, mL_2, mL_3, mL_4, mK, Nat.reduceEqDiff, if_true, if_false, ite_true, ite_false, true_and, Nat.reduceLT, reduceIte, reduceCtorEq, cl_0, cl_1, cl_2, cl_3, cl_4, cl_5, cl_6, cl_7, cl_8, cl_9, cl_10, cl_11, cl_12, cl_13, cl_14, cl_15, vl_0_5585, vl_1_5585, vl_2_5585, vl_3_5585, vl_4_5585, vl_5_5585, vl_6_5585, vl_0_7, vl_1_7, vl_2_7, vl_3_7, vl_4_7, vl_5_7, vl_6_7]
  rw [i32lt, nI_toInt (by omega)]
  refine ⟨fun c => ⟨fun _ => h _ _ hN, fun _ => ⟨vp_in_nI (by omega) (by omega), h _ _ hN⟩⟩, fun c => ?_⟩
  obtain ⟨mw, hmw, hkv⟩ := hKP y (by omega) L hL
  refine loop_m (σ := mS × Nat) (fun t' s => w_X12_keep_b197 q (fun S v0 v1 v2 v4 v5 v6 v7 => w_X12_keep_b187 q t S v0 v1 v2 v4 v5 v6 v7) t' (ov S o ad s.1) o (nI e) (nI k) v4 (nI L) (nI s.2) (nI y)) (fun s => Fz M s.1 ∧ s.2 ≤ mw) (fun s => mw - s.2) ?_ (N, 0) ⟨hF, Nat.zero_le _⟩
  rintro t' ⟨P, m⟩ ⟨hP, hm⟩ ih'
  dsimp only at hP hm ih' ⊢
  have hPok : mOk mT P := mOk_z hP (hF0.ok hM)
  rw [w_X12_keep_b197]
  refine ⟨ov_oK, f_keptBy hd hPok he (by omega) (by omega) (by omega) (fun Q hQ => ?_)⟩
  have hMQ := hP.tr hQ
  have eW : Wy P e y = Wy M0 e y := (hF0.z hP).W e y
  simp (disch := decide) only [oi_gI, oi_gJ, oi_gP, oi_pI, oi_pZ, oi_pJ, oi_oK, oi_aI hd, oi_aZ hd, oi_aJ hd, oi_sI hd, oi_sZ hd, oi_sJ hd, mI_1, mI_2, mJ_1, mJ_2, mJ_3, mA_1, mA_2, mA_3, mA_4, mL_1, mL_2, mL_3, mL_4, mK, Nat.reduceEqDiff, if_true, if_false, ite_true, ite_false, true_and, Nat.reduceLT, reduceIte, reduceCtorEq, cl_0, cl_1, cl_2, cl_3, cl_4, cl_5, cl_6, cl_7, cl_8, cl_9, cl_10, cl_11, cl_12, cl_13, cl_14, cl_15, vl_0_5585, vl_1_5585, vl_2_5585, vl_3_5585, vl_4_5585, vl_5_5585, vl_6_5585, vl_0_7, vl_1_7, vl_2_7, vl_3_7, vl_4_7, vl_5_7, vl_6_7]
  rw [lit_nI 21, nImul, nIadd, nI_clamp (by omega), hMQ.r, hP.r, eW]
  refine ⟨vp_in_nI (by omega) (by omega), fun c2 y1 e1 y2 e2 => ?_, fun c2 y1 e1 => ?_⟩
  · rw [e1, e2, nIsub (by omega), nI_1]
    exact ih (Q, L - m, nI m, y + 1) ⟨hMQ, by dsimp only; omega, by dsimp only; omega⟩ (by dsimp only; omega)
  · rw [e1, nI_1]
    have hne : m ≠ mw := fun z => c2 (by rw [hkv, z])
    exact ih' (Q, m + 1) ⟨hMQ, by dsimp only; omega⟩ (by dsimp only; omega)
theorem f_kp89 (hd : mD o ad) {M0 : mS} (hM : mOk mT M0) {q : Int32 → hS → Prop} {e k n : Nat} {v4 : Int32} (he : e < 6) (hk : k ≤ 20) (hn : n ≤ 8) (hn1 : 1 ≤ n) (hv : -1 ≤ v4.toInt ∧ v4.toInt < n) (hF0 : KF M0 M) (hR : KR (Wy M0 e) (M.2.2.1 48) k n n) (h : ∀ r N, mOk mT N → q r (ov S o ad N)) : ∃ t, w_X12_keep_b89 q t (ov S o ad M) o (nI e) (nI k) v4 (nI n - 1) := by
  have z0 : (0 : Int32).toInt = 0 := by decide
  refine loop_m (σ := mS × Nat) (fun t s => w_X12_keep_b89 q t (ov S o ad s.1) o (nI e) (nI k) v4 (nI s.2 - 1)) (fun s => KF M0 s.1 ∧ KR (Wy M0 e) (s.1.2.2.1 48) k n s.2 ∧ s.2 ≤ n) (fun s => s.2) ?_ (M, n) ⟨hF0, hR, Nat.le_refl _⟩
  rintro t ⟨N, y⟩ ⟨hF, hKR, hy⟩ ih
  dsimp only at hF hKR hy ih ⊢
  rw [w_X12_keep_b89]
  have hlt : nI y - 1 < 0 ↔ y = 0 := by
    rw [i32lt, fb_subI (by rw [nI_toInt (by omega), show (1 : Int32).toInt = 1 by decide]; omega) (by rw [nI_toInt (by omega), show (1 : Int32).toInt = 1 by decide]; omega), nI_toInt (by omega), z0, show (1 : Int32).toInt = 1 by decide]
    omega
  rw [hlt]
  refine ⟨fun c => ?_, fun c => ?_⟩
  · subst c
    exact f_kp187 hd hM he hk hn hv hF (fun y hy l hl => hKR.1 y (Nat.zero_le _) hy l hl) h
  obtain ⟨y, rfl⟩ : ∃ y', y = y' + 1 := ⟨y - 1, by omega⟩
  rw [nI_s1 (by omega), show y + 1 - 1 = y from rfl]
  -- the row y
  refine loop_m (σ := mS × Nat) (fun t' s => w_X12_keep_b97 q (fun S v0 v1 v2 v4 v5 => w_X12_keep_b89 q t S v0 v1 v2 v4 v5) t' (ov S o ad s.1) o (nI e) (nI k) v4 (nI y) (nI s.2)) (fun s => KF M0 s.1 ∧ KR (Wy M0 e) (s.1.2.2.1 48) k n (y + 1) ∧ s.2 ≤ k + 1 ∧ ∀ l, l < s.2 → KP (Wy M0 e) (s.1.2.2.1 48) y l ∧ rg (s.1.2.2.1 48 (21 * y + l)) 0 (1980 * (8 - y))) (fun s => k + 1 - s.2) ?_ (N, 0) ⟨hF, hKR, Nat.zero_le _, fun l hl => absurd hl (by simp)⟩
  rintro t' ⟨P, l⟩ ⟨hP, hKP, hl, hdone⟩ ih'
  dsimp only at hP hKP hl hdone ih' ⊢
  rw [w_X12_keep_b97]
  have hlt2 : nI k < nI l ↔ k < l := by rw [i32lt, nI_toInt (by omega), nI_toInt (by omega)]; omega
  rw [hlt2]
  refine ⟨fun c2 y1 e1 => ?_, fun c2 => ?_⟩
  · rw [e1, ← Int32.sub_eq_add_neg]
    refine ih (P, y) ⟨hP, ⟨fun y' a1 a2 l' a3 => ?_, fun y' a1 a2 l' a3 => ?_⟩, by dsimp only; omega⟩ (by dsimp only; omega)
    · by_cases ey : y' = y
      · subst ey; exact (hdone l' (by omega)).1
      · exact hKP.1 y' (by dsimp only at a1; omega) a2 l' a3
    · by_cases ey : y' = y
      · subst ey; exact (hdone l' (by omega)).2
      · exact hKP.2 y' (by dsimp only at a1; omega) a2 l' a3
  · have hB : 1980 * (8 - (y + 1)) ≤ 100000 := by omega
    refine f_kp109 hd (hP.ok hM) he (by omega) hk (by omega) hB (fun j hj => ?_) (fun Q x hQ hx hm => ?_)
    · have := hKP.2 (y + 1) (Nat.le_refl _) (by omega) j (by omega)
      rw [show 21 * (y + 1) + j = 21 * y + 21 + j by omega] at this
      exact ⟨this.1, by have := this.2; omega⟩
    · rw [hP.W] at hm
      have e48 : ∀ i, (mA Q 48 (upd (P.2.2.1 48) (21 * y + l) x)).2.2.1 48 i = upd (P.2.2.1 48) (21 * y + l) x i := fun i => by simp [mA_3]
      have kc : ∀ y' l' m', y ≤ y' → l' ≤ k → kv (Wy M0 e y') ((mA Q 48 (upd (P.2.2.1 48) (21 * y + l) x)).2.2.1 48) y' l' m' = kv (Wy M0 e y') (P.2.2.1 48) y' l' m' := fun y' l' m' a1 a2 => kv_congr (by rw [e48, upd_ne _ _ (by omega)])
      have rx : rg x 0 (1980 * (8 - y)) := ⟨hx.1, by have := hx.2; omega⟩
      refine ih' (mA Q 48 (upd (P.2.2.1 48) (21 * y + l) x), l + 1) ⟨(hP.z hQ).g, ⟨fun y' a1 a2 l' a3 => ?_, fun y' a1 a2 l' a3 => ?_⟩, by dsimp only; omega, fun l' hl' => ?_⟩ (by dsimp only; omega)
      · obtain ⟨m, m1, m2⟩ := hKP.1 y' a1 a2 l' a3
        refine ⟨m, m1, ?_⟩
        dsimp only
        rw [kc y' l' m (by omega) a3, e48, upd_ne _ _ (by omega)]
        exact m2
      · dsimp only
        rw [e48, upd_ne _ _ (by omega)]; exact hKP.2 y' a1 a2 l' a3
      · dsimp only at hl'
        by_cases el : l' = l
        · subst el
          obtain ⟨m, m1, m2⟩ := hm
          refine ⟨⟨m, m1, ?_⟩, ?_⟩
          · dsimp only
            rw [kc y l' m (Nat.le_refl _) (by omega), e48, upd_self]; exact m2
          · dsimp only
            rw [e48, upd_self]; exact rx
        · obtain ⟨⟨m, m1, m2⟩, d2⟩ := hdone l' (by omega)
          refine ⟨⟨m, m1, ?_⟩, ?_⟩
          · dsimp only
            rw [kc y l' m (Nat.le_refl _) (by omega), e48, upd_ne _ _ (by omega)]; exact m2
          · dsimp only
            rw [e48, upd_ne _ _ (by omega)]; exact d2
theorem p_keep (hd : mD o ad) (hM : mOk mT M) {q : Int32 → hS → Prop} {a b c d : Int32} (h : ∀ r N, mOk mT N → q r (ov S o ad N)) : w_X12_keep q (ov S o ad M) o a b c d := by
  have hM0 : mOk mT (mI M 0 0) := mOk_i hM (by omega)
  have b1 := hM0.1.1.2
  unfold w_X12_keep
  simp (disch := decide) only [oi_gI, oi_gJ, oi_gP, oi_pI, oi_pZ, oi_pJ, oi_oK, oi_aI hd, oi_aZ hd, oi_aJ hd, oi_sI hd, oi_sZ hd, oi_sJ hd, mI_1, mI_2, mJ_1, mJ_2, mJ_3, mA_1, mA_2, mA_3, mA_4, mL_1, mL_2, mL_3, mL_4, mK, Nat.reduceEqDiff, if_true, if_false, ite_true, ite_false, true_and, Nat.reduceLT, reduceIte, reduceCtorEq, cl_0, cl_1, cl_2, cl_3, cl_4, cl_5, cl_6, cl_7, cl_8, cl_9, cl_10, cl_11, cl_12, cl_13, cl_14, cl_15, vl_0_5585, vl_1_5585, vl_2_5585, vl_3_5585, vl_4_5585, vl_5_5585, vl_6_5585, vl_0_7, vl_1_7, vl_2_7, vl_3_7, vl_4_7, vl_5_7, vl_6_7]
  refine s_isHouse hd (fun h1 h2 => ⟨fun z => absurd z (by decide), fun _ => s_in (fun x1 x2 => ⟨fun z => absurd z (by decide), fun _ => s_in (fun y1 y2 => ⟨fun z => absurd z (by decide), fun _ => s_in (fun w1 w2 => ⟨fun _ => ?_, fun z => absurd z (by decide)⟩) (fun _ => ⟨fun z => absurd rfl z, fun _ => h _ _ hM0⟩)⟩) (fun _ => ⟨fun _ => h _ _ hM0, fun z => absurd rfl z⟩)⟩) (fun _ => ⟨fun _ => h _ _ hM0, fun z => absurd rfl z⟩)⟩) (fun _ => ⟨fun _ => h _ _ hM0, fun z => absurd rfl z⟩)
  obtain ⟨e, he, rfl⟩ := rg_in 6 (by omega) h1 (by omega)
  rw [i64toInt] at x1 x2 y1 y2 w1
  have t0 : (0 : Int64).toInt = 0 := by decide
  have t20 : (20 : Int64).toInt = 20 := by decide
  have t1 : (1 : Int64).toInt = 1 := by decide
  have t8 : (8 : Int64).toInt = 8 := by decide
  have tm : (-1 : Int64).toInt = -1 := by decide
  have w2 := i64s1 _ _ w2
  obtain ⟨k, hk, rfl⟩ := rg_in (z := b) 21 (by omega) (by omega) (by omega)
  obtain ⟨n, hn, rfl⟩ := rg_in (z := c) 9 (by omega) (by omega) (by omega)
  rw [nI_toInt (by omega)] at y1 w2
  have key := loop_m (σ := (Nat → Int32) × Nat) (fun m s => w_X12_keep_b58 q m (ov S o ad (mA (mI M 0 0) 48 s.1)) o (nI e) (nI k) (nI n) d (nI s.2)) (fun s => s.2 ≤ 21 ∧ ∀ j, j < s.2 → s.1 (21 * n + j) = 0) (fun s => 21 - s.2) ?_ ((mI M 0 0).2.2.1 48, 0) ⟨by omega, fun j hj => absurd hj (by simp)⟩
  · rw [mA_self] at key
    exact key
  rintro m ⟨g, i⟩ ⟨hi, hg⟩ ih
  dsimp only at hi hg ih ⊢
  rw [w_X12_keep_b58, lit_nI 21, nI_leI (by omega) (by omega)]
  refine ⟨fun c1 y ey => ?_, fun c1 => ?_⟩
  · rw [ey]
    refine f_kp89 hd hM0 he (by omega) (by omega) (by omega) ⟨by omega, by omega⟩ (KF.rf.g) ⟨fun y' a1 a2 => by omega, fun y' a1 a2 l hl => ?_⟩ h
    obtain rfl : y' = n := by omega
    have e48 : (mA (mI M 0 0) 48 g).2.2.1 48 (21 * y' + l) = 0 := by
      rw [mA_3, if_pos rfl]
      exact hg l (by omega)
    rw [e48]
    exact ⟨by decide, by rw [show (0 : Int32).toInt = 0 by decide]; omega⟩
  · simp (disch := decide) only [oi_gI, oi_gJ, oi_gP, oi_pI, oi_pZ, oi_pJ, oi_oK, oi_aI hd, oi_aZ hd, oi_aJ hd, oi_sI hd, oi_sZ hd, oi_sJ hd, mI_1, mI_2, mJ_1, mJ_2, mJ_3, mA_1, mA_2, mA_3, mA_4, mL_1, mL_2, mL_3, mL_4, mK, Nat.reduceEqDiff, if_true, if_false, ite_true, ite_false, true_and, Nat.reduceLT, reduceIte, reduceCtorEq, cl_0, cl_1, cl_2, cl_3, cl_4, cl_5, cl_6, cl_7, cl_8, cl_9, cl_10, cl_11, cl_12, cl_13, cl_14, cl_15, vl_0_5585, vl_1_5585, vl_2_5585, vl_3_5585, vl_4_5585, vl_5_5585, vl_6_5585, vl_0_7, vl_1_7, vl_2_7, vl_3_7, vl_4_7, vl_5_7, vl_6_7, mA_mA]
    rw [nImul, nIadd, nI_clamp (by omega)]
    refine ⟨vp_in_nI (by omega) (by omega), fun y ey => ?_⟩
    rw [ey, nI_1]
    refine ih (upd g (21 * n + i) 0, i + 1) ⟨by dsimp only; omega, fun j hj => ?_⟩ (by dsimp only; omega)
    dsimp only at hj ⊢
    by_cases ej : j = i
    · subst ej; rw [upd_self]
    · rw [upd_ne _ _ (by omega)]; exact hg j (by omega)
end REF35
