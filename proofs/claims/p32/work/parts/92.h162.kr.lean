/-! RINGS KEPT, THE REFERENCE'S QUESTION -/
def mnK (W : Nat → Nat) (n k : Nat) : Nat → Nat
  | 0 => 0
  | y + 1 => chN W n y (lfK W n k y)
section KR3
variable {S : hS} {o : Nat} {ad : Nat → Nat} {M N : mS} {mT : mS} {T : aS} {rs : Nat} {n : Nat}
theorem KF.RR (hF : KF M N) (hR : RR M rs T) : RR N rs T := hR.fx hF.1 (by simp) (by simp) (by simp)
theorem x_keptBy (hd : mD o ad) (hM : mOk mT M) (hR : RR M rs T) (hA : aB T) {q : Int32 → hS → Prop} {e y l m v : Nat} (he : e < 6) (hy : y < 8) (hl : l ≤ 20) (hm : m ≤ l) (hv : M.2.2.1 48 (21 * y + 21 + (l - m)) = nI v) (h : ∀ N, Fz M N → q (nI (wa (Wx T e y) m + v)) (ov S o ad N)) : w_X12_keptBy q (ov S o ad M) o (nI e) (nI y) (nI l) (nI m) := by
  have y5 := hA.1.1 5 (by omega)
  rw [show rLo 5 = 0 by decide, show rHi 5 = 999 by decide] at y5
  have W9 : ∀ y, Wx T e y ≤ 99 := fun y => (Wx_e T e y).2
  have e5 : (M.2.2.1 3 5).toInt = iR T.1.1 5 := hR.iR (by omega)
  have ey : (M.2.2.1 3 5 + nI y).toInt = iR T.1.1 5 + y := by rw [fb_addI (by rw [nI_toInt (by omega), e5]; omega) (by rw [nI_toInt (by omega), e5]; omega), nI_toInt (by omega), e5]
  refine ⟨ov_oK, s_yearNow hd ⟨ov_oK, ⟨ov_oK, x_worthOf hd hM (hR.QM hA) he (by rw [ey]; omega) (fun N hF => ?_)⟩⟩⟩
  rw [ey, hR.1.1, (Wx_e T e y).1, wI_nI (by have := W9 y; omega)]
  have W9' := W9 y
  refine loop_m (σ := Nat) (fun t s => w_X12_worthOfAll_b14 _ t (ov S o ad N) (nI m) (nI (wa (Wx T e y) s)) (nI (Wx T e y)) (nI s)) (fun s => s ≤ m) (fun s => m - s) ?_ 0 (Nat.zero_le _)
  rintro t k hk ih
  have fin : wa (Wx T e y) k = wa (Wx T e y) m → gP (ov S o ad N) o 12 48 (fun x14 => aI (ov S o ad N) x14 ((((21 * nI y) + 21) + nI l) - nI m) (fun x29 => q (nI (wa (Wx T e y) k) + x29) (ov S o ad N))) := by
    intro ek
    simp (disch := decide) only [oi_gI, oi_gJ, oi_gP, oi_pI, oi_pZ, oi_pJ, oi_oK, oi_aI hd, oi_aZ hd, oi_aJ hd, oi_sI hd, oi_sZ hd, oi_sJ hd, mI_1, mI_2, mJ_1, mJ_2, mJ_3, mA_1, mA_2, mA_3, mA_4, mL_1, mL_2, mL_3, mL_4, mK, Nat.reduceEqDiff, if_true, if_false, ite_true, ite_false, true_and, Nat.reduceLT, reduceIte, reduceCtorEq, cl_0, cl_1, cl_2, cl_3, cl_4, cl_5, cl_6, cl_7, cl_8, cl_9, cl_10, cl_11, cl_12, cl_13, cl_14, cl_15, vl_0_5585, vl_1_5585, vl_2_5585, vl_3_5585, vl_4_5585, vl_5_5585, vl_6_5585, vl_0_7, vl_1_7, vl_2_7, vl_3_7, vl_4_7, vl_5_7, vl_6_7]
    rw [ek, lit_nI 21, nImul, nIadd, nIadd, nIsub (by omega), nI_clamp (by omega), hF.r, show 21 * y + 21 + l - m = 21 * y + 21 + (l - m) by omega, hv, nIadd]
    exact ⟨vp_in_nI (by omega) (by omega), h N hF⟩
  rw [w_X12_worthOfAll_b14, nI_leI (by omega) (by omega), nI_leI (by omega) (by omega)]
  refine ⟨fun c => fin (by rw [show k = m by omega]), fun c => ⟨fun c2 => fin ?_, fun c2 y1 e1 y2 e2 => ?_⟩⟩
  · have := wa_stop c2 (m - k)
    rw [show k + (m - k) = m by omega] at this
    exact this.symm
  · rw [e1, e2, nI_1, nIsub (by omega), nIadd]
    exact ih (k + 1) (by omega) (by omega)
theorem x_kp187 (hd : mD o ad) {M0 : mS} (hM : mOk mT M0) (hR : RR M0 rs T) (hA : aB T) {q : Int32 → hS → Prop} {e k : Nat} {v4 : Int32} (he : e < 6) (hk : k ≤ 20) (hn : n ≤ 8) (hv : -1 ≤ v4.toInt ∧ v4.toInt < n) (hF0 : KF M0 M) (hK : ∀ y', y' ≤ n → ∀ l, l ≤ k → M.2.2.1 48 (21 * y' + l) = nI (Kv (Wx T e) n y' l)) (h1 : v4 = -1 → ∀ N, KF M0 N → q (nI (Kv (Wx T e) n 0 k)) (ov S o ad N)) (h2 : ∀ d, v4 = nI d → d < n → ∀ N, KF M0 N → q (nI (chN (Wx T e) n d (lfK (Wx T e) n k d))) (ov S o ad N)) : ∃ t, w_X12_keep_b187 q t (ov S o ad M) o (nI e) (nI k) v4 (nI k) 0 0 := by
  have W9 : ∀ y, Wx T e y ≤ 99 := fun y => (Wx_e T e y).2
  have zm : (-1 : Int32).toInt = -1 := by decide
  refine loop_m (σ := mS × Nat) (fun t s => w_X12_keep_b187 q t (ov S o ad s.1) o (nI e) (nI k) v4 (nI (lfK (Wx T e) n k s.2)) (nI (mnK (Wx T e) n k s.2)) (nI s.2)) (fun s => Fz M s.1 ∧ s.2 ≤ n ∧ (s.2 : Int) ≤ v4.toInt + 1) (fun s => n - s.2) ?_ (M, 0) ⟨Fz.rf, Nat.zero_le _, by show ((0 : Nat) : Int) ≤ _; omega⟩
  rintro t ⟨N, y⟩ ⟨hF, hy, hy2⟩ ih
  dsimp only at hF hy hy2 ih ⊢
  have ll := lfK_le (W := Wx T e) (n := n) (k := k) y
  have hNF := hF0.z hF
  rw [w_X12_keep_b187]
  simp (disch := decide) only [oi_gI, oi_gJ, oi_gP, oi_pI, oi_pZ, oi_pJ, oi_oK, oi_aI hd, oi_aZ hd, oi_aJ hd, oi_sI hd, oi_sZ hd, oi_sJ hd, mI_1, mI_2, mJ_1, mJ_2, mJ_3, mA_1, mA_2, mA_3, mA_4, mL_1, mL_2, mL_3, mL_4, mK, Nat.reduceEqDiff, if_true, if_false, ite_true, ite_false, true_and, Nat.reduceLT, reduceIte, reduceCtorEq, cl_0, cl_1, cl_2, cl_3, cl_4, cl_5, cl_6, cl_7, cl_8, cl_9, cl_10, cl_11, cl_12, cl_13, cl_14, cl_15, vl_0_5585, vl_1_5585, vl_2_5585, vl_3_5585, vl_4_5585, vl_5_5585, vl_6_5585, vl_0_7, vl_1_7, vl_2_7, vl_3_7, vl_4_7, vl_5_7, vl_6_7]
  rw [i32lt, nI_toInt (by omega)]
  refine ⟨fun c => ⟨fun cd => ?_, fun cd => ?_⟩, fun c => ?_⟩
  · have hd0 : 0 ≤ v4.toInt := by
      by_cases z : v4.toInt = -1
      · exact absurd (Int32.toInt_inj.mp (by rw [z, zm])) cd
      · omega
    obtain ⟨dd, hdd, rfl⟩ := pIx 8 (by omega) hd0 (by omega)
    rw [nI_toInt (by omega)] at hy2 c hv
    have : y = dd + 1 := by omega
    rw [this]
    exact h2 dd rfl (by omega) N hNF
  · rw [nI_clamp (by omega)]
    refine ⟨vp_in_nI (by omega) (by omega), ?_⟩
    have := hK 0 (Nat.zero_le _) k (Nat.le_refl _)
    rw [show 21 * 0 + k = k by omega] at this
    rw [hF.r, this]
    exact h1 cd N hNF
  have ch := chN_at (W := Wx T e) (n := n) (y := y) (l := lfK (Wx T e) n k y) (by omega)
  refine loop_m (σ := mS × Nat) (fun t' s => w_X12_keep_b197 q (fun S v0 v1 v2 v4 v5 v6 v7 => w_X12_keep_b187 q t S v0 v1 v2 v4 v5 v6 v7) t' (ov S o ad s.1) o (nI e) (nI k) v4 (nI (lfK (Wx T e) n k y)) (nI s.2) (nI y)) (fun s => Fz M s.1 ∧ s.2 ≤ chN (Wx T e) n y (lfK (Wx T e) n k y)) (fun s => chN (Wx T e) n y (lfK (Wx T e) n k y) - s.2) ?_ (N, 0) ⟨hF, Nat.zero_le _⟩
  rintro t' ⟨P, m⟩ ⟨hP, hm⟩ ih'
  dsimp only at hP hm ih' ⊢
  have hPF := hF0.z hP
  have b1 := Kv_le (n := n) W9 _ (y + 1) (lfK (Wx T e) n k y - m) rfl (by omega)
  have b2 := Kv_le (n := n) W9 _ y (lfK (Wx T e) n k y) rfl (by omega)
  have b3 := wa_le (W9 y) m
  rw [w_X12_keep_b197]
  refine ⟨ov_oK, x_keptBy hd (hPF.ok hM) (hPF.RR hR) hA he (by omega) (by omega) (by omega) (v := Kv (Wx T e) n (y + 1) (lfK (Wx T e) n k y - m)) ?_ (fun Q hQ => ?_)⟩
  · rw [hP.r, show 21 * y + 21 + (lfK (Wx T e) n k y - m) = 21 * (y + 1) + (lfK (Wx T e) n k y - m) by omega]
    exact hK (y + 1) (by omega) _ (by omega)
  have hMQ := hP.tr hQ
  simp (disch := decide) only [oi_gI, oi_gJ, oi_gP, oi_pI, oi_pZ, oi_pJ, oi_oK, oi_aI hd, oi_aZ hd, oi_aJ hd, oi_sI hd, oi_sZ hd, oi_sJ hd, mI_1, mI_2, mJ_1, mJ_2, mJ_3, mA_1, mA_2, mA_3, mA_4, mL_1, mL_2, mL_3, mL_4, mK, Nat.reduceEqDiff, if_true, if_false, ite_true, ite_false, true_and, Nat.reduceLT, reduceIte, reduceCtorEq, cl_0, cl_1, cl_2, cl_3, cl_4, cl_5, cl_6, cl_7, cl_8, cl_9, cl_10, cl_11, cl_12, cl_13, cl_14, cl_15, vl_0_5585, vl_1_5585, vl_2_5585, vl_3_5585, vl_4_5585, vl_5_5585, vl_6_5585, vl_0_7, vl_1_7, vl_2_7, vl_3_7, vl_4_7, vl_5_7, vl_6_7]
  rw [lit_nI 21, nImul, nIadd, nI_clamp (by omega), hMQ.r, hK y (by omega) _ ll, nI_eq (by omega) (by omega)]
  refine ⟨vp_in_nI (by omega) (by omega), fun c2 y1 e1 y2 e2 => ?_, fun c2 y1 e1 => ?_⟩
  · have em : m = chN (Wx T e) n y (lfK (Wx T e) n k y) := by
      by_cases z : m < chN (Wx T e) n y (lfK (Wx T e) n k y)
      · exact absurd c2 (ch.2.2 m z)
      · omega
    rw [e1, e2, nIsub (by omega), nI_1, em]
    exact ih (Q, y + 1) ⟨hMQ, by dsimp only; omega, by dsimp only; omega⟩ (by dsimp only; omega)
  · rw [e1, nI_1]
    have hne : m ≠ chN (Wx T e) n y (lfK (Wx T e) n k y) := fun z => c2 (by rw [z]; exact ch.2.1)
    exact ih' (Q, m + 1) ⟨hMQ, by dsimp only; omega⟩ (by dsimp only; omega)
theorem x_kp89 (hd : mD o ad) {M0 : mS} (hM : mOk mT M0) (hR : RR M0 rs T) (hA : aB T) {q : Int32 → hS → Prop} {e k : Nat} {v4 : Int32} (he : e < 6) (hk : k ≤ 20) (hn : n ≤ 8) (hn1 : 1 ≤ n) (hv : -1 ≤ v4.toInt ∧ v4.toInt < n) (hF0 : KF M0 M) (hz : ∀ l, l ≤ k → M.2.2.1 48 (21 * n + l) = nI 0) (h1 : v4 = -1 → ∀ N, KF M0 N → q (nI (Kv (Wx T e) n 0 k)) (ov S o ad N)) (h2 : ∀ d, v4 = nI d → d < n → ∀ N, KF M0 N → q (nI (chN (Wx T e) n d (lfK (Wx T e) n k d))) (ov S o ad N)) : ∃ t, w_X12_keep_b89 q t (ov S o ad M) o (nI e) (nI k) v4 (nI n - 1) := by
  have W9 : ∀ y, Wx T e y ≤ 99 := fun y => (Wx_e T e y).2
  have lt : ∀ u v : Nat, u < 2 ^ 31 → v < 2 ^ 31 → (nI u < nI v ↔ u < v) := fun u v hu hv => by rw [Int32.lt_iff_toInt_lt, nI_toInt (by omega), nI_toInt (by omega)]; omega
  refine loop_m (σ := mS × Nat) (fun t s => w_X12_keep_b89 q t (ov S o ad s.1) o (nI e) (nI k) v4 (nI s.2 - 1)) (fun s => KF M0 s.1 ∧ s.2 ≤ n ∧ ∀ y', s.2 ≤ y' → y' ≤ n → ∀ l, l ≤ k → s.1.2.2.1 48 (21 * y' + l) = nI (Kv (Wx T e) n y' l)) (fun s => s.2) ?_ (M, n) ⟨hF0, Nat.le_refl _, fun y' a1 a2 l hl => ?_⟩
  · rintro t ⟨N, y⟩ ⟨hF, hy, hK⟩ ih
    dsimp only at hF hy hK ih ⊢
    rw [w_X12_keep_b89]
    cases y with
    | zero => exact ⟨fun _ => x_kp187 hd hM hR hA he hk hn hv hF (fun y' a l hl => hK y' (Nat.zero_le _) a l hl) h1 h2, fun c => absurd (by decide) c⟩
    | succ y =>
      rw [nI_pm1]
      refine ⟨fun c => absurd c (by rw [Int32.lt_iff_toInt_lt, nI_toInt (by omega), show (0 : Int32).toInt = 0 by decide]; omega), fun _ => ?_⟩
      refine loop_m (σ := mS × Nat) (fun t' s => w_X12_keep_b97 q (fun S v0 v1 v2 v4 v5 => w_X12_keep_b89 q t S v0 v1 v2 v4 v5) t' (ov S o ad s.1) o (nI e) (nI k) v4 (nI y) (nI s.2)) (fun s => KF M0 s.1 ∧ s.2 ≤ k + 1 ∧ (∀ y', y + 1 ≤ y' → y' ≤ n → ∀ l, l ≤ k → s.1.2.2.1 48 (21 * y' + l) = nI (Kv (Wx T e) n y' l)) ∧ ∀ l, l < s.2 → s.1.2.2.1 48 (21 * y + l) = nI (Kv (Wx T e) n y l)) (fun s => k + 1 - s.2) ?_ (N, 0) ⟨hF, Nat.zero_le _, hK, fun l hl => absurd hl (Nat.not_lt_zero _)⟩
      rintro t' ⟨P, l⟩ ⟨hP, hl, hKP, hdone⟩ ih'
      dsimp only at hP hl hKP hdone ih' ⊢
      rw [w_X12_keep_b97, lt k l (by omega) (by omega)]
      refine ⟨fun c2 y1 e1 => ?_, fun c2 => ?_⟩
      · rw [e1, nI_am1]
        refine ih (P, y) ⟨hP, by dsimp only; omega, fun y' a1 a2 l' a3 => ?_⟩ (by dsimp only; omega)
        dsimp only at a1 ⊢
        by_cases ey : y' = y
        · rw [ey]; exact hdone l' (by omega)
        · exact hKP y' (by omega) a2 l' a3
      obtain ⟨g, eg⟩ : ∃ g, g = fun m => wa (Wx T e y) m + Kv (Wx T e) n (y + 1) (l - m) := ⟨_, rfl⟩
      have gb : ∀ m, m ≤ l → g m ≤ 20000 := by
        intro m hm
        have b1 := Kv_le (n := n) W9 _ (y + 1) (l - m) rfl (by omega)
        have b3 := wa_le (W9 y) m
        rw [eg]
        dsimp only
        omega
      refine loop_m (σ := mS × Nat) (fun t'' s => w_X12_keep_b109 q (fun S v0 v1 v2 v4 v5 => w_X12_keep_b89 q t S v0 v1 v2 v4 v5) (fun S v0 v1 v2 v4 v5 v6 => w_X12_keep_b97 q (fun S v0 v1 v2 v4 v5 => w_X12_keep_b89 q t S v0 v1 v2 v4 v5) t' S v0 v1 v2 v4 v5 v6) t'' (ov S o ad s.1) o (nI e) (nI k) v4 (nI y) (nI l) (nI (mxN g s.2)) (nI s.2)) (fun s => Fz P s.1 ∧ s.2 ≤ l + 1) (fun s => l + 1 - s.2) ?_ (P, 0) ⟨Fz.rf, Nat.zero_le _⟩
      rintro t'' ⟨Q, m⟩ ⟨hQ, hm⟩ ih''
      dsimp only at hQ hm ih'' ⊢
      have hQF := hP.z hQ
      rw [w_X12_keep_b109]
      unfold w_X12_keep_b143
      rw [lt l m (by omega) (by omega)]
      have mb : mxN g m ≤ 20000 := mxN_le m (fun j hj => gb j (by omega))
      refine ⟨fun c3 => ?_, fun c3 => ⟨ov_oK, x_keptBy hd (hQF.ok hM) (hQF.RR hR) hA he (by omega) (by omega) (by omega) (v := Kv (Wx T e) n (y + 1) (l - m)) ?_ (fun N2 hN2 => ?_)⟩⟩
      · have em : m = l + 1 := by omega
        simp (disch := decide) only [oi_gI, oi_gJ, oi_gP, oi_pI, oi_pZ, oi_pJ, oi_oK, oi_aI hd, oi_aZ hd, oi_aJ hd, oi_sI hd, oi_sZ hd, oi_sJ hd, mI_1, mI_2, mJ_1, mJ_2, mJ_3, mA_1, mA_2, mA_3, mA_4, mL_1, mL_2, mL_3, mL_4, mK, Nat.reduceEqDiff, if_true, if_false, ite_true, ite_false, true_and, Nat.reduceLT, reduceIte, reduceCtorEq, cl_0, cl_1, cl_2, cl_3, cl_4, cl_5, cl_6, cl_7, cl_8, cl_9, cl_10, cl_11, cl_12, cl_13, cl_14, cl_15, vl_0_5585, vl_1_5585, vl_2_5585, vl_3_5585, vl_4_5585, vl_5_5585, vl_6_5585, vl_0_7, vl_1_7, vl_2_7, vl_3_7, vl_4_7, vl_5_7, vl_6_7]
        rw [lit_nI 21, nImul, nIadd, nI_clamp (by omega), hQ.r]
        refine ⟨vp_in_nI (by omega) (by omega), fun y1 e1 => ?_⟩
        rw [e1, nI_1]
        have e48 : ∀ i, (mA Q 48 (upd (P.2.2.1 48) (21 * y + l) (nI (mxN g m)))).2.2.1 48 i = upd (P.2.2.1 48) (21 * y + l) (nI (mxN g m)) i := fun i => by simp [mA_3]
        refine ih' (mA Q 48 (upd (P.2.2.1 48) (21 * y + l) (nI (mxN g m))), l + 1) ⟨hQF.g, by dsimp only; omega, fun y' a1 a2 l' a3 => ?_, fun l' hl' => ?_⟩ (by dsimp only; omega)
        · dsimp only
          rw [e48, upd_ne _ _ (by omega)]
          exact hKP y' a1 a2 l' a3
        · dsimp only at hl' ⊢
          rw [e48]
          by_cases el : l' = l
          · rw [el, upd_self, Kv_s (by omega), ← eg, em]
          · rw [upd_ne _ _ (by omega)]
            exact hdone l' (by omega)
      · rw [hQ.r, show 21 * y + 21 + (l - m) = 21 * (y + 1) + (l - m) by omega]
        exact hKP (y + 1) (Nat.le_refl _) (by omega) _ (by omega)
      · have ge : wa (Wx T e y) m + Kv (Wx T e) n (y + 1) (l - m) = g m := by rw [eg]
        have gm := gb m (by omega)
        rw [ge, nI_leI (by omega) (by omega)]
        have step : ∀ u, u = mxN g (m + 1) → ∀ y145 : Int32, y145 = nI m + 1 → w_X12_keep_b109 q (fun S v0 v1 v2 v4 v5 => w_X12_keep_b89 q t S v0 v1 v2 v4 v5) (fun S v0 v1 v2 v4 v5 v6 => w_X12_keep_b97 q (fun S v0 v1 v2 v4 v5 => w_X12_keep_b89 q t S v0 v1 v2 v4 v5) t' S v0 v1 v2 v4 v5 v6) t'' (ov S o ad N2) o (nI e) (nI k) v4 (nI y) (nI l) (nI u) y145 := by
          intro u eu y145 e145
          rw [eu, e145, nI_1]
          exact ih'' (N2, m + 1) ⟨hQ.tr hN2, by dsimp only; omega⟩ (by dsimp only; omega)
        refine ⟨fun c4 => step _ ?_, fun c4 => step _ ?_⟩
        · rw [mxN, if_neg (by omega)]
        · rw [mxN, if_pos (by omega)]
  · dsimp only at a1
    have : y' = n := by omega
    rw [this, Kv_0]
    exact hz l hl
theorem x_keep (hd : mD o ad) (hM : mOk mT M) (hR : RR M rs T) (hA : aB T) {q : Int32 → hS → Prop} {a b c d : Int32} (k : ∀ N, mOk mT N → RR N rs T → q (spKeep a b c d T) (ov S o ad N)) : w_X12_keep q (ov S o ad M) o a b c d := by
  have hM0 : mOk mT (mI M 0 0) := mOk_i hM (by omega)
  have hR0 : RR (mI M 0 0) rs T := hR.z
  have b0 := rB_0 hA.1
  have i0 : ((mI M 0 0).2.2.1 3 0).toInt = iR T.1.1 0 := hR0.iR (by omega)
  have zm : (-1 : Int32).toInt = -1 := by decide
  unfold spKeep at k
  unfold w_X12_keep
  simp (disch := decide) only [oi_gI, oi_gJ, oi_gP, oi_pI, oi_pZ, oi_pJ, oi_oK, oi_aI hd, oi_aZ hd, oi_aJ hd, oi_sI hd, oi_sZ hd, oi_sJ hd, mI_1, mI_2, mJ_1, mJ_2, mJ_3, mA_1, mA_2, mA_3, mA_4, mL_1, mL_2, mL_3, mL_4, mK, Nat.reduceEqDiff, if_true, if_false, ite_true, ite_false, true_and, Nat.reduceLT, reduceIte, reduceCtorEq, cl_0, cl_1, cl_2, cl_3, cl_4, cl_5, cl_6, cl_7, cl_8, cl_9, cl_10, cl_11, cl_12, cl_13, cl_14, cl_15, vl_0_5585, vl_1_5585, vl_2_5585, vl_3_5585, vl_4_5585, vl_5_5585, vl_6_5585, vl_0_7, vl_1_7, vl_2_7, vl_3_7, vl_4_7, vl_5_7, vl_6_7]
  refine s_isHouse hd (fun h1 h2 => ⟨fun z => absurd z (by decide), fun _ => s_inI 0 20 (by decide) (by decide) (fun x1 x2 => ⟨fun z => absurd z (by decide), fun _ => s_inI 1 8 (by decide) (by decide) (fun y1 y2 => ⟨fun z => absurd z (by decide), fun _ => s_in (fun w1 w2 => ⟨fun _ => ?_, fun z => absurd z (by decide)⟩) (fun nw => ⟨fun z => absurd rfl z, fun _ => ?_⟩)⟩) (fun nw => ⟨fun _ => ?_, fun z => absurd rfl z⟩)⟩) (fun nw => ⟨fun _ => ?_, fun z => absurd rfl z⟩)⟩) (fun nw => ⟨fun _ => ?_, fun z => absurd rfl z⟩)
  · rw [i0] at h2
    have tm : (-1 : Int64).toInt = -1 := by decide
    have w2 := i64s1 _ _ w2
    rw [i64toInt, tm] at w1
    rw [if_pos ⟨⟨h1, h2⟩, ⟨x1, x2⟩, ⟨y1, y2⟩, w1, by omega⟩] at k
    obtain ⟨e, he, rfl⟩ := pIx 6 (by omega) h1 (by omega)
    obtain ⟨K, hK, rfl⟩ := pIx 21 (by omega) x1 (by omega)
    obtain ⟨n, hn, rfl⟩ := pIx 9 (by omega) (show 0 ≤ c.toInt by omega) (by omega)
    rw [nI_toInt (by omega)] at y1 y2 w2
    have te : (nI e).toInt.toNat = e := by rw [nI_toInt (by omega)]; omega
    have tK : (nI K).toInt.toNat = K := by rw [nI_toInt (by omega)]; omega
    have tn : (nI n).toInt.toNat = n := by rw [nI_toInt (by omega)]; omega
    rw [te, tK, tn] at k
    have k1 : d = -1 → ∀ N, KF (mI M 0 0) N → q (nI (Kv (Wx T e) n 0 K)) (ov S o ad N) := by
      intro ed N hN
      have := k N (hN.ok hM0) (hN.RR hR0)
      rw [if_pos ed] at this
      exact this
    have k2 : ∀ dd, d = nI dd → dd < n → ∀ N, KF (mI M 0 0) N → q (nI (chN (Wx T e) n dd (lfK (Wx T e) n K dd))) (ov S o ad N) := by
      intro dd ed hdd N hN
      have := k N (hN.ok hM0) (hN.RR hR0)
      have td : (nI dd).toInt.toNat = dd := by rw [nI_toInt (by omega)]; omega
      rw [ed, if_neg (fun z => by have := congrArg Int32.toInt z; rw [nI_toInt (by omega), zm] at this; omega), td] at this
      exact this
    have key := loop_m (σ := (Nat → Int32) × Nat) (fun m s => w_X12_keep_b58 q m (ov S o ad (mA (mI M 0 0) 48 s.1)) o (nI e) (nI K) (nI n) d (nI s.2)) (fun s => s.2 ≤ 21 ∧ ∀ j, j < s.2 → s.1 (21 * n + j) = 0) (fun s => 21 - s.2) ?_ ((mI M 0 0).2.2.1 48, 0) ⟨by omega, fun j hj => absurd hj (by simp)⟩
    · rw [mA_self] at key
      exact key
    rintro m ⟨g, i⟩ ⟨hi, hg⟩ ih
    dsimp only at hi hg ih ⊢
    rw [w_X12_keep_b58, lit_nI 21, nI_leI (by omega) (by omega)]
    refine ⟨fun c1 y ey => ?_, fun c1 => ?_⟩
    · rw [ey]
      refine x_kp89 hd hM0 hR0 hA he (by omega) (by omega) (by omega) ⟨by omega, by omega⟩ (KF.rf.g) (fun l hl => ?_) k1 k2
      rw [mA_3, if_pos rfl]
      exact hg l (by omega)
    · simp (disch := decide) only [oi_gI, oi_gJ, oi_gP, oi_pI, oi_pZ, oi_pJ, oi_oK, oi_aI hd, oi_aZ hd, oi_aJ hd, oi_sI hd, oi_sZ hd, oi_sJ hd, mI_1, mI_2, mJ_1, mJ_2, mJ_3, mA_1, mA_2, mA_3, mA_4, mL_1, mL_2, mL_3, mL_4, mK, Nat.reduceEqDiff, if_true, if_false, ite_true, ite_false, true_and, Nat.reduceLT, reduceIte, reduceCtorEq, cl_0, cl_1, cl_2, cl_3, cl_4, cl_5, cl_6, cl_7, cl_8, cl_9, cl_10, cl_11, cl_12, cl_13, cl_14, cl_15, vl_0_5585, vl_1_5585, vl_2_5585, vl_3_5585, vl_4_5585, vl_5_5585, vl_6_5585, vl_0_7, vl_1_7, vl_2_7, vl_3_7, vl_4_7, vl_5_7, vl_6_7, mA_mA]
      rw [nImul, nIadd, nI_clamp (by omega)]
      refine ⟨vp_in_nI (by omega) (by omega), fun y ey => ?_⟩
      rw [ey, nI_1]
      refine ih (upd g (21 * n + i) 0, i + 1) ⟨by dsimp only; omega, fun j hj => ?_⟩ (by dsimp only; omega)
      dsimp only at hj ⊢
      by_cases ej : j = i
      · subst ej; rw [upd_self]
      · rw [upd_ne _ _ (by omega)]; exact hg j (by omega)
  · have := k _ hM0 hR0
    rw [if_neg (fun z => nw ?_)] at this
    · exact this
    · rw [i64toInt, i64sub1, show (-1 : Int64).toInt = -1 by decide]
      have := z.2.2.2
      omega
  · have := k _ hM0 hR0
    rw [if_neg (fun z => nw z.2.2.1)] at this
    exact this
  · have := k _ hM0 hR0
    rw [if_neg (fun z => nw z.2.1)] at this
    exact this
  · have := k _ hM0 hR0
    rw [if_neg (fun z => nw (by rw [i0]; exact z.1))] at this
    exact this
end KR3
