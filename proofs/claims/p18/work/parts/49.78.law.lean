/-! LAYER 2, the reference: law() -/
theorem lawOk_loc {f g : Nat → Int32} {b : Nat} (h : ∀ i, b ≤ i → i < b + 900 → g i = f i) (hl : lawOk f b) : lawOk g b := by
  unfold lawOk at *
  rw [h (b + 1) (by omega) (by omega)]
  refine ⟨hl.1, fun c hc => ?_⟩
  have hc12 : c < 12 := by
    have := hl.1.2
    omega
  rw [h (b + 2 + 8 * c + 3) (by omega) (by omega), h (b + 2 + 8 * c + 4) (by omega) (by omega), h (b + 2 + 8 * c + 5) (by omega) (by omega), h (b + 2 + 8 * c + 6) (by omega) (by omega)]
  have e : ∀ k, k < 400 → g (b + 98 + 2 * k) = f (b + 98 + 2 * k) ∧ g (b + 98 + 2 * k + 1) = f (b + 98 + 2 * k + 1) := fun k hk => ⟨h _ (by omega) (by omega), h _ (by omega) (by omega)⟩
  exact ⟨segOk_congr e (hl.2 c hc).1, segOk_congr e (hl.2 c hc).2⟩
/-- one law more -/
theorem rowOk_law {mU f g : Nat → Int32} {nl : Nat} (hf : rowOk mU f) (e3 : f 3 = nI nl) (hn : nl < 6) (h3 : g 3 = nI (nl + 1)) (ho : ∀ i, i ≠ 3 → (i < 185 + 900 * nl ∨ 185 + 900 * nl + 900 ≤ i) → g i = f i) (hl : lawOk g (185 + 900 * nl)) : rowOk mU g := by
  unfold rowOk at *
  obtain ⟨h0, h1, h2, h3', h4, h5, h6, h7, h8, h9⟩ := hf
  rw [ho 0 (by omega) (by omega), ho 1 (by omega) (by omega), ho 2 (by omega) (by omega), ho 4 (by omega) (by omega), ho 5 (by omega) (by omega), h3]
  rw [e3, nI_toInt (by omega)] at h4
  refine ⟨h0, h1, h2, ?_, ?_, h5, fun k hk => ?_, fun k hk => ?_, fun i hi => ?_, fun i hi => ?_⟩
  · unfold rg; rw [nI_toInt (by omega)]; omega
  · rw [nI_toInt (by omega)]; omega
  · rw [ho _ (by omega) (by omega)]; exact h6 k hk
  · rw [ho _ (by omega) (by omega)]; exact h7 k hk
  · rw [nI_toInt (by omega)] at hi
    by_cases e : i = nl
    · subst e; exact hl
    · refine lawOk_loc (fun j j1 j2 => ho j (by omega) (by omega)) (h8 i ?_)
      rw [e3, nI_toInt (by omega)]
      omega
  · unfold rTk at hi; rw [ho i (by omega) (by omega)]; exact h9 i hi
/-- behind a text -/
theorem mOk_txt {a b c d : List Nat} {M N mT mT' : mS} (h : Fx a b c d M N) (hM : mOk mT M) (h13 : rg (N.1 13) 0 400) (h20 : N.1 20 = 0) (ht : mT'.2.2.1 = mT.2.2.1 ∧ mT'.1 11 = mT.1 11 ∧ N.1 13 = mT'.1 13) (ha : (8 ∉ a ∧ 59 ∉ a ∧ 60 ∉ a ∧ 11 ∉ a) ∧ (3 ∉ c ∧ 4 ∉ c ∧ 5 ∉ c ∧ 6 ∉ c ∧ 9 ∉ c ∧ 7 ∉ c ∧ 10 ∉ c ∧ 12 ∉ c)) : mOk mT' N := by
  unfold mOk at *
  rw [h.1 8 ha.1.1, h.1 59 ha.1.2.1, h.1 60 ha.1.2.2.1, h.1 11 ha.1.2.2.2, h.2.2.1 3 ha.2.1, h.2.2.1 4 ha.2.2.1, h.2.2.1 5 ha.2.2.2.1, h.2.2.1 6 ha.2.2.2.2.1, h.2.2.1 9 ha.2.2.2.2.2.1, h.2.2.1 7 ha.2.2.2.2.2.2.1, h.2.2.1 10 ha.2.2.2.2.2.2.2.1, h.2.2.1 12 ha.2.2.2.2.2.2.2.2, ht.1, ht.2.1]
  obtain ⟨h1, h2, h3, h4, h5, h6, h7, -, -, h8, h9, x4, x5, x12, -, x11⟩ := hM
  exact ⟨h1, h2, h3, h4, h5, h6, h7, h13, h20, h8, h9, x4, x5, x12, ht.2.2, x11⟩
section REF28
variable {S : hS} {o : Nat} {ad : Nat → Nat} {M : mS} {mT : mS}
theorem f_beginText (hd : mD o ad) {q : hS → Prop} {T : Nat} {v : Int32} (hv : v = 0 ∨ v = 1) (e13 : M.1 13 = nI T) (hT : T ≤ 400) (h : ∀ N f t, Fx [14, 15, 16, 18, 19, 20, 21, 23, 26] [17] [] [] M N → N.1 19 = 0 → N.1 20 = v → N.1 21 = 0 → rdS N T f t 0 0 → q (ov S o ad N)) : w_X12_beginText q (ov S o ad M) o v := by
  unfold w_X12_beginText
  simp (disch := decide) only [oi_gI, oi_gJ, oi_gP, oi_pI, oi_pZ, oi_pJ, oi_oK, oi_aI hd, oi_aZ hd, oi_aJ hd, oi_sI hd, oi_sZ hd, oi_sJ hd, mI_1, mI_2, mJ_1, mJ_2, mJ_3, mA_1, mA_2, mA_3, mA_4, mL_1, mL_2, mL_3, mL_4, mK, Nat.reduceEqDiff, if_true, if_false, ite_true, ite_false, true_and, Nat.reduceLT, reduceIte, reduceCtorEq, cl_0, cl_1, cl_2, cl_3, cl_4, cl_5, cl_6, cl_7, cl_8, cl_9, cl_10, cl_11, cl_12, cl_13, cl_14, cl_15, vl_0_5585, vl_1_5585, vl_2_5585, vl_3_5585, vl_4_5585, vl_5_5585, vl_6_5585, vl_0_7, vl_1_7, vl_2_7, vl_3_7, vl_4_7, vl_5_7, vl_6_7]
  refine ⟨hv, f_begin hd (M := mI M 20 v) (T := T) (by simp [mI_1, e13]) hT (fun N f t hF h19 ht => ?_)⟩
  simp (disch := decide) only [oi_gI, oi_gJ, oi_gP, oi_pI, oi_pZ, oi_pJ, oi_oK, oi_aI hd, oi_aZ hd, oi_aJ hd, oi_sI hd, oi_sZ hd, oi_sJ hd, mI_1, mI_2, mJ_1, mJ_2, mJ_3, mA_1, mA_2, mA_3, mA_4, mL_1, mL_2, mL_3, mL_4, mK, Nat.reduceEqDiff, if_true, if_false, ite_true, ite_false, true_and, Nat.reduceLT, reduceIte, reduceCtorEq, cl_0, cl_1, cl_2, cl_3, cl_4, cl_5, cl_6, cl_7, cl_8, cl_9, cl_10, cl_11, cl_12, cl_13, cl_14, cl_15, vl_0_5585, vl_1_5585, vl_2_5585, vl_3_5585, vl_4_5585, vl_5_5585, vl_6_5585, vl_0_7, vl_1_7, vl_2_7, vl_3_7, vl_4_7, vl_5_7, vl_6_7]
  have hF2 := ((Fx.i (M := N) 21 0).tr (Fx.i 23 0)).tr (Fx.i 26 0)
  refine h _ f t (((Fx.i 20 v).tr hF).tr hF2 |>.le (by simp) (by simp) (by simp) (by simp)) ((hF2.1 19 (by simp)).trans h19) ?_ (by simp [mI_1]) ⟨tk_fx hF2 ht (by simp), by simp [mI_1]; rfl, by omega, by simp [mI_1]; rfl, by omega⟩
  rw [hF2.1 20 (by simp), hF.1 20 (by simp)]
  simp [mI_1]
theorem f_endText (hd : mD o ad) {q : hS → Prop} {T f t : Nat} (ht : tk M T f t) (h : ∀ N, Fx [13, 18, 19, 20] [] [] [] M N → N.1 20 = 0 → N.1 13 = 0 → (N.1 19 = 0 → M.1 19 = 0) → q (ov S o ad N)) : w_X12_endText q (ov S o ad M) o := by
  have fin : ∀ N, Fx [18, 19] [] [] [] M N → (N.1 19 = 0 → M.1 19 = 0) → w_X12_endText_b19 q (ov S o ad N) o := by
    intro N hF hz
    unfold w_X12_endText_b19
    simp (disch := decide) only [oi_gI, oi_gJ, oi_gP, oi_pI, oi_pZ, oi_pJ, oi_oK, oi_aI hd, oi_aZ hd, oi_aJ hd, oi_sI hd, oi_sZ hd, oi_sJ hd, mI_1, mI_2, mJ_1, mJ_2, mJ_3, mA_1, mA_2, mA_3, mA_4, mL_1, mL_2, mL_3, mL_4, mK, Nat.reduceEqDiff, if_true, if_false, ite_true, ite_false, true_and, Nat.reduceLT, reduceIte, reduceCtorEq, cl_0, cl_1, cl_2, cl_3, cl_4, cl_5, cl_6, cl_7, cl_8, cl_9, cl_10, cl_11, cl_12, cl_13, cl_14, cl_15, vl_0_5585, vl_1_5585, vl_2_5585, vl_3_5585, vl_4_5585, vl_5_5585, vl_6_5585, vl_0_7, vl_1_7, vl_2_7, vl_3_7, vl_4_7, vl_5_7, vl_6_7]
    have hF2 := (Fx.i (M := N) 20 0).tr (Fx.i 13 0)
    refine ⟨by simp, h _ ((hF.tr hF2).le (by simp) (by simp) (by simp) (by simp)) (by simp [mI_1]) (by simp [mI_1]) (fun z => hz ?_)⟩
    rw [← hF2.1 19 (by simp)]; exact z
  unfold w_X12_endText
  simp (disch := decide) only [oi_gI, oi_gJ, oi_gP, oi_pI, oi_pZ, oi_pJ, oi_oK, oi_aI hd, oi_aZ hd, oi_aJ hd, oi_sI hd, oi_sZ hd, oi_sJ hd, mI_1, mI_2, mJ_1, mJ_2, mJ_3, mA_1, mA_2, mA_3, mA_4, mL_1, mL_2, mL_3, mL_4, mK, Nat.reduceEqDiff, if_true, if_false, ite_true, ite_false, true_and, Nat.reduceLT, reduceIte, reduceCtorEq, cl_0, cl_1, cl_2, cl_3, cl_4, cl_5, cl_6, cl_7, cl_8, cl_9, cl_10, cl_11, cl_12, cl_13, cl_14, cl_15, vl_0_5585, vl_1_5585, vl_2_5585, vl_3_5585, vl_4_5585, vl_5_5585, vl_6_5585, vl_0_7, vl_1_7, vl_2_7, vl_3_7, vl_4_7, vl_5_7, vl_6_7]
  refine ⟨fun _ => fin M Fx.rf' id, fun c1 => ⟨fun _ => fin M Fx.rf' id, fun c2 => f_must hd c1 ht (fun z => absurd rfl z) (fun N hF hz => fin N hF (fun z => absurd z hz)) (fun z => absurd rfl z)⟩⟩
theorem f_law146 (hd : mD o ad) {q : Int32 → hS → Prop} {n c nl : Nat} (hM : mOk mT M) (e3 : M.2.2.1 3 3 = nI nl) (hnl : nl < 6) (hn : n ≤ 12) (hc : c ≤ 400) (e23 : M.1 23 = nI c) (hp : clP M n c) (h : ∀ r N, mOk mT N → q r (ov S o ad N)) {g : Nat → Int32} (g1 : g (185 + 900 * nl + 1) = nI n) (g2 : ∀ k, k < 8 * n → g (185 + 900 * nl + 2 + k) = M.2.2.1 22 k) (g3 : ∀ i, (i < 185 + 900 * nl ∨ 185 + 900 * nl + 900 ≤ i) → g i = M.2.2.1 3 i) : ∃ m, w_X12_law_b146 q m (ov S o ad (mA M 3 g)) o (nI (185 + 900 * nl)) 0 := by
  refine loop_m (σ := (Nat → Int32) × Nat) (fun m s => w_X12_law_b146 q m (ov S o ad (mA M 3 s.1)) o (nI (185 + 900 * nl)) (nI s.2)) (fun s => s.2 ≤ c ∧ s.1 (185 + 900 * nl + 1) = nI n ∧ (∀ k, k < 8 * n → s.1 (185 + 900 * nl + 2 + k) = M.2.2.1 22 k) ∧ (∀ i, (i < 185 + 900 * nl ∨ 185 + 900 * nl + 900 ≤ i) → s.1 i = M.2.2.1 3 i) ∧ ∀ k, k < s.2 → s.1 (185 + 900 * nl + 98 + 2 * k) = M.2.2.1 24 k ∧ s.1 (185 + 900 * nl + 98 + 2 * k + 1) = M.2.2.1 25 k) (fun s => c - s.2) ?_ (g, 0) ⟨Nat.zero_le _, g1, g2, g3, fun k hk => by omega⟩
  rintro m ⟨u, i⟩ ⟨h1, h2, h3, h4, h5⟩ ih
  dsimp only at h1 h2 h3 h4 h5 ih ⊢
  rw [w_X12_law_b146]
  simp (disch := decide) only [oi_gI, oi_gJ, oi_gP, oi_pI, oi_pZ, oi_pJ, oi_oK, oi_aI hd, oi_aZ hd, oi_aJ hd, oi_sI hd, oi_sZ hd, oi_sJ hd, mI_1, mI_2, mJ_1, mJ_2, mJ_3, mA_1, mA_2, mA_3, mA_4, mL_1, mL_2, mL_3, mL_4, mK, Nat.reduceEqDiff, if_true, if_false, ite_true, ite_false, true_and, Nat.reduceLT, reduceIte, reduceCtorEq, cl_0, cl_1, cl_2, cl_3, cl_4, cl_5, cl_6, cl_7, cl_8, cl_9, cl_10, cl_11, cl_12, cl_13, cl_14, cl_15, vl_0_5585, vl_1_5585, vl_2_5585, vl_3_5585, vl_4_5585, vl_5_5585, vl_6_5585, vl_0_7, vl_1_7, vl_2_7, vl_3_7, vl_4_7, vl_5_7, vl_6_7, mA_mA]
  rw [e23, nI_leI (by omega) (by omega)]
  refine ⟨fun c1 => ?_, fun c1 => ?_⟩
  · obtain rfl : i = c := by omega
    have u3 : u 3 = nI nl := by rw [h4 3 (by omega)]; exact e3
    have hr : rowOk (mT.2.2.1 3) (upd u 3 (u 3 + 1)) := by
      refine rowOk_law hM.1 e3 hnl (by rw [upd_self, u3, nI_1]) (fun j j1 j2 => by rw [upd_ne _ _ j1]; exact h4 j j2) ?_
      refine lawOk_loc (f := u) (fun j j1 j2 => upd_ne _ _ (by omega)) ?_
      unfold lawOk
      rw [h2]
      refine ⟨rg_n (b := 12) hn (by omega), fun j hj => ?_⟩
      rw [nI_toInt (by omega)] at hj
      rw [show 185 + 900 * nl + 2 + 8 * j + 3 = 185 + 900 * nl + 2 + (8 * j + 3) by omega, show 185 + 900 * nl + 2 + 8 * j + 4 = 185 + 900 * nl + 2 + (8 * j + 4) by omega, show 185 + 900 * nl + 2 + 8 * j + 5 = 185 + 900 * nl + 2 + (8 * j + 5) by omega, show 185 + 900 * nl + 2 + 8 * j + 6 = 185 + 900 * nl + 2 + (8 * j + 6) by omega, h3 _ (by omega), h3 _ (by omega), h3 _ (by omega), h3 _ (by omega)]
      have hq := hp j (by omega)
      exact ⟨sgt_seg (sgt_mono hq.1 (fun k hk => h5 k hk) (Nat.le_refl _)) hc, sgt_seg (sgt_mono hq.2 (fun k hk => h5 k hk) (Nat.le_refl _)) hc⟩
    refine g_tell hd (mOk_r hM hr) ?_ (h _)
    rw [upd_self, u3, nI_1, nI_s1 (by omega), nI_toInt (by omega)]
    omega
  · rw [lit_nI 98, lit_nI 2, nImul, nIadd, nIadd, nI_1, nI_clamp (by omega), nI_clamp (by omega), nI_clamp (by omega)]
    refine ⟨vp_in_nI (by omega) (by omega), vp_in_nI (by omega) (by omega), vp_in_nI (by omega) (by omega), vp_in_nI (by omega) (by omega), fun y ey => ?_⟩
    rw [ey, nI_1]
    refine ih (upd (upd u (185 + 900 * nl + 98 + 2 * i) (M.2.2.1 24 i)) (185 + 900 * nl + 98 + 2 * i + 1) (M.2.2.1 25 i), i + 1) ⟨by dsimp only; omega, ?_, fun k hk => ?_, fun j hj => ?_, fun k hk => ?_⟩ (by dsimp only; omega)
    · dsimp only
      rw [upd_ne _ _ (by omega), upd_ne _ _ (by omega)]; exact h2
    · dsimp only
      rw [upd_ne _ _ (by omega), upd_ne _ _ (by omega)]; exact h3 k hk
    · dsimp only
      rw [upd_ne _ _ (by omega), upd_ne _ _ (by omega)]; exact h4 j hj
    · dsimp only at hk ⊢
      by_cases e : k = i
      · subst e
        rw [upd_ne _ _ (by omega), upd_self, upd_self]
        exact ⟨rfl, rfl⟩
      · rw [upd_ne _ _ (by omega), upd_ne _ _ (by omega), upd_ne _ _ (by omega), upd_ne _ _ (by omega)]
        exact h5 k (by omega)
theorem f_law111 (hd : mD o ad) {q : Int32 → hS → Prop} {n c nl : Nat} (hM : mOk mT M) (e3 : M.2.2.1 3 3 = nI nl) (hnl : nl < 6) (hn : n ≤ 12) (hc : c ≤ 400) (e23 : M.1 23 = nI c) (e21 : M.1 21 = nI n) (hp : clP M n c) (h : ∀ r N, mOk mT N → q r (ov S o ad N)) {g : Nat → Int32} (g1 : g (185 + 900 * nl + 1) = nI n) (g3 : ∀ i, (i < 185 + 900 * nl ∨ 185 + 900 * nl + 900 ≤ i) → g i = M.2.2.1 3 i) : ∃ m, w_X12_law_b111 q m (ov S o ad (mA M 3 g)) o (nI (185 + 900 * nl)) 0 := by
  refine loop_m (σ := (Nat → Int32) × Nat) (fun m s => w_X12_law_b111 q m (ov S o ad (mA M 3 s.1)) o (nI (185 + 900 * nl)) (nI s.2)) (fun s => s.2 ≤ 8 * n ∧ s.1 (185 + 900 * nl + 1) = nI n ∧ (∀ k, k < s.2 → s.1 (185 + 900 * nl + 2 + k) = M.2.2.1 22 k) ∧ ∀ i, (i < 185 + 900 * nl ∨ 185 + 900 * nl + 900 ≤ i) → s.1 i = M.2.2.1 3 i) (fun s => 8 * n - s.2) ?_ (g, 0) ⟨Nat.zero_le _, g1, fun k hk => by omega, g3⟩
  rintro m ⟨u, i⟩ ⟨h1, h2, h3, h4⟩ ih
  dsimp only at h1 h2 h3 h4 ih ⊢
  rw [w_X12_law_b111]
  simp (disch := decide) only [oi_gI, oi_gJ, oi_gP, oi_pI, oi_pZ, oi_pJ, oi_oK, oi_aI hd, oi_aZ hd, oi_aJ hd, oi_sI hd, oi_sZ hd, oi_sJ hd, mI_1, mI_2, mJ_1, mJ_2, mJ_3, mA_1, mA_2, mA_3, mA_4, mL_1, mL_2, mL_3, mL_4, mK, Nat.reduceEqDiff, if_true, if_false, ite_true, ite_false, true_and, Nat.reduceLT, reduceIte, reduceCtorEq, cl_0, cl_1, cl_2, cl_3, cl_4, cl_5, cl_6, cl_7, cl_8, cl_9, cl_10, cl_11, cl_12, cl_13, cl_14, cl_15, vl_0_5585, vl_1_5585, vl_2_5585, vl_3_5585, vl_4_5585, vl_5_5585, vl_6_5585, vl_0_7, vl_1_7, vl_2_7, vl_3_7, vl_4_7, vl_5_7, vl_6_7, mA_mA]
  rw [e21, lit_nI 8, nImul, nI_leI (by omega) (by omega)]
  refine ⟨fun c1 => ?_, fun c1 => ?_⟩
  · obtain rfl : i = 8 * n := by omega
    exact f_law146 hd hM e3 hnl hn hc e23 hp h h2 h3 h4
  · rw [lit_nI 2, nIadd, nIadd, nI_clamp (by omega), nI_clamp (by omega)]
    refine ⟨vp_in_nI (by omega) (by omega), vp_in_nI (by omega) (by omega), fun y ey => ?_⟩
    rw [ey, nI_1]
    refine ih (upd u (185 + 900 * nl + 2 + i) (M.2.2.1 22 i), i + 1) ⟨by dsimp only; omega, ?_, fun k hk => ?_, fun j hj => ?_⟩ (by dsimp only; omega)
    · dsimp only
      rw [upd_ne _ _ (by omega)]; exact h2
    · dsimp only at hk ⊢
      by_cases e : k = i
      · subst e; rw [upd_self]
      · rw [upd_ne _ _ (by omega)]; exact h3 k (by omega)
    · dsimp only
      rw [upd_ne _ _ (by omega)]; exact h4 j hj
theorem p_law (hd : mD o ad) (hM : mOk mT M) {q : Int32 → hS → Prop} (h : ∀ r N, mOk (mI mT 13 0) N → q r (ov S o ad N)) : w_X12_law q (ov S o ad M) o := by
  have hM0 : mOk mT (mI M 0 0) := mOk_i hM (by omega)
  obtain ⟨nl, hnl, enl⟩ := rg_inR (b := 6) hM.1.2.2.2.1 (by omega) (by omega)
  obtain ⟨T, hT, eT⟩ := rg_inR (b := 400) hM.2.2.2.2.2.2.2.1 (by omega) (by omega)
  unfold w_X12_law
  simp (disch := decide) only [oi_gI, oi_gJ, oi_gP, oi_pI, oi_pZ, oi_pJ, oi_oK, oi_aI hd, oi_aZ hd, oi_aJ hd, oi_sI hd, oi_sZ hd, oi_sJ hd, mI_1, mI_2, mJ_1, mJ_2, mJ_3, mA_1, mA_2, mA_3, mA_4, mL_1, mL_2, mL_3, mL_4, mK, Nat.reduceEqDiff, if_true, if_false, ite_true, ite_false, true_and, Nat.reduceLT, reduceIte, reduceCtorEq, cl_0, cl_1, cl_2, cl_3, cl_4, cl_5, cl_6, cl_7, cl_8, cl_9, cl_10, cl_11, cl_12, cl_13, cl_14, cl_15, vl_0_5585, vl_1_5585, vl_2_5585, vl_3_5585, vl_4_5585, vl_5_5585, vl_6_5585, vl_0_7, vl_1_7, vl_2_7, vl_3_7, vl_4_7, vl_5_7, vl_6_7]
  refine ⟨fun c1 => ?_, fun _ => g_tell hd (mOk_13 hM0 ⟨by decide, by decide⟩) (by decide) (h _)⟩
  have hnl6 : nl < 6 := by
    have : nl ≠ 6 := fun e => c1 (by rw [enl, e]; rfl)
    omega
  have LX : ∀ N, LF M N → LF M N := fun _ z => z
  -- behind the last clause
  have k64 : ∀ N f t c l n, Fx [0, 14, 15, 16, 18, 19, 20, 21, 23, 26, 29, 30] [17] [22, 24, 25, 27, 28] [] M N → lwS N T f t c l n → w_X12_law_b64 q (ov S o ad N) o := by
    intro N f t c l n hF hl
    obtain ⟨hs, h21, hn, hp⟩ := hl
    refine ⟨ov_oK, f_endText hd hs.1 (fun P hFP h20 h13 h19 => ?_)⟩
    have hFF := hF.tr hFP
    have hMP : mOk (mI mT 13 0) P := mOk_txt hFF hM (by rw [h13]; exact ⟨by decide, by decide⟩) h20 ⟨rfl, rfl, h13⟩ (by simp)
    have e3 : P.2.2.1 3 3 = nI nl := by rw [hFF.2.2.1 3 (by simp)]; exact enl
    simp (disch := decide) only [oi_gI, oi_gJ, oi_gP, oi_pI, oi_pZ, oi_pJ, oi_oK, oi_aI hd, oi_aZ hd, oi_aJ hd, oi_sI hd, oi_sZ hd, oi_sJ hd, mI_1, mI_2, mJ_1, mJ_2, mJ_3, mA_1, mA_2, mA_3, mA_4, mL_1, mL_2, mL_3, mL_4, mK, Nat.reduceEqDiff, if_true, if_false, ite_true, ite_false, true_and, Nat.reduceLT, reduceIte, reduceCtorEq, cl_0, cl_1, cl_2, cl_3, cl_4, cl_5, cl_6, cl_7, cl_8, cl_9, cl_10, cl_11, cl_12, cl_13, cl_14, cl_15, vl_0_5585, vl_1_5585, vl_2_5585, vl_3_5585, vl_4_5585, vl_5_5585, vl_6_5585, vl_0_7, vl_1_7, vl_2_7, vl_3_7, vl_4_7, vl_5_7, vl_6_7]
    rw [(hFP.1 21 (by simp)).trans h21, e3, lit_nI 185, lit_nI 900, nImul, nIadd]
    refine ⟨fun z y ey => ?_, fun _ => g_tell hd hMP (by decide) (h _)⟩
    rw [ey, nI_1, nI_clamp (by omega)]
    refine ⟨vp_in_nI (by omega) (by omega), f_law111 hd hMP e3 hnl6 hn (by have := tk_400 hs.1; have := hs.2.2.1; omega) ((hFP.1 23 (by simp)).trans hs.2.1) ((hFP.1 21 (by simp)).trans h21) ?_ h (upd_self _ _ _) (fun i hi => upd_ne _ _ (by omega))⟩
    exact clP_to (hp (h19 z)) (fun i _ => by rw [hFP.2.2.1 22 (by simp)]) (lowEq.fx hFP (by simp) (by simp)) (Nat.le_refl _)
  refine f_beginText hd (M := mI M 0 0) (T := T) (Or.inl rfl) (by simp [mI_1, eT]) hT (fun N f t hF h19 h20 h21 hs => ⟨ov_oK, ?_⟩)
  have hF0 := (Fx.i (M := M) 0 0).tr hF
  refine f_readLaw hd h19 (n := 0) ⟨hs, h21, by omega, fun _ j hj => by omega⟩ (fun P f1 t1 c1 l1 n1 hP hl1 hf1 => ?_)
  refine loop_m (σ := mS × Nat) (fun m s => w_X12_law_b37 q m (ov S o ad s.1) o) (fun s => Fx [0, 14, 15, 16, 18, 19, 20, 21, 23, 26, 29, 30] [17] [22, 24, 25, 27, 28] [] M s.1 ∧ ∃ t c l n, lwS s.1 T s.2 t c l n) (fun s => 400 - s.2) ?_ (P, f1) ⟨(hF0.tr hP).le (by simp) (by simp) (by simp) (by simp), t1, c1, l1, n1, hl1⟩
  rintro m ⟨Q, f2⟩ ⟨hQ, t2, c2, l2, n2, hl2⟩ ih
  dsimp only at hQ hl2 ih ⊢
  have fin := k64 Q f2 t2 c2 l2 n2 hQ hl2
  rw [w_X12_law_b37]
  simp (disch := decide) only [oi_gI, oi_gJ, oi_gP, oi_pI, oi_pZ, oi_pJ, oi_oK, oi_aI hd, oi_aZ hd, oi_aJ hd, oi_sI hd, oi_sZ hd, oi_sJ hd, mI_1, mI_2, mJ_1, mJ_2, mJ_3, mA_1, mA_2, mA_3, mA_4, mL_1, mL_2, mL_3, mL_4, mK, Nat.reduceEqDiff, if_true, if_false, ite_true, ite_false, true_and, Nat.reduceLT, reduceIte, reduceCtorEq, cl_0, cl_1, cl_2, cl_3, cl_4, cl_5, cl_6, cl_7, cl_8, cl_9, cl_10, cl_11, cl_12, cl_13, cl_14, cl_15, vl_0_5585, vl_1_5585, vl_2_5585, vl_3_5585, vl_4_5585, vl_5_5585, vl_6_5585, vl_0_7, vl_1_7, vl_2_7, vl_3_7, vl_4_7, vl_5_7, vl_6_7]
  refine ⟨fun _ => fin, fun z => s_isSign hd (fun h16 => ⟨fun z => absurd z (by decide), fun _ => ⟨ov_oK, ?_⟩⟩) ⟨fun _ => fin, fun z => absurd rfl z⟩⟩
  obtain ⟨hs2, h212, hn2, hp2⟩ := hl2
  refine r_next hd hs2 h16 (fun R f3 t3 hR hs3 hf3 => ⟨ov_oK, f_readLaw hd ((hR.1 19 (by simp)).trans z) (n := n2) ⟨hs3, (hR.1 21 (by simp)).trans h212, hn2, fun _ => clP_to (hp2 z) (fun i _ => by rw [hR.2.2.1 22 (by simp)]) (lowEq.fx hR (by simp) (by simp)) (Nat.le_refl _)⟩ (fun U f4 t4 c4 l4 n4 hU hl4 hf4 => ?_)⟩)
  have := tk_400 hl4.1.1
  exact ih (U, f4) ⟨((hQ.tr hR).tr hU).le (by simp) (by simp) (by simp) (by simp), t4, c4, l4, n4, hl4⟩ (by dsimp only; omega)
end REF28
