/-! THE CHEAPEST CHAIN, THE REFERENCE'S QUESTION -/
section CM3
variable {S : hS} {o : Nat} {ad : Nat → Nat} {M : mS} {mT : mS} {T : aS} {rs : Nat}
theorem CF.RR {N : mS} (hF : CF M N) (hR : RR M rs T) : RR N rs T := hR.fx hF.1 (by simp) (by simp) (by simp)
theorem bq_cb (hM : mOk mT M) (hR : RR M rs T) (hA : aB T) {e p t : Nat} (hp : p < 8) (ht : t < 8) (he : e < 6) : bq (M.2.2.1 3) (M.2.2.2 35) e p t = cbN T e p t := by
  have hQ := hR.QM hA
  have be := buy_eq hM hQ hp ht he
  rw [hR.1.1] at be
  cases z : cbN T e p t with
  | true =>
    unfold cbN at z
    rw [Bool.and_eq_true, decide_eq_true_eq] at z
    cases y : bq (M.2.2.1 3) (M.2.2.2 35) e p t with
    | true => rfl
    | false => exact absurd y (bq_t (be.mpr z))
  | false =>
    refine bq_f (fun y => ?_)
    have := be.mp y
    unfold cbN at z
    rw [Bool.and_eq_false_iff] at z
    rcases z with z | z
    · exact of_decide_eq_false z this.1
    · rw [this.2] at z
      cases z
theorem cq_co (hM : mOk mT M) (hR : RR M rs T) (hA : aB T) {e p t : Nat} (hp : p < 8) (ht : t < 8) (he : e < 6) : cq (M.2.2.1 3) (M.2.2.2 35) e p t = w1C 100 (coN T e) p t := by
  have hQ := hR.QM hA
  have ce := coN_e T e p t
  unfold cq w1C
  rw [cost_eq hQ.1 (mOk_law hM) hQ.2 hp ht he, hR.1.1, ce.1, wI_nI (by omega), nI_clamp (by omega)]
theorem x_ch241 (hd : mD o ad) {M0 : mS} (hM0 : mOk mT M0) (hR : RR M0 rs T) (hA : aB T) (hC : CF M0 M) {q : Int32 → hS → Prop} {n to fr e : Nat} {i : Int32} (en : n = nPR T.1.1) (hn : n ≤ 8) (hto : to < n) (hfr : fr < n) (he : e < 6) (hi : 0 ≤ i.toInt) (hD : ∀ p, p < n → M.2.2.1 49 p = nI (chD T e to p)) (hfar : chD T e to fr < 100000000) (h : ∀ N, CF M0 N → q (chA T e to fr i) (ov S o ad N)) : ∃ m, w_X12_chain_b241 q m (ov S o ad M) o (nI to) (nI e) i (nI fr) 0 := by
  subst en
  have fx : fxD (nPR T.1.1) to (cbN T e) (w1C 100 (coN T e)) (chD T e to) := dR_fx
  have hm1 : i ≠ -1 := fun z => by
    rw [z, show (-1 : Int32).toInt = -1 by decide] at hi
    omega
  unfold chA at h
  generalize hdd : chD T e to = d at hD hfar h fx
  have dF : ∀ p, d p ≤ 100000000 := fun p => fx.2.1 p
  have h7 := fxD_7 (c := coN T e) hn fx hfr hfar
  rw [if_neg (by omega), if_neg hm1] at h
  refine loop_m (σ := mS × Nat) (fun m s => w_X12_chain_b241 q m (ov S o ad s.1) o (nI to) (nI e) i (nI (sqR (nPR T.1.1) (cbN T e) (coN T e) d fr s.2)) (nI s.2)) (fun s => Fz M s.1 ∧ s.2 ≤ d fr % 100 ∧ (s.2 : Int) ≤ i.toInt + 1) (fun s => d fr % 100 - s.2) ?_ (M, 0) ⟨Fz.rf, Nat.zero_le _, by show ((0 : Nat) : Int) ≤ _; omega⟩
  rintro m ⟨N, k⟩ ⟨hF, hk, hki⟩ ih
  dsimp only at hF hk hki ih ⊢
  obtain ⟨i1, i2, i3⟩ := sq_sp hn fx hfr hfar k hk
  have st := sq_to hn fx hfr hfar hk
  rw [w_X12_chain_b241, nI_eq (by omega) (by omega), i32lt, nI_toInt (by omega)]
  refine ⟨fun c => ?_, fun ck => ⟨fun c => ?_, fun c => ?_⟩⟩
  · have := h N (hC.z hF)
    rw [if_pos (by omega), show i.toInt.toNat + 1 = k by omega] at this
    exact this
  · obtain ⟨j1, j2, j3, j4, j5⟩ := nx_sp hn fx i1 c i2
    have kl : k ≠ d fr % 100 := fun z => c (st.mpr z)
    obtain ⟨x, ex⟩ : ∃ x, x = sqR (nPR T.1.1) (cbN T e) (coN T e) d fr k := ⟨_, rfl⟩
    rw [← ex] at i1 i2 i3 j1 j2 j3 j4 j5 ⊢
    refine loop_m (σ := mS × Nat) (fun m' s => w_X12_chain_b259 q (fun S v0 v2 v3 v4 v6 v7 => w_X12_chain_b241 q m S v0 v2 v3 v4 v6 v7) m' (ov S o ad s.1) o (nI to) (nI e) i (nI x) (nI k) (nI s.2)) (fun s => Fz M s.1 ∧ s.2 ≤ nxR (nPR T.1.1) (cbN T e) (coN T e) d x) (fun s => nxR (nPR T.1.1) (cbN T e) (coN T e) d x - s.2) ?_ (N, 0) ⟨hF, Nat.zero_le _⟩
    rintro m' ⟨P, j⟩ ⟨hP, hj⟩ ih'
    dsimp only at hP hj ih' ⊢
    rw [w_X12_chain_b259]
    refine ⟨ov_oK, f_chainBy hd hM0 (hC.z hP) (D := d) (by omega) (by omega) he (by rw [hP.r]; exact hD j (by omega)) (dF j) (fun Q hQ => ?_)⟩
    have hMQ := hP.tr hQ
    have er : rwv (bq (M0.2.2.1 3) (M0.2.2.2 35) e) (cq (M0.2.2.1 3) (M0.2.2.2 35) e) d x j = rwv (cbN T e) (w1C 100 (coN T e)) d x j := by
      unfold rwv
      rw [bq_cb hM0 hR hA (by omega) (by omega) he, cq_co hM0 hR hA (by omega) (by omega) he]
    rw [er]
    simp (disch := decide) only [oi_gI, oi_gJ, oi_gP, oi_pI, oi_pZ, oi_pJ, oi_oK, oi_aI hd, oi_aZ hd, oi_aJ hd, oi_sI hd, oi_sZ hd, oi_sJ hd, mI_1, mI_2, mJ_1, mJ_2, mJ_3, mA_1, mA_2, mA_3, mA_4, mL_1, mL_2, mL_3, mL_4, mK, Nat.reduceEqDiff, if_true, if_false, ite_true, ite_false, true_and, Nat.reduceLT, reduceIte, reduceCtorEq, cl_0, cl_1, cl_2, cl_3, cl_4, cl_5, cl_6, cl_7, cl_8, cl_9, cl_10, cl_11, cl_12, cl_13, cl_14, cl_15, vl_0_5585, vl_1_5585, vl_2_5585, vl_3_5585, vl_4_5585, vl_5_5585, vl_6_5585, vl_0_7, vl_1_7, vl_2_7, vl_3_7, vl_4_7, vl_5_7, vl_6_7]
    have hrl : rwv (cbN T e) (w1C 100 (coN T e)) d x j < 2 ^ 31 := by
      have := dF j
      have := (coN_e T e x j).2
      unfold rwv w1C
      split <;> omega
    rw [nI_clamp (by omega), hMQ.r, hD x (by omega), nI_eq hrl (by omega)]
    refine ⟨vp_in_nI (by omega) (by omega), fun ce y ey => ?_, fun ce y ey => ?_⟩
    · have ej : j = nxR (nPR T.1.1) (cbN T e) (coN T e) d x := by
        by_cases z : j < nxR (nPR T.1.1) (cbN T e) (coN T e) d x
        · exact absurd ce (j5 j z)
        · omega
      rw [ey, nI_1, ej]
      have := ih (Q, k + 1) ⟨hMQ, by dsimp only; omega, by dsimp only; omega⟩ (by dsimp only; omega)
      rw [sqR, ← ex] at this
      exact this
    · rw [ey, nI_1]
      have hne : j ≠ nxR (nPR T.1.1) (cbN T e) (coN T e) d x := fun z => ce (by rw [z]; exact j4)
      exact ih' (Q, j + 1) ⟨hMQ, by dsimp only; omega⟩ (by dsimp only; omega)
  · have := h N (hC.z hF)
    rw [if_neg (by have := st.mp c; omega)] at this
    exact this
theorem x_chain2 (hd : mD o ad) {M0 : mS} (hM0 : mOk mT M0) (hR0 : RR M0 rs T) (hA : aB T) {q : Int32 → hS → Prop} {n to fr e : Nat} {i : Int32} (hnn : n = nPR T.1.1) (hn : n ≤ 8) (hto : to < n) (hfr : fr < n) (he : e < 6) (hi : -1 ≤ i.toInt) (h : ∀ N, mOk mT N → RR N rs T → q (chA T e to fr i) (ov S o ad N)) : ∃ m, w_X12_chain_b62 q m (ov S o ad M0) o (nI fr) (nI to) (nI e) i (nI n) 0 := by
  generalize hbb : bq (M0.2.2.1 3) (M0.2.2.2 35) e = bb
  generalize hww : cq (M0.2.2.1 3) (M0.2.2.2 35) e = ww
  have hw1 : ∀ p t, 1 ≤ ww p t := by rw [← hww]; exact cq_1
  have zm : (-1 : Int32).toInt = -1 := by decide
  have eD : ∀ p, p < n → dk n to bb ww n p = chD T e to p := by
    intro p hp
    unfold chD dR
    rw [← hnn]
    refine dk_cg (fun p o hp ho => ?_) (fun p o hp ho => ?_) n p hp
    · rw [← hbb]
      exact bq_cb hM0 hR0 hA (by omega) (by omega) he
    · rw [← hww]
      exact cq_co hM0 hR0 hA (by omega) (by omega) he
  have kend : ∀ N D, CF M0 N → cR (N.2.2.1 49) D (dk n to bb ww n) (dk n to bb ww n) n → gP (ov S o ad N) o 12 49 (fun x192 => aI (ov S o ad N) x192 (nI fr) (fun x196 => (x196 = 100000000 → w_X12_chain_b209 q (ov S o ad N) o (nI fr)) ∧ (¬ x196 = 100000000 → (¬ i = (-1) → (∃ n241 : Nat, w_X12_chain_b241 q n241 (ov S o ad N) o (nI to) (nI e) i (nI fr) 0)) ∧ (i = (-1) → w_X12_chain_b209 q (ov S o ad N) o (nI fr))))) := by
    intro N D hN hR
    have hDd : ∀ p, p < n → N.2.2.1 49 p = nI (chD T e to p) := fun p hp => by
      obtain ⟨r1, r2, r3, r4⟩ := hR p hp
      rw [r1, show D p = dk n to bb ww n p by omega, eD p hp]
    have hF : chD T e to fr ≤ 100000000 := by
      rw [← eD fr hfr]
      exact dk_F n fr
    have k209 : (chD T e to fr = 100000000 ∨ i = -1) → w_X12_chain_b209 q (ov S o ad N) o (nI fr) := by
      intro hh
      have hq := h N (hN.ok hM0) (hN.RR hR0)
      unfold chA at hq
      unfold w_X12_chain_b209
      simp (disch := decide) only [oi_gI, oi_gJ, oi_gP, oi_pI, oi_pZ, oi_pJ, oi_oK, oi_aI hd, oi_aZ hd, oi_aJ hd, oi_sI hd, oi_sZ hd, oi_sJ hd, mI_1, mI_2, mJ_1, mJ_2, mJ_3, mA_1, mA_2, mA_3, mA_4, mL_1, mL_2, mL_3, mL_4, mK, Nat.reduceEqDiff, if_true, if_false, ite_true, ite_false, true_and, Nat.reduceLT, reduceIte, reduceCtorEq, cl_0, cl_1, cl_2, cl_3, cl_4, cl_5, cl_6, cl_7, cl_8, cl_9, cl_10, cl_11, cl_12, cl_13, cl_14, cl_15, vl_0_5585, vl_1_5585, vl_2_5585, vl_3_5585, vl_4_5585, vl_5_5585, vl_6_5585, vl_0_7, vl_1_7, vl_2_7, vl_3_7, vl_4_7, vl_5_7, vl_6_7]
      rw [nI_clamp (by omega), hDd fr hfr, lit_nI 100000000, nI_eq (by omega) (by omega)]
      refine ⟨vp_in_nI (by omega) (by omega), fun c => ⟨vp_in_nI (by omega) (by omega), ?_⟩, fun c => ?_⟩
      · rw [if_neg c] at hq
        rcases hh with z | z
        · exact absurd z c
        · rw [if_pos z] at hq
          rw [lit_nI 100, nIdiv (by omega) (by omega)]
          exact hq
      · rw [if_pos c] at hq
        exact hq
    simp (disch := decide) only [oi_gI, oi_gJ, oi_gP, oi_pI, oi_pZ, oi_pJ, oi_oK, oi_aI hd, oi_aZ hd, oi_aJ hd, oi_sI hd, oi_sZ hd, oi_sJ hd, mI_1, mI_2, mJ_1, mJ_2, mJ_3, mA_1, mA_2, mA_3, mA_4, mL_1, mL_2, mL_3, mL_4, mK, Nat.reduceEqDiff, if_true, if_false, ite_true, ite_false, true_and, Nat.reduceLT, reduceIte, reduceCtorEq, cl_0, cl_1, cl_2, cl_3, cl_4, cl_5, cl_6, cl_7, cl_8, cl_9, cl_10, cl_11, cl_12, cl_13, cl_14, cl_15, vl_0_5585, vl_1_5585, vl_2_5585, vl_3_5585, vl_4_5585, vl_5_5585, vl_6_5585, vl_0_7, vl_1_7, vl_2_7, vl_3_7, vl_4_7, vl_5_7, vl_6_7]
    rw [nI_clamp (by omega), hDd fr hfr, lit_nI 100000000, nI_eq (by omega) (by omega)]
    refine ⟨vp_in_nI (by omega) (by omega), fun c => k209 (Or.inl c), fun cf => ⟨fun ci => ?_, fun ci => k209 (Or.inr ci)⟩⟩
    have hi0 : 0 ≤ i.toInt := by
      by_cases z : i.toInt = -1
      · exact absurd (Int32.toInt_inj.mp (by rw [z, zm])) ci
      · omega
    exact x_ch241 hd hM0 hR0 hA hN hnn hn hto hfr he hi0 hDd (by omega) (fun N' hN' => h N' (hN'.ok hM0) (hN'.RR hR0))
  -- a round
  have k98 : ∀ N D, CF M0 N → cR (N.2.2.1 49) D (dk n to bb ww n) (dk n to bb ww 0) n → ∃ m, w_X12_chain_b98 q m (ov S o ad N) o (nI fr) (nI to) (nI e) i (nI n) 0 := by
    intro N0 D0 hN0 hR0
    refine loop_m (σ := mS × (Nat → Nat) × Nat) (fun m s => w_X12_chain_b98 q m (ov S o ad s.1) o (nI fr) (nI to) (nI e) i (nI n) (nI s.2.2)) (fun s => CF M0 s.1 ∧ cR (s.1.2.2.1 49) s.2.1 (dk n to bb ww n) (dk n to bb ww s.2.2) n ∧ s.2.2 ≤ n) (fun s => n - s.2.2) ?_ (N0, D0, 0) ⟨hN0, hR0, Nat.zero_le _⟩
    rintro m ⟨N, D, r⟩ ⟨hN, hR, hr⟩ ih
    dsimp only at hN hR hr ih ⊢
    rw [w_X12_chain_b98, nI_leI (by omega) (by omega)]
    refine ⟨fun cr => ?_, fun cr => ?_⟩
    · obtain rfl : r = n := by omega
      exact kend N D hN hR
    refine loop_m (σ := mS × (Nat → Nat) × Nat) (fun m' s => w_X12_chain_b108 q (fun S v0 v1 v2 v3 v4 v5 v6 => w_X12_chain_b98 q m S v0 v1 v2 v3 v4 v5 v6) m' (ov S o ad s.1) o (nI fr) (nI to) (nI e) i (nI n) (nI r) (nI s.2.2)) (fun s => CF M0 s.1 ∧ cR (s.1.2.2.1 49) s.2.1 (dk n to bb ww n) (dk n to bb ww r) n ∧ (∀ p', p' < s.2.2 → s.2.1 p' ≤ dk n to bb ww (r + 1) p') ∧ s.2.2 ≤ n) (fun s => n - s.2.2) ?_ (N, D, 0) ⟨hN, hR, fun p' hp' => absurd hp' (by simp), Nat.zero_le _⟩
    rintro m' ⟨P, E, p⟩ ⟨hP, hE, hl, hp⟩ ih'
    dsimp only at hP hE hl hp ih' ⊢
    rw [w_X12_chain_b108, nI_leI (by omega) (by omega)]
    refine ⟨fun cp y ey => ?_, fun cp => f_ch118 hd hM0 hbb.symm hww.symm hn hto (by omega) he hP hE hl (fun Q E' hQ hE' hl' => ih' (Q, E', p + 1) ⟨hQ, hE', hl', by dsimp only; omega⟩ (by dsimp only; omega))⟩
    rw [ey, nI_1]
    refine ih (P, E, r + 1) ⟨hP, fun p' hp' => ?_, by dsimp only; omega⟩ (by dsimp only; omega)
    obtain ⟨r1, r2, r3, r4⟩ := hE p' hp'
    exact ⟨r1, r2, r3, hl p' (by omega)⟩
  -- the start
  have key := loop_m (σ := (Nat → Int32) × Nat) (fun m s => w_X12_chain_b62 q m (ov S o ad (mA M0 49 s.1)) o (nI fr) (nI to) (nI e) i (nI n) (nI s.2)) (fun s => s.2 ≤ n ∧ ∀ p, p < s.2 → s.1 p = nI (dk n to bb ww 0 p)) (fun s => n - s.2) ?_ (M0.2.2.1 49, 0) ⟨Nat.zero_le _, fun p hp => absurd hp (by simp)⟩
  · rw [mA_self] at key
    exact key
  rintro m ⟨g, j⟩ ⟨hj, hg⟩ ih
  dsimp only at hj hg ih ⊢
  have k88 : ∀ x : Nat, j < n → x = dk n to bb ww 0 j → w_X12_chain_b88 q (fun S v0 v1 v2 v3 v4 v5 v6 => w_X12_chain_b62 q m S v0 v1 v2 v3 v4 v5 v6) (ov S o ad (mA M0 49 g)) o (nI fr) (nI to) (nI e) i (nI n) (nI j) (nI x) (nI j) (ad 49) := by
    intro x hjn hx
    unfold w_X12_chain_b88
    simp (disch := decide) only [oi_gI, oi_gJ, oi_gP, oi_pI, oi_pZ, oi_pJ, oi_oK, oi_aI hd, oi_aZ hd, oi_aJ hd, oi_sI hd, oi_sZ hd, oi_sJ hd, mI_1, mI_2, mJ_1, mJ_2, mJ_3, mA_1, mA_2, mA_3, mA_4, mL_1, mL_2, mL_3, mL_4, mK, Nat.reduceEqDiff, if_true, if_false, ite_true, ite_false, true_and, Nat.reduceLT, reduceIte, reduceCtorEq, cl_0, cl_1, cl_2, cl_3, cl_4, cl_5, cl_6, cl_7, cl_8, cl_9, cl_10, cl_11, cl_12, cl_13, cl_14, cl_15, vl_0_5585, vl_1_5585, vl_2_5585, vl_3_5585, vl_4_5585, vl_5_5585, vl_6_5585, vl_0_7, vl_1_7, vl_2_7, vl_3_7, vl_4_7, vl_5_7, vl_6_7, mA_mA]
    rw [nI_clamp (by omega)]
    refine ⟨vp_in_nI (by omega) (by omega), fun y ey => ?_⟩
    rw [ey, nI_1]
    refine ih (upd g j (nI x), j + 1) ⟨by dsimp only; omega, fun p hp => ?_⟩ (by dsimp only; omega)
    dsimp only at hp ⊢
    by_cases cp : p = j
    · subst cp; rw [upd_self, hx]
    · rw [upd_ne _ _ cp]; exact hg p (by omega)
  rw [w_X12_chain_b62, nI_leI (by omega) (by omega)]
  refine ⟨fun cj => k98 _ (dk n to bb ww 0) CF.rf.g (fun p hp => ?_), fun cj => ?_⟩
  · have e49 : (mA M0 49 g).2.2.1 49 p = g p := by rw [mA_3, if_pos rfl]
    have hle := dk_le (n := n) (to := to) (b := bb) (wt := ww) (i := 0) (p := p) n
    rw [Nat.zero_add] at hle
    exact ⟨by rw [e49]; exact hg p (by omega), dk_F 0 p, hle, Nat.le_refl _⟩
  · simp (disch := decide) only [oi_gI, oi_gJ, oi_gP, oi_pI, oi_pZ, oi_pJ, oi_oK, oi_aI hd, oi_aZ hd, oi_aJ hd, oi_sI hd, oi_sZ hd, oi_sJ hd, mI_1, mI_2, mJ_1, mJ_2, mJ_3, mA_1, mA_2, mA_3, mA_4, mL_1, mL_2, mL_3, mL_4, mK, Nat.reduceEqDiff, if_true, if_false, ite_true, ite_false, true_and, Nat.reduceLT, reduceIte, reduceCtorEq, cl_0, cl_1, cl_2, cl_3, cl_4, cl_5, cl_6, cl_7, cl_8, cl_9, cl_10, cl_11, cl_12, cl_13, cl_14, cl_15, vl_0_5585, vl_1_5585, vl_2_5585, vl_3_5585, vl_4_5585, vl_5_5585, vl_6_5585, vl_0_7, vl_1_7, vl_2_7, vl_3_7, vl_4_7, vl_5_7, vl_6_7]
    rw [nI_eq (by omega) (by omega)]
    exact ⟨fun ct => k88 100000000 (by omega) (by rw [dk, if_neg ct]), fun ct => k88 0 (by omega) (by rw [dk, if_pos ct])⟩
theorem x_chain (hd : mD o ad) (hM : mOk mT M) (hRR : RR M rs T) (hA : aB T) {q : Int32 → hS → Prop} {a b c i : Int32} (h : ∀ N, mOk mT N → RR N rs T → q (spChain a b c i T) (ov S o ad N)) : w_X12_chain q (ov S o ad M) o a b c i := by
  have hM0 : mOk mT (mI M 0 0) := mOk_i hM (by omega)
  have b1 := hM0.1.1.2
  have b2 := hM0.1.2.1.2
  obtain ⟨n, hn, en⟩ := rg_inR (b := 8) hM.1.2.1 (by omega) (by omega)
  have en0 : (mI M 0 0).2.2.1 3 1 = nI n := en
  rw [en0, nI_toInt (by omega)] at b2
  have h20 : ∀ x : Int32, x.toInt < ((mI M 0 0).2.2.1 3 1).toInt → x.toInt < n := fun x hx => by rw [en0, nI_toInt (by omega)] at hx; exact hx
  have hR0 : RR (mI M 0 0) rs T := hRR.z
  have i0 : ((mI M 0 0).2.2.1 3 0).toInt = iR T.1.1 0 := hR0.iR (by omega)
  have i1 : ((mI M 0 0).2.2.1 3 1).toInt = iR T.1.1 1 := hR0.iR (by omega)
  have hnn : n = nPR T.1.1 := by
    rw [en0, nI_toInt (by omega)] at i1
    unfold nPR
    omega
  have zm : (-1 : Int32).toInt = -1 := by decide
  unfold spChain at h
  have kn : ¬ ((0 ≤ a.toInt ∧ a.toInt < iR T.1.1 1) ∧ (0 ≤ b.toInt ∧ b.toInt < iR T.1.1 1) ∧ a ≠ b ∧ (0 ≤ c.toInt ∧ c.toInt < iR T.1.1 0) ∧ -1 ≤ i.toInt ∧ 1 ≤ leftR T.1.1 a.toInt.toNat c.toInt.toNat) → q (-1) (ov S o ad (mI M 0 0)) := fun z => by
    have := h _ hM0 hR0
    rw [if_neg z] at this
    exact this
  unfold w_X12_chain
  simp (disch := decide) only [oi_gI, oi_gJ, oi_gP, oi_pI, oi_pZ, oi_pJ, oi_oK, oi_aI hd, oi_aZ hd, oi_aJ hd, oi_sI hd, oi_sZ hd, oi_sJ hd, mI_1, mI_2, mJ_1, mJ_2, mJ_3, mA_1, mA_2, mA_3, mA_4, mL_1, mL_2, mL_3, mL_4, mK, Nat.reduceEqDiff, if_true, if_false, ite_true, ite_false, true_and, Nat.reduceLT, reduceIte, reduceCtorEq, cl_0, cl_1, cl_2, cl_3, cl_4, cl_5, cl_6, cl_7, cl_8, cl_9, cl_10, cl_11, cl_12, cl_13, cl_14, cl_15, vl_0_5585, vl_1_5585, vl_2_5585, vl_3_5585, vl_4_5585, vl_5_5585, vl_6_5585, vl_0_7, vl_1_7, vl_2_7, vl_3_7, vl_4_7, vl_5_7, vl_6_7]
  refine ⟨fun ce => kn (fun z => z.2.2.1 ce), fun cab => s_isPerson hd (fun h1 h2 => ⟨fun z => absurd z (by decide), fun _ => ⟨ov_oK, s_isPerson hd (fun h3 h4 => ⟨fun z => absurd z (by decide), fun _ => ⟨ov_oK, s_isHouse hd (fun h5 h6 => ⟨fun z => absurd z (by decide), fun _ => ⟨fun ci => kn (fun z => ?_), fun ci => ⟨ov_oK, ?_⟩⟩⟩) (fun nh => ⟨fun _ => kn (fun z => nh (by rw [i0]; exact z.2.2.2.1)), fun z => absurd rfl z⟩)⟩⟩) (fun np => ⟨fun _ => kn (fun z => np (by rw [i1]; exact z.2.1)), fun z => absurd rfl z⟩)⟩⟩) (fun np => ⟨fun _ => kn (fun z => np (by rw [i1]; exact z.1)), fun z => absurd rfl z⟩)⟩
  · rw [i32lt, zm] at ci
    have := z.2.2.2.2.1
    omega
  rw [i32lt, zm] at ci
  have c1 : 0 ≤ a.toInt ∧ a.toInt < iR T.1.1 1 := ⟨h1, by rw [← i1]; exact h2⟩
  have c3 : 0 ≤ b.toInt ∧ b.toInt < iR T.1.1 1 := ⟨h3, by rw [← i1]; exact h4⟩
  have c5 : 0 ≤ c.toInt ∧ c.toInt < iR T.1.1 0 := ⟨h5, by rw [← i0]; exact h6⟩
  obtain ⟨fr, hfr, rfl⟩ := rg_in n (by omega) h1 (h20 _ h2)
  obtain ⟨to, hto, rfl⟩ := rg_in n (by omega) h3 (h20 _ h4)
  obtain ⟨e, he, rfl⟩ := rg_in 6 (by omega) h5 (by omega)
  have te : (nI e).toInt.toNat = e := by rw [nI_toInt (by omega)]; omega
  have tf : (nI fr).toInt.toNat = fr := by rw [nI_toInt (by omega)]; omega
  have tt : (nI to).toInt.toNat = to := by rw [nI_toInt (by omega)]; omega
  rw [te, tf, tt] at h
  rw [te, tf] at kn
  have lf := left_G hA.1 (p := fr) (e := e) (by omega) he
  have la : (mI M 0 0).2.2.1 3 (30 + 6 * fr + e) - (mI M 0 0).2.2.1 3 (78 + 6 * fr + e) = T.1.1 (30 + 6 * fr + e) - T.1.1 (78 + 6 * fr + e) := by rw [hR0.at (by omega), hR0.at (by omega)]
  refine s_leftOf hd (by omega) he ⟨fun cl => ?_, fun cl => kn (fun z => ?_)⟩
  · have hl : 1 ≤ leftR T.1.1 fr e := by
      by_cases z : leftR T.1.1 fr e = 0
      · exact absurd (Int32.toInt_inj.mp (by rw [la, lf.1, z]; decide)) cl
      · omega
    have hq : ∀ N, mOk mT N → RR N rs T → q (chA T e to fr i) (ov S o ad N) := fun N a1 a2 => by
      have := h N a1 a2
      rw [if_pos ⟨c1, c3, cab, c5, by omega, hl⟩] at this
      exact this
    clear h kn
    simp (disch := decide) only [oi_gI, oi_gJ, oi_gP, oi_pI, oi_pZ, oi_pJ, oi_oK, oi_aI hd, oi_aZ hd, oi_aJ hd, oi_sI hd, oi_sZ hd, oi_sJ hd, mI_1, mI_2, mJ_1, mJ_2, mJ_3, mA_1, mA_2, mA_3, mA_4, mL_1, mL_2, mL_3, mL_4, mK, Nat.reduceEqDiff, if_true, if_false, ite_true, ite_false, true_and, Nat.reduceLT, reduceIte, reduceCtorEq, cl_0, cl_1, cl_2, cl_3, cl_4, cl_5, cl_6, cl_7, cl_8, cl_9, cl_10, cl_11, cl_12, cl_13, cl_14, cl_15, vl_0_5585, vl_1_5585, vl_2_5585, vl_3_5585, vl_4_5585, vl_5_5585, vl_6_5585, vl_0_7, vl_1_7, vl_2_7, vl_3_7, vl_4_7, vl_5_7, vl_6_7]
    rw [en]
    exact x_chain2 hd hM0 hR0 hA hnn hn hto hfr he (by omega) hq
  · rw [la] at cl
    have e0 := congrArg Int32.toInt cl
    rw [lf.1, show (0 : Int32).toInt = 0 by decide] at e0
    have := z.2.2.2.2.2
    omega
end CM3
