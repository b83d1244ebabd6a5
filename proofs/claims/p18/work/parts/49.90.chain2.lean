/-! LAYER 2, the reference: chain(), as a whole -/
/-- what is known of the row of costs -/
def cR (g : Nat → Int32) (D : Nat → Nat) (dn du : Nat → Nat) (n : Nat) : Prop := ∀ p, p < n → g p = nI (D p) ∧ D p ≤ 100000000 ∧ dn p ≤ D p ∧ D p ≤ du p
section REF39
variable {S : hS} {o : Nat} {ad : Nat → Nat} {M : mS} {mT : mS}
theorem f_ch118 (hd : mD o ad) {M0 : mS} (hM0 : mOk mT M0) {q : Int32 → hS → Prop} {K98 : hS → Nat → Int32 → Int32 → Int32 → Int32 → Int32 → Int32 → Prop} {K108 : hS → Nat → Int32 → Int32 → Int32 → Int32 → Int32 → Int32 → Int32 → Prop} {b : Nat → Nat → Bool} {wt : Nat → Nat → Nat} {n to p e r : Nat} {v1 v4 v6 : Int32} (eb : b = bq (M0.2.2.1 3) (M0.2.2.2 35) e) (ew : wt = cq (M0.2.2.1 3) (M0.2.2.2 35) e) (hn : n ≤ 8) (hto : to < n) (hp : p < n) (he : e < 6) (hC : CF M0 M) {D : Nat → Nat} (hR : cR (M.2.2.1 49) D (dk n to b wt n) (dk n to b wt r) n) (hlow : ∀ p', p' < p → D p' ≤ dk n to b wt (r + 1) p')
    (h : ∀ N D', CF M0 N → cR (N.2.2.1 49) D' (dk n to b wt n) (dk n to b wt r) n → (∀ p', p' < p + 1 → D' p' ≤ dk n to b wt (r + 1) p') → K108 (ov S o ad N) o v1 (nI to) (nI e) v4 (nI n) v6 (nI (p + 1))) : ∃ m, w_X12_chain_b118 q K98 K108 m (ov S o ad M) o v1 (nI to) (nI e) v4 (nI n) v6 (nI p) 0 := by
  refine loop_m (σ := mS × (Nat → Nat) × Nat) (fun m s => w_X12_chain_b118 q K98 K108 m (ov S o ad s.1) o v1 (nI to) (nI e) v4 (nI n) v6 (nI p) (nI s.2.2)) (fun s => CF M0 s.1 ∧ cR (s.1.2.2.1 49) s.2.1 (dk n to b wt n) (dk n to b wt r) n ∧ (∀ p', p' < p → s.2.1 p' ≤ dk n to b wt (r + 1) p') ∧ s.2.2 ≤ n ∧ (p ≠ to → s.2.1 p ≤ rlx b wt (dk n to b wt r) p s.2.2)) (fun s => n - s.2.2) ?_ (M, D, 0) ⟨hC, hR, hlow, Nat.zero_le _, fun _ => (hR p hp).2.2.2⟩
  rintro m ⟨N, E, t⟩ ⟨hN, hE, hl, ht, hx⟩ ih
  dsimp only at hN hE hl ht hx ih ⊢
  have fin : (t = n ∨ p = to) → w_X12_chain_b179 q K98 K108 (ov S o ad N) o v1 (nI to) (nI e) v4 (nI n) v6 (nI p) := by
    intro hend y ey
    rw [ey, nI_1]
    refine h N E hN hE (fun p' hp' => ?_)
    by_cases c : p' = p
    · subst c
      by_cases ct : p' = to
      · subst ct
        have := (hE p' hp).2.2.2
        rw [dk_to] at this ⊢
        exact this
      · rw [dk, if_neg ct]
        rcases hend with z | z
        · have := hx ct
          rw [z] at this
          exact this
        · exact absurd z ct
    · exact hl p' (by omega)
  rw [w_X12_chain_b118]
  rw [nI_leI (by omega) (by omega), nI_eq (by omega) (by omega)]
  refine ⟨fun c => fin (Or.inl (by omega)), fun c => ⟨fun c2 => fin (Or.inr c2), fun c2 => ⟨ov_oK, f_chainBy hd hM0 hN (D := E) (by omega) (by omega) he (hE t (by omega)).1 (hE t (by omega)).2.1 (fun Q hQ => ?_)⟩⟩⟩
  rw [← eb, ← ew]
  obtain ⟨p1, p2, p3, p4⟩ := hE p hp
  obtain ⟨t1, t2, t3, t4⟩ := hE t (by omega)
  have hrl : rwv b wt E p t < 2 ^ 31 := by
    have := (cq_c (f := M0.2.2.1 3) (z := M0.2.2.2 35) (e := e) (p := p) (t := t)).1
    unfold rwv
    rw [ew]
    split <;> omega
  have hmin := rwv_min (b := b) (wt := wt) (o := t) p2
  have hQC : CF M0 Q := hN.z hQ
  have h49 : Q.2.2.1 49 = N.2.2.1 49 := by rw [hQ.r]
  -- the cheaper one is kept
  have k172 : ∀ x : Nat, x = min (E p) (rwv b wt E p t) → w_X12_chain_b172 q K98 K108 (fun S v0 v1 v2 v3 v4 v5 v6 v7 v8 => w_X12_chain_b118 q K98 K108 m S v0 v1 v2 v3 v4 v5 v6 v7 v8) (ov S o ad Q) o v1 (nI to) (nI e) v4 (nI n) v6 (nI p) (nI t) (nI x) (nI p) (ad 49) := by
    intro x hxm
    rw [hmin] at hxm
    unfold w_X12_chain_b172
    simp (disch := decide) only [oi_gI, oi_gJ, oi_gP, oi_pI, oi_pZ, oi_pJ, oi_oK, oi_aI hd, oi_aZ hd, oi_aJ hd, oi_sI hd, oi_sZ hd, oi_sJ hd, mI_1, mI_2, mJ_1, mJ_2, mJ_3, mA_1, mA_2, mA_3, mA_4, mL_1, mL_2, mL_3, mL_4, mK, Nat.reduceEqDiff, if_true, if_false, ite_true, ite_false, true_and, Nat.reduceLT, reduceIte, reduceCtorEq, cl_0, cl_1, cl_2, cl_3, cl_4, cl_5, cl_6, cl_7, cl_8, cl_9, cl_10, cl_11, cl_12, cl_13, cl_14, cl_15, vl_0_5585, vl_1_5585, vl_2_5585, vl_3_5585, vl_4_5585, vl_5_5585, vl_6_5585, vl_0_7, vl_1_7, vl_2_7, vl_3_7, vl_4_7, vl_5_7, vl_6_7]
    rw [nI_clamp (by omega)]
    refine ⟨vp_in_nI (by omega) (by omega), fun y ey => ?_⟩
    rw [ey, nI_1]
    have e49 : ∀ i, (mA Q 49 (upd (Q.2.2.1 49) p (nI x))).2.2.1 49 i = upd (N.2.2.1 49) p (nI x) i := fun i => by rw [mA_3, if_pos rfl, h49]
    have hst := dk_st (n := n) (to := to) (b := b) (wt := wt) (by rw [ew]; exact cq_1) hp (show t < n by omega) c2
    have hmo := bfc_mono (b := b) (wt := wt) (D := dk n to b wt n) (D' := E) (p := p) (o := t) t3 t2
    have hmo2 := bfc_mono (b := b) (wt := wt) (D := E) (D' := dk n to b wt r) (p := p) (o := t) t4 (dk_F r t)
    refine ih (mA Q 49 (upd (Q.2.2.1 49) p (nI x)), fun i => if i = p then x else E i, t + 1) ⟨hQC.g, fun i hi => ?_, fun i hi => ?_, by dsimp only; omega, fun hpt => ?_⟩ (by dsimp only; omega)
    · dsimp only
      rw [e49]
      by_cases ci : i = p
      · subst ci
        rw [upd_self, if_pos rfl]
        exact ⟨rfl, by omega, by omega, by omega⟩
      · rw [upd_ne _ _ ci, if_neg ci]
        exact hE i hi
    · dsimp only
      rw [if_neg (by omega)]
      exact hl i hi
    · dsimp only
      rw [if_pos rfl, rlx]
      have := hx hpt
      omega
  simp (disch := decide) only [oi_gI, oi_gJ, oi_gP, oi_pI, oi_pZ, oi_pJ, oi_oK, oi_aI hd, oi_aZ hd, oi_aJ hd, oi_sI hd, oi_sZ hd, oi_sJ hd, mI_1, mI_2, mJ_1, mJ_2, mJ_3, mA_1, mA_2, mA_3, mA_4, mL_1, mL_2, mL_3, mL_4, mK, Nat.reduceEqDiff, if_true, if_false, ite_true, ite_false, true_and, Nat.reduceLT, reduceIte, reduceCtorEq, cl_0, cl_1, cl_2, cl_3, cl_4, cl_5, cl_6, cl_7, cl_8, cl_9, cl_10, cl_11, cl_12, cl_13, cl_14, cl_15, vl_0_5585, vl_1_5585, vl_2_5585, vl_3_5585, vl_4_5585, vl_5_5585, vl_6_5585, vl_0_7, vl_1_7, vl_2_7, vl_3_7, vl_4_7, vl_5_7, vl_6_7]
  rw [nI_clamp (by omega), h49, p1, nI_leI (by omega) hrl]
  refine ⟨vp_in_nI (by omega) (by omega), fun c3 => ⟨vp_in_nI (by omega) (by omega), k172 _ (by omega)⟩, fun c3 => k172 _ (by omega)⟩
theorem p_chain (hd : mD o ad) (hM : mOk mT M) {q : Int32 → hS → Prop} {a b c i : Int32} (h : ∀ r N, mOk mT N → q r (ov S o ad N)) : w_X12_chain q (ov S o ad M) o a b c i := by
  have hM0 : mOk mT (mI M 0 0) := mOk_i hM (by omega)
  have b1 := hM0.1.1.2
  have b2 := hM0.1.2.1.2
  obtain ⟨n, hn, en⟩ := rg_inR (b := 8) hM.1.2.1 (by omega) (by omega)
  have en0 : (mI M 0 0).2.2.1 3 1 = nI n := en
  rw [en0, nI_toInt (by omega)] at b2
  have h20 : ∀ x : Int32, x.toInt < ((mI M 0 0).2.2.1 3 1).toInt → x.toInt < n := fun x hx => by rw [en0, nI_toInt (by omega)] at hx; exact hx
  unfold w_X12_chain
  simp (disch := decide) only [oi_gI, oi_gJ, oi_gP, oi_pI, oi_pZ, oi_pJ, oi_oK, oi_aI hd, oi_aZ hd, oi_aJ hd, oi_sI hd, oi_sZ hd, oi_sJ hd, mI_1, mI_2, mJ_1, mJ_2, mJ_3, mA_1, mA_2, mA_3, mA_4, mL_1, mL_2, mL_3, mL_4, mK, Nat.reduceEqDiff, if_true, if_false, ite_true, ite_false, true_and, Nat.reduceLT, reduceIte, reduceCtorEq, cl_0, cl_1, cl_2, cl_3, cl_4, cl_5, cl_6, cl_7, cl_8, cl_9, cl_10, cl_11, cl_12, cl_13, cl_14, cl_15, vl_0_5585, vl_1_5585, vl_2_5585, vl_3_5585, vl_4_5585, vl_5_5585, vl_6_5585, vl_0_7, vl_1_7, vl_2_7, vl_3_7, vl_4_7, vl_5_7, vl_6_7]
  refine ⟨fun _ => h _ _ hM0, fun cab => s_isPerson hd (fun h1 h2 => ⟨fun z => absurd z (by decide), fun _ => ⟨ov_oK, s_isPerson hd (fun h3 h4 => ⟨fun z => absurd z (by decide), fun _ => ⟨ov_oK, s_isHouse hd (fun h5 h6 => ⟨fun z => absurd z (by decide), fun _ => ⟨fun _ => h _ _ hM0, fun _ => ⟨ov_oK, ?_⟩⟩⟩) (fun _ => ⟨fun _ => h _ _ hM0, fun z => absurd rfl z⟩)⟩⟩) (fun _ => ⟨fun _ => h _ _ hM0, fun z => absurd rfl z⟩)⟩⟩) (fun _ => ⟨fun _ => h _ _ hM0, fun z => absurd rfl z⟩)⟩
  obtain ⟨fr, hfr, rfl⟩ := rg_in n (by omega) h1 (h20 _ h2)
  obtain ⟨to, hto, rfl⟩ := rg_in n (by omega) h3 (h20 _ h4)
  obtain ⟨e, he, rfl⟩ := rg_in 6 (by omega) h5 (by omega)
  refine s_leftOf hd (by omega) he ⟨fun _ => ?_, fun _ => h _ _ hM0⟩
  simp (disch := decide) only [oi_gI, oi_gJ, oi_gP, oi_pI, oi_pZ, oi_pJ, oi_oK, oi_aI hd, oi_aZ hd, oi_aJ hd, oi_sI hd, oi_sZ hd, oi_sJ hd, mI_1, mI_2, mJ_1, mJ_2, mJ_3, mA_1, mA_2, mA_3, mA_4, mL_1, mL_2, mL_3, mL_4, mK, Nat.reduceEqDiff, if_true, if_false, ite_true, ite_false, true_and, Nat.reduceLT, reduceIte, reduceCtorEq, cl_0, cl_1, cl_2, cl_3, cl_4, cl_5, cl_6, cl_7, cl_8, cl_9, cl_10, cl_11, cl_12, cl_13, cl_14, cl_15, vl_0_5585, vl_1_5585, vl_2_5585, vl_3_5585, vl_4_5585, vl_5_5585, vl_6_5585, vl_0_7, vl_1_7, vl_2_7, vl_3_7, vl_4_7, vl_5_7, vl_6_7]
  rw [en]
  generalize hM0e : mI M 0 0 = M0 at hM0 en0 ⊢
  clear h20 b1 h2 h4
  generalize hbb : bq (M0.2.2.1 3) (M0.2.2.2 35) e = bb
  generalize hww : cq (M0.2.2.1 3) (M0.2.2.2 35) e = ww
  have hw1 : ∀ p t, 1 ≤ ww p t := by rw [← hww]; exact cq_1
  -- behind the last round
  have kend : ∀ N D, CF M0 N → cR (N.2.2.1 49) D (dk n to bb ww n) (dk n to bb ww n) n → gP (ov S o ad N) o 12 49 (fun x192 => aI (ov S o ad N) x192 (nI fr) (fun x196 => (x196 = 100000000 → w_X12_chain_b209 q (ov S o ad N) o (nI fr)) ∧ (¬ x196 = 100000000 → (¬ i = (-1) → (∃ n241 : Nat, w_X12_chain_b241 q n241 (ov S o ad N) o (nI to) (nI e) i (nI fr) 0)) ∧ (i = (-1) → w_X12_chain_b209 q (ov S o ad N) o (nI fr))))) := by
    intro N D hN hR
    have hNok := hN.ok hM0
    have k209 : w_X12_chain_b209 q (ov S o ad N) o (nI fr) := by
      unfold w_X12_chain_b209
      simp (disch := decide) only [oi_gI, oi_gJ, oi_gP, oi_pI, oi_pZ, oi_pJ, oi_oK, oi_aI hd, oi_aZ hd, oi_aJ hd, oi_sI hd, oi_sZ hd, oi_sJ hd, mI_1, mI_2, mJ_1, mJ_2, mJ_3, mA_1, mA_2, mA_3, mA_4, mL_1, mL_2, mL_3, mL_4, mK, Nat.reduceEqDiff, if_true, if_false, ite_true, ite_false, true_and, Nat.reduceLT, reduceIte, reduceCtorEq, cl_0, cl_1, cl_2, cl_3, cl_4, cl_5, cl_6, cl_7, cl_8, cl_9, cl_10, cl_11, cl_12, cl_13, cl_14, cl_15, vl_0_5585, vl_1_5585, vl_2_5585, vl_3_5585, vl_4_5585, vl_5_5585, vl_6_5585, vl_0_7, vl_1_7, vl_2_7, vl_3_7, vl_4_7, vl_5_7, vl_6_7]
      exact ⟨vp_in_nI (by omega) (by omega), fun _ => ⟨vp_in_nI (by omega) (by omega), h _ _ hNok⟩, fun _ => h _ _ hNok⟩
    have hDd : ∀ p, p < n → N.2.2.1 49 p = nI (dk n to bb ww n p) := fun p hp => by
      obtain ⟨r1, r2, r3, r4⟩ := hR p hp
      rw [r1, show D p = dk n to bb ww n p by omega]
    have hF := dk_F (n := n) (to := to) (b := bb) (wt := ww) n fr
    simp (disch := decide) only [oi_gI, oi_gJ, oi_gP, oi_pI, oi_pZ, oi_pJ, oi_oK, oi_aI hd, oi_aZ hd, oi_aJ hd, oi_sI hd, oi_sZ hd, oi_sJ hd, mI_1, mI_2, mJ_1, mJ_2, mJ_3, mA_1, mA_2, mA_3, mA_4, mL_1, mL_2, mL_3, mL_4, mK, Nat.reduceEqDiff, if_true, if_false, ite_true, ite_false, true_and, Nat.reduceLT, reduceIte, reduceCtorEq, cl_0, cl_1, cl_2, cl_3, cl_4, cl_5, cl_6, cl_7, cl_8, cl_9, cl_10, cl_11, cl_12, cl_13, cl_14, cl_15, vl_0_5585, vl_1_5585, vl_2_5585, vl_3_5585, vl_4_5585, vl_5_5585, vl_6_5585, vl_0_7, vl_1_7, vl_2_7, vl_3_7, vl_4_7, vl_5_7, vl_6_7]
    rw [nI_clamp (by omega), hDd fr hfr, lit_nI 100000000, nI_eq (by omega) (by omega)]
    refine ⟨vp_in_nI (by omega) (by omega), fun _ => k209, fun cf => ⟨fun _ => ?_, fun _ => k209⟩⟩
    exact f_ch241 hd hM0 hN hn hto hfr he (by rw [hbb, hww]; exact hDd) (by rw [hbb, hww]; omega) h
  -- a round
  have k98 : ∀ N D, CF M0 N → cR (N.2.2.1 49) D (dk n to bb ww n) (dk n to bb ww 0) n → ∃ m, w_X12_chain_b98 q m (ov S o ad N) o (nI fr) (nI to) (nI e) i (nI n) 0 := by
    intro N0 D0 hN0 hR0
    refine loop_m (σ := mS × (Nat → Nat) × Nat) (fun m s => w_X12_chain_b98 q m (ov S o ad s.1) o (nI fr) (nI to) (nI e) i (nI n) (nI s.2.2)) (fun s => CF M0 s.1 ∧ cR (s.1.2.2.1 49) s.2.1 (dk n to bb ww n) (dk n to bb ww s.2.2) n ∧ s.2.2 ≤ n) (fun s => n - s.2.2) ?_ (N0, D0, 0) ⟨hN0, hR0, Nat.zero_le _⟩
    rintro m ⟨N, D, r⟩ ⟨hN, hR, hr⟩ ih
    dsimp only at hN hR hr ih ⊢
    rw [w_X12_chain_b98, nI_leI (by omega) (by omega)]
    refine ⟨fun cr => ?_, fun cr => ?_⟩
    · obtain rfl : r = n := by omega
      exact kend N D hN hR
    refine loop_m (σ := mS × (Nat → Nat) × Nat) (fun m' s => w_X12_chain_b108 q (fun S v0 v1 v2 v3 v4 v5 v6 => w_X12_chain_b98 q m S v0 v1 v2 v3 v4 v5 v6) m' (ov S o ad s.1) o (nI fr) (nI to) (nI e) i (nI n) (nI r) (nI s.2.2)) (fun s => CF M0 s.1 ∧ cR (s.1.2.2.1 49) s.2.1 (dk n to bb ww n) (dk n to bb ww r) n ∧ (∀ p', p' < s.2.2 → s.2.1 p' ≤ dk n to bb ww (r + 1) p') ∧ s.2.2 ≤ n) (fun s => n - s.2.2) ?_ (N, D, 0) ⟨hN, hR, fun p' hp' => absurd hp' (by simp), Nat.zero_le _⟩
    rintro m' ⟨P, E, p⟩ ⟨hP, hE, hl, hp⟩ ih'
    dsimp only at hP hE hl hp ih' ⊢
    rw [w_X12_chain_b108, nI_leI (by omega) (by omega)]
    refine ⟨fun cp y ey => ?_, fun cp => f_ch118 hd hM0 hbb.symm hww.symm hn hto (by omega) he hP hE hl (fun Q E' hQ hE' hl' => ih' (Q, E', p + 1) ⟨hQ, hE', hl', by dsimp only; omega⟩ (by dsimp only; omega))⟩
    rw [ey, nI_1]
    refine ih (P, E, r + 1) ⟨hP, fun p' hp' => ?_, by dsimp only; omega⟩ (by dsimp only; omega)
    obtain ⟨r1, r2, r3, r4⟩ := hE p' hp'
    exact ⟨r1, r2, r3, hl p' (by omega)⟩
  -- the start
  have key := loop_m (σ := (Nat → Int32) × Nat) (fun m s => w_X12_chain_b62 q m (ov S o ad (mA M0 49 s.1)) o (nI fr) (nI to) (nI e) i (nI n) (nI s.2)) (fun s => s.2 ≤ n ∧ ∀ p, p < s.2 → s.1 p = nI (dk n to bb ww 0 p)) (fun s => n - s.2) ?_ (M0.2.2.1 49, 0) ⟨Nat.zero_le _, fun p hp => absurd hp (by simp)⟩
  · rw [mA_self] at key
    exact key
  rintro m ⟨g, j⟩ ⟨hj, hg⟩ ih
  dsimp only at hj hg ih ⊢
  have k88 : ∀ x : Nat, j < n → x = dk n to bb ww 0 j → w_X12_chain_b88 q (fun S v0 v1 v2 v3 v4 v5 v6 => w_X12_chain_b62 q m S v0 v1 v2 v3 v4 v5 v6) (ov S o ad (mA M0 49 g)) o (nI fr) (nI to) (nI e) i (nI n) (nI j) (nI x) (nI j) (ad 49) := by
    intro x hjn hx
    unfold w_X12_chain_b88
    simp (disch := decide) only [oi_gI, oi_gJ, oi_gP, oi_pI, oi_pZ, oi_pJ, oi_oK, oi_aI hd, oi_aZ hd, oi_aJ hd, oi_sI hd, oi_sZ hd, oi_sJ hd, mI_1, mI_2, mJ_1, mJ_2, mJ_3, mA_1, mA_2, mA_3, mA_4, mL_1, mL_2, mL_3, mL_4, mK, Nat.reduceEqDiff, if_true, if_false, ite_true, ite_false, true_and, Nat.reduceLT, reduceIte, reduceCtorEq, cl_0, cl_1, cl_2, cl_3, cl_4, cl_5, cl_6, cl_7, cl_8, cl_9, cl_10, cl_11, cl_12, cl_13, cl_14, cl_15, vl_0_5585, vl_1_5585, vl_2_5585, vl_3_5585, vl_4_5585, vl_5_5585, vl_6_5585, vl_0_7, vl_1_7, vl_2_7, vl_3_7, vl_4_7, vl_5_7, vl_6_7, mA_mA]
    rw [nI_clamp (by omega)]
    refine ⟨vp_in_nI (by omega) (by omega), fun y ey => ?_⟩
    rw [ey, nI_1]
    refine ih (upd g j (nI x), j + 1) ⟨by dsimp only; omega, fun p hp => ?_⟩ (by dsimp only; omega)
    dsimp only at hp ⊢
    by_cases cp : p = j
    · subst cp; rw [upd_self, hx]
    · rw [upd_ne _ _ cp]; exact hg p (by omega)
  rw [w_X12_chain_b62, nI_leI (by omega) (by omega)]
  refine ⟨fun cj => k98 _ (dk n to bb ww 0) CF.rf.g (fun p hp => ?_), fun cj => ?_⟩
  · have e49 : (mA M0 49 g).2.2.1 49 p = g p := by rw [mA_3, if_pos rfl]
    have hle := dk_le (n := n) (to := to) (b := bb) (wt := ww) (i := 0) (p := p) n
    rw [Nat.zero_add] at hle
    exact ⟨by rw [e49]; exact hg p (by omega), dk_F 0 p, hle, Nat.le_refl _⟩
  · simp (disch := decide) only [oi_gI, oi_gJ, oi_gP, oi_pI, oi_pZ, oi_pJ, oi_oK, oi_aI hd, oi_aZ hd, oi_aJ hd, oi_sI hd, oi_sZ hd, oi_sJ hd, mI_1, mI_2, mJ_1, mJ_2, mJ_3, mA_1, mA_2, mA_3, mA_4, mL_1, mL_2, mL_3, mL_4, mK, Nat.reduceEqDiff, if_true, if_false, ite_true, ite_false, true_and, Nat.reduceLT, reduceIte, reduceCtorEq, cl_0, cl_1, cl_2, cl_3, cl_4, cl_5, cl_6, cl_7, cl_8, cl_9, cl_10, cl_11, cl_12, cl_13, cl_14, cl_15, vl_0_5585, vl_1_5585, vl_2_5585, vl_3_5585, vl_4_5585, vl_5_5585, vl_6_5585, vl_0_7, vl_1_7, vl_2_7, vl_3_7, vl_4_7, vl_5_7, vl_6_7]
    rw [nI_eq (by omega) (by omega)]
    exact ⟨fun ct => k88 100000000 (by omega) (by rw [dk, if_neg ct]), fun ct => k88 0 (by omega) (by rw [dk, if_pos ct])⟩
end REF39
