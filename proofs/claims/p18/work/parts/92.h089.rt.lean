/-! THE REFERENCE'S ORDERS, EXACTLY: READORDER, WHOLE -/
/-- the orders os are read so far -/
def R3 (G : pG) (M : mS) (p k : Nat) (os : List pOr) : Prop := ∃ out, R0 G M p k out ∧ M.1 21 = nI os.length ∧ os.length ≤ 12 ∧ (∀ j, (h : j < os.length) → clR out M j os[j]) ∧ acM M ∧ M.1 20 = 1
theorem clR.to {out l : List (Nat × Nat)} {M N : mS} {j : Nat} {c : pOr} (h : clR out M j c) (e : ∀ i, 10 * j ≤ i → i < 10 * j + 10 → N.2.2.1 52 i = M.2.2.1 52 i) : clR (out ++ l) N j c := by
  obtain ⟨h1, h2, h3, h4, h5, h6⟩ := h
  exact ⟨(e _ (by omega) (by omega)).trans h1, h2.to (e _ (by omega) (by omega)) (e _ (by omega) (by omega)), h3.to (e _ (by omega) (by omega)) (e _ (by omega) (by omega)), h4.to (e _ (by omega) (by omega)) (e _ (by omega) (by omega)), h5.to (e _ (by omega) (by omega)) (e _ (by omega) (by omega)), (e _ (by omega) (by omega)).trans h6⟩
theorem acM_fx {M N : mS} {a b c d : List Nat} (h : Fx a b c d M N) (hM : acM M) (hd : 51 ∉ d) : acM N := by
  unfold acM at *
  rw [h.2.2.2 51 hd]
  exact hM
section RT
variable {S : hS} {o : Nat} {ad : Nat → Nat} {M : mS} {G : pG} {p k : Nat}
theorem x_or85 (hd : mD o ad) {q : hS → Prop} {n h : Nat} {out : List (Nat × Nat)} {sm : oR} (hn : n < 12) (hh : h < 4) (hR : R0 G M p k out) (e20 : M.1 20 = 1) (es : sm = if h < 3 then opt (prS G orW 8 p k) else ((p, k), some none)) (h1 : ∀ r c, ordT0 G h sm = (r, some c) → ∀ N l, OF M N → R0 G N r.1 r.2 (out ++ l) → N.1 21 = M.1 21 → N.1 20 = 1 → (∀ j, j < 10 * n → N.2.2.1 52 j = M.2.2.1 52 j) → clR (out ++ l) N n c → q (ov S o ad N)) (h0 : ∀ r, ordT0 G h sm = (r, none) → ∀ N, OF M N → RBo G N r.1 → q (ov S o ad N)) : ∃ m, w_X12_readOrder_b85 q m (ov S o ad M) o (nI h) (nI (10 * n)) 0 := by
  have eh3 : (nI h = 3) ↔ h = 3 := by rw [show (3 : Int32) = nI 3 from rfl, nI_eq (by omega) (by omega)]
  refine loop_m (σ := mS × Nat) (fun m s => w_X12_readOrder_b85 q m (ov S o ad s.1) o (nI h) (nI (10 * n)) (nI s.2)) (fun s => Fx [] [] [52] [] M s.1 ∧ (∀ i, i < 10 * n → s.1.2.2.1 52 i = M.2.2.1 52 i) ∧ (∀ i, i < s.2 → s.1.2.2.1 52 (10 * n + i) = 0) ∧ s.2 ≤ 10) (fun s => 10 - s.2) ?_ (M, 0) ⟨Fx.rf', fun _ _ => rfl, fun i hi => absurd hi (Nat.not_lt_zero _), by omega⟩
  rintro m ⟨N, j⟩ ⟨hF, g1, g0, g2⟩ ih
  dsimp only at hF g1 g0 g2 ih ⊢
  rw [w_X12_readOrder_b85]
  rw [lit_nI 10, nI_leI (by omega) (by omega)]
  refine ⟨fun c1 => ?_, fun c1 => ?_⟩
  · have hRN := R0_fx hF hR (by simp)
    simp (disch := decide) only [oi_gI, oi_gJ, oi_gP, oi_pI, oi_pZ, oi_pJ, oi_oK, oi_aI hd, oi_aZ hd, oi_aJ hd, oi_sI hd, oi_sZ hd, oi_sJ hd, mI_1, mI_2, mJ_1, mJ_2, mJ_3, mA_1, mA_2, mA_3, mA_4, mL_1, mL_2, mL_3, mL_4, mK, Nat.reduceEqDiff, if_true, if_false, ite_true, ite_false, true_and, Nat.reduceLT, reduceIte, reduceCtorEq, cl_0, cl_1, cl_2, cl_3, cl_4, cl_5, cl_6, cl_7, cl_8, cl_9, cl_10, cl_11, cl_12, cl_13, cl_14, cl_15, vl_0_5585, vl_1_5585, vl_2_5585, vl_3_5585, vl_4_5585, vl_5_5585, vl_6_5585, vl_0_7, vl_1_7, vl_2_7, vl_3_7, vl_4_7, vl_5_7, vl_6_7]
    rw [nI_clamp (by omega), eh3]
    refine ⟨vp_in_nI (by omega) (by omega), ?_⟩
    have hF1 : Fx [] [] [52] [] N (mA N 52 (upd (N.2.2.1 52) (10 * n) (nI h))) := Fx.a 52 _
    have e52 : (mA N 52 (upd (N.2.2.1 52) (10 * n) (nI h))).2.2.1 52 = upd (N.2.2.1 52) (10 * n) (nI h) := by simp [mA_3]
    generalize mA N 52 (upd (N.2.2.1 52) (10 * n) (nI h)) = P at hF1 e52 ⊢
    have hFM := hF.tr hF1
    have hLP : OF M P := hFM.le (by simp) (by simp) (by simp) (by simp)
    have hRP := R0_fx hF1 hRN (by simp)
    have p20 : P.1 20 = 1 := (hFM.1 20 (by simp)).trans e20
    have p21 : P.1 21 = M.1 21 := hFM.1 21 (by simp)
    have pz : ∀ i, 1 ≤ i → i < 10 → P.2.2.1 52 (10 * n + i) = 0 := fun i i1 i2 => by
      rw [e52, upd_ne _ _ (by omega)]
      exact g0 i (by omega)
    -- behind the first sum
    have fin : ∀ r s0 Q, sm = (r, some s0) → OF P Q → R0 G Q r.1 r.2 (out ++ oR' s0 out.length) → Q.1 21 = M.1 21 → Q.1 20 = 1 → (∀ i, i ≠ 10 * n + 1 → i ≠ 10 * n + 2 → Q.2.2.1 52 i = P.2.2.1 52 i) → mkP (out ++ oR' s0 out.length) Q (10 * n + 1) s0 → w_X12_readOrder_b125 q (ov S o ad Q) o (nI h) (nI (10 * n)) := by
      intro r s0 Q hsm hPQ hRQ q21 q20 q52 qm
      have eo : ordT0 G h sm = ordT1 G h s0 r := by rw [hsm]; rfl
      refine x_T1 hd hn hh hRQ q20 (fun j j1 j2 => (q52 _ (by omega) (by omega)).trans (pz j (by omega) (by omega))) (fun r2 s1 s2 mm t e N2 hL2 hR2 a b c d1 d2 d3 d4 => ?_) (fun r2 e N2 hL2 hB2 => h0 r2 (by rw [eo]; exact e) N2 (OF.tr (OF.tr hLP hPQ) hL2) hB2)
      have el : ∀ (a b c d : List (Nat × Nat)), ((a ++ b) ++ c) ++ d = (a ++ b) ++ (c ++ d) := fun a b c d => List.append_assoc _ _ _
      have el2 : ∀ (a b c : List (Nat × Nat)), (a ++ b) ++ c = a ++ (b ++ c) := fun a b c => List.append_assoc _ _ _
      rw [el] at hR2 d1 d2 d3
      have d0 := qm.to (N := N2) (l := oR' s1 (out ++ oR' s0 out.length).length ++ (oR' s2 (out ++ oR' s0 out.length ++ oR' s1 (out ++ oR' s0 out.length).length).length ++ oR' t (out ++ oR' s0 out.length ++ oR' s1 (out ++ oR' s0 out.length).length ++ oR' s2 (out ++ oR' s0 out.length ++ oR' s1 (out ++ oR' s0 out.length).length).length).length)) (c _ (by omega)) (c _ (by omega))
      rw [← el2] at d0
      have act : N2.2.2.1 52 (10 * n) = nI h := by rw [c _ (by omega), q52 _ (by omega) (by omega), e52, upd_self]
      have low : ∀ j, j < 10 * n → N2.2.2.1 52 j = M.2.2.1 52 j := fun j hj => by rw [c _ (by omega), q52 _ (by omega) (by omega), e52, upd_ne _ _ (by omega)]; exact g1 j hj
      have hc : clR (out ++ oR' s0 out.length ++ oR' s1 (out ++ oR' s0 out.length).length ++ (oR' s2 (out ++ oR' s0 out.length ++ oR' s1 (out ++ oR' s0 out.length).length).length ++ oR' t (out ++ oR' s0 out.length ++ oR' s1 (out ++ oR' s0 out.length).length ++ oR' s2 (out ++ oR' s0 out.length ++ oR' s1 (out ++ oR' s0 out.length).length).length).length)) N2 n (h, (s0, s1, s2), mm, t) := ⟨act, d0, d1, d2, d3, d4⟩
      rw [el2, el2] at hR2 hc
      exact h1 r2 _ (by rw [eo]; exact e) N2 _ (OF.tr (OF.tr hLP hPQ) hL2) hR2 (a.trans q21) b low hc
    refine ⟨fun c3 => ?_, fun c3 => ?_⟩
    · rw [if_neg (by omega)] at es
      have en : out ++ oR' none out.length = out := List.append_nil _
      refine fin (p, k) none P es ((Fx.rf' : Fx [] [] [] [] P P).le (by simp) (by simp) (by simp) (by simp)) (by rw [en]; exact hRP) p21 p20 (fun _ _ _ => rfl) ?_
      rw [en]
      exact mkP.non (b := 0) (pz 1 (by omega) (by omega)) (pz 2 (by omega) (by omega)) (Nat.zero_le _)
    · rw [if_pos (by omega)] at es
      rw [nI_1]
      refine x_readSum hd (by omega) hRP p20 (fun r a e Q hF2 hRQ q21 q20 q52 => fin r (some a) Q (by rw [es, e]; rfl) hF2 hRQ (q21.trans p21) q20 (fun i i1 i2 => by rw [q52, upd_ne _ _ (by omega), upd_ne _ _ (by omega)]) ?_) (fun r e Q hF2 hBQ => x_b125b hd hn hBQ (fun N2 hL2 hB2 => h0 r (by rw [es, e]; rfl) N2 (OF.tr (OF.tr hLP hF2) hL2) hB2))
      have := mkP.new (out := out) (l := []) (M := Q) (i := 10 * n + 1) (a := some a) (by rw [q52, upd_ne _ _ (by omega), upd_self]) (by rw [q52, upd_self]; rfl)
      rw [List.append_nil] at this
      exact this
  · simp (disch := decide) only [oi_gI, oi_gJ, oi_gP, oi_pI, oi_pZ, oi_pJ, oi_oK, oi_aI hd, oi_aZ hd, oi_aJ hd, oi_sI hd, oi_sZ hd, oi_sJ hd, mI_1, mI_2, mJ_1, mJ_2, mJ_3, mA_1, mA_2, mA_3, mA_4, mL_1, mL_2, mL_3, mL_4, mK, Nat.reduceEqDiff, if_true, if_false, ite_true, ite_false, true_and, Nat.reduceLT, reduceIte, reduceCtorEq, cl_0, cl_1, cl_2, cl_3, cl_4, cl_5, cl_6, cl_7, cl_8, cl_9, cl_10, cl_11, cl_12, cl_13, cl_14, cl_15, vl_0_5585, vl_1_5585, vl_2_5585, vl_3_5585, vl_4_5585, vl_5_5585, vl_6_5585, vl_0_7, vl_1_7, vl_2_7, vl_3_7, vl_4_7, vl_5_7, vl_6_7]
    rw [nIadd, nI_clamp (by omega)]
    refine ⟨vp_in_nI (by omega) (by omega), fun y ey => ?_⟩
    rw [ey, nI_1]
    refine ih (_, j + 1) ⟨(hF.tr (Fx.a 52 _)).le (by simp) (by simp) (by simp) (by simp), fun i hi => ?_, fun i hi => ?_, by dsimp only; omega⟩ (by dsimp only; omega)
    · simp only [mA_3, if_true, reduceIte]
      rw [upd_ne _ _ (by omega)]
      exact g1 i hi
    · simp only [mA_3, if_true, reduceIte]
      dsimp only at hi
      by_cases c : i = j
      · rw [c, upd_self]
      · rw [upd_ne _ _ (by omega)]
        exact g0 i (by omega)
theorem x_readOrder (hd : mD o ad) {q : hS → Prop} {os : List pOr} (hR : R3 G M p k os) (h1 : ∀ r c, prOrd G p k = (r, some c) → os.length < 12 → ∀ N, OF M N → R3 G N r.1 r.2 (os ++ [c]) → q (ov S o ad N)) (h0 : ∀ r, ((prOrd G p k = (r, none) ∧ os.length < 12) ∨ (12 ≤ os.length ∧ r = (p, k))) → ∀ N, OF M N → RBo G N r.1 → q (ov S o ad N)) : w_X12_readOrder q (ov S o ad M) o := by
  obtain ⟨out, hR0, e21, hn, hm, hh, e20⟩ := hR
  obtain ⟨s1, s2, s3, s4, s5, s6, s7, s8, s9⟩ := id hR0
  have hT := s3.2.1
  have hb := s3.2.2.2
  have t3 := tE_le s7
  have l5 : acW.length = 4 := rfl
  have bad : ∀ head : Int32, (whW G acW p = none ∨ 12 ≤ os.length) → w_X12_readOrder_b54 q (ov S o ad M) o head 0 o := by
    intro head hc
    refine ⟨ov_oK, x_must hd s1 s3 s7 s2 (fun _ N hF h19 h18 => ?_) (fun z => absurd rfl z)⟩
    simp (disch := decide) only [oi_gI, oi_gJ, oi_gP, oi_pI, oi_pZ, oi_pJ, oi_oK, oi_aI hd, oi_aZ hd, oi_aJ hd, oi_sI hd, oi_sZ hd, oi_sJ hd, mI_1, mI_2, mJ_1, mJ_2, mJ_3, mA_1, mA_2, mA_3, mA_4, mL_1, mL_2, mL_3, mL_4, mK, Nat.reduceEqDiff, if_true, if_false, ite_true, ite_false, true_and, Nat.reduceLT, reduceIte, reduceCtorEq, cl_0, cl_1, cl_2, cl_3, cl_4, cl_5, cl_6, cl_7, cl_8, cl_9, cl_10, cl_11, cl_12, cl_13, cl_14, cl_15, vl_0_5585, vl_1_5585, vl_2_5585, vl_3_5585, vl_4_5585, vl_5_5585, vl_6_5585, vl_0_7, vl_1_7, vl_2_7, vl_3_7, vl_4_7, vl_5_7, vl_6_7]
    rw [h19]
    refine ⟨fun z => absurd z (by decide), fun _ => h0 (p, k) ?_ N (hF.le (by simp) (by simp) (by simp) (by simp)) ⟨h19, h18, tpM_fx hF s3 (by simp), wdsM_fx hF s6.1 (by simp)⟩⟩
    by_cases c12 : os.length < 12
    · left
      rcases hc with e | e
      · unfold prOrd
        rw [e]
        exact ⟨rfl, c12⟩
      · omega
    · exact Or.inr ⟨by omega, rfl⟩
  have good : ∀ h, whW G acW p = some h → h < 4 → tK G p = 1 → os.length < 12 → w_X12_readOrder_b54 q (ov S o ad M) o (nI h) 1 o := by
    intro h hw h5 hk hlt
    have t1 := tE_gt (G := G) (p := p) (by omega)
    have t2 := tS_ge G p
    refine ⟨ov_oK, x_must hd s1 s3 s7 s2 (fun z => absurd z (by decide)) (fun _ N hF ht => ?_)⟩
    have n19 : N.1 19 = 0 := (hF.1 19 (by simp)).trans s1
    have n21 : N.1 21 = nI os.length := (hF.1 21 (by simp)).trans e21
    have n20 : N.1 20 = 1 := (hF.1 20 (by simp)).trans e20
    simp (disch := decide) only [oi_gI, oi_gJ, oi_gP, oi_pI, oi_pZ, oi_pJ, oi_oK, oi_aI hd, oi_aZ hd, oi_aJ hd, oi_sI hd, oi_sZ hd, oi_sJ hd, mI_1, mI_2, mJ_1, mJ_2, mJ_3, mA_1, mA_2, mA_3, mA_4, mL_1, mL_2, mL_3, mL_4, mK, Nat.reduceEqDiff, if_true, if_false, ite_true, ite_false, true_and, Nat.reduceLT, reduceIte, reduceCtorEq, cl_0, cl_1, cl_2, cl_3, cl_4, cl_5, cl_6, cl_7, cl_8, cl_9, cl_10, cl_11, cl_12, cl_13, cl_14, cl_15, vl_0_5585, vl_1_5585, vl_2_5585, vl_3_5585, vl_4_5585, vl_5_5585, vl_6_5585, vl_0_7, vl_1_7, vl_2_7, vl_3_7, vl_4_7, vl_5_7, vl_6_7]
    rw [n19, n21]
    refine ⟨fun _ y ey => ?_, fun z => absurd rfl z⟩
    rw [ey, lit_nI 10, nImul, nI_1]
    have hRN : R0 G N (tE G p) k out := ⟨n19, ht, tpM_fx hF s3 (by simp), ⟨(hF.1 23 (by simp)).trans s4.1, by rw [hF.2.2.1 24 (by simp), hF.2.2.1 25 (by simp)]; exact s4.2⟩, (hF.1 26 (by simp)).trans s5, wdsG_fx hF s6 (by simp), t3, by omega, s9⟩
    have hF2 : Fx [21] [] [] [] N (mI N 21 (nI (os.length + 1))) := Fx.i 21 _
    have hRN2 := R0_fx hF2 hRN (by simp)
    have m21 : (mI N 21 (nI (os.length + 1))).1 21 = nI (os.length + 1) := by simp [mI_1]
    have m20 : (mI N 21 (nI (os.length + 1))).1 20 = 1 := (hF2.1 20 (by simp)).trans n20
    have hLN : OF M (mI N 21 (nI (os.length + 1))) := (hF.tr hF2).le (by simp) (by simp) (by simp) (by simp)
    have m52 : (mI N 21 (nI (os.length + 1))).2.2.1 52 = M.2.2.1 52 := (hF2.2.2.1 52 (by simp)).trans (hF.2.2.1 52 (by simp))
    generalize mI N 21 (nI (os.length + 1)) = N2 at hF2 hRN2 m21 m20 hLN m52 ⊢
    have eP := prOrd_eq (G := G) (p := p) (k := k) hw
    refine x_or85 hd hlt h5 hRN2 m20 rfl (fun r c e P l hLP hRP p21 p20 hlow hc => ?_) (fun r e P hLP hBP => h0 r (Or.inl ⟨by rw [eP]; exact e, hlt⟩) P (OF.tr hLN hLP) hBP)
    refine h1 r c (by rw [eP]; exact e) hlt P (OF.tr hLN hLP) ⟨out ++ l, hRP, ?_, ?_, fun j hj => ?_, acM_fx (OF.tr hLN hLP) hh (by simp), p20⟩
    · rw [p21, m21, List.length_append, List.length_singleton]
    · rw [List.length_append, List.length_singleton]; omega
    · rw [List.length_append, List.length_singleton] at hj
      by_cases cj : j < os.length
      · rw [List.getElem_append_left cj]
        exact (hm j cj).to (fun i i1 i2 => by rw [hlow i (by omega), m52])
      · have ej : j = os.length := by omega
        subst ej
        rw [List.getElem_append_right (Nat.le_refl _)]
        simp only [Nat.sub_self, List.getElem_cons_zero]
        exact hc
  refine loop_m (σ := Int32 × Nat) (fun m s => w_X12_readOrder_b4 q m (ov S o ad M) o s.1 (nI s.2)) (fun s => s.2 ≤ 4 ∧ ((s.1 = -1 ∧ ∀ k, (hk : k < acW.length) → k < s.2 → ¬ isWd G p (acW[k]).1 = true) ∨ ∃ k, ∃ hk : k < acW.length, s.1 = nI k ∧ isWd G p (acW[k]).1 = true)) (fun s => 4 - s.2) ?_ (-1, 0) ⟨by omega, Or.inl ⟨rfl, fun k _ hk => by dsimp only at hk; omega⟩⟩
  rintro m ⟨x, i⟩ ⟨g1, g2⟩ ih
  dsimp only at g1 g2 ih ⊢
  rw [w_X12_readOrder_b4]
  unfold w_X12_readOrder_b53 w_X12_readOrder_b27
  simp (disch := decide) only [oi_gI, oi_gJ, oi_gP, oi_pI, oi_pZ, oi_pJ, oi_oK, oi_aI hd, oi_aZ hd, oi_aJ hd, oi_sI hd, oi_sZ hd, oi_sJ hd, mI_1, mI_2, mJ_1, mJ_2, mJ_3, mA_1, mA_2, mA_3, mA_4, mL_1, mL_2, mL_3, mL_4, mK, Nat.reduceEqDiff, if_true, if_false, ite_true, ite_false, true_and, Nat.reduceLT, reduceIte, reduceCtorEq, cl_0, cl_1, cl_2, cl_3, cl_4, cl_5, cl_6, cl_7, cl_8, cl_9, cl_10, cl_11, cl_12, cl_13, cl_14, cl_15, vl_0_5585, vl_1_5585, vl_2_5585, vl_3_5585, vl_4_5585, vl_5_5585, vl_6_5585, vl_0_7, vl_1_7, vl_2_7, vl_3_7, vl_4_7, vl_5_7, vl_6_7]
  rw [e21, lit_nI 12, nI_leI (by omega) (by omega), lit_nI 4, nI_leI (by omega) (by omega), nI_clamp (by omega)]
  refine ⟨fun c5 => ?_, fun c5 => ⟨vp_in_nI (by omega) (by omega), x_isWord hd hb s2 (ac_ltr i (by omega)) (hh i (by omega)) (fun hs => ⟨fun z => absurd z (by decide), fun _ y ey => ?_⟩) (fun hs => ⟨fun _ y ey => ?_, fun z => absurd rfl z⟩)⟩⟩
  · rcases g2 with ⟨e, hno⟩ | ⟨j, hj, e, hs⟩
    · have hw := wh_none (W := acW) (fun k hk => hno k hk (by omega))
      exact ⟨fun _ => bad x (Or.inl hw), fun z => absurd e z⟩
    · obtain ⟨w, w1, w2, w3⟩ := wh_some hj hs
      rw [ac_k j hj w w1 w2] at w3
      have nm : ¬ x = -1 := fun z => by
        have := congrArg Int32.toInt (e.symm.trans z)
        rw [nI_toInt (by omega), show (-1 : Int32).toInt = -1 by decide] at this
        omega
      refine ⟨fun z => absurd z nm, fun _ => ⟨fun c12 => bad x (Or.inr c12), fun c12 => ?_⟩⟩
      rw [e]
      exact good j w3 (by omega) (isWd_k hs) (by omega)
  · rw [ey, nI_1]
    exact ih (nI i, i + 1) ⟨by dsimp only; omega, Or.inr ⟨i, by omega, rfl, hs⟩⟩ (by dsimp only; omega)
  · rw [ey, nI_1]
    refine ih (x, i + 1) ⟨by dsimp only; omega, ?_⟩ (by dsimp only; omega)
    rcases g2 with ⟨e, hno⟩ | z
    · refine Or.inl ⟨e, fun k hk k1 => ?_⟩
      dsimp only at k1
      by_cases ek : k = i
      · subst ek; exact hs
      · exact hno k hk (by omega)
    · exact Or.inr z
end RT
