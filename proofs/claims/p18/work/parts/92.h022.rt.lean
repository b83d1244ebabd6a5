/-! THE REFERENCE'S QUESTIONS TO A TOKEN, EXACTLY -/
/-- the words it knows -/
def wdsM (M : mS) : Prop := (∀ k, (h : k < lwW.length) → M.2.2.2 31 k = jN (wL (lwW[k]).1 : Nat)) ∧ ∀ k, (h : k < orW.length) → M.2.2.2 32 k = jN (wL (orW[k]).1 : Nat)
theorem wdsM_fx {a b c d : List Nat} {M N : mS} (h : Fx a b c d M N) (hG : wdsM M) (ha : 31 ∉ d ∧ 32 ∉ d) : wdsM N := by
  unfold wdsM at *
  rw [h.2.2.2 31 ha.1, h.2.2.2 32 ha.2]
  exact hG
/-- the words, and no fault yet -/
def wdsG (M : mS) : Prop := wdsM M ∧ M.1 18 = -1
theorem wdsG_fx {a b c d : List Nat} {M N : mS} (h : Fx a b c d M N) (hG : wdsG M) (ha : 18 ∉ a ∧ 31 ∉ d ∧ 32 ∉ d) : wdsG N := ⟨wdsM_fx h hG.1 ha.2, (h.1 18 ha.1).trans hG.2⟩
theorem isWd_uniq {G : pG} {p : Nat} {s s' : List Nat} (h : isWd G p s = true) (h' : isWd G p s' = true) : s = s' := by
  unfold isWd at h h'
  obtain ⟨-, a1, a2⟩ := of_decide_eq_true h
  obtain ⟨-, b1, b2⟩ := of_decide_eq_true h'
  refine List.ext_getElem (by omega) (fun i i1 i2 => ?_)
  have e1 := a2 i i1
  have e2 := b2 i i2
  rw [List.getD_eq_getElem?_getD, List.getElem?_eq_getElem i1] at e1
  rw [List.getD_eq_getElem?_getD, List.getElem?_eq_getElem i2] at e2
  exact e1.symm.trans e2
def inV : Option Nat → Int
  | none => -1
  | some v => (v : Int)
theorem pB_innr {f g : Nat → Int32} {out : List (Nat × Nat)} : ∀ {π : List (Nat × Nat)}, plAt π f g → jOk out π → pB f π.length = inV (innr π)
  | [], _, _ => rfl
  | x :: π, ⟨h1, _, h3⟩, hj => by
    have j1 := (hj x List.mem_cons_self).1
    rw [List.length_cons, pB, h1, nI_toInt (by omega), innr]
    by_cases c : 31 ≤ x.1
    · rw [if_pos (by omega), if_pos c]
      rfl
    · rw [if_neg (by omega), if_neg c]
      exact pB_innr h3 (jOk_t hj)
theorem innr_le {out : List (Nat × Nat)} : ∀ {π : List (Nat × Nat)}, jOk out π → ∀ v, innr π = some v → v = 31 ∨ v = 32
  | [], _, v, h => by cases h
  | x :: π, hj, v, h => by
    have j1 := (hj x List.mem_cons_self).1
    rw [innr] at h
    split at h
    · cases h
      omega
    · exact innr_le (jOk_t hj) v h
theorem lg0_N {a b : Int} (ha : -9223372036854775808 ≤ a ∧ a < 9223372036854775808) (hb : -9223372036854775808 ≤ b ∧ b < 9223372036854775808) : lg_cmp (jN a) (jN b) = 0 ↔ a = b := by
  rw [lgc0, jN_eq ha hb]
section RT
variable {S : hS} {o : Nat} {ad : Nat → Nat} {M : mS} {G : pG} {out π : List (Nat × Nat)} {p : Nat}
theorem x_isWord (hd : mD o ad) {q : Int32 → hS → Prop} {s : List Nat} {v : Int64} (hb : ∀ i, G.1 i < 256) (ht : tokAt G p M) (hs : ltr s = true) (hv : v = jN (wL s : Nat)) (h1 : isWd G p s = true → q 1 (ov S o ad M)) (h0 : ¬ isWd G p s = true → q 0 (ov S o ad M)) : w_X12_isWord q (ov S o ad M) o v := by
  obtain ⟨-, -, e16, e17⟩ := ht
  have k4 := tK_4 G p
  have hw := wth_le (G := G) (p := p) hb
  have hl : wL s < 1125899906842624 := by
    unfold ltr at hs
    rw [Bool.and_eq_true, decide_eq_true_eq, List.all_eq_true] at hs
    refine wF_10 (fun i hi => ?_) hs.1
    have := hs.2 s[i] (List.getElem_mem hi)
    rw [decide_eq_true_eq] at this
    rw [List.getD_eq_getElem?_getD, List.getElem?_eq_getElem hi]
    exact this.2
  unfold w_X12_isWord
  simp (disch := decide) only [oi_gI, oi_gJ, oi_gP, oi_pI, oi_pZ, oi_pJ, oi_oK, oi_aI hd, oi_aZ hd, oi_aJ hd, oi_sI hd, oi_sZ hd, oi_sJ hd, mI_1, mI_2, mJ_1, mJ_2, mJ_3, mA_1, mA_2, mA_3, mA_4, mL_1, mL_2, mL_3, mL_4, mK, Nat.reduceEqDiff, if_true, if_false, ite_true, ite_false, true_and, Nat.reduceLT, reduceIte, reduceCtorEq, cl_0, cl_1, cl_2, cl_3, cl_4, cl_5, cl_6, cl_7, cl_8, cl_9, cl_10, cl_11, cl_12, cl_13, cl_14, cl_15, vl_0_5585, vl_1_5585, vl_2_5585, vl_3_5585, vl_4_5585, vl_5_5585, vl_6_5585, vl_0_7, vl_1_7, vl_2_7, vl_3_7, vl_4_7, vl_5_7, vl_6_7]
  rw [e16, e17, hv, lg0_N (by omega) (by omega), lit_nI 1, nI_eq (by omega) (by omega)]
  refine ⟨fun c => h0 (fun z => c (isWd_k z)), fun c => ⟨fun c2 => h0 (fun z => c2 ((isWd_w hs c).mpr z)), fun c2 => h1 ((isWd_w hs c).mp c2)⟩⟩
theorem x_isSign (hd : mD o ad) {q : Int32 → hS → Prop} {c : Nat} (hb : ∀ i, G.1 i < 256) (ht : tokAt G p M) (hc : c < 256) (h1 : isSg G p c = true → q 1 (ov S o ad M)) (h0 : ¬ isSg G p c = true → q 0 (ov S o ad M)) : w_X12_isSign q (ov S o ad M) o (nI c) := by
  obtain ⟨-, -, e16, e17⟩ := ht
  have k4 := tK_4 G p
  have hw := wth_le (G := G) (p := p) hb
  unfold w_X12_isSign
  simp (disch := decide) only [oi_gI, oi_gJ, oi_gP, oi_pI, oi_pZ, oi_pJ, oi_oK, oi_aI hd, oi_aZ hd, oi_aJ hd, oi_sI hd, oi_sZ hd, oi_sJ hd, mI_1, mI_2, mJ_1, mJ_2, mJ_3, mA_1, mA_2, mA_3, mA_4, mL_1, mL_2, mL_3, mL_4, mK, Nat.reduceEqDiff, if_true, if_false, ite_true, ite_false, true_and, Nat.reduceLT, reduceIte, reduceCtorEq, cl_0, cl_1, cl_2, cl_3, cl_4, cl_5, cl_6, cl_7, cl_8, cl_9, cl_10, cl_11, cl_12, cl_13, cl_14, cl_15, vl_0_5585, vl_1_5585, vl_2_5585, vl_3_5585, vl_4_5585, vl_5_5585, vl_6_5585, vl_0_7, vl_1_7, vl_2_7, vl_3_7, vl_4_7, vl_5_7, vl_6_7]
  rw [e16, e17, jN_nI (by omega), lg0_N (by omega) (by omega), lit_nI 3, nI_eq (by omega) (by omega)]
  refine ⟨fun c1 => h0 (fun z => c1 (isSg_k z).1), fun c1 => ⟨fun c2 => h0 (fun z => c2 ((isSg_w c1).mpr z)), fun c2 => h1 ((isSg_w c1).mp c2)⟩⟩
theorem x_must (hd : mD o ad) {q : hS → Prop} {v : Int32} (hb : M.1 19 = 0) (hG : tpM G M) (hp : p ≤ G.2) (ht : tokAt G p M) (k0 : v = 0 → ∀ N, Fx [18, 19] [] [] [] M N → N.1 19 = 1 → N.1 18 = nI (tS G p) → q (ov S o ad N)) (k1 : ¬ v = 0 → ∀ N, Fx [14, 15, 16] [17] [] [] M N → tokAt G (tE G p) N → q (ov S o ad N)) : w_X12_must q (ov S o ad M) o v := by
  have te := tE_le hp
  unfold w_X12_must w_X12_must_b24
  simp (disch := decide) only [oi_gI, oi_gJ, oi_gP, oi_pI, oi_pZ, oi_pJ, oi_oK, oi_aI hd, oi_aZ hd, oi_aJ hd, oi_sI hd, oi_sZ hd, oi_sJ hd, mI_1, mI_2, mJ_1, mJ_2, mJ_3, mA_1, mA_2, mA_3, mA_4, mL_1, mL_2, mL_3, mL_4, mK, Nat.reduceEqDiff, if_true, if_false, ite_true, ite_false, true_and, Nat.reduceLT, reduceIte, reduceCtorEq, cl_0, cl_1, cl_2, cl_3, cl_4, cl_5, cl_6, cl_7, cl_8, cl_9, cl_10, cl_11, cl_12, cl_13, cl_14, cl_15, vl_0_5585, vl_1_5585, vl_2_5585, vl_3_5585, vl_4_5585, vl_5_5585, vl_6_5585, vl_0_7, vl_1_7, vl_2_7, vl_3_7, vl_4_7, vl_5_7, vl_6_7]
  rw [hb]
  refine ⟨fun z => absurd rfl z, fun _ => ⟨fun c => ⟨fun z => absurd rfl z, fun _ => x_next hd hG ht.2.1 te (fun N hF h => k1 c N hF h)⟩, fun c => ⟨by simp, fun _ => ?_, fun z => absurd z (by decide)⟩⟩⟩
  refine k0 c _ (((Fx.i 19 1).tr (Fx.i 18 _)).le (by simp) (by simp) (by simp) (by simp)) (by simp [mI_1]) ?_
  simp [mI_1, ht.1]
theorem isNm_r {lo hi : Nat} (h : hi ≤ 1000) : isNm G p lo hi = true ↔ tK G p = 2 ∧ lo ≤ rV G p ∧ rV G p ≤ hi := by
  have := nV_rV G p
  unfold isNm
  rw [decide_eq_true_eq]
  omega
theorem isNm_v {lo hi : Nat} (h : hi ≤ 1000) (h1 : isNm G p lo hi = true) : rV G p = nV G p ∧ nV G p ≤ 1000 := by
  have := nV_rV G p
  rw [isNm_r h] at h1
  omega
theorem toI32 {n : Nat} (h : n < 2 ^ 31) : Int64.toInt32 (jN n) = nI n := by
  refine Int32.toInt_inj.mp ?_
  rw [Int64.toInt_toInt32, jN_i (by omega) (by omega), nI_toInt h]
  exact fb_bmod (by omega) (by omega)
theorem x_number (hd : mD o ad) {q : Int32 → hS → Prop} {lo hi : Nat} (hhi : hi ≤ 1000) (hlo : lo ≤ 1000) (hb : M.1 19 = 0) (hG : tpM G M) (hp : p ≤ G.2) (ht : tokAt G p M) (k0 : ¬ isNm G p lo hi = true → ∀ r N, Fx [18, 19] [] [] [] M N → N.1 19 = 1 → N.1 18 = nI (tS G p) → q r (ov S o ad N)) (k1 : isNm G p lo hi = true → ∀ N, Fx [14, 15, 16] [17] [] [] M N → tokAt G (tE G p) N → q (nI (nV G p)) (ov S o ad N)) : w_X12_number q (ov S o ad M) o (jN lo) (jN hi) := by
  obtain ⟨-, -, e16, e17⟩ := id ht
  have k4 := tK_4 G p
  have b256 := hG.2.2.2
  have hw := wth_le (G := G) (p := p) b256
  have no : ∀ y, ¬ isNm G p lo hi = true → w_X12_number_b33 q (ov S o ad M) y 0 o := fun y c => ⟨ov_oK, x_must hd hb hG hp ht (fun _ N hF h19 h18 => k0 c y N hF h19 h18) (fun z => absurd rfl z)⟩
  unfold w_X12_number w_X12_number_b32
  simp (disch := decide) only [oi_gI, oi_gJ, oi_gP, oi_pI, oi_pZ, oi_pJ, oi_oK, oi_aI hd, oi_aZ hd, oi_aJ hd, oi_sI hd, oi_sZ hd, oi_sJ hd, mI_1, mI_2, mJ_1, mJ_2, mJ_3, mA_1, mA_2, mA_3, mA_4, mL_1, mL_2, mL_3, mL_4, mK, Nat.reduceEqDiff, if_true, if_false, ite_true, ite_false, true_and, Nat.reduceLT, reduceIte, reduceCtorEq, cl_0, cl_1, cl_2, cl_3, cl_4, cl_5, cl_6, cl_7, cl_8, cl_9, cl_10, cl_11, cl_12, cl_13, cl_14, cl_15, vl_0_5585, vl_1_5585, vl_2_5585, vl_3_5585, vl_4_5585, vl_5_5585, vl_6_5585, vl_0_7, vl_1_7, vl_2_7, vl_3_7, vl_4_7, vl_5_7, vl_6_7]
  rw [e16, e17, lit_nI 2, nI_eq (by omega) (by omega)]
  intro y ey
  refine ⟨fun c => no y (fun z => c (isNm_k z).1), fun c => ?_⟩
  have ew : wth G p = (rV G p : Nat) := by
    unfold wth
    rw [if_neg (by omega), if_pos c]
  rw [ew] at ey hw ⊢
  refine s_in (fun g1 g2 => ⟨fun z => absurd z (by decide), fun _ => ?_⟩) (fun g => ⟨fun _ => no y (fun z => ?_), fun z => absurd rfl z⟩)
  · rw [jN_i (by omega) (by omega), jN_i (by omega) (by omega)] at g1 g2
    have hn : isNm G p lo hi = true := (isNm_r hhi).mpr ⟨c, by omega, by omega⟩
    have hv := isNm_v hhi hn
    rw [ey, hv.1, toI32 (by omega)]
    exact ⟨ov_oK, x_must hd hb hG hp ht (fun z => absurd z (by decide)) (fun _ N hF h => k1 hn N hF h)⟩
  · have z := (isNm_r hhi).mp z
    rw [jN_i (by omega) (by omega), jN_i (by omega) (by omega), jN_i (by omega) (by omega)] at g
    omega
theorem x_inner (hd : mD o ad) {q : Int32 → hS → Prop} (hR : pR2 M out π) (hj : jOk out π) (hn : π.length ≤ 400) (h : ∀ r : Int32, (r = -1 ↔ innr π = none) → (r = 32 ↔ innr π = some 32) → q r (ov S o ad M)) : w_X12_inner q (ov S o ad M) o := by
  refine s_inner hd hR.2.2.1 hn (fun r hr => ?_)
  rw [pB_innr hR.2.2.2 hj] at hr
  have hl := innr_le hj
  cases e : innr π with
  | none =>
    rw [e] at hr
    have : r = -1 := Int32.toInt_inj.mp (by rw [hr]; show (-1 : Int) = _; decide)
    subst this
    exact h _ (by rw [e]; simp) (by rw [e]; decide)
  | some v =>
    rw [e] at hr
    rcases hl v e with rfl | rfl
    · have : r = 31 := Int32.toInt_inj.mp (by rw [hr]; show (31 : Int) = _; decide)
      subst this
      exact h _ (by rw [e]; decide) (by rw [e]; decide)
    · have : r = 32 := Int32.toInt_inj.mp (by rw [hr]; show (32 : Int) = _; decide)
      subst this
      exact h _ (by rw [e]; decide) (by rw [e]; decide)
theorem x_isCompared (hd : mD o ad) {q : Int32 → hS → Prop} (hR : pR2 M out π) (hj : jOk out π) (hn : π.length ≤ 400) (h1 : isCm π = true → q 1 (ov S o ad M)) (h0 : ¬ isCm π = true → q 0 (ov S o ad M)) : w_X12_isCompared q (ov S o ad M) o := by
  have z0 : (0 : Int32).toInt = 0 := by decide
  unfold w_X12_isCompared
  simp (disch := decide) only [oi_gI, oi_gJ, oi_gP, oi_pI, oi_pZ, oi_pJ, oi_oK, oi_aI hd, oi_aZ hd, oi_aJ hd, oi_sI hd, oi_sZ hd, oi_sJ hd, mI_1, mI_2, mJ_1, mJ_2, mJ_3, mA_1, mA_2, mA_3, mA_4, mL_1, mL_2, mL_3, mL_4, mK, Nat.reduceEqDiff, if_true, if_false, ite_true, ite_false, true_and, Nat.reduceLT, reduceIte, reduceCtorEq, cl_0, cl_1, cl_2, cl_3, cl_4, cl_5, cl_6, cl_7, cl_8, cl_9, cl_10, cl_11, cl_12, cl_13, cl_14, cl_15, vl_0_5585, vl_1_5585, vl_2_5585, vl_3_5585, vl_4_5585, vl_5_5585, vl_6_5585, vl_0_7, vl_1_7, vl_2_7, vl_3_7, vl_4_7, vl_5_7, vl_6_7]
  rw [hR.2.2.1]
  intro y ey
  have hy : y.toInt = (π.length : Int) - 1 := by
    rw [ey, fb_subI] <;> rw [nI_toInt (by omega), show (1 : Int32).toInt = 1 by decide] <;> omega
  refine loop_m (σ := Int32 × List (Nat × Nat)) (fun n s => w_X12_isCompared_b7 q n (ov S o ad M) o s.1) (fun s => s.1.toInt = (s.2.length : Int) - 1 ∧ s.2.length ≤ 400 ∧ isCm s.2 = isCm π ∧ plAt s.2 (M.2.2.1 27) (M.2.2.1 28) ∧ jOk out s.2) (fun s => s.2.length) ?_ (y, π) ⟨hy, hn, rfl, hR.2.2.2, hj⟩
  rintro n ⟨x, π'⟩ ⟨e1, e2, e3, e4, e5⟩ ih
  dsimp only at e1 e2 e3 e4 e5 ih ⊢
  have k36 : (∀ v π2, π' = v :: π2 → ¬ (20 ≤ v.1 ∧ v.1 ≤ 24)) → w_X12_isCompared_b36 q (ov S o ad M) o x := by
    intro hv
    unfold w_X12_isCompared_b36
    simp (disch := decide) only [oi_gI, oi_gJ, oi_gP, oi_pI, oi_pZ, oi_pJ, oi_oK, oi_aI hd, oi_aZ hd, oi_aJ hd, oi_sI hd, oi_sZ hd, oi_sJ hd, mI_1, mI_2, mJ_1, mJ_2, mJ_3, mA_1, mA_2, mA_3, mA_4, mL_1, mL_2, mL_3, mL_4, mK, Nat.reduceEqDiff, if_true, if_false, ite_true, ite_false, true_and, Nat.reduceLT, reduceIte, reduceCtorEq, cl_0, cl_1, cl_2, cl_3, cl_4, cl_5, cl_6, cl_7, cl_8, cl_9, cl_10, cl_11, cl_12, cl_13, cl_14, cl_15, vl_0_5585, vl_1_5585, vl_2_5585, vl_3_5585, vl_4_5585, vl_5_5585, vl_6_5585, vl_0_7, vl_1_7, vl_2_7, vl_3_7, vl_4_7, vl_5_7, vl_6_7]
    rw [i32lt, z0, e1]
    cases π' with
    | nil => exact ⟨fun _ => h0 (by rw [← e3]; decide), fun c => absurd (by decide) c⟩
    | cons v π2 =>
      have v1 := hv v π2 rfl
      have j1 := (e5 v List.mem_cons_self).1
      rw [List.length_cons] at e1 e2 ⊢
      have ex : x = nI π2.length := Int32.toInt_inj.mp (by rw [e1, nI_toInt (by omega)]; omega)
      have ec : isCm π = decide (25 ≤ v.1 ∧ v.1 ≤ 27) := by
        rw [← e3]
        show (if 20 ≤ v.1 ∧ v.1 ≤ 24 then isCm π2 else decide (25 ≤ v.1 ∧ v.1 ≤ 27)) = _
        rw [if_neg v1]
      refine ⟨fun c => by omega, fun _ => ?_⟩
      rw [ex, nI_clamp (by omega), e4.1, jN_nI (by omega)]
      refine ⟨vp_in_nI (by omega) (by omega), s_in (fun g1 g2 => ⟨fun z => absurd z (by decide), fun _ => h1 ?_⟩) (fun g => ⟨fun _ => h0 ?_, fun z => absurd rfl z⟩)⟩
      · rw [jN_i (by omega) (by omega), show (25 : Int64).toInt = 25 by decide] at g1
        rw [jN_i (by omega) (by omega), show (27 : Int64).toInt = 27 by decide] at g2
        rw [ec]
        exact decide_eq_true (by omega)
      · rw [jN_i (by omega) (by omega), show (25 : Int64).toInt = 25 by decide, show (27 : Int64).toInt = 27 by decide] at g
        rw [ec, decide_eq_true_eq]
        omega
  rw [w_X12_isCompared_b7]
  simp (disch := decide) only [oi_gI, oi_gJ, oi_gP, oi_pI, oi_pZ, oi_pJ, oi_oK, oi_aI hd, oi_aZ hd, oi_aJ hd, oi_sI hd, oi_sZ hd, oi_sJ hd, mI_1, mI_2, mJ_1, mJ_2, mJ_3, mA_1, mA_2, mA_3, mA_4, mL_1, mL_2, mL_3, mL_4, mK, Nat.reduceEqDiff, if_true, if_false, ite_true, ite_false, true_and, Nat.reduceLT, reduceIte, reduceCtorEq, cl_0, cl_1, cl_2, cl_3, cl_4, cl_5, cl_6, cl_7, cl_8, cl_9, cl_10, cl_11, cl_12, cl_13, cl_14, cl_15, vl_0_5585, vl_1_5585, vl_2_5585, vl_3_5585, vl_4_5585, vl_5_5585, vl_6_5585, vl_0_7, vl_1_7, vl_2_7, vl_3_7, vl_4_7, vl_5_7, vl_6_7]
  rw [i32lt, z0, e1]
  refine ⟨fun c => k36 (fun v π2 hv => by rw [hv, List.length_cons] at c; omega), fun c => ?_⟩
  cases π' with
  | nil => exact absurd (by decide) c
  | cons v π2 =>
    have j1 := (e5 v List.mem_cons_self).1
    rw [List.length_cons] at e1 e2
    have ex : x = nI π2.length := Int32.toInt_inj.mp (by rw [e1, nI_toInt (by omega)]; omega)
    rw [ex, nI_clamp (by omega), e4.1, jN_nI (by omega)]
    refine ⟨vp_in_nI (by omega) (by omega), s_in (fun g1 g2 => ⟨fun z => absurd z (by decide), fun _ y ey => ?_⟩) (fun g => ⟨fun _ => ?_, fun z => absurd rfl z⟩)⟩
    · rw [jN_i (by omega) (by omega), show (20 : Int64).toInt = 20 by decide] at g1
      rw [jN_i (by omega) (by omega), show (24 : Int64).toInt = 24 by decide] at g2
      refine ih (y, π2) ⟨?_, by dsimp only; omega, ?_, e4.2.2, jOk_t e5⟩ (by dsimp only; rw [List.length_cons]; omega)
      · dsimp only
        rw [ey, fb_addI] <;> rw [nI_toInt (by omega), show (-1 : Int32).toInt = -1 by decide] <;> omega
      · dsimp only
        rw [← e3]
        show _ = (if 20 ≤ v.1 ∧ v.1 ≤ 24 then isCm π2 else decide (25 ≤ v.1 ∧ v.1 ≤ 27))
        rw [if_pos (by omega)]
    · rw [jN_i (by omega) (by omega), show (20 : Int64).toInt = 20 by decide, show (24 : Int64).toInt = 24 by decide] at g
      have k := k36 (fun v' π3 hv => by cases hv; omega)
      rw [ex] at k
      exact k
end RT
