/-! THE REFERENCE'S OTHER SETTERS, EXACTLY -/
theorem bit_out : ∀ n, n < 9 → ∀ p, p < 8 → n ≤ p → ∀ m, m < 2 ^ n → ¬ dB (nI m) p = 1 := by decide +kernel
section TQ
variable {S : hS} {o : Nat} {ad : Nat → Nat} {M N : mS} {mT : mS} {T T' : aS} {rs : Nat} {us : uL} {f g : Nat → Int32}
theorem RR.up (h : RR M rs T) {i : Nat} {v : Int32} (hi : i < 185) (h3 : i ≠ 3) (h6 : i ≠ 6) (h7 : i ≠ 7) : RR (mA M 3 (upd (M.2.2.1 3) i v)) rs (aTn (upd T.1.1 i v) T) :=
  h.tn (by rw [cut_upd hi, h.1.1]) (fun j hj => upd_ne _ _ (by omega)) (upd_ne _ _ (by omega)) ⟨upd_ne _ _ (by omega), upd_ne _ _ (by omega)⟩
theorem RR.upc (h : RR M rs T) {i : Nat} {v : Int32} (hi : i < 185) (h3 : i ≠ 3) : RR (mI (mA M 3 (upd (M.2.2.1 3) i v)) 8 0) rs (aCl (aTn (upd T.1.1 i v) T)) :=
  h.tc (by rw [cut_upd hi, h.1.1]) (fun j hj => upd_ne _ _ (by omega)) (upd_ne _ _ (by omega))
theorem xr_want (hd : mD o ad) (hM : mOk M M) (hR : RR M rs T) (hA : aB T) {q : Int32 → hS → Prop} {a b : Int32} (h : ∀ N, mOk N N → RR N rs (spWant a b T).2 → q (spWant a b T).1 (ov S o ad N)) : w_X12_want q (ov S o ad M) o a b := by
  have hM0 : mOk M (mI M 0 0) := mOk_i hM (by omega)
  have hR0 := hR.z (x := 0)
  have bb := hA.hi
  have e0 : (M.2.2.1 3 0).toInt = iR T.1.1 0 := hR.iR (by omega)
  have e1 : (M.2.2.1 3 1).toInt = iR T.1.1 1 := hR.iR (by omega)
  have m1 : (-1 : Int32).toInt = -1 := by decide
  have k24 : (b = -1 ∨ (0 ≤ b.toInt ∧ b.toInt < iR T.1.1 0)) → w_X12_want_b24 q (ov S o ad (mI M 0 0)) o a b := by
    intro hb
    have e : spWant a b T = if ¬ (0 ≤ a.toInt ∧ a.toInt < iR T.1.1 1) then spRef 2 T else spAcc 0 (aTn (upd T.1.1 (154 + a.toInt.toNat) b) T) := by
      unfold spWant
      rw [if_neg (fun z => hb.elim z.1 z.2)]
    rw [e] at h
    unfold w_X12_want_b24
    refine ⟨ov_oK, s_isPerson hd (fun h1 h2 => ⟨fun _ => ?_, fun z => absurd z (by decide)⟩) (fun np => ⟨fun z => absurd rfl z, fun _ => ⟨ov_oK, r_ref hd hM0 hR0 (v := 2) (by omega) (by decide) (fun N hN hRN => ?_)⟩⟩)⟩
    · have h2' : a.toInt < iR T.1.1 1 := by rw [← e1]; exact h2
      rw [if_neg (fun z => z ⟨h1, h2'⟩)] at h
      obtain ⟨p, hp, rfl⟩ := rg_in 8 (by omega) h1 (by omega)
      have tp : (nI p).toInt.toNat = p := by rw [nI_toInt (by omega)]; omega
      rw [tp] at h
      simp (disch := decide) only [oi_gI, oi_gJ, oi_gP, oi_pI, oi_pZ, oi_pJ, oi_oK, oi_aI hd, oi_aZ hd, oi_aJ hd, oi_sI hd, oi_sZ hd, oi_sJ hd, mI_1, mI_2, mJ_1, mJ_2, mJ_3, mA_1, mA_2, mA_3, mA_4, mL_1, mL_2, mL_3, mL_4, mK, Nat.reduceEqDiff, if_true, if_false, ite_true, ite_false, true_and, Nat.reduceLT, reduceIte, reduceCtorEq, cl_0, cl_1, cl_2, cl_3, cl_4, cl_5, cl_6, cl_7, cl_8, cl_9, cl_10, cl_11, cl_12, cl_13, cl_14, cl_15, vl_0_5585, vl_1_5585, vl_2_5585, vl_3_5585, vl_4_5585, vl_5_5585, vl_6_5585, vl_0_7, vl_1_7, vl_2_7, vl_3_7, vl_4_7, vl_5_7, vl_6_7]
      rw [lit_nI 154, nIadd, nI_clamp (by omega)]
      refine ⟨vp_in_nI (by omega) (by omega), r_acc hd (mOk_r hM0 (rowOk_upd hM0.1 (by omega) (by omega) (fun e => by omega) (fun e => by omega) (fun e => by omega) (fun e => by omega) (fun e => by omega) (fun _ _ => ?_) (fun e => by omega) (by unfold rTk; omega))) (hR0.up (by omega) (by omega) (by omega) (by omega)) (by decide) (fun N hN hRN => h N (mOk_self hN) hRN)⟩
      rcases hb with hb | hb
      · rw [hb]; exact ⟨by decide, by decide⟩
      · exact ⟨by omega, by omega⟩
    · rw [if_pos (fun z => np ⟨z.1, by rw [← e1] at z; exact z.2⟩)] at h
      exact h N (mOk_self hN) hRN
  unfold w_X12_want
  simp (disch := decide) only [oi_gI, oi_gJ, oi_gP, oi_pI, oi_pZ, oi_pJ, oi_oK, oi_aI hd, oi_aZ hd, oi_aJ hd, oi_sI hd, oi_sZ hd, oi_sJ hd, mI_1, mI_2, mJ_1, mJ_2, mJ_3, mA_1, mA_2, mA_3, mA_4, mL_1, mL_2, mL_3, mL_4, mK, Nat.reduceEqDiff, if_true, if_false, ite_true, ite_false, true_and, Nat.reduceLT, reduceIte, reduceCtorEq, cl_0, cl_1, cl_2, cl_3, cl_4, cl_5, cl_6, cl_7, cl_8, cl_9, cl_10, cl_11, cl_12, cl_13, cl_14, cl_15, vl_0_5585, vl_1_5585, vl_2_5585, vl_3_5585, vl_4_5585, vl_5_5585, vl_6_5585, vl_0_7, vl_1_7, vl_2_7, vl_3_7, vl_4_7, vl_5_7, vl_6_7]
  refine ⟨fun e => k24 (Or.inl e), fun ne => s_isHouse hd (fun h3 h4 => ⟨fun _ => k24 (Or.inr ⟨h3, by rw [← e0]; exact h4⟩), fun z => absurd z (by decide)⟩) (fun nh => ⟨fun z => absurd rfl z, fun _ => ⟨ov_oK, r_ref hd hM0 hR0 (v := 1) (by omega) (by decide) (fun N hN hRN => ?_)⟩⟩)⟩
  have e : spWant a b T = spRef 1 T := by
    unfold spWant
    rw [if_pos ⟨ne, fun z => nh ⟨z.1, by rw [← e0] at z; exact z.2⟩⟩]
  rw [e] at h
  exact h N (mOk_self hN) hRN
theorem xr_will (hd : mD o ad) (hM : mOk M M) (hR : RR M rs T) (hA : aB T) {q : Int32 → hS → Prop} {a b : Int32} (h : ∀ N, mOk N N → RR N rs (spWill a b T).2 → q (spWill a b T).1 (ov S o ad N)) : w_X12_will q (ov S o ad M) o a b := by
  have hM0 : mOk M (mI M 0 0) := mOk_i hM (by omega)
  have hR0 := hR.z (x := 0)
  have bb := hA.hi
  have e1 : (M.2.2.1 3 1).toInt = iR T.1.1 1 := hR.iR (by omega)
  obtain ⟨n, enn⟩ : ∃ n, nPR T.1.1 = n := ⟨_, rfl⟩
  have hn8 : n ≤ 8 := by rw [← enn]; unfold nPR; omega
  have en : M.2.2.1 3 1 = nI n := by rw [RRnP hR hA, enn]
  have i1 : iR T.1.1 1 = n := by rw [← enn]; unfold nPR; omega
  have n256 : (2 : Int) ^ n ≤ 256 := by
    have : ∀ n, n < 9 → (2 : Int) ^ n ≤ 256 := by decide
    exact this n (by omega)
  have k44 : (¬ (0 ≤ b.toInt ∧ b.toInt < 2 ^ n) ∨ ((0 ≤ a.toInt ∧ a.toInt ≤ 7) ∧ btI b a)) → w_X12_will_b44 q (ov S o ad (mI M 0 0)) o := by
    intro hb
    refine ⟨ov_oK, r_ref hd hM0 hR0 (v := 1) (by omega) (by decide) (fun N hN hRN => ?_)⟩
    have e : spWill a b T = spRef 1 T := by
      unfold spWill
      rw [enn]
      by_cases c : 0 ≤ b.toInt ∧ b.toInt < 2 ^ n
      · rw [if_neg (fun z => z c)]
        obtain ⟨⟨z1, z2⟩, z3⟩ := hb.resolve_left (fun z => z c)
        obtain ⟨p, hp, rfl⟩ := rg_in 8 (by omega) z1 (by omega)
        have tp : (nI p).toInt.toNat = p := by rw [nI_toInt (by omega)]; omega
        have z3' : dB b p = 1 := by
          unfold btI at z3
          rw [n31 p hp] at z3
          exact z3
        obtain ⟨m, hm, rfl⟩ := rg_in 256 (by omega) c.1 (by omega)
        have hmn : m < 2 ^ n := by
          have := c.2
          rw [nI_toInt (by omega)] at this
          exact_mod_cast this
        have hpn : p < n := Nat.lt_of_not_le (fun z => bit_out n (by omega) p hp z m hmn z3')
        rw [tp, nI_toInt (by omega), if_neg (fun z => z ⟨by omega, by omega⟩), if_pos z3']
      · rw [if_pos c]
    rw [e] at h
    exact h N (mOk_self hN) hRN
  have k50 : (0 ≤ b.toInt ∧ b.toInt < 2 ^ n) → ¬ ((0 ≤ a.toInt ∧ a.toInt ≤ 7) ∧ btI b a) → w_X12_will_b50 q (ov S o ad (mI M 0 0)) o a b := by
    intro hb hnb
    have e : spWill a b T = if ¬ (0 ≤ a.toInt ∧ a.toInt < iR T.1.1 1) then spRef 2 T else if dB b a.toInt.toNat = 1 then spRef 1 T else spAcc (T.1.1 (162 + a.toInt.toNat)) (aTn (upd T.1.1 (162 + a.toInt.toNat) b) T) := by
      unfold spWill
      rw [enn, if_neg (fun z => z hb)]
    rw [e] at h
    refine ⟨ov_oK, s_isPerson hd (fun h3 h4 => ⟨fun z => absurd z (by decide), fun _ => ⟨ov_oK, ?_⟩⟩) (fun np => ⟨fun _ => ⟨ov_oK, r_ref hd hM0 hR0 (v := 2) (by omega) (by decide) (fun N hN hRN => ?_)⟩, fun z => absurd rfl z⟩)⟩
    · have h4' : a.toInt < iR T.1.1 1 := by rw [← e1]; exact h4
      rw [if_neg (fun z => z ⟨h3, h4'⟩)] at h
      obtain ⟨p, hp, rfl⟩ := rg_in n (by omega) h3 (by omega)
      have tp : (nI p).toInt.toNat = p := by rw [nI_toInt (by omega)]; omega
      rw [tp, if_neg (fun z => hnb ⟨⟨h3, by omega⟩, by unfold btI; rw [n31 p (by omega)]; exact z⟩)] at h
      rw [lit_nI 162, nIadd]
      refine r_change hd (by omega) (mOk_rT hM0 (rowOk_updT (i := 162 + p) (v := b) hM0.1 (by omega) (by omega) (fun e => by omega) (fun e => by omega) (fun e => by omega) (fun e => by omega) (fun e => by omega) (fun e => by omega) (fun e => by omega))) (hR0.up (by omega) (by omega) (by omega) (by omega)) (fun N hN hRN => ?_)
      have ea : (mI M 0 0).2.2.1 3 (162 + p) = T.1.1 (162 + p) := hR.at (by omega)
      rw [ea] at hRN ⊢
      exact h N (mOk_self hN) hRN
    · rw [if_pos (fun z => np ⟨z.1, by rw [← e1] at z; exact z.2⟩)] at h
      exact h N (mOk_self hN) hRN
  unfold w_X12_will
  simp (disch := decide) only [oi_gI, oi_gJ, oi_gP, oi_pI, oi_pZ, oi_pJ, oi_oK, oi_aI hd, oi_aZ hd, oi_aJ hd, oi_sI hd, oi_sZ hd, oi_sJ hd, mI_1, mI_2, mJ_1, mJ_2, mJ_3, mA_1, mA_2, mA_3, mA_4, mL_1, mL_2, mL_3, mL_4, mK, Nat.reduceEqDiff, if_true, if_false, ite_true, ite_false, true_and, Nat.reduceLT, reduceIte, reduceCtorEq, cl_0, cl_1, cl_2, cl_3, cl_4, cl_5, cl_6, cl_7, cl_8, cl_9, cl_10, cl_11, cl_12, cl_13, cl_14, cl_15, vl_0_5585, vl_1_5585, vl_2_5585, vl_3_5585, vl_4_5585, vl_5_5585, vl_6_5585, vl_0_7, vl_1_7, vl_2_7, vl_3_7, vl_4_7, vl_5_7, vl_6_7]
  rw [en]
  refine s_inI 0 (2 ^ n - 1) (by decide) (sl8 n (by omega)) (fun x1 x2 => ⟨fun z => absurd z (by decide), fun _ => s_inI 0 7 (by decide) (by decide) (fun y1 y2 => ⟨fun z => absurd z (by decide), fun _ => ⟨fun nb => ⟨fun _ => k50 ⟨x1, by omega⟩ (fun z => nb z.2), fun z => absurd rfl z⟩, fun bt => ⟨fun z => absurd z (by decide), fun _ => k44 (Or.inr ⟨⟨y1, y2⟩, bt⟩)⟩⟩⟩) (fun ny => ⟨fun _ => k50 ⟨x1, by omega⟩ (fun z => ny z.1), fun z => absurd rfl z⟩)⟩) (fun nx => ⟨fun _ => k44 (Or.inl (fun z => nx ⟨z.1, by omega⟩)), fun z => absurd rfl z⟩)
theorem xr_right (hd : mD o ad) (hM : mOk M M) (hR : RR M rs T) (hA : aB T) {q : Int32 → hS → Prop} {a b c : Int32} (h : ∀ N, mOk N N → RR N rs (spRight a b c T).2 → q (spRight a b c T).1 (ov S o ad N)) : w_X12_right q (ov S o ad M) o a b c := by
  have hM0 : mOk M (mI M 0 0) := mOk_i hM (by omega)
  have hR0 := hR.z (x := 0)
  have hM8 := mOk_u0 hM0
  have bb := hA.hi
  have e0 : (M.2.2.1 3 0).toInt = iR T.1.1 0 := hR.iR (by omega)
  have e1 : (M.2.2.1 3 1).toInt = iR T.1.1 1 := hR.iR (by omega)
  have k39 : inB c 0 99 → ¬ ((0 ≤ a.toInt ∧ a.toInt < iR T.1.1 1) ∧ (0 ≤ b.toInt ∧ b.toInt < iR T.1.1 0)) → w_X12_right_b39 q (ov S o ad (mI M 0 0)) o := fun hc hn => ⟨ov_oK, r_ref hd hM0 hR0 (v := 2) (by omega) (by decide) (fun N hN hRN => by
    have e : spRight a b c T = spRef 2 T := by
      unfold spRight
      rw [if_neg (fun z => z hc), if_pos hn]
    rw [e] at h
    exact h N (mOk_self hN) hRN)⟩
  have k72 : inB c 0 99 → ((0 ≤ a.toInt ∧ a.toInt < iR T.1.1 1) ∧ (0 ≤ b.toInt ∧ b.toInt < iR T.1.1 0)) → ¬ (liveR T.1.1 a.toInt.toNat = true ∧ iR T.1.1 (78 + 6 * a.toInt.toNat + b.toInt.toNat) ≤ c.toInt) → w_X12_right_b72 q (ov S o ad (mI M 0 0)) o := fun hc hn hl => ⟨ov_oK, r_ref hd hM0 hR0 (v := 3) (by omega) (by decide) (fun N hN hRN => by
    have e : spRight a b c T = spRef 3 T := by
      unfold spRight
      rw [if_neg (fun z => z hc), if_neg (fun z => z hn), if_pos hl]
    rw [e] at h
    exact h N (mOk_self hN) hRN)⟩
  unfold w_X12_right
  simp (disch := decide) only [oi_gI, oi_gJ, oi_gP, oi_pI, oi_pZ, oi_pJ, oi_oK, oi_aI hd, oi_aZ hd, oi_aJ hd, oi_sI hd, oi_sZ hd, oi_sJ hd, mI_1, mI_2, mJ_1, mJ_2, mJ_3, mA_1, mA_2, mA_3, mA_4, mL_1, mL_2, mL_3, mL_4, mK, Nat.reduceEqDiff, if_true, if_false, ite_true, ite_false, true_and, Nat.reduceLT, reduceIte, reduceCtorEq, cl_0, cl_1, cl_2, cl_3, cl_4, cl_5, cl_6, cl_7, cl_8, cl_9, cl_10, cl_11, cl_12, cl_13, cl_14, cl_15, vl_0_5585, vl_1_5585, vl_2_5585, vl_3_5585, vl_4_5585, vl_5_5585, vl_6_5585, vl_0_7, vl_1_7, vl_2_7, vl_3_7, vl_4_7, vl_5_7, vl_6_7]
  refine s_inI 0 99 (by decide) (by decide) (fun c1 c2 => ⟨fun _ => ⟨ov_oK, s_isPerson hd (fun h1 h2 => ⟨fun z => absurd z (by decide), fun _ => ⟨ov_oK, s_isHouse hd (fun h3 h4 => ⟨fun _ => ⟨ov_oK, ?_⟩, fun z => absurd z (by decide)⟩) (fun nh => ⟨fun z => absurd rfl z, fun _ => k39 ⟨c1, c2⟩ (fun w => nh ⟨w.2.1, by rw [← e0] at w; exact w.2.2⟩)⟩)⟩⟩) (fun np => ⟨fun _ => k39 ⟨c1, c2⟩ (fun w => np ⟨w.1.1, by rw [← e1] at w; exact w.1.2⟩), fun z => absurd rfl z⟩)⟩, fun z => absurd z (by decide)⟩) (fun nc => ⟨fun z => absurd rfl z, fun _ => ⟨ov_oK, r_ref hd hM0 hR0 (v := 1) (by omega) (by decide) (fun N hN hRN => ?_)⟩⟩)
  · have h2' : a.toInt < iR T.1.1 1 := by rw [← e1]; exact h2
    have h4' : b.toInt < iR T.1.1 0 := by rw [← e0]; exact h4
    have hn := And.intro (And.intro h1 h2') (And.intro h3 h4')
    obtain ⟨p, hp, rfl⟩ := rg_in 8 (by omega) h1 (by omega)
    obtain ⟨e, he, rfl⟩ := rg_in 6 (by omega) h3 (by omega)
    have tp : (nI p).toInt.toNat = p := by rw [nI_toInt (by omega)]; omega
    have te : (nI e).toInt.toNat = e := by rw [nI_toInt (by omega)]; omega
    rw [tp, te] at k72
    have lv : liveR T.1.1 p = true ↔ (mI M 0 0).2.2.1 3 (22 + p) = 0 := by
      unfold liveR
      show decide (iR T.1.1 (22 + p) = 0) = true ↔ M.2.2.1 3 (22 + p) = 0
      rw [decide_eq_true_eq, i32_z, hR.at (by omega)]; rfl
    refine s_lives hd hp (fun cl => ⟨fun z => absurd z (by decide), fun _ => ?_⟩) (fun cd => ⟨fun _ => k72 ⟨c1, c2⟩ hn (fun z => cd (lv.mp z.1)), fun z => absurd rfl z⟩)
    simp (disch := decide) only [oi_gI, oi_gJ, oi_gP, oi_pI, oi_pZ, oi_pJ, oi_oK, oi_aI hd, oi_aZ hd, oi_aJ hd, oi_sI hd, oi_sZ hd, oi_sJ hd, mI_1, mI_2, mJ_1, mJ_2, mJ_3, mA_1, mA_2, mA_3, mA_4, mL_1, mL_2, mL_3, mL_4, mK, Nat.reduceEqDiff, if_true, if_false, ite_true, ite_false, true_and, Nat.reduceLT, reduceIte, reduceCtorEq, cl_0, cl_1, cl_2, cl_3, cl_4, cl_5, cl_6, cl_7, cl_8, cl_9, cl_10, cl_11, cl_12, cl_13, cl_14, cl_15, vl_0_5585, vl_1_5585, vl_2_5585, vl_3_5585, vl_4_5585, vl_5_5585, vl_6_5585, vl_0_7, vl_1_7, vl_2_7, vl_3_7, vl_4_7, vl_5_7, vl_6_7]
    rw [lit_nI 78, lit_nI 30, lit_nI 6, nImul, nIadd, nIadd, nIadd, nIadd, nI_clamp (by omega)]
    have eu : (M.2.2.1 3 (78 + 6 * p + e)).toInt = iR T.1.1 (78 + 6 * p + e) := hR.iR (by omega)
    refine ⟨vp_in_nI (by omega) (by omega), fun cu => ?_, fun cu => k72 ⟨c1, c2⟩ hn (fun z => cu ?_)⟩
    · rw [Int32.le_iff_toInt_le, eu] at cu
      have es : spRight (nI p) (nI e) c T = spAcc (T.1.1 (30 + 6 * p + e)) (aCl (aTn (upd T.1.1 (30 + 6 * p + e) c) T)) := by
        unfold spRight
        rw [if_neg (fun z => z ⟨c1, c2⟩), if_neg (fun z => z hn), tp, te, if_neg (fun z => z ⟨lv.mpr cl, cu⟩)]
      rw [es] at h
      refine r_change hd (by omega) (mOk_r hM8 (rowOk_free (by unfold rCon; omega) hM8.1)) (hR0.upc (by omega) (by omega)) (fun N hN hRN => ?_)
      have ea : (mI (mI M 0 0) 8 0).2.2.1 3 (30 + 6 * p + e) = T.1.1 (30 + 6 * p + e) := hR.at (by omega)
      rw [ea] at hRN ⊢
      exact h N (mOk_self hN) hRN
    · rw [Int32.le_iff_toInt_le, eu]
      exact z.2
  · have e : spRight a b c T = spRef 1 T := by
      unfold spRight
      rw [if_pos nc]
    rw [e] at h
    exact h N (mOk_self hN) hRN
theorem xr_terms60 (hd : mD o ad) (hM : mOk mT M) (hR : RR M rs T) {q : Int32 → hS → Prop} {a : Nat} {b t : Int32} (ha : a < 3) (ht : ¬ t = 0 → a = 0 → rg b 0 999) (h0 : t = 0 → ∀ N, mOk N N → RR N rs (spRef 1 T).2 → q (spRef 1 T).1 (ov S o ad N)) (h1 : ¬ t = 0 → ∀ N, mOk N N → RR N rs (spAcc (T.1.1 (5 + a)) (aCl (aTn (upd T.1.1 (5 + a) b) T))).2 → q (spAcc (T.1.1 (5 + a)) (aCl (aTn (upd T.1.1 (5 + a) b) T))).1 (ov S o ad N)) : w_X12_terms_b60 q (ov S o ad M) o (nI a) b t := by
  have hM8 := mOk_u0 hM
  unfold w_X12_terms_b60
  simp (disch := decide) only [oi_gI, oi_gJ, oi_gP, oi_pI, oi_pZ, oi_pJ, oi_oK, oi_aI hd, oi_aZ hd, oi_aJ hd, oi_sI hd, oi_sZ hd, oi_sJ hd, mI_1, mI_2, mJ_1, mJ_2, mJ_3, mA_1, mA_2, mA_3, mA_4, mL_1, mL_2, mL_3, mL_4, mK, Nat.reduceEqDiff, if_true, if_false, ite_true, ite_false, true_and, Nat.reduceLT, reduceIte, reduceCtorEq, cl_0, cl_1, cl_2, cl_3, cl_4, cl_5, cl_6, cl_7, cl_8, cl_9, cl_10, cl_11, cl_12, cl_13, cl_14, cl_15, vl_0_5585, vl_1_5585, vl_2_5585, vl_3_5585, vl_4_5585, vl_5_5585, vl_6_5585, vl_0_7, vl_1_7, vl_2_7, vl_3_7, vl_4_7, vl_5_7, vl_6_7]
  rw [lit_nI 5, nIadd]
  refine ⟨fun c => r_change hd (by omega) (mOk_r hM8 ?_) (hR.upc (by omega) (by omega)) (fun N hN hRN => ?_), fun c => r_ref hd hM hR (v := 1) (by omega) (by decide) (fun N hN hRN => h0 c N (mOk_self hN) hRN)⟩
  · exact rowOk_upd hM8.1 (by omega) (by omega) (fun e => by omega) (fun e => by omega) (fun e => by omega) (fun e => by omega) (fun e => ht c (by omega)) (fun e => by omega) (fun e => by omega) (by unfold rTk; omega)
  · have ea : (mI M 8 0).2.2.1 3 (5 + a) = T.1.1 (5 + a) := hR.at (by omega)
    rw [ea] at hRN ⊢
    exact h1 c N (mOk_self hN) hRN
theorem xr_terms (hd : mD o ad) (hM : mOk M M) (hR : RR M rs T) {q : Int32 → hS → Prop} {a b : Int32} (h : ∀ N, mOk N N → RR N rs (spTerms a b T).2 → q (spTerms a b T).1 (ov S o ad N)) : w_X12_terms q (ov S o ad M) o a b := by
  have hM0 : mOk M (mI M 0 0) := mOk_i hM (by omega)
  have hR0 := hR.z (x := 0)
  have no : ¬ (a = 0 ∧ inB b 0 999) → ¬ (a = 1 ∧ inB b 0 10) → ¬ (a = 2 ∧ inB b 0 9) → ∀ N, mOk N N → RR N rs (spRef 1 T).2 → q (spRef 1 T).1 (ov S o ad N) := fun c0 c1 c2 N hN hRN => by
    have e : spTerms a b T = spRef 1 T := by
      unfold spTerms
      rw [if_neg c0, if_neg c1, if_neg c2]
    rw [e] at h
    exact h N hN hRN
  have k59 : ¬ (a = 0 ∧ inB b 0 999) → ¬ (a = 1 ∧ inB b 0 10) → ¬ (a = 2 ∧ inB b 0 9) → w_X12_terms_b59 q (ov S o ad (mI M 0 0)) o a b := fun c0 c1 c2 => by
    unfold w_X12_terms_b59 w_X12_terms_b60
    exact ⟨fun z => absurd rfl z, fun _ => ⟨ov_oK, r_ref hd hM0 hR0 (v := 1) (by omega) (by decide) (fun N hN hRN => no c0 c1 c2 N (mOk_self hN) hRN)⟩⟩
  unfold w_X12_terms
  simp (disch := decide) only [oi_gI, oi_gJ, oi_gP, oi_pI, oi_pZ, oi_pJ, oi_oK, oi_aI hd, oi_aZ hd, oi_aJ hd, oi_sI hd, oi_sZ hd, oi_sJ hd, mI_1, mI_2, mJ_1, mJ_2, mJ_3, mA_1, mA_2, mA_3, mA_4, mL_1, mL_2, mL_3, mL_4, mK, Nat.reduceEqDiff, if_true, if_false, ite_true, ite_false, true_and, Nat.reduceLT, reduceIte, reduceCtorEq, cl_0, cl_1, cl_2, cl_3, cl_4, cl_5, cl_6, cl_7, cl_8, cl_9, cl_10, cl_11, cl_12, cl_13, cl_14, cl_15, vl_0_5585, vl_1_5585, vl_2_5585, vl_3_5585, vl_4_5585, vl_5_5585, vl_6_5585, vl_0_7, vl_1_7, vl_2_7, vl_3_7, vl_4_7, vl_5_7, vl_6_7]
  refine ⟨fun n0 => ⟨fun n1 => ⟨fun n2 => k59 (fun z => n0 z.1) (fun z => n1 z.1) (fun z => n2 z.1), fun e => ?_⟩, fun e => ?_⟩, fun e => ?_⟩
  · subst e
    refine s_inI 0 9 (by decide) (by decide) (fun x y => ⟨fun z => absurd z (by decide), fun _ => xr_terms60 hd hM0 hR0 (a := 2) (by omega) (fun _ z => by omega) (fun z => absurd z (by decide)) (fun _ N hN hRN => ?_)⟩) (fun nb => ⟨fun _ => k59 (fun z => n0 z.1) (fun z => n1 z.1) (fun z => nb z.2), fun z => absurd rfl z⟩)
    have e : spTerms 2 b T = spAcc (T.1.1 7) (aCl (aTn (upd T.1.1 7 b) T)) := by
      unfold spTerms
      rw [if_neg (fun z => n0 z.1), if_neg (fun z => n1 z.1), if_pos ⟨rfl, x, y⟩]
    rw [e] at h
    exact h N hN hRN
  · subst e
    refine s_inI 0 10 (by decide) (by decide) (fun x y => xr_terms60 hd hM0 hR0 (a := 1) (by omega) (fun _ z => by omega) (fun z => absurd z (by decide)) (fun _ N hN hRN => ?_)) (fun nb => xr_terms60 hd hM0 hR0 (a := 1) (by omega) (fun _ z => by omega) (fun _ => no (fun z => n0 z.1) (fun z => nb z.2) (fun z => absurd z.1 (by decide))) (fun z => absurd rfl z))
    have e : spTerms 1 b T = spAcc (T.1.1 6) (aCl (aTn (upd T.1.1 6 b) T)) := by
      unfold spTerms
      rw [if_neg (fun z => n0 z.1), if_pos ⟨rfl, x, y⟩]
    rw [e] at h
    exact h N hN hRN
  · subst e
    refine s_inI 0 999 (by decide) (by decide) (fun x y => xr_terms60 hd hM0 hR0 (a := 0) (by omega) (fun _ z => ⟨x, y⟩) (fun z => absurd z (by decide)) (fun _ N hN hRN => ?_)) (fun nb => xr_terms60 hd hM0 hR0 (a := 0) (by omega) (fun z => absurd rfl z) (fun _ => no (fun z => nb z.2) (fun z => absurd z.1 (by decide)) (fun z => absurd z.1 (by decide))) (fun z => absurd rfl z))
    have e : spTerms 0 b T = spAcc (T.1.1 5) (aCl (aTn (upd T.1.1 5 b) T)) := by
      unfold spTerms
      rw [if_pos ⟨rfl, x, y⟩]
    rw [e] at h
    exact h N hN hRN
theorem xr_forget (hd : mD o ad) (hM : mOk M M) (hR : RR M rs T) {q : Int32 → hS → Prop} (h : ∀ N, mOk N N → RR N rs (spForget T).2 → q (spForget T).1 (ov S o ad N)) : w_X12_forget q (ov S o ad M) o := by
  have hM0 : mOk M (mI M 0 0) := mOk_i hM (by omega)
  unfold w_X12_forget
  simp (disch := decide) only [oi_gI, oi_gJ, oi_gP, oi_pI, oi_pZ, oi_pJ, oi_oK, oi_aI hd, oi_aZ hd, oi_aJ hd, oi_sI hd, oi_sZ hd, oi_sJ hd, mI_1, mI_2, mJ_1, mJ_2, mJ_3, mA_1, mA_2, mA_3, mA_4, mL_1, mL_2, mL_3, mL_4, mK, Nat.reduceEqDiff, if_true, if_false, ite_true, ite_false, true_and, Nat.reduceLT, reduceIte, reduceCtorEq, cl_0, cl_1, cl_2, cl_3, cl_4, cl_5, cl_6, cl_7, cl_8, cl_9, cl_10, cl_11, cl_12, cl_13, cl_14, cl_15, vl_0_5585, vl_1_5585, vl_2_5585, vl_3_5585, vl_4_5585, vl_5_5585, vl_6_5585, vl_0_7, vl_1_7, vl_2_7, vl_3_7, vl_4_7, vl_5_7, vl_6_7]
  have e2 := hR.at (i := 2) (by omega)
  rw [e2]
  exact h _ (mOk_self (mOk_rT hM0 (rowOk_updT hM0.1 (by omega) (by omega) (fun e => by omega) (fun e => by omega) (fun _ => ⟨by decide, by decide⟩) (fun e => by omega) (fun e => by omega) (fun e => by omega) (fun e => by omega)))) (hR.z.up (by omega) (by omega) (by omega) (by omega))
theorem xr_clue (hd : mD o ad) (hM : mOk M M) (hR : RR M rs T) (hA : aB T) {q : Int32 → hS → Prop} {a b : Int32} (h : ∀ N, mOk N N → RR N rs (spClue a b T).2 → q (spClue a b T).1 (ov S o ad N)) : w_X12_clue q (ov S o ad M) o a b := by
  have hM0 : mOk M (mI M 0 0) := mOk_i hM (by omega)
  have hR0 := hR.z (x := 0)
  have bb := hA.hi
  have e0 : (M.2.2.1 3 0).toInt = iR T.1.1 0 := hR.iR (by omega)
  have c2b := hA.1.1 2 (by omega)
  rw [show rLo 2 = 0 by decide, show rHi 2 = 6 by decide] at c2b
  obtain ⟨n, enn⟩ : ∃ n, (iR T.1.1 2).toNat = n := ⟨_, rfl⟩
  have i2 : iR T.1.1 2 = n := by omega
  have en : M.2.2.1 3 2 = nI n := by
    apply Int32.toInt_inj.mp
    have e : (M.2.2.1 3 2).toInt = iR T.1.1 2 := hR.iR (by omega)
    rw [nI_toInt (by omega), e, i2]
  unfold w_X12_clue
  simp (disch := decide) only [oi_gI, oi_gJ, oi_gP, oi_pI, oi_pZ, oi_pJ, oi_oK, oi_aI hd, oi_aZ hd, oi_aJ hd, oi_sI hd, oi_sZ hd, oi_sJ hd, mI_1, mI_2, mJ_1, mJ_2, mJ_3, mA_1, mA_2, mA_3, mA_4, mL_1, mL_2, mL_3, mL_4, mK, Nat.reduceEqDiff, if_true, if_false, ite_true, ite_false, true_and, Nat.reduceLT, reduceIte, reduceCtorEq, cl_0, cl_1, cl_2, cl_3, cl_4, cl_5, cl_6, cl_7, cl_8, cl_9, cl_10, cl_11, cl_12, cl_13, cl_14, cl_15, vl_0_5585, vl_1_5585, vl_2_5585, vl_3_5585, vl_4_5585, vl_5_5585, vl_6_5585, vl_0_7, vl_1_7, vl_2_7, vl_3_7, vl_4_7, vl_5_7, vl_6_7]
  refine s_inI 0 99 (by decide) (by decide) (fun b1 b2 => ⟨fun _ => ⟨ov_oK, s_isHouse hd (fun h1 h2 => ⟨fun _ => ?_, fun z => absurd z (by decide)⟩) (fun nh => ⟨fun z => absurd rfl z, fun _ => ⟨ov_oK, r_ref hd hM0 hR0 (v := 2) (by omega) (by decide) (fun N hN hRN => ?_)⟩⟩)⟩, fun z => absurd z (by decide)⟩) (fun nb => ⟨fun z => absurd rfl z, fun _ => ⟨ov_oK, r_ref hd hM0 hR0 (v := 1) (by omega) (by decide) (fun N hN hRN => ?_)⟩⟩)
  · have h2' : a.toInt < iR T.1.1 0 := by rw [← e0]; exact h2
    simp (disch := decide) only [oi_gI, oi_gJ, oi_gP, oi_pI, oi_pZ, oi_pJ, oi_oK, oi_aI hd, oi_aZ hd, oi_aJ hd, oi_sI hd, oi_sZ hd, oi_sJ hd, mI_1, mI_2, mJ_1, mJ_2, mJ_3, mA_1, mA_2, mA_3, mA_4, mL_1, mL_2, mL_3, mL_4, mK, Nat.reduceEqDiff, if_true, if_false, ite_true, ite_false, true_and, Nat.reduceLT, reduceIte, reduceCtorEq, cl_0, cl_1, cl_2, cl_3, cl_4, cl_5, cl_6, cl_7, cl_8, cl_9, cl_10, cl_11, cl_12, cl_13, cl_14, cl_15, vl_0_5585, vl_1_5585, vl_2_5585, vl_3_5585, vl_4_5585, vl_5_5585, vl_6_5585, vl_0_7, vl_1_7, vl_2_7, vl_3_7, vl_4_7, vl_5_7, vl_6_7]
    rw [en]
    refine ⟨fun c => ?_, fun c => r_ref hd hM0 hR0 (v := 5) (by omega) (by decide) (fun N hN hRN => ?_)⟩
    · have hn6 : n < 6 := by
        have : n ≠ 6 := fun e => c (by rw [e]; rfl)
        omega
      have es : spClue a b T = spAcc (nI (n + 1)) (aTn (upd (upd (upd T.1.1 (170 + 2 * n) a) (171 + 2 * n) b) 2 (nI (n + 1))) T) := by
        unfold spClue
        rw [if_neg (fun z => z ⟨b1, b2⟩), if_neg (fun z => z ⟨h1, h2'⟩), if_pos (by omega), enn]
      rw [es] at h
      simp (disch := decide) only [oi_gI, oi_gJ, oi_gP, oi_pI, oi_pZ, oi_pJ, oi_oK, oi_aI hd, oi_aZ hd, oi_aJ hd, oi_sI hd, oi_sZ hd, oi_sJ hd, mI_1, mI_2, mJ_1, mJ_2, mJ_3, mA_1, mA_2, mA_3, mA_4, mL_1, mL_2, mL_3, mL_4, mK, Nat.reduceEqDiff, if_true, if_false, ite_true, ite_false, true_and, Nat.reduceLT, reduceIte, reduceCtorEq, cl_0, cl_1, cl_2, cl_3, cl_4, cl_5, cl_6, cl_7, cl_8, cl_9, cl_10, cl_11, cl_12, cl_13, cl_14, cl_15, vl_0_5585, vl_1_5585, vl_2_5585, vl_3_5585, vl_4_5585, vl_5_5585, vl_6_5585, vl_0_7, vl_1_7, vl_2_7, vl_3_7, vl_4_7, vl_5_7, vl_6_7, mA_mA]
      rw [lit_nI 170, lit_nI 2, nImul, nIadd, nI_1, nI_1, nI_clamp (by omega), nI_clamp (by omega)]
      have hf := rowOk_free (i := 170 + 2 * n + 1) (v := b) (by unfold rCon; omega) (rowOk_upd (i := 170 + 2 * n) (v := a) hM0.1 (by omega) (by omega) (fun e => by omega) (fun e => by omega) (fun e => by omega) (fun e => by omega) (fun e => by omega) (fun e => by omega) (fun _ _ => ⟨h1, by omega⟩) (by unfold rTk; omega))
      have e2 : upd (upd ((mI M 0 0).2.2.1 3) (170 + 2 * n) a) (170 + 2 * n + 1) b 2 = nI n := by
        rw [upd_ne _ _ (by omega), upd_ne _ _ (by omega)]; exact en
      have c2 : (nI 2).toNatClampNeg = 2 := nI_clamp (by omega)
      simp only [mI_2] at hf e2
      try rw [c2]
      rw [e2, nI_1]
      refine ⟨vp_in_nI (by omega) (by omega), vp_in_nI (by omega) (by omega), r_acc hd (mOk_rT hM0 (rowOk_updT hf (by omega) (by omega) (fun e => by omega) (fun e => by omega) (fun _ => ⟨?_, ?_⟩) (fun e => by omega) (fun e => by omega) (fun e => by omega) (fun e => by omega))) (hR0.tn (g := upd (upd (upd T.1.1 (170 + 2 * n) a) (171 + 2 * n) b) 2 (nI (n + 1))) ?_ (fun j hj => ?_) ?_ ⟨?_, ?_⟩) ?_ (fun N hN hRN => h N (mOk_self hN) hRN)⟩
      · rw [nI_toInt (by omega)]; omega
      · rw [nI_toInt (by omega)]; omega
      · rw [cut_upd (by omega), cut_upd (by omega), cut_upd (by omega), hR.1.1, show 170 + 2 * n + 1 = 171 + 2 * n by omega]
      · rw [upd_ne _ _ (by omega), upd_ne _ _ (by omega), upd_ne _ _ (by omega)]
        rfl
      · rw [upd_ne _ _ (by omega), upd_ne _ _ (by omega), upd_ne _ _ (by omega)]
      · rw [upd_ne _ _ (by omega), upd_ne _ _ (by omega), upd_ne _ _ (by omega)]
      · rw [upd_ne _ _ (by omega), upd_ne _ _ (by omega), upd_ne _ _ (by omega)]
      · rw [nI_toInt (by omega)]; omega
    · have n6 : n = 6 := nI_inj (by omega) (by omega) c
      have es : spClue a b T = spRef 5 T := by
        unfold spClue
        rw [if_neg (fun z => z ⟨b1, b2⟩), if_neg (fun z => z ⟨h1, h2'⟩), if_neg (by omega)]
      rw [es] at h
      exact h N (mOk_self hN) hRN
  · have es : spClue a b T = spRef 2 T := by
      unfold spClue
      rw [if_neg (fun z => z ⟨b1, b2⟩), if_pos (fun z => nh ⟨z.1, by rw [← e0] at z; exact z.2⟩)]
    rw [es] at h
    exact h N (mOk_self hN) hRN
  · have es : spClue a b T = spRef 1 T := by
      unfold spClue
      rw [if_pos nb]
    rw [es] at h
    exact h N (mOk_self hN) hRN
theorem xr_force (hd : mD o ad) (hM : mOk M M) (hR : RR M rs T) (hA : aB T) {q : Int32 → hS → Prop} {a : Int32} (h : ∀ N, mOk N N → RR N rs (spForce a T).2 → q (spForce a T).1 (ov S o ad N)) : w_X12_force q (ov S o ad M) o a := by
  have hM0 : mOk M (mI M 0 0) := mOk_i hM (by omega)
  have hR0 := hR.z (x := 0)
  have e3 : (M.2.2.1 3 3).toInt = iR T.1.1 3 := hR.iR (by omega)
  have c3b := hA.1.1 3 (by omega)
  rw [show rLo 3 = 0 by decide, show rHi 3 = 6 by decide] at c3b
  have e1 : (-1 : Int32).toInt = -1 := by decide
  have k28 : (a = -1 ∨ (0 ≤ a.toInt ∧ a.toInt < iR T.1.1 3)) → w_X12_force_b28 q (ov S o ad (mI M 0 0)) o a := fun ha => by
    have es : spForce a T = spAcc (T.1.1 4) (aTn (upd T.1.1 4 a) T) := by
      unfold spForce
      rw [if_pos ha]
    rw [es] at h
    refine ⟨ov_oK, r_change hd (a := 4) (by omega) (mOk_r hM0 (rowOk_upd hM0.1 (by omega) (by omega) (fun e => by omega) (fun e => by omega) (fun e => by omega) (fun _ => ?_) (fun e => by omega) (fun e => by omega) (fun e => by omega) (by unfold rTk; omega))) (hR0.up (by omega) (by omega) (by omega) (by omega)) (fun N hN hRN => ?_)⟩
    · show -1 ≤ a.toInt ∧ a.toInt < (M.2.2.1 3 3).toInt
      rw [e3]
      rcases ha with ha | ha
      · rw [ha, e1]; omega
      · omega
    · have ea : (mI M 0 0).2.2.1 3 4 = T.1.1 4 := hR.at (by omega)
      rw [ea] at hRN ⊢
      exact h N (mOk_self hN) hRN
  unfold w_X12_force
  simp (disch := decide) only [oi_gI, oi_gJ, oi_gP, oi_pI, oi_pZ, oi_pJ, oi_oK, oi_aI hd, oi_aZ hd, oi_aJ hd, oi_sI hd, oi_sZ hd, oi_sJ hd, mI_1, mI_2, mJ_1, mJ_2, mJ_3, mA_1, mA_2, mA_3, mA_4, mL_1, mL_2, mL_3, mL_4, mK, Nat.reduceEqDiff, if_true, if_false, ite_true, ite_false, true_and, Nat.reduceLT, reduceIte, reduceCtorEq, cl_0, cl_1, cl_2, cl_3, cl_4, cl_5, cl_6, cl_7, cl_8, cl_9, cl_10, cl_11, cl_12, cl_13, cl_14, cl_15, vl_0_5585, vl_1_5585, vl_2_5585, vl_3_5585, vl_4_5585, vl_5_5585, vl_6_5585, vl_0_7, vl_1_7, vl_2_7, vl_3_7, vl_4_7, vl_5_7, vl_6_7]
  refine ⟨fun e => k28 (Or.inl e), fun ne => s_in (fun x1 x2 => ⟨fun z => absurd z (by decide), fun _ => k28 (Or.inr ⟨i64ge0 _ x1, ?_⟩)⟩) (fun nx => ⟨fun _ => ⟨ov_oK, r_ref hd hM0 hR0 (v := 2) (by omega) (by decide) (fun N hN hRN => ?_)⟩, fun z => absurd rfl z⟩)⟩
  · rw [← e3]
    exact i64s1 _ _ x2
  · have es : spForce a T = spRef 2 T := by
      unfold spForce
      have hn : ¬ (a = -1 ∨ (0 ≤ a.toInt ∧ a.toInt < iR T.1.1 3)) := by
        intro z
        rcases z with z | w
        · exact ne z
        · refine nx ?_
          have s1 : (Int32.toInt64 (M.2.2.1 3 3) - 1).toInt = (M.2.2.1 3 3).toInt - 1 := by
            rw [fb_subL] <;> rw [i64toInt, show (1 : Int64).toInt = 1 by decide] <;> omega
          rw [s1, i64toInt, e3]
          exact ⟨by simpa using w.1, by omega⟩
      rw [if_neg hn]
    rw [es] at h
    exact h N (mOk_self hN) hRN
end TQ
