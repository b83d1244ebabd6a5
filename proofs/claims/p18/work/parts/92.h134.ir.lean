/-! IMAGES IN THE REFERENCE, EXACTLY -/
section IR
variable {S : hS} {o : Nat} {ad : Nat → Nat} {M N P M0 : mS} {mT : mS} {T T' : aS} {rs : Nat} {f g : Nat → Int32} {L : Nat → List pCl} {k n : Nat}
theorem lawG_loc (h : ∀ i, i < 5585 → g i = f i) (h3 : iR f 3 ≤ 6) (hL : lawG f L) : lawG g L := by
  have e3 : iR g 3 = iR f 3 := iR_ge (h 3 (by omega))
  obtain ⟨l1, l2⟩ := hL
  refine ⟨fun i hi => ?_, fun i hi => l2 i (by rw [← e3]; exact hi)⟩
  obtain ⟨x1, x2, x3⟩ := l1 i (by rw [← e3]; exact hi)
  have l12 : (L i).length ≤ 12 := by
    have := x2.1.1
    rw [List.length_map] at this
    exact this
  exact ⟨lwR_loc (fun j j1 j2 => h j (by omega)) l12 x3.2 x1, x2, x3⟩
theorem cut_loc (h : ∀ i, i < 185 → g i = f i) : cut g = cut f := by
  funext i
  unfold cut
  by_cases c : i < 185
  · rw [if_pos c, if_pos c, h i c]
  · rw [if_neg c, if_neg c]
theorem RRim (h : RR M rs T) (hA : aB T) {j : Nat} (hj : j ≤ 1) {v : Int32} (hv : v ≠ 0) (h1 : ∀ i, i < 5585 → f (5585 * j + i) = M.2.2.1 3 i) (h2 : ∀ t, (t < 5585 * j ∨ 5585 * j + 5585 ≤ t) → f t = M.2.2.1 4 t) : RR (mA (mA M 4 f) 5 (upd (M.2.2.1 5) j v)) rs (T.1, (fun k => if k = j then some T.1 else T.2.1 k), T.2.2) := by
  have c3 := hA.1.1 3 (by omega)
  rw [show rLo 3 = 0 by decide, show rHi 3 = 6 by decide] at c3
  have i3 : iR (M.2.2.1 3) 3 = iR T.1.1 3 := h.iR (by omega)
  obtain ⟨x1, x2, x3, x4, x5, x6, x7, x8, x9⟩ := h
  refine ⟨?_, fun k hk => ?_, ?_, ?_, ?_, ?_, ?_, ?_, ?_⟩
  · exact x1
  · show ((if k = j then some T.1 else T.2.1 k) = none → upd (M.2.2.1 5) j v k = 0) ∧ ∀ t, (if k = j then some T.1 else T.2.1 k) = some t → upd (M.2.2.1 5) j v k ≠ 0 ∧ cut (fun i => f (5585 * k + i)) = t.1 ∧ lawG (fun i => f (5585 * k + i)) t.2
    by_cases e : k = j
    · subst e
      rw [if_pos rfl, upd_self]
      refine ⟨fun z => (by cases z), fun t z => ?_⟩
      cases z
      exact ⟨hv, (cut_loc (fun i hi => h1 i (by omega))).trans x1.1, lawG_loc (fun i hi => h1 i hi) (by omega) x1.2⟩
    · rw [if_neg e, upd_ne _ _ e]
      obtain ⟨y1, y2⟩ := x2 k hk
      refine ⟨y1, fun t z => ?_⟩
      obtain ⟨z1, z2, z3⟩ := y2 t z
      have ct := (hA.2.1 k hk t z).1 3 (by omega)
      rw [show rLo 3 = 0 by decide, show rHi 3 = 6 by decide] at ct
      have ic : iR (fun i => M.2.2.1 4 (5585 * k + i)) 3 ≤ 6 := by
        rw [← iR_cut (by omega), z2]
        exact ct.2
      have same : ∀ i, i < 5585 → f (5585 * k + i) = M.2.2.1 4 (5585 * k + i) := fun i hi => h2 _ (by omega)
      exact ⟨z1, (cut_loc (fun i hi => same i (by omega))).trans z2, lawG_loc same ic z3⟩
  · exact x3
  · exact x4
  · exact x5
  · exact x6
  · exact x7
  · exact x8
  · exact x9
theorem xr_image (hd : mD o ad) (hM : mOk M M) (hR : RR M rs T) (hA : aB T) {q : Int32 → hS → Prop} {k : Int32} (h : ∀ N, mOk N N → RR N rs (spImage k T).2 → q (spImage k T).1 (ov S o ad N)) : w_X12_image q (ov S o ad M) o k := by
  have hM0 : mOk M (mI M 0 0) := mOk_i hM (by omega)
  have hR0 := hR.z (x := 0)
  unfold w_X12_image
  simp (disch := decide) only [oi_gI, oi_gJ, oi_gP, oi_pI, oi_pZ, oi_pJ, oi_oK, oi_aI hd, oi_aZ hd, oi_aJ hd, oi_sI hd, oi_sZ hd, oi_sJ hd, mI_1, mI_2, mJ_1, mJ_2, mJ_3, mA_1, mA_2, mA_3, mA_4, mL_1, mL_2, mL_3, mL_4, mK, Nat.reduceEqDiff, if_true, if_false, ite_true, ite_false, true_and, Nat.reduceLT, reduceIte, reduceCtorEq]
  refine s_inI 0 1 (by decide) (by decide) (fun a b => ⟨fun _ => ?_, fun z => absurd z (by decide)⟩) (fun a => ⟨fun z => absurd rfl z, fun _ => ⟨ov_oK, r_ref hd hM0 hR0 (v := 1) (by omega) (by decide) (fun N hN hRN => ?_)⟩⟩)
  · obtain ⟨j, hj, rfl, -⟩ := rg_nI (z := k) (a := 0) (b := 1) ⟨a, b⟩ (by omega) (by omega)
    have tj : (nI j).toInt.toNat = j := by rw [nI_toInt (by omega)]; omega
    have es : spImage (nI j) T = spAcc 0 (T.1, (fun k => if k = j then some T.1 else T.2.1 k), T.2.2) := by
      unfold spImage
      rw [if_neg (fun z => z ⟨a, b⟩), tj]
    rw [es] at h
    have key := loop_m (σ := (Nat → Int32) × Nat) (fun n s => w_X12_image_b23 q n (ov S o ad (mA (mI M 0 0) 4 s.1)) o (nI j) (nI s.2)) (fun s => s.2 ≤ 5585 ∧ (∀ i, i < s.2 → s.1 (5585 * j + i) = M.2.2.1 3 i) ∧ ∀ t, (t < 5585 * j ∨ 5585 * j + 5585 ≤ t) → s.1 t = M.2.2.1 4 t) (fun s => 5585 - s.2) ?_ ((mI M 0 0).2.2.1 4, 0) ⟨Nat.zero_le _, fun i hi => absurd hi (Nat.not_lt_zero i), fun _ _ => rfl⟩
    · rw [mA_self] at key
      exact key
    rintro n ⟨f, i⟩ ⟨hi, h1, h2⟩ ih
    dsimp only at hi h1 h2 ih ⊢
    rw [w_X12_image_b23]
    refine ⟨fun c => ?_, fun c => ?_⟩
    · have : i = 5585 := by
        have := (nI_leI (a := 5585) (b := i) (by omega) (by omega)).mp c
        omega
      subst this
      simp (disch := decide) only [oi_gI, oi_gJ, oi_gP, oi_pI, oi_pZ, oi_pJ, oi_oK, oi_aI hd, oi_aZ hd, oi_aJ hd, oi_sI hd, oi_sZ hd, oi_sJ hd, mI_1, mI_2, mJ_1, mJ_2, mJ_3, mA_1, mA_2, mA_3, mA_4, mL_1, mL_2, mL_3, mL_4, mK, Nat.reduceEqDiff, if_true, if_false, ite_true, ite_false, true_and, Nat.reduceLT, reduceIte, reduceCtorEq]
      rw [nI_clamp (by omega)]
      have hRn := RRim hR0 hA (j := j) hj (v := vp_nar FieldType.boolean 1) (by decide) h1 h2
      have hFF := ((Fx.i (M := M) 0 0).tr (Fx.a 4 f)).tr (Fx.a 5 (upd ((mA (mI M 0 0) 4 f).2.2.1 5) j (vp_nar FieldType.boolean 1)))
      have hMn : mOk (mA (mA M 4 f) 5 (upd (M.2.2.1 5) j (vp_nar FieldType.boolean 1))) (mA (mA (mI M 0 0) 4 f) 5 (upd ((mA (mI M 0 0) 4 f).2.2.1 5) j (vp_nar FieldType.boolean 1))) := by
        clear h ih hRn
        unfold mOk at *
        rw [hFF.1 8 (by simp), hFF.1 13 (by simp), hFF.1 20 (by simp), hFF.1 59 (by simp), hFF.1 60 (by simp), hFF.1 11 (by simp), hFF.2.2.1 12 (by simp), hFF.2.2.1 3 (by simp), hFF.2.2.1 6 (by simp), hFF.2.2.1 9 (by simp), hFF.2.2.1 7 (by simp), hFF.2.2.1 10 (by simp)]
        refine ⟨hM.1, fun t ht hk => ?_, hM.2.2.1, hM.2.2.2.1, hM.2.2.2.2.1, hM.2.2.2.2.2.1, hM.2.2.2.2.2.2.1, hM.2.2.2.2.2.2.2.1, hM.2.2.2.2.2.2.2.2.1, hM.2.2.2.2.2.2.2.2.2.1, hM.2.2.2.2.2.2.2.2.2.2.1, rfl, rfl, hM.2.2.2.2.2.2.2.2.2.2.2.2.2.1, hM.2.2.2.2.2.2.2.2.2.2.2.2.2.2.1, hM.2.2.2.2.2.2.2.2.2.2.2.2.2.2.2⟩
        show rowOk (fun i => f (5585 * t + i)) (fun i => f (5585 * t + i))
        by_cases e : t = j
        · subst e
          refine rowOk_self (rowOk_congr (fun i hi => ?_) hM.1)
          have hl : i < 5585 := by unfold rCon at hi; omega
          exact h1 i hl
        · refine rowOk_self (rowOk_congr (f := fun i => M.2.2.1 4 (5585 * t + i)) (fun i hi => ?_) (hM.2.1 t ht ?_))
          · have hl : i < 5585 := by unfold rCon at hi; omega
            exact h2 _ (by omega)
          · rw [mA_3, if_pos rfl, upd_ne _ _ e] at hk
            exact hk
      exact ⟨vp_in_nI (by omega) (by omega), r_acc hd hMn hRn (by decide) (fun N hN hRN => h N (mOk_self hN) hRN)⟩
    · have c : i < 5585 := by
        rw [lit_nI 5585, nI_not_le (by omega) (by omega)] at c
        exact c
      simp (disch := decide) only [oi_gI, oi_gJ, oi_gP, oi_pI, oi_pZ, oi_pJ, oi_oK, oi_aI hd, oi_aZ hd, oi_aJ hd, oi_sI hd, oi_sZ hd, oi_sJ hd, mI_1, mI_2, mJ_1, mJ_2, mJ_3, mA_1, mA_2, mA_3, mA_4, mL_1, mL_2, mL_3, mL_4, mK, Nat.reduceEqDiff, if_true, if_false, ite_true, ite_false, true_and, Nat.reduceLT, reduceIte, reduceCtorEq, mA_mA]
      rw [lit_nI 5585, nImul, nIadd, nI_1, nI_clamp (by omega), nI_clamp (by omega)]
      refine ⟨vp_in_nI (by omega) (by omega), vp_in_nI (by omega) (by omega), eq_imp ?_⟩
      refine ih (upd f (5585 * j + i) (M.2.2.1 3 i), i + 1) ⟨by show i + 1 ≤ 5585; omega, fun t ht => ?_, fun t ht => ?_⟩ (by show 5585 - (i + 1) < 5585 - i; omega)
      · dsimp only at ht ⊢
        by_cases e : t = i
        · subst e; rw [upd_self]
        · rw [upd_ne f _ (by omega)]; exact h1 t (by omega)
      · dsimp only at ht ⊢
        rw [upd_ne f _ (by omega)]
        exact h2 t (by omega)
  · have es : spImage k T = spRef 1 T := by
      unfold spImage
      rw [if_pos a]
    rw [es] at h
    exact h N (mOk_self hN) hRN
theorem RRbk (h : RR M rs T) (hA : aB T) {j : Nat} (hj : j ≤ 1) {t : sW} (ht : T.2.1 j = some t) (h1 : ∀ i, i < 5585 → f i = M.2.2.1 4 (5585 * j + i)) : RR (mI (mA M 3 f) 8 0) rs (aCl (t, T.2)) := by
  obtain ⟨x1, x2, x3, x4, x5, x6, x7, x8, x9⟩ := h
  obtain ⟨z1, z2, z3⟩ := (x2 j (by omega)).2 t ht
  have ct := (hA.2.1 j (by omega) t ht).1 3 (by omega)
  rw [show rLo 3 = 0 by decide, show rHi 3 = 6 by decide] at ct
  have ic : iR (fun i => M.2.2.1 4 (5585 * j + i)) 3 ≤ 6 := by
    rw [← iR_cut (by omega), z2]
    exact ct.2
  exact ⟨⟨(cut_loc (f := fun i => M.2.2.1 4 (5585 * j + i)) (fun i hi => h1 i (by omega))).trans z2, lawG_loc (f := fun i => M.2.2.1 4 (5585 * j + i)) h1 ic z3⟩, x2, ⟨rfl, undU_0⟩, x4, x5, x6, x7, x8, x9⟩
theorem xr_back (hd : mD o ad) (hM : mOk M M) (hR : RR M rs T) (hA : aB T) {q : Int32 → hS → Prop} {k : Int32} (h : ∀ N, mOk N N → RR N rs (spBack k T).2 → q (spBack k T).1 (ov S o ad N)) : w_X12_back q (ov S o ad M) o k := by
  have hM0 : mOk M (mI M 0 0) := mOk_i hM (by omega)
  have hR0 := hR.z (x := 0)
  unfold w_X12_back
  simp (disch := decide) only [oi_gI, oi_gJ, oi_gP, oi_pI, oi_pZ, oi_pJ, oi_oK, oi_aI hd, oi_aZ hd, oi_aJ hd, oi_sI hd, oi_sZ hd, oi_sJ hd, mI_1, mI_2, mJ_1, mJ_2, mJ_3, mA_1, mA_2, mA_3, mA_4, mL_1, mL_2, mL_3, mL_4, mK, Nat.reduceEqDiff, if_true, if_false, ite_true, ite_false, true_and, Nat.reduceLT, reduceIte, reduceCtorEq]
  refine s_inI 0 1 (by decide) (by decide) (fun a b => ⟨fun _ => ?_, fun z => absurd z (by decide)⟩) (fun a => ⟨fun z => absurd rfl z, fun _ => ⟨ov_oK, r_ref hd hM0 hR0 (v := 1) (by omega) (by decide) (fun N hN hRN => ?_)⟩⟩)
  · obtain ⟨j, hj, rfl, -⟩ := rg_nI (z := k) (a := 0) (b := 1) ⟨a, b⟩ (by omega) (by omega)
    have tj : (nI j).toInt.toNat = j := by rw [nI_toInt (by omega)]; omega
    have es : spBack (nI j) T = match T.2.1 j with
      | none => spRef 2 T
      | some t => spAcc 0 (aCl (t, T.2)) := by
      unfold spBack
      rw [if_neg (fun z => z ⟨a, b⟩), tj]
      rfl
    rw [es] at h
    obtain ⟨i1, i2⟩ := hR.2.1 j (by omega)
    simp (disch := decide) only [oi_gI, oi_gJ, oi_gP, oi_pI, oi_pZ, oi_pJ, oi_oK, oi_aI hd, oi_aZ hd, oi_aJ hd, oi_sI hd, oi_sZ hd, oi_sJ hd, mI_1, mI_2, mJ_1, mJ_2, mJ_3, mA_1, mA_2, mA_3, mA_4, mL_1, mL_2, mL_3, mL_4, mK, Nat.reduceEqDiff, if_true, if_false, ite_true, ite_false, true_and, Nat.reduceLT, reduceIte, reduceCtorEq]
    rw [nI_clamp (by omega)]
    refine ⟨vp_in_nI (by omega) (by omega), fun hk => ?_, fun hk => ?_⟩
    · cases eT : T.2.1 j with
      | none => exact absurd (i1 eT) hk
      | some t =>
        rw [eT] at h
        dsimp only at h
        have key := loop_m (σ := (Nat → Int32) × Nat) (fun n s => w_X12_back_b39 q n (ov S o ad (mA (mI M 0 0) 3 s.1)) o (nI j) (nI s.2)) (fun s => s.2 ≤ 5585 ∧ (∀ i, i < s.2 → s.1 i = M.2.2.1 4 (5585 * j + i))) (fun s => 5585 - s.2) ?_ ((mI M 0 0).2.2.1 3, 0) ⟨Nat.zero_le _, fun i hi => absurd hi (Nat.not_lt_zero i)⟩
        · rw [mA_self] at key
          exact key
        rintro n ⟨f, i⟩ ⟨hi, h1⟩ ih
        dsimp only at hi h1 ih ⊢
        rw [w_X12_back_b39]
        refine ⟨fun c => ?_, fun c => ?_⟩
        · have : i = 5585 := by
            have := (nI_leI (a := 5585) (b := i) (by omega) (by omega)).mp c
            omega
          subst this
          refine ⟨ov_oK, r_settled hd (mOk_rT hM0 (u := fun i => M.2.2.1 4 (5585 * j + i)) (rowOk_congr (f := fun i => M.2.2.1 4 (5585 * j + i)) (fun i hi => ?_) (hM.2.1 j (by omega) hk))) (RRbk hR0 hA hj eT h1) (by decide) (fun N hN hRN => h N (mOk_self hN) hRN)⟩
          have hl : i < 5585 := by unfold rCon at hi; omega
          exact h1 i hl
        · have c : i < 5585 := by
            rw [lit_nI 5585, nI_not_le (by omega) (by omega)] at c
            exact c
          simp (disch := decide) only [oi_gI, oi_gJ, oi_gP, oi_pI, oi_pZ, oi_pJ, oi_oK, oi_aI hd, oi_aZ hd, oi_aJ hd, oi_sI hd, oi_sZ hd, oi_sJ hd, mI_1, mI_2, mJ_1, mJ_2, mJ_3, mA_1, mA_2, mA_3, mA_4, mL_1, mL_2, mL_3, mL_4, mK, Nat.reduceEqDiff, if_true, if_false, ite_true, ite_false, true_and, Nat.reduceLT, reduceIte, reduceCtorEq, mA_mA]
          rw [lit_nI 5585, nImul, nIadd, nI_1, nI_clamp (by omega), nI_clamp (by omega)]
          refine ⟨vp_in_nI (by omega) (by omega), vp_in_nI (by omega) (by omega), eq_imp ?_⟩
          refine ih (upd f i (M.2.2.1 4 (5585 * j + i)), i + 1) ⟨by show i + 1 ≤ 5585; omega, fun t ht => ?_⟩ (by show 5585 - (i + 1) < 5585 - i; omega)
          dsimp only at ht ⊢
          by_cases e : t = i
          · subst e; rw [upd_self]
          · rw [upd_ne f _ e]; exact h1 t (by omega)
    · cases eT : T.2.1 j with
      | none =>
        rw [eT] at h
        dsimp only at h
        exact r_ref hd hM0 hR0 (v := 2) (by omega) (by decide) (fun N hN hRN => h N (mOk_self hN) hRN)
      | some t => exact absurd hk (i2 t eT).1
  · have es : spBack k T = spRef 1 T := by
      unfold spBack
      rw [if_pos a]
    rw [es] at h
    exact h N (mOk_self hN) hRN
end IR
