/-! LAYER 2, the reference: what is behind a sum, behind a test -/
section REF25
variable {S : hS} {o : Nat} {ad : Nat → Nat} {M : mS}
theorem wk_ao {lo c p : Nat} {x y : Int32} (h : wk M lo c p) (hx : ao x) : wk (mE (mP M p x (nI c)) c x y) lo (c + 1) (p + 1) := by
  obtain ⟨h1, h2, h3, h4, h5⟩ := h
  have hi := ao_i hx
  refine ⟨mE_23, (mE_fx.1 29 (by simp)).trans mP_29, by omega, fun i hi => ?_, ?_⟩
  · rw [mE_fx.2.2.1 27 (by simp), mP_27]
    by_cases e : i = p
    · subst e; rw [upd_self]; exact ⟨by omega, by omega⟩
    · rw [upd_ne _ _ e]; exact h4 i (by omega)
  · rw [mE_fx.2.2.1 27 (by simp), mE_fx.2.2.1 28 (by simp), mP_27, mP_28]
    exact pk_push (pk_mono h5 (by omega) (Nat.le_refl _)) (fun _ => ⟨c, rfl, h3, by omega⟩)
theorem sg_aoM {lo c p l : Nat} {x y : Int32} (hw : wk M lo c p) (hc : c ≤ 400) (h : sg M lo c p l 1) (hx : ao x) : sg (mE (mP M p x (nI c)) c x y) lo (c + 1) (p + 1) l 0 := by
  unfold sg at *
  rw [mE_24, mE_25, mE_fx.2.2.1 27 (by simp), mE_fx.2.2.1 28 (by simp), mP_27, mP_28, mP_fx.2.2.1 24 (by simp), mP_fx.2.2.1 25 (by simp)]
  exact sg_ao h hw.2.2.2.2 hx hw.2.2.1 hc
/-- a bracket taken off the pile's top -/
theorem wk_drop {lo c p : Nat} {z : Int32} (h : wk M lo c (p + 1)) : wk (mI (mI M 29 (nI p)) 30 z) lo c p := by
  obtain ⟨h1, h2, h3, h4, h5⟩ := h
  refine ⟨by simp [mI_1, h1], by simp [mI_1], h3, fun i hi => ?_, ?_⟩
  · exact h4 i (by omega)
  · exact pk_mono h5 (Nat.le_refl _) (by omega)
theorem bnV_rg {x : Int32} (hx : 20 ≤ x.toInt ∧ x.toInt ≤ 24) : 1 ≤ (bnV x).toInt := by
  unfold bnV
  have h1 : x < 31 := by rw [i32lt, i32lit 31 (by omega)]; omega
  have h2 : x < 25 := by rw [i32lt, i32lit 25 (by omega)]; omega
  have n : ∀ y : Int32, 25 ≤ y.toInt → ¬ x = y := fun y hy e => by rw [e] at hx; omega
  rw [if_pos h1, if_neg (n 30 (by decide)), if_neg (n 29 (by decide)), if_neg (n 28 (by decide)), if_pos h2]
  split <;> decide
theorem bnV_5 {x : Int32} (h : bnV x < 5) : 25 ≤ x.toInt := by
  by_cases c : x.toInt ≤ 24
  · exfalso
    unfold bnV at h
    have h1 : x < 31 := by rw [i32lt, i32lit 31 (by omega)]; omega
    have h2 : x < 25 := by rw [i32lt, i32lit 25 (by omega)]; omega
    have n : ∀ y : Int32, 25 ≤ y.toInt → ¬ x = y := fun y hy e => by rw [e] at c; omega
    rw [if_pos h1, if_neg (n 30 (by decide)), if_neg (n 29 (by decide)), if_neg (n 28 (by decide)), if_pos h2] at h
    split at h <;> exact absurd h (by decide)
  · omega
theorem bnV_1 {x : Int32} (h : bnV x < 1) : 31 ≤ x.toInt := by
  by_cases c : x < 31
  · exfalso
    unfold bnV at h
    rw [if_pos c] at h
    split at h
    · exact absurd h (by decide)
    · split at h
      · exact absurd h (by decide)
      · split at h
        · exact absurd h (by decide)
        · split at h
          · split at h <;> exact absurd h (by decide)
          · exact absurd h (by decide)
  · rw [i32lt, i32lit 31 (by omega)] at c; omega
theorem i32k {x y : Int32} (h : ¬ x = y) : x.toInt ≠ y.toInt := fun e => h (Int32.toInt_inj.mp e)
theorem f_behindSum (hd : mD o ad) {q : Int32 → hS → Prop} {T lo f t c p l : Nat} {v : Int32} (hb : M.1 19 = 0) (hj : pj M T lo f t c p l) (hs : sg M lo c p l 1) (hbs : bs (M.2.2.1 27) p) (h : ∀ r N, pc M N T lo f 1 r → q r (ov S o ad N)) : w_X12_behindSum q (ov S o ad M) o v := by
  have hj0 := hj
  obtain ⟨h1, h2, h3, h4, h5, h6⟩ := hj0
  have b := tk_400 h1
  have e32 : (32 : Int32).toInt = 32 := by decide
  have em1 : (-1 : Int32).toInt = -1 := by decide
  -- comparing
  have k224 : pB (M.2.2.1 27) p ≠ 32 → ∀ x g : Int32, (25 ≤ x.toInt ∧ x.toInt ≤ 27) → (¬ g = 0 → ¬ M.1 16 = 0) → w_X12_behindSum_b224 q (ov S o ad M) o x g o := by
    intro hB x g hx hg
    have hna : ¬ ao x := fun z => by have := ao_i z; omega
    refine ⟨ov_oK, f_must hd hb h1 hg (fun N hF hn => ?_) (fun _ N f' t' hF ht hl => ?_)⟩
    · simp (disch := decide) only [oi_gI, oi_gJ, oi_gP, oi_pI, oi_pZ, oi_pJ, oi_oK, oi_aI hd, oi_aZ hd, oi_aJ hd, oi_sI hd, oi_sZ hd, oi_sJ hd, mI_1, mI_2, mJ_1, mJ_2, mJ_3, mA_1, mA_2, mA_3, mA_4, mL_1, mL_2, mL_3, mL_4, mK, Nat.reduceEqDiff, if_true, if_false, ite_true, ite_false, true_and, Nat.reduceLT, reduceIte, reduceCtorEq, cl_0, cl_1, cl_2, cl_3, cl_4, cl_5, cl_6, cl_7, cl_8, cl_9, cl_10, cl_11, cl_12, cl_13, cl_14, cl_15, vl_0_5585, vl_1_5585, vl_2_5585, vl_3_5585, vl_4_5585, vl_5_5585, vl_6_5585, vl_0_7, vl_1_7, vl_2_7, vl_3_7, vl_4_7, vl_5_7, vl_6_7]
      exact ⟨fun _ => h 1 N (pc_bad hF hn hj), fun z => absurd z hn⟩
    · have b' := tk_400 ht
      have n19 : N.1 19 = 0 := (hF.1 19 (by simp)).trans hb
      have n27 : N.2.2.1 27 = M.2.2.1 27 := hF.2.2.1 27 (by simp)
      simp (disch := decide) only [oi_gI, oi_gJ, oi_gP, oi_pI, oi_pZ, oi_pJ, oi_oK, oi_aI hd, oi_aZ hd, oi_aJ hd, oi_sI hd, oi_sZ hd, oi_sJ hd, mI_1, mI_2, mJ_1, mJ_2, mJ_3, mA_1, mA_2, mA_3, mA_4, mL_1, mL_2, mL_3, mL_4, mK, Nat.reduceEqDiff, if_true, if_false, ite_true, ite_false, true_and, Nat.reduceLT, reduceIte, reduceCtorEq, cl_0, cl_1, cl_2, cl_3, cl_4, cl_5, cl_6, cl_7, cl_8, cl_9, cl_10, cl_11, cl_12, cl_13, cl_14, cl_15, vl_0_5585, vl_1_5585, vl_2_5585, vl_3_5585, vl_4_5585, vl_5_5585, vl_6_5585, vl_0_7, vl_1_7, vl_2_7, vl_3_7, vl_4_7, vl_5_7, vl_6_7]
      rw [n19]
      refine ⟨fun z => absurd rfl z, fun _ => f_settle hd (wk_fx hF h2 (by simp) (by simp)) (by rw [n27]; omega) (by omega) (by decide) (fun P c' p' hF2 hw2 a1 a2 a3 a4 a5 a6 a7 => ⟨ov_oK, f_push hd hw2.2.1 (by omega) (h 1 _ ?_)⟩)⟩
      rw [n27] at a3 a4 a5
      have p27 : P.2.2.1 27 = M.2.2.1 27 := (hF2.2.2.1 27 (by simp)).trans n27
      have hF3 := (hF.tr hF2).tr (mP_fx (N := P) (p := p') (x := x) (y := 0))
      refine ⟨hF3.le (by simp) (by simp) (by simp) (by simp), ((lowEq.fx hF (by simp) (by simp)).tr a6).tr (lowEq.fx mP_fx (by simp) (by simp)), f', t', c', p' + 1, l, ⟨tk_fx (hF2.tr mP_fx) ht (by simp), wk_mP hw2 ⟨by omega, by omega⟩ (fun z => absurd z hna), (hF3.1 26 (by simp)).trans h3, h4, ?_, by omega⟩, by omega, fun _ => ⟨⟨?_, Or.inr (Or.inl ⟨rfl, sg_mP (a7 l (sg_fx hF hs (by simp))) hna (by rw [if_pos (by omega)])⟩)⟩, Or.inl hl⟩⟩
      · rw [mP_27, pE_push, if_pos (by omega), p27]; omega
      · rw [mP_27, p27]; exact bs_push (bs_le hbs a1) (fun _ => by rw [a4]; exact hB)
  have k202 : pB (M.2.2.1 27) p ≠ 32 → ∀ x : Int32, (25 ≤ x.toInt ∧ x.toInt ≤ 27) → (¬ x = 27 → ¬ M.1 16 = 0) → w_X12_behindSum_b202 q (ov S o ad M) o x := fun hB x hx hg =>
    ⟨fun z => k224 hB x 1 hx (fun _ => hg z), fun _ => ⟨ov_oK, s_isSign hd (fun h16 => ⟨fun z => absurd z (by decide), fun _ => k224 hB x 1 hx (fun _ => h16)⟩) ⟨fun _ => k224 hB x 0 hx (fun z => absurd rfl z), fun z => absurd rfl z⟩⟩⟩
  have k163 : pB (M.2.2.1 27) p ≠ 32 → w_X12_behindSum_b163 q (ov S o ad M) o := fun hB =>
    ⟨ov_oK, s_isCompared hd h2.2.1 (by omega) (fun r => ⟨fun _ => ⟨ov_oK, s_isSign hd (fun h16 => ⟨fun z => absurd z (by decide), fun _ => k202 hB 25 (by decide) (fun _ => h16)⟩) ⟨fun _ => ⟨ov_oK, s_isSign hd (fun h16 => ⟨fun z => absurd z (by decide), fun _ => k202 hB 26 (by decide) (fun _ => h16)⟩) ⟨fun _ => k202 hB 27 (by decide) (fun z => absurd rfl z), fun z => absurd rfl z⟩⟩, fun z => absurd rfl z⟩⟩, fun _ => h 2 M ⟨Fx.rf', lowEq.rf, f, t, c, p, l, hj, Nat.le_refl _, fun _ => ⟨⟨hbs, Or.inr (Or.inr (Or.inl ⟨rfl, hs, hB⟩))⟩, Or.inr (Or.inr ⟨rfl, rfl⟩)⟩⟩⟩)⟩
  -- an operation
  have kop : ∀ x : Int32, (20 ≤ x.toInt ∧ x.toInt ≤ 24) → ¬ M.1 16 = 0 → w_X12_behindSum_b71 q (ov S o ad M) o v x := by
    intro x hx h16
    have bf := b.2.2 h16
    have hna : ¬ ao x := fun z => by have := ao_i z; omega
    refine ⟨fun z => by rw [z] at hx; exact absurd hx (by decide), fun _ => s_binds ⟨ov_oK, f_settle hd h2 (by omega) (by omega) (bnV_rg hx) (fun P c' p' hF2 hw2 a1 a2 a3 a4 a5 a6 a7 => ⟨ov_oK, f_push hd hw2.2.1 (by omega) ⟨ov_oK, ?_⟩⟩)⟩⟩
    obtain ⟨e13, e14, e15, hT, l1, l2, l3⟩ := h1
    have ft : f < t := by
      rcases l3 with e | e
      · exact absurd e h16
      · exact e
    have hF3 := hF2.tr (mP_fx (N := P) (p := p') (x := x) (y := 0))
    refine f_next hd (M := mP P p' x 0) (T := T) (t := t) ((hF3.1 13 (by simp)).trans e13) hT ((hF3.1 15 (by simp)).trans e15) l2 (fun N f' t' hF ht hl => h 1 N ?_)
    have p27 : P.2.2.1 27 = M.2.2.1 27 := hF2.2.2.1 27 (by simp)
    have n27 : N.2.2.1 27 = upd (P.2.2.1 27) p' x := (hF.2.2.1 27 (by simp)).trans mP_27
    refine ⟨(hF3.tr hF).le (by simp) (by simp) (by simp) (by simp), a6.tr (lowEq.fx (mP_fx.tr hF) (by simp) (by simp)), f', t', c', p' + 1, l, ⟨ht, wk_fx hF (wk_mP hw2 ⟨by omega, by omega⟩ (fun z => absurd z hna)) (by simp) (by simp), ((hF3.tr hF).1 26 (by simp)).trans h3, h4, ?_, by omega⟩, by omega, fun _ => ⟨⟨?_, Or.inr (Or.inl ⟨rfl, sg_fx hF (sg_mP (a7 l hs) hna (by rw [if_pos (by omega)])) (by simp)⟩)⟩, Or.inl (by omega)⟩⟩
    · rw [n27, pE_push, if_pos (by omega), p27]; omega
    · rw [n27, p27]; exact bs_push (bs_le hbs a1) (fun z => by omega)
  -- no operation
  have kno : w_X12_behindSum_b71 q (ov S o ad M) o v (-1) := by
    refine ⟨fun _ => ⟨ov_oK, s_inner hd h2.2.1 (by omega) (fun r hr => ⟨fun c1 => ?_, fun c1 => ⟨ov_oK, ?_⟩⟩)⟩, fun z => absurd rfl z⟩
    · have hB : pB (M.2.2.1 27) p ≠ 32 := by rw [← hr, ← e32]; exact i32k c1
      refine ⟨fun _ => k163 hB, fun c2 => ⟨fun _ => k163 hB, fun _ => h 4 M ⟨Fx.rf', lowEq.rf, f, t, c, p, l, hj, Nat.le_refl _, fun _ => ⟨⟨hbs, Or.inr (Or.inr (Or.inr (Or.inr ⟨rfl, hs, ?_⟩)))⟩, Or.inr (Or.inl rfl)⟩⟩⟩⟩
      rw [← hr, c2, em1]
    · have hB : pB (M.2.2.1 27) p = 32 := by rw [← hr, c1, e32]
      have km : ∀ g : Int32, (¬ g = 0 → ¬ M.1 16 = 0) → oK (ov S o ad M) o 12 ∧ w_X12_must (fun S => gI S o 12 19 (fun x119 => (¬ x119 = 0 → q 3 S) ∧ (x119 = 0 → oK S o 12 ∧ w_X12_settle (fun S => gI S o 12 29 (fun x132 => pI S o 12 29 (x132 - 1) (fun S => gI S o 12 30 (fun x142 => pI S o 12 30 (x142 - 1) (fun S => q 3 S))))) S o 5))) (ov S o ad M) o g := by
        intro g hg
        refine ⟨ov_oK, f_must hd hb h1 hg (fun N hF hn => ?_) (fun _ N f' t' hF ht hl => ?_)⟩
        · simp (disch := decide) only [oi_gI, oi_gJ, oi_gP, oi_pI, oi_pZ, oi_pJ, oi_oK, oi_aI hd, oi_aZ hd, oi_aJ hd, oi_sI hd, oi_sZ hd, oi_sJ hd, mI_1, mI_2, mJ_1, mJ_2, mJ_3, mA_1, mA_2, mA_3, mA_4, mL_1, mL_2, mL_3, mL_4, mK, Nat.reduceEqDiff, if_true, if_false, ite_true, ite_false, true_and, Nat.reduceLT, reduceIte, reduceCtorEq, cl_0, cl_1, cl_2, cl_3, cl_4, cl_5, cl_6, cl_7, cl_8, cl_9, cl_10, cl_11, cl_12, cl_13, cl_14, cl_15, vl_0_5585, vl_1_5585, vl_2_5585, vl_3_5585, vl_4_5585, vl_5_5585, vl_6_5585, vl_0_7, vl_1_7, vl_2_7, vl_3_7, vl_4_7, vl_5_7, vl_6_7]
          exact ⟨fun _ => h 3 N (pc_bad hF hn hj), fun z => absurd z hn⟩
        · have b' := tk_400 ht
          have n19 : N.1 19 = 0 := (hF.1 19 (by simp)).trans hb
          have n27 : N.2.2.1 27 = M.2.2.1 27 := hF.2.2.1 27 (by simp)
          simp (disch := decide) only [oi_gI, oi_gJ, oi_gP, oi_pI, oi_pZ, oi_pJ, oi_oK, oi_aI hd, oi_aZ hd, oi_aJ hd, oi_sI hd, oi_sZ hd, oi_sJ hd, mI_1, mI_2, mJ_1, mJ_2, mJ_3, mA_1, mA_2, mA_3, mA_4, mL_1, mL_2, mL_3, mL_4, mK, Nat.reduceEqDiff, if_true, if_false, ite_true, ite_false, true_and, Nat.reduceLT, reduceIte, reduceCtorEq, cl_0, cl_1, cl_2, cl_3, cl_4, cl_5, cl_6, cl_7, cl_8, cl_9, cl_10, cl_11, cl_12, cl_13, cl_14, cl_15, vl_0_5585, vl_1_5585, vl_2_5585, vl_3_5585, vl_4_5585, vl_5_5585, vl_6_5585, vl_0_7, vl_1_7, vl_2_7, vl_3_7, vl_4_7, vl_5_7, vl_6_7]
          rw [n19]
          refine ⟨fun z => absurd rfl z, fun _ => f_settle hd (wk_fx hF h2 (by simp) (by simp)) (by rw [n27]; omega) (by omega) (by decide) (fun P c' p' hF2 hw2 a1 a2 a3 a4 a5 a6 a7 => ?_)⟩
          rw [n27] at a3 a4 a5
          have p27 : P.2.2.1 27 = M.2.2.1 27 := (hF2.2.2.1 27 (by simp)).trans n27
          rw [hB] at a4
          cases p' with
          | zero => rw [pB] at a4; omega
          | succ j =>
            have b5 := bnV_5 (a5 j rfl)
            have hr2 := hw2.2.2.2.1 j (by omega)
            rw [p27] at hr2
            have x31 : 31 ≤ (M.2.2.1 27 j).toInt := by
              refine Classical.byContradiction (fun z => ?_)
              rw [pB, if_neg z] at a4
              exact hbs j (by omega) ⟨b5, by omega⟩ a4
            have ej : nI (j + 1) - 1 = nI j := by rw [nI_s1 (by omega)]; rfl
            simp (disch := decide) only [oi_gI, oi_gJ, oi_gP, oi_pI, oi_pZ, oi_pJ, oi_oK, oi_aI hd, oi_aZ hd, oi_aJ hd, oi_sI hd, oi_sZ hd, oi_sJ hd, mI_1, mI_2, mJ_1, mJ_2, mJ_3, mA_1, mA_2, mA_3, mA_4, mL_1, mL_2, mL_3, mL_4, mK, Nat.reduceEqDiff, if_true, if_false, ite_true, ite_false, true_and, Nat.reduceLT, reduceIte, reduceCtorEq, cl_0, cl_1, cl_2, cl_3, cl_4, cl_5, cl_6, cl_7, cl_8, cl_9, cl_10, cl_11, cl_12, cl_13, cl_14, cl_15, vl_0_5585, vl_1_5585, vl_2_5585, vl_3_5585, vl_4_5585, vl_5_5585, vl_6_5585, vl_0_7, vl_1_7, vl_2_7, vl_3_7, vl_4_7, vl_5_7, vl_6_7]
            rw [hw2.2.1, ej]
            refine h 3 _ ?_
            have hF3 := (hF.tr hF2).tr ((Fx.i 29 (nI j)).tr (Fx.i 30 (P.1 30 - 1)))
            have hE : pE (M.2.2.1 27) (j + 1) = pE (M.2.2.1 27) j := by rw [pE, if_neg (by omega)]; rfl
            refine ⟨hF3.le (by simp) (by simp) (by simp) (by simp), ((lowEq.fx hF (by simp) (by simp)).tr a6).tr (lowEq.fx ((Fx.i 29 _).tr (Fx.i 30 _)) (by simp) (by simp)), f', t', c', j, l, ⟨tk_fx (hF2.tr ((Fx.i 29 _).tr (Fx.i 30 _))) ht (by simp), wk_drop hw2, (hF3.1 26 (by simp)).trans h3, h4, ?_, by omega⟩, by omega, fun _ => ⟨⟨?_, Or.inr (Or.inr (Or.inr (Or.inl ⟨rfl, ?_⟩)))⟩, Or.inl hl⟩⟩
            · show c' + pE (P.2.2.1 27) j ≤ f'
              rw [p27]; omega
            · show bs (P.2.2.1 27) j
              rw [p27]; exact bs_le hbs (by omega)
            · have := a7 l (sg_fx hF hs (by simp))
              unfold sg at *
              exact sg_drop this (by show 31 ≤ (P.2.2.1 27 j).toInt; rw [p27]; exact x31)
      exact s_isSign hd (fun h16 => km 1 (fun _ => h16)) (km 0 (fun z => absurd rfl z))
  exact ⟨ov_oK, s_isSign hd (fun h16 => ⟨fun z => absurd z (by decide), fun _ => kop 20 (by decide) h16⟩) ⟨fun _ => ⟨ov_oK, s_isSign hd (fun h16 => ⟨fun z => absurd z (by decide), fun _ => kop 21 (by decide) h16⟩) ⟨fun _ => ⟨ov_oK, s_isSign hd (fun h16 => ⟨fun z => absurd z (by decide), fun _ => kop 22 (by decide) h16⟩) ⟨fun _ => ⟨ov_oK, s_isSign hd (fun h16 => ⟨fun z => absurd z (by decide), fun _ => kop 23 (by decide) h16⟩) ⟨fun _ => ⟨ov_oK, s_isSign hd (fun h16 => ⟨fun z => absurd z (by decide), fun _ => kop 24 (by decide) h16⟩) ⟨fun _ => kno, fun z => absurd rfl z⟩⟩, fun z => absurd rfl z⟩⟩, fun z => absurd rfl z⟩⟩, fun z => absurd rfl z⟩⟩, fun z => absurd rfl z⟩⟩
end REF25
