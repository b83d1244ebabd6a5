/-! LAYER 2, the reference: behind a test; an expression -/
section REF26
variable {S : hS} {o : Nat} {ad : Nat → Nat} {M : mS}
theorem f_behindTest (hd : mD o ad) {q : Int32 → hS → Prop} {T lo f t c p l : Nat} (hb : M.1 19 = 0) (hj : pj M T lo f t c p l) (hs : sg M lo c p l 1) (hbs : bs (M.2.2.1 27) p) (hB : pB (M.2.2.1 27) p ≠ 32) (h : ∀ r N, pc M N T lo f 0 r → q r (ov S o ad N)) : w_X12_behindTest q (ov S o ad M) o := by
  have hj0 := hj
  obtain ⟨h1, h2, h3, h4, h5, h6⟩ := hj0
  have b := tk_400 h1
  have em1 : (-1 : Int32).toInt = -1 := by decide
  -- and, or
  have k32 : ∀ x g v : Int32, ao x → 1 ≤ g.toInt → ((v = 0 → x = 30) ∧ (¬ v = 0 → x = 29)) → ¬ M.1 16 = 0 → w_X12_behindTest_b32 q (ov S o ad M) o v g o := by
    intro x g v hx hg hv h16
    have bf := b.2.2 h16
    have hi := ao_i hx
    refine ⟨ov_oK, f_settle hd h2 (by omega) (by omega) hg (fun P c' p' hF2 hw2 a1 a2 a3 a4 a5 a6 a7 => ?_)⟩
    have p27 : P.2.2.1 27 = M.2.2.1 27 := hF2.2.2.1 27 (by simp)
    have k66 : w_X12_behindTest_b66 q (ov S o ad (mP P p' x (nI c'))) o x o := by
      refine ⟨ov_oK, f_emit hd (c := c') ((mP_fx.1 23 (by simp)).trans hw2.1) (by omega) ⟨ov_oK, ?_⟩⟩
      obtain ⟨e13, e14, e15, hT, l1, l2, l3⟩ := h1
      have ft : f < t := by
        rcases l3 with e | e
        · exact absurd e h16
        · exact e
      have hF4 := (mP_fx (N := P) (p := p') (x := x) (y := nI c')).tr (mE_fx (c := c') (x := x) (y := 0))
      have hF3 := hF2.tr hF4
      refine f_next hd (M := mE (mP P p' x (nI c')) c' x 0) (T := T) (t := t) ((hF3.1 13 (by simp)).trans e13) hT ((hF3.1 15 (by simp)).trans e15) l2 (fun N f' t' hF ht hl => h 0 N ?_)
      have n27 : N.2.2.1 27 = upd (P.2.2.1 27) p' x := ((hF.2.2.1 27 (by simp)).trans (mE_fx.2.2.1 27 (by simp))).trans mP_27
      refine ⟨(hF3.tr hF).le (by simp) (by simp) (by simp) (by simp), (a6.tr ((lowEq.fx mP_fx (by simp) (by simp)).tr (lowEq_mE hw2.2.2.1))).tr (lowEq.fx hF (by simp) (by simp)), f', t', c' + 1, p' + 1, l, ⟨ht, wk_fx hF (wk_ao hw2 hx) (by simp) (by simp), ((hF3.tr hF).1 26 (by simp)).trans h3, h4, ?_, by omega⟩, by omega, fun _ => ⟨⟨?_, Or.inl ⟨rfl, sg_fx hF (sg_aoM hw2 (by omega) (a7 l hs) hx) (by simp), ?_⟩⟩, Or.inl (by omega)⟩⟩
      · rw [n27, pE_push, if_neg (by omega), p27]; omega
      · rw [n27, p27]; exact bs_push (bs_le hbs a1) (fun _ => by rw [a4]; exact hB)
      · rw [n27, pB_push, if_neg (by omega), p27, a4]; exact hB
    have k47 : w_X12_behindTest_b47 q (ov S o ad P) o v x o := by
      unfold w_X12_behindTest_b47
      simp (disch := decide) only [oi_gI, oi_gJ, oi_gP, oi_pI, oi_pZ, oi_pJ, oi_oK, oi_aI hd, oi_aZ hd, oi_aJ hd, oi_sI hd, oi_sZ hd, oi_sJ hd, mI_1, mI_2, mJ_1, mJ_2, mJ_3, mA_1, mA_2, mA_3, mA_4, mL_1, mL_2, mL_3, mL_4, mK, Nat.reduceEqDiff, if_true, if_false, ite_true, ite_false, true_and, Nat.reduceLT, reduceIte, reduceCtorEq, cl_0, cl_1, cl_2, cl_3, cl_4, cl_5, cl_6, cl_7, cl_8, cl_9, cl_10, cl_11, cl_12, cl_13, cl_14, cl_15, vl_0_5585, vl_1_5585, vl_2_5585, vl_3_5585, vl_4_5585, vl_5_5585, vl_6_5585, vl_0_7, vl_1_7, vl_2_7, vl_3_7, vl_4_7, vl_5_7, vl_6_7]
      rw [hw2.1]
      refine f_push hd hw2.2.1 (by omega) ⟨fun z => ?_, fun z => ?_⟩
      · have := k66; rw [hv.1 z] at this ⊢; exact this
      · have := k66; rw [hv.2 z] at this ⊢; exact this
    refine ⟨fun z => ?_, fun z => ?_⟩
    · have := k47; rw [hv.1 z] at this; exact this
    · have := k47; rw [hv.2 z] at this; exact this
  have k22 : ∀ v : Int32, ¬ M.1 16 = 0 → w_X12_behindTest_b22 q (ov S o ad M) o v := fun v h16 =>
    ⟨fun z => k32 30 1 v (Or.inr rfl) (by decide) ⟨fun _ => rfl, fun w => absurd z w⟩ h16, fun z => k32 29 2 v (Or.inl rfl) (by decide) ⟨fun w => absurd w z, fun _ => rfl⟩ h16⟩
  refine ⟨ov_oK, s_isWord hd (fun h16 => ⟨fun _ => k22 1 h16, fun z => absurd z (by decide)⟩) ⟨fun z => absurd rfl z, fun _ => ⟨ov_oK, s_isWord hd (fun h16 => ⟨fun z => absurd z (by decide), fun _ => k22 0 h16⟩) ⟨fun _ => ⟨ov_oK, s_inner hd h2.2.1 (by omega) (fun r hr => ⟨fun c1 => ⟨ov_oK, ?_⟩, fun c1 => h 4 M ⟨Fx.rf', lowEq.rf, f, t, c, p, l, hj, Nat.le_refl _, fun _ => ⟨⟨hbs, Or.inr (Or.inr (Or.inr (Or.inr ⟨rfl, hs, by rw [← hr, c1, em1]⟩)))⟩, Or.inr (Or.inl rfl)⟩⟩⟩)⟩, fun z => absurd rfl z⟩⟩⟩⟩
  have hN : pB (M.2.2.1 27) p ≠ -1 := by rw [← hr, ← em1]; exact i32k c1
  have km : ∀ g : Int32, (¬ g = 0 → ¬ M.1 16 = 0) → oK (ov S o ad M) o 12 ∧ w_X12_must (fun S => gI S o 12 19 (fun x97 => (¬ x97 = 0 → q 2 S) ∧ (x97 = 0 → oK S o 12 ∧ w_X12_settle (fun S => gI S o 12 29 (fun x110 => pI S o 12 29 (x110 - 1) (fun S => gI S o 12 30 (fun x120 => pI S o 12 30 (x120 - 1) (fun S => q 2 S))))) S o 1))) (ov S o ad M) o g := by
    intro g hg
    refine ⟨ov_oK, f_must hd hb h1 hg (fun N hF hn => ?_) (fun _ N f' t' hF ht hl => ?_)⟩
    · simp (disch := decide) only [oi_gI, oi_gJ, oi_gP, oi_pI, oi_pZ, oi_pJ, oi_oK, oi_aI hd, oi_aZ hd, oi_aJ hd, oi_sI hd, oi_sZ hd, oi_sJ hd, mI_1, mI_2, mJ_1, mJ_2, mJ_3, mA_1, mA_2, mA_3, mA_4, mL_1, mL_2, mL_3, mL_4, mK, Nat.reduceEqDiff, if_true, if_false, ite_true, ite_false, true_and, Nat.reduceLT, reduceIte, reduceCtorEq, cl_0, cl_1, cl_2, cl_3, cl_4, cl_5, cl_6, cl_7, cl_8, cl_9, cl_10, cl_11, cl_12, cl_13, cl_14, cl_15, vl_0_5585, vl_1_5585, vl_2_5585, vl_3_5585, vl_4_5585, vl_5_5585, vl_6_5585, vl_0_7, vl_1_7, vl_2_7, vl_3_7, vl_4_7, vl_5_7, vl_6_7]
      exact ⟨fun _ => h 2 N (pc_bad hF hn hj), fun z => absurd z hn⟩
    · have b' := tk_400 ht
      have n19 : N.1 19 = 0 := (hF.1 19 (by simp)).trans hb
      have n27 : N.2.2.1 27 = M.2.2.1 27 := hF.2.2.1 27 (by simp)
      simp (disch := decide) only [oi_gI, oi_gJ, oi_gP, oi_pI, oi_pZ, oi_pJ, oi_oK, oi_aI hd, oi_aZ hd, oi_aJ hd, oi_sI hd, oi_sZ hd, oi_sJ hd, mI_1, mI_2, mJ_1, mJ_2, mJ_3, mA_1, mA_2, mA_3, mA_4, mL_1, mL_2, mL_3, mL_4, mK, Nat.reduceEqDiff, if_true, if_false, ite_true, ite_false, true_and, Nat.reduceLT, reduceIte, reduceCtorEq, cl_0, cl_1, cl_2, cl_3, cl_4, cl_5, cl_6, cl_7, cl_8, cl_9, cl_10, cl_11, cl_12, cl_13, cl_14, cl_15, vl_0_5585, vl_1_5585, vl_2_5585, vl_3_5585, vl_4_5585, vl_5_5585, vl_6_5585, vl_0_7, vl_1_7, vl_2_7, vl_3_7, vl_4_7, vl_5_7, vl_6_7]
      rw [n19]
      refine ⟨fun z => absurd rfl z, fun _ => f_settle hd (wk_fx hF h2 (by simp) (by simp)) (by rw [n27]; omega) (by omega) (by decide) (fun P c' p' hF2 hw2 a1 a2 a3 a4 a5 a6 a7 => ?_)⟩
      rw [n27] at a3 a4 a5
      have p27 : P.2.2.1 27 = M.2.2.1 27 := (hF2.2.2.1 27 (by simp)).trans n27
      cases p' with
      | zero => exact absurd a4.symm hN
      | succ j =>
        have x31 := bnV_1 (a5 j rfl)
        have hr2 := hw2.2.2.2.1 j (by omega)
        rw [p27] at hr2
        have e4 : (M.2.2.1 27 j).toInt = pB (M.2.2.1 27) p := by rw [← a4, pB, if_pos x31]
        have ej : nI (j + 1) - 1 = nI j := by rw [nI_s1 (by omega)]; rfl
        have hB' : pB (M.2.2.1 27) j ≠ 32 := hbs j (by omega) ⟨by omega, by have := hr2.2; omega⟩
        simp (disch := decide) only [oi_gI, oi_gJ, oi_gP, oi_pI, oi_pZ, oi_pJ, oi_oK, oi_aI hd, oi_aZ hd, oi_aJ hd, oi_sI hd, oi_sZ hd, oi_sJ hd, mI_1, mI_2, mJ_1, mJ_2, mJ_3, mA_1, mA_2, mA_3, mA_4, mL_1, mL_2, mL_3, mL_4, mK, Nat.reduceEqDiff, if_true, if_false, ite_true, ite_false, true_and, Nat.reduceLT, reduceIte, reduceCtorEq, cl_0, cl_1, cl_2, cl_3, cl_4, cl_5, cl_6, cl_7, cl_8, cl_9, cl_10, cl_11, cl_12, cl_13, cl_14, cl_15, vl_0_5585, vl_1_5585, vl_2_5585, vl_3_5585, vl_4_5585, vl_5_5585, vl_6_5585, vl_0_7, vl_1_7, vl_2_7, vl_3_7, vl_4_7, vl_5_7, vl_6_7]
        rw [hw2.2.1, ej]
        refine h 2 _ ?_
        have hF3 := (hF.tr hF2).tr ((Fx.i 29 (nI j)).tr (Fx.i 30 (P.1 30 - 1)))
        have hE : pE (M.2.2.1 27) (j + 1) = pE (M.2.2.1 27) j := by rw [pE, if_neg (by omega)]; rfl
        refine ⟨hF3.le (by simp) (by simp) (by simp) (by simp), ((lowEq.fx hF (by simp) (by simp)).tr a6).tr (lowEq.fx ((Fx.i 29 _).tr (Fx.i 30 _)) (by simp) (by simp)), f', t', c', j, l, ⟨tk_fx (hF2.tr ((Fx.i 29 _).tr (Fx.i 30 _))) ht (by simp), wk_drop hw2, (hF3.1 26 (by simp)).trans h3, h4, ?_, by omega⟩, by omega, fun _ => ⟨⟨?_, Or.inr (Or.inr (Or.inl ⟨rfl, ?_, ?_⟩))⟩, Or.inl hl⟩⟩
        · show c' + pE (P.2.2.1 27) j ≤ f'
          rw [p27]; omega
        · show bs (P.2.2.1 27) j
          rw [p27]; exact bs_le hbs (by omega)
        · have := a7 l (sg_fx hF hs (by simp))
          unfold sg at *
          exact sg_drop this (by show 31 ≤ (P.2.2.1 27 j).toInt; rw [p27]; exact x31)
        · show pB (P.2.2.1 27) j ≠ 32
          rw [p27]; exact hB'
  exact s_isSign hd (fun h16 => km 1 (fun _ => h16)) (km 0 (fun z => absurd rfl z))
theorem PF.tr {N P : mS} (h1 : PF M N) (h2 : PF N P) : PF M P := (Fx.tr h1 h2).le (by simp) (by simp) (by simp) (by simp)
/-- what the turns cost at most -/
def rxM (N : mS) (f : Nat) (r : Int32) : Nat := if ¬ N.1 19 = 0 ∨ r = 4 then 0 else 1 + 2 * (400 - f) + if r = 3 then 1 else 0
theorem pB_no {pl : Nat → Int32} : ∀ p, pB pl p = -1 → ∀ i, i < p → (pl i).toInt < 31
  | 0, _, i, hi => by omega
  | p + 1, h, i, hi => by
    rw [pB] at h
    by_cases c : 31 ≤ (pl p).toInt
    · rw [if_pos c] at h; omega
    · rw [if_neg c] at h
      by_cases e : i = p
      · subst e; omega
      · exact pB_no p h i (by omega)
theorem f_readExpression (hd : mD o ad) {q : hS → Prop} {T f t c l : Nat} {v : Int32} (hb : M.1 19 = 0) (ht : tk M T f t) (e23 : M.1 23 = nI c) (hc : c ≤ f) (e26 : M.1 26 = nI l) (hl : l ≤ 50) (h : ∀ N f' t' c' l', PF M N → lowEq c M N → tk N T f' t' → N.1 23 = nI c' → c ≤ c' → c' ≤ f' → N.1 26 = nI l' → l' ≤ 50 → f ≤ f' → (N.1 19 = 0 → codeOk (N.2.2.1 24) (N.2.2.1 25) c c') → q (ov S o ad N)) : w_X12_readExpression q (ov S o ad M) o v := by
  have b := tk_400 ht
  have main : ∀ r : Int32, (r = 0 ∨ r = 1) → w_X12_readExpression_b19 q (ov S o ad (mI (mI M 29 0) 30 0)) o v r := by
    intro r0 hr0
    unfold w_X12_readExpression_b19
    have hF0 : Fx [29, 30] [] [] [] M (mI (mI M 29 0) 30 0) := ((Fx.i 29 0).tr (Fx.i 30 0)).le (by simp) (by simp) (by simp) (by simp)
    refine loop_m (σ := mS × Nat × Int32) (fun n s => w_X12_readExpression_b20 q n (ov S o ad s.1) o v s.2.2) (fun s => PF M s.1 ∧ lowEq c M s.1 ∧ f ≤ s.2.1 ∧ ∃ t' c' p' l', pj s.1 T c s.2.1 t' c' p' l' ∧ (s.1.1 19 = 0 → tok s.2.2 s.1 c c' p' l')) (fun s => rxM s.1 s.2.1 s.2.2) ?_ (_, f, r0) ⟨hF0.le (by simp) (by simp) (by simp) (by simp), lowEq.fx hF0 (by simp) (by simp), Nat.le_refl _, t, c, 0, l, ⟨tk_fx hF0 ht (by simp), ⟨(hF0.1 23 (by simp)).trans e23, by simp [mI_1]; rfl, Nat.le_refl _, fun i hi => by omega, fun i hi => by omega⟩, (hF0.1 26 (by simp)).trans e26, hl, by show c + 0 ≤ f; omega, by omega⟩, fun _ => ⟨fun i hi => by omega, ?_⟩⟩
    · rintro n ⟨N, f1, r⟩ ⟨hP, hlow, hff, t1, c1, p1, l1, hj, htk⟩ ih
      dsimp only at hP hlow hff hj htk ih ⊢
      obtain ⟨j1, j2, j3, j4, j5, j6⟩ := id hj
      have b1 := tk_400 j1
      -- the end
      have fin : (N.1 19 = 0 → r = 4) → w_X12_readExpression_b76 q (ov S o ad N) o := by
        intro hend
        refine ⟨ov_oK, f_settle hd j2 (by omega) (by omega) (by decide) (fun P c' p' hF2 hw2 a1 a2 a3 a4 a5 a6 a7 => h P f1 t1 c' l1 (PF.tr hP (hF2.le (by simp) (by simp) (by simp) (by simp))) (hlow.tr a6) (tk_fx hF2 j1 (by simp)) hw2.1 hw2.2.2.1 (by omega) ((hF2.1 26 (by simp)).trans j3) j4 hff (fun z => ?_))⟩
        have z19 : N.1 19 = 0 := by rw [← hF2.1 19 (by simp)]; exact z
        obtain ⟨t1, t2⟩ := htk z19
        have hr4 := hend z19
        have hs4 : sg N c c1 p1 l1 1 ∧ pB (N.2.2.1 27) p1 = -1 := by
          rcases t2 with e | e | e | e | e
          · exact absurd (e.1.symm.trans hr4) (by decide)
          · exact absurd (e.1.symm.trans hr4) (by decide)
          · exact absurd (e.1.symm.trans hr4) (by decide)
          · exact absurd (e.1.symm.trans hr4) (by decide)
          · exact e.2
        have p0 : p' = 0 := by
          cases p' with
          | zero => rfl
          | succ j =>
            have := bnV_1 (a5 j rfl)
            have := pB_no p1 hs4.2 j (by omega)
            omega
        subst p0
        exact sg_code (a7 l1 hs4.1) (by omega)
      -- going on
      have go : ∀ st r' N', N.1 19 = 0 → ¬ r = 4 → (st = 1 → r = 3) → pc N N' T c f1 st r' → w_X12_readExpression_b72 q (fun S v0 v1 v2 => w_X12_readExpression_b20 q n S v0 v1 v2) (ov S o ad N') o v r' := by
        intro st r' N' z19 zr hst hpc
        obtain ⟨g1, g2, f', t', c', p', l', g3, g4, g5⟩ := hpc
        have b2 := tk_400 g3.1
        refine ih (N', f', r') ⟨PF.tr hP g1, hlow.tr g2, by dsimp only; omega, t', c', p', l', g3, fun z => (g5 z).1⟩ ?_
        show rxM N' f' r' < rxM N f1 r
        unfold rxM
        rw [if_neg (show ¬ (¬ N.1 19 = 0 ∨ r = 4) from fun z => by rcases z with z | z; exact z z19; exact zr z)]
        by_cases e : ¬ N'.1 19 = 0 ∨ r' = 4
        · rw [if_pos e]; omega
        · rw [if_neg e]
          have e19 : N'.1 19 = 0 := Classical.byContradiction (fun z => e (Or.inl z))
          rcases (g5 e19).2 with g | g | g
          · split <;> split <;> omega
          · exact absurd (Or.inr g) e
          · rw [if_pos (hst g.1), if_neg (by rw [g.2]; decide)]; omega
      rw [w_X12_readExpression_b20]
      simp (disch := decide) only [oi_gI, oi_gJ, oi_gP, oi_pI, oi_pZ, oi_pJ, oi_oK, oi_aI hd, oi_aZ hd, oi_aJ hd, oi_sI hd, oi_sZ hd, oi_sJ hd, mI_1, mI_2, mJ_1, mJ_2, mJ_3, mA_1, mA_2, mA_3, mA_4, mL_1, mL_2, mL_3, mL_4, mK, Nat.reduceEqDiff, if_true, if_false, ite_true, ite_false, true_and, Nat.reduceLT, reduceIte, reduceCtorEq, cl_0, cl_1, cl_2, cl_3, cl_4, cl_5, cl_6, cl_7, cl_8, cl_9, cl_10, cl_11, cl_12, cl_13, cl_14, cl_15, vl_0_5585, vl_1_5585, vl_2_5585, vl_3_5585, vl_4_5585, vl_5_5585, vl_6_5585, vl_0_7, vl_1_7, vl_2_7, vl_3_7, vl_4_7, vl_5_7, vl_6_7]
      refine ⟨fun c1 => fin (fun z => absurd z c1), fun c1 => ⟨fun c2 => fin (fun _ => c2), fun c2 => ?_⟩⟩
      obtain ⟨t1, t2⟩ := htk c1
      rcases t2 with e | e | e | e | e
      · obtain ⟨rfl, e1, e2⟩ := e
        exact ⟨fun z => absurd rfl z, fun _ => f_readPlain hd c1 hj e1 t1 e2 (fun r' N' hp => go 0 r' N' c1 c2 (fun z => absurd z (by omega)) hp)⟩
      · obtain ⟨rfl, e1⟩ := e
        exact ⟨fun _ => ⟨fun z => absurd rfl z, fun _ => f_readPart hd c1 hj e1 t1 (fun r' N' hp => go 0 r' N' c1 c2 (fun z => absurd z (by omega)) hp)⟩, fun z => absurd z (by decide)⟩
      · obtain ⟨rfl, e1, e2⟩ := e
        exact ⟨fun _ => ⟨fun _ => ⟨fun _ => f_behindTest hd c1 hj e1 t1 e2 (fun r' N' hp => go 0 r' N' c1 c2 (fun z => absurd z (by omega)) hp), fun z => absurd z (by decide)⟩, fun z => absurd z (by decide)⟩, fun z => absurd z (by decide)⟩
      · obtain ⟨rfl, e1⟩ := e
        exact ⟨fun _ => ⟨fun _ => ⟨fun z => absurd rfl z, fun _ => f_behindSum hd c1 hj e1 t1 (fun r' N' hp => go 1 r' N' c1 c2 (fun _ => rfl) hp)⟩, fun z => absurd z (by decide)⟩, fun z => absurd z (by decide)⟩
      · exact absurd e.1 c2
    · have st : sg (mI (mI M 29 0) 30 0) c c 0 l 0 := sg_start
      rcases hr0 with e | e
      · exact Or.inl ⟨e, st, by show (-1 : Int) ≠ 32; decide⟩
      · exact Or.inr (Or.inl ⟨e, st⟩)
  unfold w_X12_readExpression
  simp (disch := decide) only [oi_gI, oi_gJ, oi_gP, oi_pI, oi_pZ, oi_pJ, oi_oK, oi_aI hd, oi_aZ hd, oi_aJ hd, oi_sI hd, oi_sZ hd, oi_sJ hd, mI_1, mI_2, mJ_1, mJ_2, mJ_3, mA_1, mA_2, mA_3, mA_4, mL_1, mL_2, mL_3, mL_4, mK, Nat.reduceEqDiff, if_true, if_false, ite_true, ite_false, true_and, Nat.reduceLT, reduceIte, reduceCtorEq, cl_0, cl_1, cl_2, cl_3, cl_4, cl_5, cl_6, cl_7, cl_8, cl_9, cl_10, cl_11, cl_12, cl_13, cl_14, cl_15, vl_0_5585, vl_1_5585, vl_2_5585, vl_3_5585, vl_4_5585, vl_5_5585, vl_6_5585, vl_0_7, vl_1_7, vl_2_7, vl_3_7, vl_4_7, vl_5_7, vl_6_7]
  exact ⟨fun _ => main 1 (Or.inr rfl), fun _ => main 0 (Or.inl rfl)⟩
end REF26
