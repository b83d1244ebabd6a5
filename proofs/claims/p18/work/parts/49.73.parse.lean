/-! LAYER 2, the reference: parts, brackets, leaves -/
def mP (N : mS) (p : Nat) (x y : Int32) : mS := mI (mA (mA N 27 (upd (N.2.2.1 27) p x)) 28 (upd (N.2.2.1 28) p y)) 29 (nI (p + 1))
def mE (N : mS) (c : Nat) (x y : Int32) : mS := mI (mA (mA N 24 (upd (N.2.2.1 24) c x)) 25 (upd (N.2.2.1 25) c y)) 23 (nI (c + 1))
/-- what reading changes -/
def PF (M N : mS) : Prop := Fx [14, 15, 16, 18, 19, 23, 26, 29, 30] [17] [24, 25, 27, 28] [] M N
def pj (M : mS) (T lo f t c p l : Nat) : Prop := tk M T f t ∧ wk M lo c p ∧ M.1 26 = nI l ∧ l ≤ 50 ∧ c + pE (M.2.2.1 27) p ≤ f ∧ p ≤ f
/-- what is due next -/
def tok (r : Int32) (N : mS) (lo c p l : Nat) : Prop := bs (N.2.2.1 27) p ∧ ((r = 0 ∧ sg N lo c p l 0 ∧ pB (N.2.2.1 27) p ≠ 32) ∨ (r = 1 ∧ sg N lo c p l 0) ∨ (r = 2 ∧ sg N lo c p l 1 ∧ pB (N.2.2.1 27) p ≠ 32) ∨ (r = 3 ∧ sg N lo c p l 1) ∨ (r = 4 ∧ sg N lo c p l 1 ∧ pB (N.2.2.1 27) p = -1))
def pc (M N : mS) (T lo f st : Nat) (r : Int32) : Prop := PF M N ∧ lowEq lo M N ∧ ∃ f' t' c' p' l', pj N T lo f' t' c' p' l' ∧ f ≤ f' ∧ (N.1 19 = 0 → tok r N lo c' p' l' ∧ (f + 1 ≤ f' ∨ r = 4 ∨ (st = 1 ∧ r = 2)))
section REF23
variable {S : hS} {o : Nat} {ad : Nat → Nat} {M : mS}
theorem mP_fx {N : mS} {p : Nat} {x y : Int32} : Fx [29] [] [27, 28] [] N (mP N p x y) := (((Fx.a 27 _).tr (Fx.a 28 _)).tr (Fx.i 29 _)).le (by simp) (by simp) (by simp) (by simp)
theorem mE_fx {N : mS} {c : Nat} {x y : Int32} : Fx [23] [] [24, 25] [] N (mE N c x y) := (((Fx.a 24 _).tr (Fx.a 25 _)).tr (Fx.i 23 _)).le (by simp) (by simp) (by simp) (by simp)
theorem mP_29 {N : mS} {p : Nat} {x y : Int32} : (mP N p x y).1 29 = nI (p + 1) := by simp [mP, mI_1]
theorem mP_27 {N : mS} {p : Nat} {x y : Int32} : (mP N p x y).2.2.1 27 = upd (N.2.2.1 27) p x := by simp [mP, mI_2, mA_3]
theorem mP_28 {N : mS} {p : Nat} {x y : Int32} : (mP N p x y).2.2.1 28 = upd (N.2.2.1 28) p y := by simp [mP, mI_2, mA_3]
theorem mE_23 {N : mS} {c : Nat} {x y : Int32} : (mE N c x y).1 23 = nI (c + 1) := by simp [mE, mI_1]
theorem mE_24 {N : mS} {c : Nat} {x y : Int32} : (mE N c x y).2.2.1 24 = upd (N.2.2.1 24) c x := by simp [mE, mI_2, mA_3]
theorem mE_25 {N : mS} {c : Nat} {x y : Int32} : (mE N c x y).2.2.1 25 = upd (N.2.2.1 25) c y := by simp [mE, mI_2, mA_3]
theorem f_push (hd : mD o ad) {q : hS → Prop} {p : Nat} {x y : Int32} (e29 : M.1 29 = nI p) (hp : p < 400) (h : q (ov S o ad (mP M p x y))) : w_X12_push q (ov S o ad M) o x y := s_push hd e29 hp h
theorem f_emit (hd : mD o ad) {q : hS → Prop} {c : Nat} {x y : Int32} (e23 : M.1 23 = nI c) (hc : c < 400) (h : q (ov S o ad (mE M c x y))) : w_X12_emit q (ov S o ad M) o x y := s_emit hd e23 hc h
theorem tk_fx {a b c d : List Nat} {N : mS} {T f t : Nat} (h : Fx a b c d M N) (ht : tk M T f t) (ha : 13 ∉ a ∧ 14 ∉ a ∧ 15 ∉ a ∧ 16 ∉ a) : tk N T f t := by
  unfold tk at *
  rw [h.1 13 ha.1, h.1 14 ha.2.1, h.1 15 ha.2.2.1, h.1 16 ha.2.2.2]
  exact ht
theorem tk_400 {T f t : Nat} (h : tk M T f t) : f ≤ T ∧ T ≤ 400 ∧ (¬ M.1 16 = 0 → f < T) := by
  obtain ⟨-, -, -, h1, h2, h3, h4⟩ := h
  refine ⟨by omega, h1, fun z => ?_⟩
  rcases h4 with e | e
  · exact absurd e z
  · omega
theorem wk_mP {lo c p : Nat} {x y : Int32} (h : wk M lo c p) (hx : rg x 20 32) (ha : ao x → ∃ k, y = nI k ∧ lo ≤ k ∧ k < c) : wk (mP M p x y) lo c (p + 1) := by
  obtain ⟨h1, h2, h3, h4, h5⟩ := h
  refine ⟨(mP_fx.1 23 (by simp)).trans h1, mP_29, h3, fun i hi => ?_, ?_⟩
  · rw [mP_27]
    by_cases e : i = p
    · subst e; rw [upd_self]; exact hx
    · rw [upd_ne _ _ e]; exact h4 i (by omega)
  · rw [mP_27, mP_28]; exact pk_push h5 ha
theorem wk_mE {lo c p : Nat} {x y : Int32} (h : wk M lo c p) : wk (mE M c x y) lo (c + 1) p := by
  obtain ⟨h1, h2, h3, h4, h5⟩ := h
  refine ⟨mE_23, (mE_fx.1 29 (by simp)).trans h2, by omega, ?_, ?_⟩
  · rw [mE_fx.2.2.1 27 (by simp)]; exact h4
  · rw [mE_fx.2.2.1 27 (by simp), mE_fx.2.2.1 28 (by simp)]; exact pk_mono h5 (by omega) (Nat.le_refl _)
theorem sg_mP {lo c p l e e' : Nat} {x y : Int32} (h : sg M lo c p l e) (hx : ¬ ao x) (he : e = e' + if 20 ≤ x.toInt ∧ x.toInt ≤ 27 then 1 else 0) : sg (mP M p x y) lo c (p + 1) l e' := by
  unfold sg at *
  rw [mP_27, mP_28, mP_fx.2.2.1 24 (by simp), mP_fx.2.2.1 25 (by simp)]
  exact sg_push h hx he
theorem lowEq_mE {lo c : Nat} {x y : Int32} (h : lo ≤ c) : lowEq lo M (mE M c x y) := fun k hk => by
  rw [mE_24, mE_25, upd_ne _ _ (by omega), upd_ne _ _ (by omega)]
  exact ⟨rfl, rfl⟩
theorem pc_bad {N : mS} {T lo f t c p l st : Nat} {r : Int32} (hF : Fx [18, 19] [] [] [] M N) (hn : ¬ N.1 19 = 0) (hj : pj M T lo f t c p l) : pc M N T lo f st r := by
  obtain ⟨h1, h2, h3, h4, h5, h6⟩ := hj
  refine ⟨hF.le (by simp) (by simp) (by simp) (by simp), lowEq.fx hF (by simp) (by simp), f, t, c, p, l, ⟨tk_fx hF h1 (by simp), wk_fx hF h2 (by simp) (by simp), (hF.1 26 (by simp)).trans h3, h4, ?_, h6⟩, Nat.le_refl _, fun z => absurd z hn⟩
  rw [hF.2.2.1 27 (by simp)]; exact h5
theorem f_openBracket (hd : mD o ad) {q : hS → Prop} {T lo f t c p l : Nat} {x r : Int32} (hb : M.1 19 = 0) (hj : pj M T lo f t c p l) (hs : sg M lo c p l 0) (hbs : bs (M.2.2.1 27) p) (h16 : ¬ M.1 16 = 0) (hx : (x = 32 ∧ r = 1) ∨ (x = 31 ∧ r = 0 ∧ pB (M.2.2.1 27) p ≠ 32)) (h : ∀ N, pc M N T lo f 0 r → q (ov S o ad N)) : w_X12_openBracket q (ov S o ad M) o x := by
  have hj' := hj
  obtain ⟨h1, h2, h3, h4, h5, h6⟩ := hj'
  have xr : 31 ≤ x.toInt ∧ x.toInt ≤ 32 := by
    rcases hx with z | z
    · rw [z.1]; decide
    · rw [z.1]; decide
  have hna : ¬ ao x := fun z => by have := ao_i z; omega
  have k15 : ∀ v : Int32, w_X12_openBracket_b15 q (ov S o ad M) o x v o := by
    intro v
    refine ⟨ov_oK, f_must hd hb h1 (fun _ => h16) (fun N hF hn => ?_) (fun _ N f' t' hF ht hl => ?_)⟩
    · simp (disch := decide) only [oi_gI, oi_gJ, oi_gP, oi_pI, oi_pZ, oi_pJ, oi_oK, oi_aI hd, oi_aZ hd, oi_aJ hd, oi_sI hd, oi_sZ hd, oi_sJ hd, mI_1, mI_2, mJ_1, mJ_2, mJ_3, mA_1, mA_2, mA_3, mA_4, mL_1, mL_2, mL_3, mL_4, mK, Nat.reduceEqDiff, if_true, if_false, ite_true, ite_false, true_and, Nat.reduceLT, reduceIte, reduceCtorEq, cl_0, cl_1, cl_2, cl_3, cl_4, cl_5, cl_6, cl_7, cl_8, cl_9, cl_10, cl_11, cl_12, cl_13, cl_14, cl_15, vl_0_5585, vl_1_5585, vl_2_5585, vl_3_5585, vl_4_5585, vl_5_5585, vl_6_5585, vl_0_7, vl_1_7, vl_2_7, vl_3_7, vl_4_7, vl_5_7, vl_6_7]
      exact ⟨fun _ => h N (pc_bad hF hn hj), fun z => absurd z hn⟩
    · have b := tk_400 ht
      have n19 : N.1 19 = 0 := (hF.1 19 (by simp)).trans hb
      simp (disch := decide) only [oi_gI, oi_gJ, oi_gP, oi_pI, oi_pZ, oi_pJ, oi_oK, oi_aI hd, oi_aZ hd, oi_aJ hd, oi_sI hd, oi_sZ hd, oi_sJ hd, mI_1, mI_2, mJ_1, mJ_2, mJ_3, mA_1, mA_2, mA_3, mA_4, mL_1, mL_2, mL_3, mL_4, mK, Nat.reduceEqDiff, if_true, if_false, ite_true, ite_false, true_and, Nat.reduceLT, reduceIte, reduceCtorEq, cl_0, cl_1, cl_2, cl_3, cl_4, cl_5, cl_6, cl_7, cl_8, cl_9, cl_10, cl_11, cl_12, cl_13, cl_14, cl_15, vl_0_5585, vl_1_5585, vl_2_5585, vl_3_5585, vl_4_5585, vl_5_5585, vl_6_5585, vl_0_7, vl_1_7, vl_2_7, vl_3_7, vl_4_7, vl_5_7, vl_6_7]
      rw [n19]
      refine ⟨fun z => absurd rfl z, fun _ => f_push hd (p := p) (M := mI N 30 _) ?_ (by omega) (h _ ?_)⟩
      · rw [mI_1, if_neg (by decide), hF.1 29 (by simp)]; exact h2.2.1
      have hF2 := hF.tr (Fx.i 30 (N.1 30 + 1))
      have hF3 := hF2.tr (mP_fx (p := p) (x := x) (y := 0))
      have n27 := hF2.2.2.1 27 (by simp)
      have w' := wk_fx hF2 h2 (by simp) (by simp)
      refine ⟨hF3.le (by simp) (by simp) (by simp) (by simp), lowEq.fx hF3 (by simp) (by simp), f', t', c, p + 1, l, ⟨tk_fx ((Fx.i 30 _).tr mP_fx) ht (by simp), wk_mP w' ⟨by omega, by omega⟩ (fun z => absurd z hna), (hF3.1 26 (by simp)).trans h3, h4, ?_, by omega⟩, by omega, fun _ => ⟨⟨?_, ?_⟩, Or.inl hl⟩⟩
      · rw [mP_27, pE_push, if_neg (by omega), n27]; omega
      · rw [mP_27, n27]
        refine bs_push hbs (fun z => ?_)
        rcases hx with e | e
        · exfalso; rw [e.1] at z; exact absurd z (by decide)
        · exact e.2.2
      · have sg' : sg (mP (mI N 30 (N.1 30 + 1)) p x 0) lo c (p + 1) l 0 := sg_mP (e := 0) (sg_fx hF2 hs (by simp)) hna (by rw [if_neg (by omega)])
        rcases hx with e | e
        · exact Or.inr (Or.inl ⟨e.2, sg'⟩)
        · refine Or.inl ⟨e.2.1, sg', ?_⟩
          rw [mP_27, pB_push, if_pos xr.1, e.1]
          decide
  unfold w_X12_openBracket
  simp (disch := decide) only [oi_gI, oi_gJ, oi_gP, oi_pI, oi_pZ, oi_pJ, oi_oK, oi_aI hd, oi_aZ hd, oi_aJ hd, oi_sI hd, oi_sZ hd, oi_sJ hd, mI_1, mI_2, mJ_1, mJ_2, mJ_3, mA_1, mA_2, mA_3, mA_4, mL_1, mL_2, mL_3, mL_4, mK, Nat.reduceEqDiff, if_true, if_false, ite_true, ite_false, true_and, Nat.reduceLT, reduceIte, reduceCtorEq, cl_0, cl_1, cl_2, cl_3, cl_4, cl_5, cl_6, cl_7, cl_8, cl_9, cl_10, cl_11, cl_12, cl_13, cl_14, cl_15, vl_0_5585, vl_1_5585, vl_2_5585, vl_3_5585, vl_4_5585, vl_5_5585, vl_6_5585, vl_0_7, vl_1_7, vl_2_7, vl_3_7, vl_4_7, vl_5_7, vl_6_7]
  exact ⟨fun _ => k15 _, fun _ => k15 _⟩
theorem f_leaf (hd : mD o ad) {q : hS → Prop} {T lo f t c p l : Nat} {v x y : Int32} (hb : M.1 19 = 0) (hj : pj M T lo f t c p l) (hs : sg M lo c p l 0) (hv : ¬ v = 0 → ¬ M.1 16 = 0 ∧ rg x 0 9) (k0 : ∀ N, Fx [18, 19] [] [] [] M N → ¬ N.1 19 = 0 → q (ov S o ad N)) (k1 : ∀ N f' t', Fx [14, 15, 16, 23, 26] [17] [24, 25] [] M N → lowEq lo M N → pj N T lo f' t' (c + 1) p (l + 1) → f + 1 ≤ f' → sg N lo (c + 1) p (l + 1) 1 → rg (N.2.2.1 24 c) 0 9 → q (ov S o ad N)) : w_X12_leaf q (ov S o ad M) o v x y := by
  have hj' := hj
  obtain ⟨h1, h2, h3, h4, h5, h6⟩ := hj'
  have k18 : w_X12_leaf_b19 q (ov S o ad M) o x y 0 o := by
    refine ⟨ov_oK, f_must hd hb h1 (fun z => absurd rfl z) (fun N hF hn => ?_) (fun z => absurd rfl z)⟩
    simp (disch := decide) only [oi_gI, oi_gJ, oi_gP, oi_pI, oi_pZ, oi_pJ, oi_oK, oi_aI hd, oi_aZ hd, oi_aJ hd, oi_sI hd, oi_sZ hd, oi_sJ hd, mI_1, mI_2, mJ_1, mJ_2, mJ_3, mA_1, mA_2, mA_3, mA_4, mL_1, mL_2, mL_3, mL_4, mK, Nat.reduceEqDiff, if_true, if_false, ite_true, ite_false, true_and, Nat.reduceLT, reduceIte, reduceCtorEq, cl_0, cl_1, cl_2, cl_3, cl_4, cl_5, cl_6, cl_7, cl_8, cl_9, cl_10, cl_11, cl_12, cl_13, cl_14, cl_15, vl_0_5585, vl_1_5585, vl_2_5585, vl_3_5585, vl_4_5585, vl_5_5585, vl_6_5585, vl_0_7, vl_1_7, vl_2_7, vl_3_7, vl_4_7, vl_5_7, vl_6_7]
    exact ⟨fun _ => k0 N hF hn, fun z => absurd z hn⟩
  unfold w_X12_leaf w_X12_leaf_b18
  simp (disch := decide) only [oi_gI, oi_gJ, oi_gP, oi_pI, oi_pZ, oi_pJ, oi_oK, oi_aI hd, oi_aZ hd, oi_aJ hd, oi_sI hd, oi_sZ hd, oi_sJ hd, mI_1, mI_2, mJ_1, mJ_2, mJ_3, mA_1, mA_2, mA_3, mA_4, mL_1, mL_2, mL_3, mL_4, mK, Nat.reduceEqDiff, if_true, if_false, ite_true, ite_false, true_and, Nat.reduceLT, reduceIte, reduceCtorEq, cl_0, cl_1, cl_2, cl_3, cl_4, cl_5, cl_6, cl_7, cl_8, cl_9, cl_10, cl_11, cl_12, cl_13, cl_14, cl_15, vl_0_5585, vl_1_5585, vl_2_5585, vl_3_5585, vl_4_5585, vl_5_5585, vl_6_5585, vl_0_7, vl_1_7, vl_2_7, vl_3_7, vl_4_7, vl_5_7, vl_6_7]
  rw [h3, lit_nI 50, nI_leI (by omega) (by omega)]
  refine ⟨fun _ => k18, fun c1 => ⟨fun _ => k18, fun c2 => ⟨ov_oK, f_must hd hb h1 (fun _ => (hv c1).1) (fun N hF hn => ?_) (fun _ N f' t' hF ht hl => ?_)⟩⟩⟩
  · simp (disch := decide) only [oi_gI, oi_gJ, oi_gP, oi_pI, oi_pZ, oi_pJ, oi_oK, oi_aI hd, oi_aZ hd, oi_aJ hd, oi_sI hd, oi_sZ hd, oi_sJ hd, mI_1, mI_2, mJ_1, mJ_2, mJ_3, mA_1, mA_2, mA_3, mA_4, mL_1, mL_2, mL_3, mL_4, mK, Nat.reduceEqDiff, if_true, if_false, ite_true, ite_false, true_and, Nat.reduceLT, reduceIte, reduceCtorEq, cl_0, cl_1, cl_2, cl_3, cl_4, cl_5, cl_6, cl_7, cl_8, cl_9, cl_10, cl_11, cl_12, cl_13, cl_14, cl_15, vl_0_5585, vl_1_5585, vl_2_5585, vl_3_5585, vl_4_5585, vl_5_5585, vl_6_5585, vl_0_7, vl_1_7, vl_2_7, vl_3_7, vl_4_7, vl_5_7, vl_6_7]
    exact ⟨fun _ => k0 N hF hn, fun z => absurd z hn⟩
  · have b := tk_400 ht
    have n19 : N.1 19 = 0 := (hF.1 19 (by simp)).trans hb
    have w' := wk_fx hF h2 (by simp) (by simp)
    simp (disch := decide) only [oi_gI, oi_gJ, oi_gP, oi_pI, oi_pZ, oi_pJ, oi_oK, oi_aI hd, oi_aZ hd, oi_aJ hd, oi_sI hd, oi_sZ hd, oi_sJ hd, mI_1, mI_2, mJ_1, mJ_2, mJ_3, mA_1, mA_2, mA_3, mA_4, mL_1, mL_2, mL_3, mL_4, mK, Nat.reduceEqDiff, if_true, if_false, ite_true, ite_false, true_and, Nat.reduceLT, reduceIte, reduceCtorEq, cl_0, cl_1, cl_2, cl_3, cl_4, cl_5, cl_6, cl_7, cl_8, cl_9, cl_10, cl_11, cl_12, cl_13, cl_14, cl_15, vl_0_5585, vl_1_5585, vl_2_5585, vl_3_5585, vl_4_5585, vl_5_5585, vl_6_5585, vl_0_7, vl_1_7, vl_2_7, vl_3_7, vl_4_7, vl_5_7, vl_6_7]
    rw [n19]
    refine ⟨fun z => absurd rfl z, fun _ => f_emit hd w'.1 (by omega) ?_⟩
    simp (disch := decide) only [oi_gI, oi_gJ, oi_gP, oi_pI, oi_pZ, oi_pJ, oi_oK, oi_aI hd, oi_aZ hd, oi_aJ hd, oi_sI hd, oi_sZ hd, oi_sJ hd, mI_1, mI_2, mJ_1, mJ_2, mJ_3, mA_1, mA_2, mA_3, mA_4, mL_1, mL_2, mL_3, mL_4, mK, Nat.reduceEqDiff, if_true, if_false, ite_true, ite_false, true_and, Nat.reduceLT, reduceIte, reduceCtorEq, cl_0, cl_1, cl_2, cl_3, cl_4, cl_5, cl_6, cl_7, cl_8, cl_9, cl_10, cl_11, cl_12, cl_13, cl_14, cl_15, vl_0_5585, vl_1_5585, vl_2_5585, vl_3_5585, vl_4_5585, vl_5_5585, vl_6_5585, vl_0_7, vl_1_7, vl_2_7, vl_3_7, vl_4_7, vl_5_7, vl_6_7]
    rw [mE_fx.1 26 (by simp), hF.1 26 (by simp), h3, nI_1]
    have hF3 := (hF.tr (mE_fx (c := c) (x := x) (y := y))).tr (Fx.i 26 (nI (l + 1)))
    have hF2 := (mE_fx (N := N) (c := c) (x := x) (y := y)).tr (Fx.i 26 (nI (l + 1)))
    have e24 : (mI (mE N c x y) 26 (nI (l + 1))).2.2.1 24 = upd (N.2.2.1 24) c x := mE_24
    have e25 : (mI (mE N c x y) 26 (nI (l + 1))).2.2.1 25 = upd (N.2.2.1 25) c y := mE_25
    have e27 : (mI (mE N c x y) 26 (nI (l + 1))).2.2.1 27 = N.2.2.1 27 := hF2.2.2.1 27 (by simp)
    have e28 : (mI (mE N c x y) 26 (nI (l + 1))).2.2.1 28 = N.2.2.1 28 := hF2.2.2.1 28 (by simp)
    refine k1 _ f' t' (hF3.le (by simp) (by simp) (by simp) (by simp)) (fun k hk => ?_) ⟨tk_fx hF2 ht (by simp), wk_fx (Fx.i 26 _) (wk_mE w') (by simp) (by simp), by simp [mI_1], by omega, ?_, by omega⟩ hl ?_ ?_
    · rw [e24, e25, upd_ne _ _ (by have := h2.2.2.1; omega), upd_ne _ _ (by have := h2.2.2.1; omega), hF.2.2.1 24 (by simp), hF.2.2.1 25 (by simp)]
      exact ⟨rfl, rfl⟩
    · rw [e27, hF.2.2.1 27 (by simp)]; omega
    · have hs' := sg_fx hF hs (by simp)
      have hb' : pH (N.2.2.1 27) p ≤ l := by
        obtain ⟨d, -, d2, d3, -⟩ := hs'
        have := d2 c
        omega
      unfold sg at *
      rw [e24, e25, e27, e28]
      exact sg_emit hs' w'.2.2.2.2 w'.2.2.1 (by omega) (Nat.le_refl _) (fun i i1 i2 => by omega) (by omega) (D := pH (N.2.2.1 27) p + 1) (by omega) rfl (fun d e1 e2 => Or.inl ⟨(hv c1).2, by omega⟩)
    · rw [e24, upd_self]; exact (hv c1).2
end REF23
