/-! LAYER 2, the reference: the clauses of orders -/
def odS (s : Nat) : Prop := s = 1 ∨ s = 3 ∨ s = 5 ∨ s = 7
def odP (M : mS) (n c : Nat) : Prop := ∀ j, j < n → (∀ s, odS s → sgt (M.2.2.1 24) (M.2.2.1 25) (M.2.2.1 52 (10 * j + s)) (M.2.2.1 52 (10 * j + s + 1)) c) ∧ rg (M.2.2.1 52 (10 * j + 9)) 0 20
theorem odP_to {M N : mS} {n c c' j0 s0 : Nat} (h : odP M n c) (hs : odS s0) (h52 : ∀ i, i ≠ 10 * j0 + s0 → i ≠ 10 * j0 + s0 + 1 → N.2.2.1 52 i = M.2.2.1 52 i) (hlow : lowEq c M N) (hc : c ≤ c') (hn : sgt (N.2.2.1 24) (N.2.2.1 25) (N.2.2.1 52 (10 * j0 + s0)) (N.2.2.1 52 (10 * j0 + s0 + 1)) c') : odP N n c' := fun j hj => by
  refine ⟨fun s hs' => ?_, ?_⟩
  · by_cases e : 10 * j + s = 10 * j0 + s0
    · rw [e]; exact hn
    · have : 10 * j + s ≠ 10 * j0 + s0 + 1 ∧ 10 * j + s + 1 ≠ 10 * j0 + s0 ∧ 10 * j + s + 1 ≠ 10 * j0 + s0 + 1 := by
        unfold odS at hs hs'
        omega
      rw [h52 _ e this.1, h52 _ this.2.1 this.2.2]
      exact sgt_mono ((h j hj).1 s hs') hlow hc
  · have : 10 * j + 9 ≠ 10 * j0 + s0 ∧ 10 * j + 9 ≠ 10 * j0 + s0 + 1 := by
      unfold odS at hs
      omega
    rw [h52 _ this.1 this.2]
    exact (h j hj).2
theorem odP_low {M N : mS} {n c c' : Nat} (h : odP M n c) (h52 : N.2.2.1 52 = M.2.2.1 52) (hlow : lowEq c M N) (hc : c ≤ c') : odP N n c' := fun j hj => by
  rw [h52]
  exact ⟨fun s hs => sgt_mono ((h j hj).1 s hs) hlow hc, (h j hj).2⟩
def orS (M : mS) (T f t c l n : Nat) : Prop := rdS M T f t c l ∧ M.1 21 = nI n ∧ n ≤ 12 ∧ (M.1 19 = 0 → odP M n c)
def OF (M N : mS) : Prop := Fx [14, 15, 16, 18, 19, 21, 23, 26, 29, 30] [17] [24, 25, 27, 28, 52] [] M N
theorem OF.tr {M N P : mS} (h1 : OF M N) (h2 : OF N P) : OF M P := (Fx.tr h1 h2).le (by simp) (by simp) (by simp) (by simp)
theorem OF.rf {M : mS} : OF M M := Fx.rf'
theorem PF.o {M N : mS} (h : PF M N) : OF M N := Fx.le h (by simp) (by simp) (by simp) (by simp)
section REF30
variable {S : hS} {o : Nat} {ad : Nat → Nat} {M : mS}
theorem orS_fx {a b c d : List Nat} {N : mS} {T f t x l n : Nat} (h : Fx a b c d M N) (hs : orS M T f t x l n) (h19 : N.1 19 = 0 → M.1 19 = 0) (ha : 13 ∉ a ∧ 14 ∉ a ∧ 15 ∉ a ∧ 16 ∉ a ∧ 23 ∉ a ∧ 26 ∉ a) (h21 : 21 ∉ a) (hc : 24 ∉ c ∧ 25 ∉ c ∧ 52 ∉ c) : orS N T f t x l n :=
  ⟨rdS_fx h hs.1 ha, (h.1 21 h21).trans hs.2.1, hs.2.2.1, fun z => odP_low (hs.2.2.2 (h19 z)) (h.2.2.1 52 hc.2.2) (lowEq.fx h hc.1 hc.2.1) (Nat.le_refl _)⟩
theorem f_readSum (hd : mD o ad) {q : hS → Prop} {T f t c l n j s : Nat} (hs : orS M T f t c l n) (hj : j < n) (ho : odS s) (h : ∀ N f' t' c' l', OF M N → orS N T f' t' c' l' n → f ≤ f' → q (ov S o ad N)) : w_X12_readSum q (ov S o ad M) o (nI (10 * j + s)) := by
  obtain ⟨hr, h21, hn, hp⟩ := hs
  have hs7 : s ≤ 7 := by unfold odS at ho; omega
  unfold w_X12_readSum
  simp (disch := decide) only [oi_gI, oi_gJ, oi_gP, oi_pI, oi_pZ, oi_pJ, oi_oK, oi_aI hd, oi_aZ hd, oi_aJ hd, oi_sI hd, oi_sZ hd, oi_sJ hd, mI_1, mI_2, mJ_1, mJ_2, mJ_3, mA_1, mA_2, mA_3, mA_4, mL_1, mL_2, mL_3, mL_4, mK, Nat.reduceEqDiff, if_true, if_false, ite_true, ite_false, true_and, Nat.reduceLT, reduceIte, reduceCtorEq, cl_0, cl_1, cl_2, cl_3, cl_4, cl_5, cl_6, cl_7, cl_8, cl_9, cl_10, cl_11, cl_12, cl_13, cl_14, cl_15, vl_0_5585, vl_1_5585, vl_2_5585, vl_3_5585, vl_4_5585, vl_5_5585, vl_6_5585, vl_0_7, vl_1_7, vl_2_7, vl_3_7, vl_4_7, vl_5_7, vl_6_7]
  rw [hr.2.1, nI_clamp (by omega)]
  refine ⟨vp_in_nI (by omega) (by omega), ?_⟩
  have hF0 : Fx [] [] [52] [] M (mA M 52 (upd (M.2.2.1 52) (10 * j + s) (nI c))) := Fx.a 52 _
  have e52 : ∀ i, (mA M 52 (upd (M.2.2.1 52) (10 * j + s) (nI c))).2.2.1 52 i = upd (M.2.2.1 52) (10 * j + s) (nI c) i := fun i => by simp [mA_3]
  generalize mA M 52 (upd (M.2.2.1 52) (10 * j + s) (nI c)) = N0 at hF0 e52 ⊢
  have n19 : N0.1 19 = M.1 19 := hF0.1 19 (by simp)
  have hr0 := rdS_fx hF0 hr (by simp)
  have k22 : ∀ N f' t' c' l', PF N0 N → rdS N T f' t' c' l' → lowEq c N0 N → c ≤ c' → f ≤ f' → (N.1 19 = 0 → M.1 19 = 0 ∧ codeOk (N.2.2.1 24) (N.2.2.1 25) c c') → w_X12_readSum_b22 q (ov S o ad N) o (nI (10 * j + s)) := by
    intro N f' t' c' l' hF hrN hlow hc hf hcode
    have n52 : N.2.2.1 52 = N0.2.2.1 52 := hF.2.2.1 52 (by simp)
    unfold w_X12_readSum_b22
    simp (disch := decide) only [oi_gI, oi_gJ, oi_gP, oi_pI, oi_pZ, oi_pJ, oi_oK, oi_aI hd, oi_aZ hd, oi_aJ hd, oi_sI hd, oi_sZ hd, oi_sJ hd, mI_1, mI_2, mJ_1, mJ_2, mJ_3, mA_1, mA_2, mA_3, mA_4, mL_1, mL_2, mL_3, mL_4, mK, Nat.reduceEqDiff, if_true, if_false, ite_true, ite_false, true_and, Nat.reduceLT, reduceIte, reduceCtorEq, cl_0, cl_1, cl_2, cl_3, cl_4, cl_5, cl_6, cl_7, cl_8, cl_9, cl_10, cl_11, cl_12, cl_13, cl_14, cl_15, vl_0_5585, vl_1_5585, vl_2_5585, vl_3_5585, vl_4_5585, vl_5_5585, vl_6_5585, vl_0_7, vl_1_7, vl_2_7, vl_3_7, vl_4_7, vl_5_7, vl_6_7]
    rw [hrN.2.1, nI_1, nI_clamp (by omega)]
    have hF2 : Fx [] [] [52] [] N (mA N 52 (upd (N.2.2.1 52) (10 * j + s + 1) (nI c'))) := Fx.a 52 _
    have f52 : ∀ i, (mA N 52 (upd (N.2.2.1 52) (10 * j + s + 1) (nI c'))).2.2.1 52 i = upd (N.2.2.1 52) (10 * j + s + 1) (nI c') i := fun i => by simp [mA_3]
    refine ⟨vp_in_nI (by omega) (by omega), ?_⟩
    generalize mA N 52 (upd (N.2.2.1 52) (10 * j + s + 1) (nI c')) = P at hF2 f52 ⊢
    refine h P f' t' c' l' (OF.tr (OF.tr (hF0.le (by simp) (by simp) (by simp) (by simp)) (PF.o hF)) (hF2.le (by simp) (by simp) (by simp) (by simp))) ⟨rdS_fx hF2 hrN (by simp), ((hF2.1 21 (by simp)).trans (hF.1 21 (by simp))).trans ((hF0.1 21 (by simp)).trans h21), hn, fun z => ?_⟩ hf
    have zN : N.1 19 = 0 := by rw [← hF2.1 19 (by simp)]; exact z
    obtain ⟨z0, hcd⟩ := hcode zN
    refine odP_to (hp z0) ho (j0 := j) (fun i i1 i2 => ?_) (((lowEq.fx hF0 (by simp) (by simp)).tr hlow).tr (lowEq.fx hF2 (by simp) (by simp))) hc ?_
    · rw [f52, upd_ne _ _ i2, n52, e52, upd_ne _ _ i1]
    · rw [f52, f52, upd_self, upd_ne _ _ (by omega), n52, e52, upd_self, hF2.2.2.1 24 (by simp), hF2.2.2.1 25 (by simp)]
      exact sgt_new hc hcd
  refine ⟨fun z => k22 N0 f t c l Fx.rf' hr0 lowEq.rf (Nat.le_refl _) (Nat.le_refl _) (fun z1 => absurd (n19.symm.trans z1) z), fun z => r_readExpression hd (n19.trans z) hr0 (fun N f' t' c' l' hF hlow hrN hc hf hcode => k22 N f' t' c' l' hF hrN hlow hc hf (fun z1 => ⟨z, hcode z1⟩))⟩
theorem f_behind (hd : mD o ad) {q : hS → Prop} {T f t c l n j s : Nat} {w : Int64} (hs : orS M T f t c l n) (hj : j < n) (ho : odS s) (h : ∀ N f' t' c' l', OF M N → orS N T f' t' c' l' n → f ≤ f' → q (ov S o ad N)) : w_X12_behind q (ov S o ad M) o w (nI (10 * j + s)) := by
  have km : ∀ g : Int32, M.1 19 = 0 → (¬ g = 0 → ¬ M.1 16 = 0) → oK (ov S o ad M) o 12 ∧ w_X12_must (fun S => w_X12_behind_b16 q S o (nI (10 * j + s))) (ov S o ad M) o g := fun g hb hg =>
    ⟨ov_oK, f_must hd hb hs.1.1 hg (fun N hF hz => ⟨ov_oK, f_readSum hd (orS_fx hF hs (fun z => absurd z hz) (by simp) (by simp) (by simp)) hj ho (fun P f' t' c' l' hP hsP hf => h P f' t' c' l' (OF.tr (hF.le (by simp) (by simp) (by simp) (by simp)) hP) hsP hf)⟩) (fun _ N f1 t1 hF ht1 hl1 => ⟨ov_oK, f_readSum hd (T := T) (f := f1) (t := t1) (c := c) (l := l) (n := n) ⟨⟨ht1, (hF.1 23 (by simp)).trans hs.1.2.1, by have := hs.1.2.2.1; omega, (hF.1 26 (by simp)).trans hs.1.2.2.2.1, hs.1.2.2.2.2⟩, (hF.1 21 (by simp)).trans hs.2.1, hs.2.2.1, fun _ => odP_low (hs.2.2.2 hb) (hF.2.2.1 52 (by simp)) (lowEq.fx hF (by simp) (by simp)) (Nat.le_refl _)⟩ hj ho (fun P f' t' c' l' hP hsP hf => h P f' t' c' l' (OF.tr (hF.le (by simp) (by simp) (by simp) (by simp)) hP) hsP (by omega))⟩)⟩
  unfold w_X12_behind
  simp (disch := decide) only [oi_gI, oi_gJ, oi_gP, oi_pI, oi_pZ, oi_pJ, oi_oK, oi_aI hd, oi_aZ hd, oi_aJ hd, oi_sI hd, oi_sZ hd, oi_sJ hd, mI_1, mI_2, mJ_1, mJ_2, mJ_3, mA_1, mA_2, mA_3, mA_4, mL_1, mL_2, mL_3, mL_4, mK, Nat.reduceEqDiff, if_true, if_false, ite_true, ite_false, true_and, Nat.reduceLT, reduceIte, reduceCtorEq, cl_0, cl_1, cl_2, cl_3, cl_4, cl_5, cl_6, cl_7, cl_8, cl_9, cl_10, cl_11, cl_12, cl_13, cl_14, cl_15, vl_0_5585, vl_1_5585, vl_2_5585, vl_3_5585, vl_4_5585, vl_5_5585, vl_6_5585, vl_0_7, vl_1_7, vl_2_7, vl_3_7, vl_4_7, vl_5_7, vl_6_7]
  exact ⟨fun _ => ⟨ov_oK, f_readSum hd hs hj ho h⟩, fun z => s_isWord hd (fun h16 => km 1 z (fun _ => h16)) (km 0 z (fun z => absurd rfl z))⟩
theorem f_ro212 (hd : mD o ad) {q : hS → Prop} {T f t c l n j : Nat} (hs : orS M T f t c l n) (hj : j < n) (h : ∀ N f' t' c' l', OF M N → orS N T f' t' c' l' n → f ≤ f' → q (ov S o ad N)) : w_X12_readOrder_b212 q (ov S o ad M) o (nI (10 * j)) := by
  obtain ⟨hr, h21, hn, hp⟩ := hs
  have ho : odS 7 := by unfold odS; omega
  unfold w_X12_readOrder_b212
  simp (disch := decide) only [oi_gI, oi_gJ, oi_gP, oi_pI, oi_pZ, oi_pJ, oi_oK, oi_aI hd, oi_aZ hd, oi_aJ hd, oi_sI hd, oi_sZ hd, oi_sJ hd, mI_1, mI_2, mJ_1, mJ_2, mJ_3, mA_1, mA_2, mA_3, mA_4, mL_1, mL_2, mL_3, mL_4, mK, Nat.reduceEqDiff, if_true, if_false, ite_true, ite_false, true_and, Nat.reduceLT, reduceIte, reduceCtorEq, cl_0, cl_1, cl_2, cl_3, cl_4, cl_5, cl_6, cl_7, cl_8, cl_9, cl_10, cl_11, cl_12, cl_13, cl_14, cl_15, vl_0_5585, vl_1_5585, vl_2_5585, vl_3_5585, vl_4_5585, vl_5_5585, vl_6_5585, vl_0_7, vl_1_7, vl_2_7, vl_3_7, vl_4_7, vl_5_7, vl_6_7]
  rw [show nI (10 * j) + 7 = nI (10 * j + 7) from nIadd _ _, hr.2.1, nI_clamp (by omega)]
  refine ⟨vp_in_nI (by omega) (by omega), ?_⟩
  have hF0 : Fx [] [] [52] [] M (mA M 52 (upd (M.2.2.1 52) (10 * j + 7) (nI c))) := Fx.a 52 _
  have e52 : ∀ i, (mA M 52 (upd (M.2.2.1 52) (10 * j + 7) (nI c))).2.2.1 52 i = upd (M.2.2.1 52) (10 * j + 7) (nI c) i := fun i => by simp [mA_3]
  have eM19 : M.1 19 = (mA M 52 (upd (M.2.2.1 52) (10 * j + 7) (nI c))).1 19 := rfl
  rw [eM19]
  generalize mA M 52 (upd (M.2.2.1 52) (10 * j + 7) (nI c)) = N0 at hF0 e52 ⊢
  have n19 : N0.1 19 = M.1 19 := hF0.1 19 (by simp)
  have hr0 := rdS_fx hF0 hr (by simp)
  have k251 : ∀ N f' t' c' l', OF N0 N → N.2.2.1 52 = N0.2.2.1 52 → N.1 21 = N0.1 21 → rdS N T f' t' c' l' → lowEq c N0 N → c ≤ c' → f ≤ f' → (N.1 19 = 0 → M.1 19 = 0 ∧ codeOk (N.2.2.1 24) (N.2.2.1 25) c c') → w_X12_readOrder_b251 q (ov S o ad N) o (nI (10 * j)) := by
    intro N f' t' c' l' hF n52 n21 hrN hlow hc hf hcode
    unfold w_X12_readOrder_b251
    simp (disch := decide) only [oi_gI, oi_gJ, oi_gP, oi_pI, oi_pZ, oi_pJ, oi_oK, oi_aI hd, oi_aZ hd, oi_aJ hd, oi_sI hd, oi_sZ hd, oi_sJ hd, mI_1, mI_2, mJ_1, mJ_2, mJ_3, mA_1, mA_2, mA_3, mA_4, mL_1, mL_2, mL_3, mL_4, mK, Nat.reduceEqDiff, if_true, if_false, ite_true, ite_false, true_and, Nat.reduceLT, reduceIte, reduceCtorEq, cl_0, cl_1, cl_2, cl_3, cl_4, cl_5, cl_6, cl_7, cl_8, cl_9, cl_10, cl_11, cl_12, cl_13, cl_14, cl_15, vl_0_5585, vl_1_5585, vl_2_5585, vl_3_5585, vl_4_5585, vl_5_5585, vl_6_5585, vl_0_7, vl_1_7, vl_2_7, vl_3_7, vl_4_7, vl_5_7, vl_6_7]
    rw [show nI (10 * j) + 7 = nI (10 * j + 7) from nIadd _ _, hrN.2.1, nI_1, nI_clamp (by omega)]
    have hF2 : Fx [] [] [52] [] N (mA N 52 (upd (N.2.2.1 52) (10 * j + 7 + 1) (nI c'))) := Fx.a 52 _
    have f52 : ∀ i, (mA N 52 (upd (N.2.2.1 52) (10 * j + 7 + 1) (nI c'))).2.2.1 52 i = upd (N.2.2.1 52) (10 * j + 7 + 1) (nI c') i := fun i => by simp [mA_3]
    refine ⟨vp_in_nI (by omega) (by omega), ?_⟩
    generalize mA N 52 (upd (N.2.2.1 52) (10 * j + 7 + 1) (nI c')) = P at hF2 f52 ⊢
    refine h P f' t' c' l' (OF.tr (OF.tr (hF0.le (by simp) (by simp) (by simp) (by simp)) hF) (hF2.le (by simp) (by simp) (by simp) (by simp))) ⟨rdS_fx hF2 hrN (by simp), ((hF2.1 21 (by simp)).trans n21).trans ((hF0.1 21 (by simp)).trans h21), hn, fun z => ?_⟩ hf
    have zN : N.1 19 = 0 := by rw [← hF2.1 19 (by simp)]; exact z
    obtain ⟨z0, hcd⟩ := hcode zN
    refine odP_to (hp z0) ho (j0 := j) (fun i i1 i2 => ?_) (((lowEq.fx hF0 (by simp) (by simp)).tr hlow).tr (lowEq.fx hF2 (by simp) (by simp))) hc ?_
    · rw [f52, upd_ne _ _ i2, n52, e52, upd_ne _ _ i1]
    · rw [f52, f52, upd_self, upd_ne _ _ (by omega), n52, e52, upd_self, hF2.2.2.1 24 (by simp), hF2.2.2.1 25 (by simp)]
      exact sgt_new hc hcd
  have hnil : w_X12_readOrder_b251 q (ov S o ad N0) o (nI (10 * j)) := k251 N0 f t c l OF.rf rfl rfl hr0 lowEq.rf (Nat.le_refl _) (Nat.le_refl _) (fun z1 => ⟨n19.symm.trans z1, code_nil⟩)
  refine ⟨fun _ => hnil, fun z => s_isWord hd (fun h16 => ⟨fun z => absurd z (by decide), fun _ => ⟨ov_oK, r_next hd hr0 h16 (fun N1 f1 t1 hF1 hr1 hf1 => ⟨ov_oK, r_readExpression hd ((hF1.1 19 (by simp)).trans z) hr1 (fun N2 f2 t2 c2 l2 hF2 hlow hr2 hc hf2 hcode => ?_)⟩)⟩⟩) ⟨fun _ => hnil, fun z => absurd rfl z⟩⟩
  exact k251 N2 f2 t2 c2 l2 (OF.tr (hF1.le (by simp) (by simp) (by simp) (by simp)) (PF.o hF2)) ((hF2.2.2.1 52 (by simp)).trans (hF1.2.2.1 52 (by simp))) ((hF2.1 21 (by simp)).trans (hF1.1 21 (by simp))) hr2 ((lowEq.fx hF1 (by simp) (by simp)).tr hlow) hc (by omega) (fun z1 => ⟨n19.symm.trans z, hcode z1⟩)
end REF30
