/-! LAYER 2, the reference: the clauses of a law -/
def sgt (op arg : Nat → Int32) (x y : Int32) (c : Nat) : Prop := ∃ lo hi : Nat, x = nI lo ∧ y = nI hi ∧ lo ≤ hi ∧ hi ≤ c ∧ codeOk op arg lo hi
theorem sgt_mono {op arg op' arg' : Nat → Int32} {x y : Int32} {c c' : Nat} (h : sgt op arg x y c) (he : ∀ k, k < c → op' k = op k ∧ arg' k = arg k) (hc : c ≤ c') : sgt op' arg' x y c' := by
  obtain ⟨lo, hi, h1, h2, h3, h4, h5⟩ := h
  exact ⟨lo, hi, h1, h2, h3, by omega, codeOk_congr h5 (fun k hk => he k (by omega))⟩
theorem code_nil {op arg : Nat → Int32} {c : Nat} : codeOk op arg c c := ⟨fun _ => 0, rfl, fun _ => Nat.zero_le _, fun k h1 h2 => by omega⟩
theorem sgt_new {op arg : Nat → Int32} {lo hi : Nat} (h : lo ≤ hi) (hc : codeOk op arg lo hi) : sgt op arg (nI lo) (nI hi) hi := ⟨lo, hi, rfl, rfl, h, Nat.le_refl _, hc⟩
theorem sgt_seg {op arg : Nat → Int32} {x y : Int32} {c : Nat} (h : sgt op arg x y c) (hc : c ≤ 400) : segOk op arg x y := by
  obtain ⟨lo, hi, h1, h2, h3, h4, h5⟩ := h
  exact ⟨lo, hi, h1, h2, h3, by omega, h5⟩
def clP (M : mS) (n c : Nat) : Prop := ∀ j, j < n → sgt (M.2.2.1 24) (M.2.2.1 25) (M.2.2.1 22 (8 * j + 3)) (M.2.2.1 22 (8 * j + 4)) c ∧ sgt (M.2.2.1 24) (M.2.2.1 25) (M.2.2.1 22 (8 * j + 5)) (M.2.2.1 22 (8 * j + 6)) c
theorem clP_to {M N : mS} {n c c' : Nat} (h : clP M n c) (h22 : ∀ i, i < 8 * n → N.2.2.1 22 i = M.2.2.1 22 i) (hlow : lowEq c M N) (hc : c ≤ c') : clP N n c' := fun j hj => by
  rw [h22 (8 * j + 3) (by omega), h22 (8 * j + 4) (by omega), h22 (8 * j + 5) (by omega), h22 (8 * j + 6) (by omega)]
  exact ⟨sgt_mono (h j hj).1 hlow hc, sgt_mono (h j hj).2 hlow hc⟩
/-- tape, code, leaves -/
def rdS (M : mS) (T f t c l : Nat) : Prop := tk M T f t ∧ M.1 23 = nI c ∧ c ≤ f ∧ M.1 26 = nI l ∧ l ≤ 50
def lwS (M : mS) (T f t c l n : Nat) : Prop := rdS M T f t c l ∧ M.1 21 = nI n ∧ n ≤ 12 ∧ (M.1 19 = 0 → clP M n c)
def LF (M N : mS) : Prop := Fx [14, 15, 16, 18, 19, 21, 23, 26, 29, 30] [17] [22, 24, 25, 27, 28] [] M N
theorem LF.tr {M N P : mS} (h1 : LF M N) (h2 : LF N P) : LF M P := (Fx.tr h1 h2).le (by simp) (by simp) (by simp) (by simp)
theorem PF.l {M N : mS} (h : PF M N) : LF M N := Fx.le h (by simp) (by simp) (by simp) (by simp)
theorem rdS_fx {a b c d : List Nat} {M N : mS} {T f t x l : Nat} (h : Fx a b c d M N) (hs : rdS M T f t x l) (ha : 13 ∉ a ∧ 14 ∉ a ∧ 15 ∉ a ∧ 16 ∉ a ∧ 23 ∉ a ∧ 26 ∉ a) : rdS N T f t x l := ⟨tk_fx h hs.1 ⟨ha.1, ha.2.1, ha.2.2.1, ha.2.2.2.1⟩, (h.1 23 ha.2.2.2.2.1).trans hs.2.1, hs.2.2.1, (h.1 26 ha.2.2.2.2.2).trans hs.2.2.2.1, hs.2.2.2.2⟩
section REF27
variable {S : hS} {o : Nat} {ad : Nat → Nat} {M : mS}
/-- readExpression(), in those words -/
theorem r_readExpression (hd : mD o ad) {q : hS → Prop} {T f t c l : Nat} {v : Int32} (hb : M.1 19 = 0) (hs : rdS M T f t c l) (h : ∀ N f' t' c' l', PF M N → lowEq c M N → rdS N T f' t' c' l' → c ≤ c' → f ≤ f' → (N.1 19 = 0 → codeOk (N.2.2.1 24) (N.2.2.1 25) c c') → q (ov S o ad N)) : w_X12_readExpression q (ov S o ad M) o v :=
  f_readExpression hd hb hs.1 hs.2.1 hs.2.2.1 hs.2.2.2.1 hs.2.2.2.2 (fun N f' t' c' l' h1 h2 h3 h4 h5 h6 h7 h8 h9 h10 => h N f' t' c' l' h1 h2 ⟨h3, h4, h6, h7, h8⟩ h5 h9 h10)
theorem r_next (hd : mD o ad) {q : hS → Prop} {T f t c l : Nat} (hs : rdS M T f t c l) (h16 : ¬ M.1 16 = 0) (h : ∀ N f' t', Fx [14, 15, 16] [17] [] [] M N → rdS N T f' t' c l → f + 1 ≤ f' → q (ov S o ad N)) : w_X12_next q (ov S o ad M) o := by
  obtain ⟨⟨e13, e14, e15, hT, l1, l2, l3⟩, h2, h3, h4, h5⟩ := hs
  have ft : f < t := by
    rcases l3 with e | e
    · exact absurd e h16
    · exact e
  exact f_next hd e13 hT e15 l2 (fun N f' t' hF ht hl => h N f' t' hF ⟨ht, (hF.1 23 (by simp)).trans h2, by omega, (hF.1 26 (by simp)).trans h4, h5⟩ (by omega))
theorem f_rl185 (hd : mD o ad) {q : hS → Prop} {T f t c l n : Nat} (hs : rdS M T f t c l) (h21 : M.1 21 = nI (n + 1)) (hn : n < 12) (hp : M.1 19 = 0 → clP M n c ∧ sgt (M.2.2.1 24) (M.2.2.1 25) (M.2.2.1 22 (8 * n + 3)) (M.2.2.1 22 (8 * n + 4)) c ∧ sgt (M.2.2.1 24) (M.2.2.1 25) (M.2.2.1 22 (8 * n + 5)) (nI c) c) (h : ∀ N, LF M N → lwS N T f t c l (n + 1) → q (ov S o ad N)) : w_X12_readLaw_b185 q (ov S o ad M) o (nI (8 * n)) := by
  unfold w_X12_readLaw_b185
  simp (disch := decide) only [oi_gI, oi_gJ, oi_gP, oi_pI, oi_pZ, oi_pJ, oi_oK, oi_aI hd, oi_aZ hd, oi_aJ hd, oi_sI hd, oi_sZ hd, oi_sJ hd, mI_1, mI_2, mJ_1, mJ_2, mJ_3, mA_1, mA_2, mA_3, mA_4, mL_1, mL_2, mL_3, mL_4, mK, Nat.reduceEqDiff, if_true, if_false, ite_true, ite_false, true_and, Nat.reduceLT, reduceIte, reduceCtorEq, cl_0, cl_1, cl_2, cl_3, cl_4, cl_5, cl_6, cl_7, cl_8, cl_9, cl_10, cl_11, cl_12, cl_13, cl_14, cl_15, vl_0_5585, vl_1_5585, vl_2_5585, vl_3_5585, vl_4_5585, vl_5_5585, vl_6_5585, vl_0_7, vl_1_7, vl_2_7, vl_3_7, vl_4_7, vl_5_7, vl_6_7]
  rw [show nI (8 * n) + 6 = nI (8 * n + 6) from nIadd _ _, hs.2.1, nI_clamp (by omega)]
  refine ⟨vp_in_nI (by omega) (by omega), h _ ((Fx.a 22 _).le (by simp) (by simp) (by simp) (by simp)) ⟨rdS_fx (Fx.a 22 _) hs (by simp), h21, by omega, fun z => ?_⟩⟩
  obtain ⟨p1, p2, p3⟩ := hp z
  have e22 : ∀ i, (mA M 22 (upd (M.2.2.1 22) (8 * n + 6) (nI c))).2.2.1 22 i = upd (M.2.2.1 22) (8 * n + 6) (nI c) i := fun i => by simp [mA_3]
  intro j hj
  show sgt (M.2.2.1 24) (M.2.2.1 25) _ _ c ∧ sgt (M.2.2.1 24) (M.2.2.1 25) _ _ c
  rw [e22, e22, e22, e22]
  by_cases e : j = n
  · subst e
    rw [upd_ne _ _ (by omega), upd_ne _ _ (by omega), upd_ne _ _ (by omega), upd_self]
    exact ⟨p2, p3⟩
  · rw [upd_ne _ _ (by omega), upd_ne _ _ (by omega), upd_ne _ _ (by omega), upd_ne _ _ (by omega)]
    exact p1 j (by omega)
theorem f_rl135 (hd : mD o ad) {q : hS → Prop} {T f t c l n : Nat} (hs : rdS M T f t c l) (h21 : M.1 21 = nI (n + 1)) (hn : n < 12) (hp : M.1 19 = 0 → clP M n c ∧ sgt (M.2.2.1 24) (M.2.2.1 25) (M.2.2.1 22 (8 * n + 3)) (nI c) c) (h : ∀ N f' t' c' l', LF M N → lwS N T f' t' c' l' (n + 1) → f ≤ f' → q (ov S o ad N)) : w_X12_readLaw_b135 q (ov S o ad M) o (nI (8 * n)) := by
  unfold w_X12_readLaw_b135
  simp (disch := decide) only [oi_gI, oi_gJ, oi_gP, oi_pI, oi_pZ, oi_pJ, oi_oK, oi_aI hd, oi_aZ hd, oi_aJ hd, oi_sI hd, oi_sZ hd, oi_sJ hd, mI_1, mI_2, mJ_1, mJ_2, mJ_3, mA_1, mA_2, mA_3, mA_4, mL_1, mL_2, mL_3, mL_4, mK, Nat.reduceEqDiff, if_true, if_false, ite_true, ite_false, true_and, Nat.reduceLT, reduceIte, reduceCtorEq, cl_0, cl_1, cl_2, cl_3, cl_4, cl_5, cl_6, cl_7, cl_8, cl_9, cl_10, cl_11, cl_12, cl_13, cl_14, cl_15, vl_0_5585, vl_1_5585, vl_2_5585, vl_3_5585, vl_4_5585, vl_5_5585, vl_6_5585, vl_0_7, vl_1_7, vl_2_7, vl_3_7, vl_4_7, vl_5_7, vl_6_7, mA_mA]
  rw [show nI (8 * n) + 4 = nI (8 * n + 4) from nIadd _ _, show nI (8 * n) + 5 = nI (8 * n + 5) from nIadd _ _, hs.2.1, nI_clamp (by omega), nI_clamp (by omega)]
  refine ⟨vp_in_nI (by omega) (by omega), vp_in_nI (by omega) (by omega), ?_⟩
  have hF0 : Fx [] [] [22] [] M (mA M 22 (upd (upd (M.2.2.1 22) (8 * n + 4) (nI c)) (8 * n + 5) (nI c))) := Fx.a 22 _
  have e22 : ∀ i, (mA M 22 (upd (upd (M.2.2.1 22) (8 * n + 4) (nI c)) (8 * n + 5) (nI c))).2.2.1 22 i = upd (upd (M.2.2.1 22) (8 * n + 4) (nI c)) (8 * n + 5) (nI c) i := fun i => by simp [mA_3]
  generalize mA M 22 (upd (upd (M.2.2.1 22) (8 * n + 4) (nI c)) (8 * n + 5) (nI c)) = N0 at hF0 e22 ⊢
  have hs0 := rdS_fx hF0 hs (by simp)
  have n21 : N0.1 21 = nI (n + 1) := (hF0.1 21 (by simp)).trans h21
  have n19 : N0.1 19 = M.1 19 := hF0.1 19 (by simp)
  have v3 : N0.2.2.1 22 (8 * n + 3) = M.2.2.1 22 (8 * n + 3) := by rw [e22, upd_ne _ _ (by omega), upd_ne _ _ (by omega)]
  have v4 : N0.2.2.1 22 (8 * n + 4) = nI c := by rw [e22, upd_ne _ _ (by omega), upd_self]
  have v5 : N0.2.2.1 22 (8 * n + 5) = nI c := by rw [e22, upd_self]
  have hp0 : N0.1 19 = 0 → clP N0 n c ∧ sgt (N0.2.2.1 24) (N0.2.2.1 25) (N0.2.2.1 22 (8 * n + 3)) (N0.2.2.1 22 (8 * n + 4)) c := by
    intro z
    obtain ⟨p1, p2⟩ := hp (n19.symm.trans z)
    refine ⟨clP_to p1 (fun i hi => by rw [e22, upd_ne _ _ (by omega), upd_ne _ _ (by omega)]) (lowEq.fx hF0 (by simp) (by simp)) (Nat.le_refl _), ?_⟩
    rw [v3, v4]
    exact sgt_mono p2 (lowEq.fx (lo := c) hF0 (by simp) (by simp)) (Nat.le_refl _)
  have hend : w_X12_readLaw_b185 q (ov S o ad N0) o (nI (8 * n)) := by
    refine f_rl185 hd hs0 n21 hn (fun z => ⟨(hp0 z).1, (hp0 z).2, ?_⟩) (fun N hF hl => h N f t c l (LF.tr (hF0.le (by simp) (by simp) (by simp) (by simp)) hF) hl (Nat.le_refl _))
    rw [v5]
    exact sgt_new (Nat.le_refl _) code_nil
  refine ⟨fun _ => hend, fun z => s_isWord hd (fun h16 => ⟨fun z => absurd z (by decide), fun _ => ⟨ov_oK, r_next hd hs0 h16 (fun N1 f1 t1 hF1 hs1 hl1 => ⟨ov_oK, ?_⟩)⟩⟩) ⟨fun _ => hend, fun z => absurd rfl z⟩⟩
  have z := n19.trans z
  refine r_readExpression hd ((hF1.1 19 (by simp)).trans z) hs1 (fun N2 f2 t2 c2 l2 hF2 hlow hs2 hc2 hf2 hcode => ?_)
  have hF12 : LF N0 N2 := LF.tr (hF1.le (by simp) (by simp) (by simp) (by simp)) (PF.l hF2)
  have i22 : N2.2.2.1 22 = N0.2.2.1 22 := (Fx.tr hF1 hF2).2.2.1 22 (by simp)
  have low2 : lowEq c N0 N2 := (lowEq.fx hF1 (by simp) (by simp)).tr hlow
  refine f_rl185 hd hs2 (((Fx.tr hF1 hF2).1 21 (by simp)).trans n21) hn (fun z2 => ?_) (fun N hF hl => h N f2 t2 c2 l2 (LF.tr (LF.tr (hF0.le (by simp) (by simp) (by simp) (by simp)) hF12) hF) hl (by omega))
  obtain ⟨p1, p2⟩ := hp0 z
  rw [i22, v5]
  exact ⟨clP_to p1 (fun i hi => by rw [i22]) low2 hc2, sgt_mono p2 low2 hc2, sgt_new hc2 (hcode z2)⟩
theorem f_rl75 (hd : mD o ad) {q : hS → Prop} {T f t c l n : Nat} {head : Int32} (hb : M.1 19 = 0) (hs : rdS M T f t c l) (h21 : M.1 21 = nI n) (hn : n < 12) (hp : clP M n c) (h : ∀ N f' t' c' l', LF M N → lwS N T f' t' c' l' (n + 1) → f ≤ f' → q (ov S o ad N)) : ∃ m, w_X12_readLaw_b75 q m (ov S o ad M) o head (nI (8 * n)) 0 := by
  refine loop_m (σ := mS × Nat) (fun m s => w_X12_readLaw_b75 q m (ov S o ad s.1) o head (nI (8 * n)) (nI s.2)) (fun s => Fx [] [] [22] [] M s.1 ∧ (∀ i, i < 8 * n → s.1.2.2.1 22 i = M.2.2.1 22 i) ∧ s.2 ≤ 8) (fun s => 8 - s.2) ?_ (M, 0) ⟨Fx.rf', fun _ _ => rfl, by omega⟩
  rintro m ⟨N, k⟩ ⟨hF, h1, h2⟩ ih
  dsimp only at hF h1 h2 ih ⊢
  rw [w_X12_readLaw_b75]
  rw [lit_nI 8, nI_leI (by omega) (by omega)]
  refine ⟨fun c1 => ?_, fun c1 => ?_⟩
  · have hs0 := rdS_fx hF hs (by simp)
    simp (disch := decide) only [oi_gI, oi_gJ, oi_gP, oi_pI, oi_pZ, oi_pJ, oi_oK, oi_aI hd, oi_aZ hd, oi_aJ hd, oi_sI hd, oi_sZ hd, oi_sJ hd, mI_1, mI_2, mJ_1, mJ_2, mJ_3, mA_1, mA_2, mA_3, mA_4, mL_1, mL_2, mL_3, mL_4, mK, Nat.reduceEqDiff, if_true, if_false, ite_true, ite_false, true_and, Nat.reduceLT, reduceIte, reduceCtorEq, cl_0, cl_1, cl_2, cl_3, cl_4, cl_5, cl_6, cl_7, cl_8, cl_9, cl_10, cl_11, cl_12, cl_13, cl_14, cl_15, vl_0_5585, vl_1_5585, vl_2_5585, vl_3_5585, vl_4_5585, vl_5_5585, vl_6_5585, vl_0_7, vl_1_7, vl_2_7, vl_3_7, vl_4_7, vl_5_7, vl_6_7]
    rw [show nI (8 * n) + 3 = nI (8 * n + 3) from nIadd _ _, hs0.2.1, (hF.1 21 (by simp)).trans h21, nI_1, nI_clamp (by omega), nI_clamp (by omega)]
    refine ⟨vp_in_nI (by omega) (by omega), vp_in_nI (by omega) (by omega), ?_⟩
    have hF1 : Fx [21] [] [22] [] N (mA (mI (mA N 22 (upd (N.2.2.1 22) (8 * n) head)) 21 (nI (n + 1))) 22 (upd (upd (N.2.2.1 22) (8 * n) head) (8 * n + 3) (nI c))) := (((Fx.a 22 _).tr (Fx.i 21 _)).tr (Fx.a 22 _)).le (by simp) (by simp) (by simp) (by simp)
    have e22 : ∀ i, (mA (mI (mA N 22 (upd (N.2.2.1 22) (8 * n) head)) 21 (nI (n + 1))) 22 (upd (upd (N.2.2.1 22) (8 * n) head) (8 * n + 3) (nI c))).2.2.1 22 i = upd (upd (N.2.2.1 22) (8 * n) head) (8 * n + 3) (nI c) i := fun i => by simp [mA_3]
    have e21 : (mA (mI (mA N 22 (upd (N.2.2.1 22) (8 * n) head)) 21 (nI (n + 1))) 22 (upd (upd (N.2.2.1 22) (8 * n) head) (8 * n + 3) (nI c))).1 21 = nI (n + 1) := by simp [mA_1, mI_1]
    generalize mA (mI (mA N 22 (upd (N.2.2.1 22) (8 * n) head)) 21 (nI (n + 1))) 22 (upd (upd (N.2.2.1 22) (8 * n) head) (8 * n + 3) (nI c)) = P at hF1 e22 e21 ⊢
    have hs1 := rdS_fx hF1 hs0 (by simp)
    have hFM := hF.tr hF1
    have p19 : P.1 19 = 0 := (hFM.1 19 (by simp)).trans hb
    have pl : LF M P := hFM.le (by simp) (by simp) (by simp) (by simp)
    have v3 : P.2.2.1 22 (8 * n + 3) = nI c := by rw [e22, upd_self]
    have pc0 : clP P n c := clP_to hp (fun i hi => by rw [e22, upd_ne _ _ (by omega), upd_ne _ _ (by omega)]; exact h1 i hi) (lowEq.fx hFM (by simp) (by simp)) (Nat.le_refl _)
    refine ⟨fun _ => f_rl135 hd hs1 e21 hn (fun _ => ⟨pc0, by rw [v3]; exact sgt_new (Nat.le_refl _) code_nil⟩) (fun Q f' t' c' l' hQ hl hf => h Q f' t' c' l' (LF.tr pl hQ) hl hf), fun _ => r_readExpression hd p19 hs1 (fun Q f' t' c' l' hQ hlow hsQ hc hf hcode => ?_)⟩
    refine f_rl135 hd hsQ ((hQ.1 21 (by simp)).trans e21) hn (fun z => ⟨clP_to pc0 (fun i hi => by rw [hQ.2.2.1 22 (by simp)]) hlow hc, ?_⟩) (fun R f2 t2 c2 l2 hR hl hf2 => h R f2 t2 c2 l2 (LF.tr (LF.tr pl (PF.l hQ)) hR) hl (by omega))
    rw [hQ.2.2.1 22 (by simp), v3]
    exact sgt_new hc (hcode z)
  · simp (disch := decide) only [oi_gI, oi_gJ, oi_gP, oi_pI, oi_pZ, oi_pJ, oi_oK, oi_aI hd, oi_aZ hd, oi_aJ hd, oi_sI hd, oi_sZ hd, oi_sJ hd, mI_1, mI_2, mJ_1, mJ_2, mJ_3, mA_1, mA_2, mA_3, mA_4, mL_1, mL_2, mL_3, mL_4, mK, Nat.reduceEqDiff, if_true, if_false, ite_true, ite_false, true_and, Nat.reduceLT, reduceIte, reduceCtorEq, cl_0, cl_1, cl_2, cl_3, cl_4, cl_5, cl_6, cl_7, cl_8, cl_9, cl_10, cl_11, cl_12, cl_13, cl_14, cl_15, vl_0_5585, vl_1_5585, vl_2_5585, vl_3_5585, vl_4_5585, vl_5_5585, vl_6_5585, vl_0_7, vl_1_7, vl_2_7, vl_3_7, vl_4_7, vl_5_7, vl_6_7]
    rw [nIadd, nI_clamp (by omega)]
    refine ⟨vp_in_nI (by omega) (by omega), fun y ey => ?_⟩
    rw [ey, nI_1]
    refine ih (_, k + 1) ⟨(hF.tr (Fx.a 22 _)).le (by simp) (by simp) (by simp) (by simp), fun i hi => ?_, by dsimp only; omega⟩ (by dsimp only; omega)
    simp only [mA_3, if_true, reduceIte]
    rw [upd_ne _ _ (by omega)]
    exact h1 i hi
theorem f_readLaw (hd : mD o ad) {q : hS → Prop} {T f t c l n : Nat} (hb : M.1 19 = 0) (hl : lwS M T f t c l n) (h : ∀ N f' t' c' l' n', LF M N → lwS N T f' t' c' l' n' → f ≤ f' → q (ov S o ad N)) : w_X12_readLaw q (ov S o ad M) o := by
  obtain ⟨hs, h21, hn, hp⟩ := hl
  have k54 : ∀ head g : Int32, (¬ g = 0 → ¬ M.1 16 = 0 ∧ n < 12) → w_X12_readLaw_b54 q (ov S o ad M) o head g o := by
    intro head g hg
    refine ⟨ov_oK, f_must hd hb hs.1 (fun z => (hg z).1) (fun N hF hz => ?_) (fun z N f' t' hF ht hf => ?_)⟩
    · simp (disch := decide) only [oi_gI, oi_gJ, oi_gP, oi_pI, oi_pZ, oi_pJ, oi_oK, oi_aI hd, oi_aZ hd, oi_aJ hd, oi_sI hd, oi_sZ hd, oi_sJ hd, mI_1, mI_2, mJ_1, mJ_2, mJ_3, mA_1, mA_2, mA_3, mA_4, mL_1, mL_2, mL_3, mL_4, mK, Nat.reduceEqDiff, if_true, if_false, ite_true, ite_false, true_and, Nat.reduceLT, reduceIte, reduceCtorEq, cl_0, cl_1, cl_2, cl_3, cl_4, cl_5, cl_6, cl_7, cl_8, cl_9, cl_10, cl_11, cl_12, cl_13, cl_14, cl_15, vl_0_5585, vl_1_5585, vl_2_5585, vl_3_5585, vl_4_5585, vl_5_5585, vl_6_5585, vl_0_7, vl_1_7, vl_2_7, vl_3_7, vl_4_7, vl_5_7, vl_6_7]
      refine ⟨fun z => absurd z hz, fun _ => h N f t c l n (hF.le (by simp) (by simp) (by simp) (by simp)) ⟨rdS_fx hF hs (by simp), (hF.1 21 (by simp)).trans h21, hn, fun z => absurd z hz⟩ (Nat.le_refl _)⟩
    · have n19 : N.1 19 = 0 := (hF.1 19 (by simp)).trans hb
      simp (disch := decide) only [oi_gI, oi_gJ, oi_gP, oi_pI, oi_pZ, oi_pJ, oi_oK, oi_aI hd, oi_aZ hd, oi_aJ hd, oi_sI hd, oi_sZ hd, oi_sJ hd, mI_1, mI_2, mJ_1, mJ_2, mJ_3, mA_1, mA_2, mA_3, mA_4, mL_1, mL_2, mL_3, mL_4, mK, Nat.reduceEqDiff, if_true, if_false, ite_true, ite_false, true_and, Nat.reduceLT, reduceIte, reduceCtorEq, cl_0, cl_1, cl_2, cl_3, cl_4, cl_5, cl_6, cl_7, cl_8, cl_9, cl_10, cl_11, cl_12, cl_13, cl_14, cl_15, vl_0_5585, vl_1_5585, vl_2_5585, vl_3_5585, vl_4_5585, vl_5_5585, vl_6_5585, vl_0_7, vl_1_7, vl_2_7, vl_3_7, vl_4_7, vl_5_7, vl_6_7]
      rw [n19, (hF.1 21 (by simp)).trans h21]
      refine ⟨fun _ y ey => ?_, fun z => absurd rfl z⟩
      rw [ey, lit_nI 8, nImul]
      refine f_rl75 hd n19 (T := T) (f := f') (t := t') (c := c) (l := l) ⟨ht, (hF.1 23 (by simp)).trans hs.2.1, by have := hs.2.2.1; omega, (hF.1 26 (by simp)).trans hs.2.2.2.1, hs.2.2.2.2⟩ ((hF.1 21 (by simp)).trans h21) (hg z).2 (clP_to (hp hb) (fun i _ => by rw [hF.2.2.1 22 (by simp)]) (lowEq.fx hF (by simp) (by simp)) (Nat.le_refl _)) (fun P f2 t2 c2 l2 hP hlP hf2 => h P f2 t2 c2 l2 (n + 1) (LF.tr (hF.le (by simp) (by simp) (by simp) (by simp)) hP) hlP (by omega))
  refine loop_m (σ := Int32 × Nat) (fun m s => w_X12_readLaw_b4 q m (ov S o ad M) o s.1 (nI s.2)) (fun s => s.2 ≤ 5 ∧ (s.1 = -1 ∨ ¬ M.1 16 = 0)) (fun s => 5 - s.2) ?_ (-1, 0) ⟨by omega, Or.inl rfl⟩
  rintro m ⟨x, i⟩ ⟨h1, h2⟩ ih
  dsimp only at h1 h2 ih ⊢
  rw [w_X12_readLaw_b4]
  unfold w_X12_readLaw_b53 w_X12_readLaw_b27
  simp (disch := decide) only [oi_gI, oi_gJ, oi_gP, oi_pI, oi_pZ, oi_pJ, oi_oK, oi_aI hd, oi_aZ hd, oi_aJ hd, oi_sI hd, oi_sZ hd, oi_sJ hd, mI_1, mI_2, mJ_1, mJ_2, mJ_3, mA_1, mA_2, mA_3, mA_4, mL_1, mL_2, mL_3, mL_4, mK, Nat.reduceEqDiff, if_true, if_false, ite_true, ite_false, true_and, Nat.reduceLT, reduceIte, reduceCtorEq, cl_0, cl_1, cl_2, cl_3, cl_4, cl_5, cl_6, cl_7, cl_8, cl_9, cl_10, cl_11, cl_12, cl_13, cl_14, cl_15, vl_0_5585, vl_1_5585, vl_2_5585, vl_3_5585, vl_4_5585, vl_5_5585, vl_6_5585, vl_0_7, vl_1_7, vl_2_7, vl_3_7, vl_4_7, vl_5_7, vl_6_7]
  rw [h21, lit_nI 12, nI_leI (by omega) (by omega), lit_nI 5, nI_leI (by omega) (by omega)]
  refine ⟨fun _ => ⟨fun _ => k54 _ _ (fun z => absurd rfl z), fun c1 => ⟨fun _ => k54 _ _ (fun z => absurd rfl z), fun c2 => k54 _ _ (fun _ => ⟨?_, by omega⟩)⟩⟩, fun c1 => ⟨vp_in_nI (by omega) (by omega), s_isWord hd (fun h16 => ⟨fun z => absurd z (by decide), fun _ y ey => ?_⟩) ⟨fun _ y ey => ?_, fun z => absurd rfl z⟩⟩⟩
  · rcases h2 with e | e
    · exact absurd e c1
    · exact e
  · rw [ey, nI_1]
    exact ih (_, i + 1) ⟨by dsimp only; omega, Or.inr h16⟩ (by dsimp only; omega)
  · rw [ey, nI_1]
    exact ih (x, i + 1) ⟨by dsimp only; omega, h2⟩ (by dsimp only; omega)
end REF27
