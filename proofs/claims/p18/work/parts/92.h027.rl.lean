/-! THE REFERENCE'S LAWS, EXACTLY -/
def hdM (M : mS) : Prop := ∀ k, (h : k < hdW.length) → M.2.2.2 33 k = jN (wL (hdW[k]).1 : Nat)
def mkM (M : mS) (cs : List pCl) : Prop := ∀ j, (h : j < (rMk cs 0).length) → M.2.2.1 22 (8 * j) = nI ((rMk cs 0)[j]).1 ∧ M.2.2.1 22 (8 * j + 3) = nI ((rMk cs 0)[j]).2.1 ∧ M.2.2.1 22 (8 * j + 4) = nI ((rMk cs 0)[j]).2.2.1 ∧ M.2.2.1 22 (8 * j + 5) = nI ((rMk cs 0)[j]).2.2.1 ∧ M.2.2.1 22 (8 * j + 6) = nI ((rMk cs 0)[j]).2.2.2
def R1 (G : pG) (M : mS) (p k : Nat) (cs : List pCl) : Prop := R0 G M p k (rAll cs 0) ∧ M.1 21 = nI cs.length ∧ cs.length ≤ 12 ∧ mkM M cs ∧ hdM M ∧ M.1 20 = 0
theorem hd_ltr : ∀ k, (h : k < hdW.length) → ltr (hdW[k]).1 = true := by decide
theorem hd_k : ∀ k, (h : k < hdW.length) → ∀ w ∈ hdW, w.1 = (hdW[k]).1 → w.2 = k := by decide
theorem wL_if : (294 : Int64) = jN (wL wIf : Nat) := by decide
theorem R0_fx {G : pG} {M N : mS} {p k : Nat} {out : List (Nat × Nat)} {a b c d : List Nat} (h : Fx a b c d M N) (hR : R0 G M p k out) (ha : (13 ∉ a ∧ 14 ∉ a ∧ 15 ∉ a ∧ 16 ∉ a ∧ 19 ∉ a ∧ 23 ∉ a ∧ 26 ∉ a ∧ 18 ∉ a) ∧ 17 ∉ b ∧ (12 ∉ c ∧ 24 ∉ c ∧ 25 ∉ c) ∧ 31 ∉ d ∧ 32 ∉ d) : R0 G N p k out := by
  obtain ⟨r1, r2, r3, r4, r5, r6, r7⟩ := hR
  obtain ⟨⟨a13, a14, a15, a16, a19, a23, a26, a18⟩, b17, ⟨c12, c24, c25⟩, d1, d2⟩ := ha
  exact ⟨(h.1 19 a19).trans r1, tokAt_fx h r2 ⟨⟨a14, a15, a16⟩, b17⟩, tpM_fx h r3 ⟨a13, c12⟩, ⟨(h.1 23 a23).trans r4.1, by rw [h.2.2.1 24 c24, h.2.2.1 25 c25]; exact r4.2⟩, (h.1 26 a26).trans r5, wdsG_fx h r6 ⟨a18, d1, d2⟩, r7⟩
/-- it is bad: what law() looks at -/
def RBo (G : pG) (M : mS) (f : Nat) : Prop := M.1 19 = 1 ∧ M.1 18 = nI (tS G f) ∧ tpM G M ∧ wdsM M
theorem RB.o {G : pG} {M : mS} {f : Nat} (h : RB G M f) : RBo G M f := ⟨h.1, h.2.1, h.2.2.1, h.2.2.2.1⟩
theorem RBo_fx {G : pG} {M N : mS} {f : Nat} {a b c d : List Nat} (h : Fx a b c d M N) (hR : RBo G M f) (ha : (13 ∉ a ∧ 18 ∉ a ∧ 19 ∉ a) ∧ 12 ∉ c ∧ 31 ∉ d ∧ 32 ∉ d) : RBo G N f := by
  obtain ⟨r1, r2, r3, r4⟩ := hR
  obtain ⟨⟨a13, a18, a19⟩, c12, d1, d2⟩ := ha
  exact ⟨(h.1 19 a19).trans r1, (h.1 18 a18).trans r2, tpM_fx h r3 ⟨a13, c12⟩, wdsM_fx h r4 ⟨d1, d2⟩⟩
theorem hdM_fx {M N : mS} {a b c d : List Nat} (h : Fx a b c d M N) (hM : hdM M) (hd : 33 ∉ d) : hdM N := by
  unfold hdM at *
  rw [h.2.2.2 33 hd]
  exact hM
section RL
variable {S : hS} {o : Nat} {ad : Nat → Nat} {M : mS} {G : pG} {p k : Nat}
theorem wh_none {W : List (List Nat × Nat)} (h : ∀ k, (hk : k < W.length) → ¬ isWd G p (W[k]).1 = true) : whW G W p = none := by
  unfold whW
  rw [List.find?_eq_none.mpr]
  · rfl
  · intro w hw
    obtain ⟨k, hk, rfl⟩ := List.mem_iff_getElem.mp hw
    exact h k hk
theorem wh_some {W : List (List Nat × Nat)} {k : Nat} (hk : k < W.length) (h : isWd G p (W[k]).1 = true) : ∃ w ∈ W, w.1 = (W[k]).1 ∧ whW G W p = some w.2 := by
  unfold whW
  cases e : W.find? (fun w => isWd G p w.1) with
  | none => exact absurd h (List.find?_eq_none.mp e _ (List.getElem_mem hk))
  | some w =>
    have := List.find?_some e
    exact ⟨w, List.mem_of_find?_eq_some e, isWd_uniq this h, rfl⟩
def whN (G : pG) (W : List (List Nat × Nat)) (p : Nat) : Int32 := match whW G W p with
  | none => -1
  | some h => nI h
theorem x_rl185b (hd : mD o ad) {q : hS → Prop} {n f : Nat} (hn : n < 12) (hR : RBo G M f) (h : ∀ N, LF M N → RBo G N f → q (ov S o ad N)) : w_X12_readLaw_b185 q (ov S o ad M) o (nI (8 * n)) := by
  unfold w_X12_readLaw_b185
  simp (disch := decide) only [oi_gI, oi_gJ, oi_gP, oi_pI, oi_pZ, oi_pJ, oi_oK, oi_aI hd, oi_aZ hd, oi_aJ hd, oi_sI hd, oi_sZ hd, oi_sJ hd, mI_1, mI_2, mJ_1, mJ_2, mJ_3, mA_1, mA_2, mA_3, mA_4, mL_1, mL_2, mL_3, mL_4, mK, Nat.reduceEqDiff, if_true, if_false, ite_true, ite_false, true_and, Nat.reduceLT, reduceIte, reduceCtorEq, cl_0, cl_1, cl_2, cl_3, cl_4, cl_5, cl_6, cl_7, cl_8, cl_9, cl_10, cl_11, cl_12, cl_13, cl_14, cl_15, vl_0_5585, vl_1_5585, vl_2_5585, vl_3_5585, vl_4_5585, vl_5_5585, vl_6_5585, vl_0_7, vl_1_7, vl_2_7, vl_3_7, vl_4_7, vl_5_7, vl_6_7]
  rw [show nI (8 * n) + 6 = nI (8 * n + 6) from nIadd _ _, nI_clamp (by omega)]
  exact ⟨vp_in_nI (by omega) (by omega), h _ ((Fx.a 22 _).le (by simp) (by simp) (by simp) (by simp)) (RBo_fx (Fx.a 22 _) hR (by simp))⟩
theorem x_rl135b (hd : mD o ad) {q : hS → Prop} {n f : Nat} (hn : n < 12) (hR : RBo G M f) (h : ∀ N, LF M N → RBo G N f → q (ov S o ad N)) : w_X12_readLaw_b135 q (ov S o ad M) o (nI (8 * n)) := by
  unfold w_X12_readLaw_b135
  simp (disch := decide) only [oi_gI, oi_gJ, oi_gP, oi_pI, oi_pZ, oi_pJ, oi_oK, oi_aI hd, oi_aZ hd, oi_aJ hd, oi_sI hd, oi_sZ hd, oi_sJ hd, mI_1, mI_2, mJ_1, mJ_2, mJ_3, mA_1, mA_2, mA_3, mA_4, mL_1, mL_2, mL_3, mL_4, mK, Nat.reduceEqDiff, if_true, if_false, ite_true, ite_false, true_and, Nat.reduceLT, reduceIte, reduceCtorEq, cl_0, cl_1, cl_2, cl_3, cl_4, cl_5, cl_6, cl_7, cl_8, cl_9, cl_10, cl_11, cl_12, cl_13, cl_14, cl_15, vl_0_5585, vl_1_5585, vl_2_5585, vl_3_5585, vl_4_5585, vl_5_5585, vl_6_5585, vl_0_7, vl_1_7, vl_2_7, vl_3_7, vl_4_7, vl_5_7, vl_6_7, mA_mA]
  rw [show nI (8 * n) + 4 = nI (8 * n + 4) from nIadd _ _, show nI (8 * n) + 5 = nI (8 * n + 5) from nIadd _ _, hR.1, nI_clamp (by omega), nI_clamp (by omega)]
  exact ⟨vp_in_nI (by omega) (by omega), vp_in_nI (by omega) (by omega), fun _ => x_rl185b hd hn (RBo_fx (Fx.a 22 _) hR (by simp)) (fun N hF hN => h N (LF.tr ((Fx.a 22 _).le (by simp) (by simp) (by simp) (by simp)) hF) hN), fun z => absurd z (by decide)⟩
/-- the marks of the clauses before stay -/
def lowM (n : Nat) (M N : mS) : Prop := ∀ i, i < 8 * n → N.2.2.1 22 i = M.2.2.1 22 i
theorem x_rl185 (hd : mD o ad) {q : hS → Prop} {n : Nat} {out : List (Nat × Nat)} (hn : n < 12) (hR : R0 G M p k out) (h : ∀ N, Fx [] [] [22] [] M N → N.2.2.1 22 = upd (M.2.2.1 22) (8 * n + 6) (nI out.length) → q (ov S o ad N)) : w_X12_readLaw_b185 q (ov S o ad M) o (nI (8 * n)) := by
  unfold w_X12_readLaw_b185
  simp (disch := decide) only [oi_gI, oi_gJ, oi_gP, oi_pI, oi_pZ, oi_pJ, oi_oK, oi_aI hd, oi_aZ hd, oi_aJ hd, oi_sI hd, oi_sZ hd, oi_sJ hd, mI_1, mI_2, mJ_1, mJ_2, mJ_3, mA_1, mA_2, mA_3, mA_4, mL_1, mL_2, mL_3, mL_4, mK, Nat.reduceEqDiff, if_true, if_false, ite_true, ite_false, true_and, Nat.reduceLT, reduceIte, reduceCtorEq, cl_0, cl_1, cl_2, cl_3, cl_4, cl_5, cl_6, cl_7, cl_8, cl_9, cl_10, cl_11, cl_12, cl_13, cl_14, cl_15, vl_0_5585, vl_1_5585, vl_2_5585, vl_3_5585, vl_4_5585, vl_5_5585, vl_6_5585, vl_0_7, vl_1_7, vl_2_7, vl_3_7, vl_4_7, vl_5_7, vl_6_7]
  rw [show nI (8 * n) + 6 = nI (8 * n + 6) from nIadd _ _, nI_clamp (by omega), hR.2.2.2.1.1]
  exact ⟨vp_in_nI (by omega) (by omega), h _ (Fx.a 22 _) (by simp [mA_3])⟩
theorem x_rl135 (hd : mD o ad) {q : hS → Prop} {n : Nat} {out : List (Nat × Nat)} (hn : n < 12) (hR : R0 G M p k out) (e20 : M.1 20 = 0) (h1 : ∀ r t, prIf G lwW p k = (r, some t) → ∀ N, LF M N → R0 G N r.1 r.2 (out ++ oR' t out.length) → N.1 21 = M.1 21 → N.1 20 = 0 → N.2.2.1 22 = upd (upd (upd (M.2.2.1 22) (8 * n + 4) (nI out.length)) (8 * n + 5) (nI out.length)) (8 * n + 6) (nI (out ++ oR' t out.length).length) → q (ov S o ad N)) (h0 : ∀ r, prIf G lwW p k = (r, none) → ∀ N, LF M N → RBo G N r.1 → q (ov S o ad N)) : w_X12_readLaw_b135 q (ov S o ad M) o (nI (8 * n)) := by
  have hb := hR.2.2.1.2.2.2
  unfold w_X12_readLaw_b135
  simp (disch := decide) only [oi_gI, oi_gJ, oi_gP, oi_pI, oi_pZ, oi_pJ, oi_oK, oi_aI hd, oi_aZ hd, oi_aJ hd, oi_sI hd, oi_sZ hd, oi_sJ hd, mI_1, mI_2, mJ_1, mJ_2, mJ_3, mA_1, mA_2, mA_3, mA_4, mL_1, mL_2, mL_3, mL_4, mK, Nat.reduceEqDiff, if_true, if_false, ite_true, ite_false, true_and, Nat.reduceLT, reduceIte, reduceCtorEq, cl_0, cl_1, cl_2, cl_3, cl_4, cl_5, cl_6, cl_7, cl_8, cl_9, cl_10, cl_11, cl_12, cl_13, cl_14, cl_15, vl_0_5585, vl_1_5585, vl_2_5585, vl_3_5585, vl_4_5585, vl_5_5585, vl_6_5585, vl_0_7, vl_1_7, vl_2_7, vl_3_7, vl_4_7, vl_5_7, vl_6_7, mA_mA]
  rw [show nI (8 * n) + 4 = nI (8 * n + 4) from nIadd _ _, show nI (8 * n) + 5 = nI (8 * n + 5) from nIadd _ _, hR.2.2.2.1.1, hR.1, nI_clamp (by omega), nI_clamp (by omega)]
  refine ⟨vp_in_nI (by omega) (by omega), vp_in_nI (by omega) (by omega), fun z => absurd rfl z, fun _ => ?_⟩
  have hF0 : Fx [] [] [22] [] M (mA M 22 (upd (upd (M.2.2.1 22) (8 * n + 4) (nI out.length)) (8 * n + 5) (nI out.length))) := Fx.a 22 _
  have e22 : (mA M 22 (upd (upd (M.2.2.1 22) (8 * n + 4) (nI out.length)) (8 * n + 5) (nI out.length))).2.2.1 22 = upd (upd (M.2.2.1 22) (8 * n + 4) (nI out.length)) (8 * n + 5) (nI out.length) := by simp [mA_3]
  generalize mA M 22 (upd (upd (M.2.2.1 22) (8 * n + 4) (nI out.length)) (8 * n + 5) (nI out.length)) = N0 at hF0 e22 ⊢
  have hR0 := R0_fx hF0 hR (by simp)
  have hL0 : LF M N0 := hF0.le (by simp) (by simp) (by simp) (by simp)
  unfold prIf at h1 h0
  refine x_isWord hd hb hR0.2.1 (s := wIf) (by decide) wL_if (fun hs => ⟨fun z => absurd z (by decide), fun _ => ⟨ov_oK, ?_⟩⟩) (fun hs => ⟨fun _ => ?_, fun z => absurd rfl z⟩)
  · rw [if_pos hs] at h1 h0
    have hk := isWd_k hs
    have t1 := tE_gt (G := G) (p := p) (by omega)
    have t2 := tS_ge G p
    obtain ⟨s1, s2, s3, s4, s5, s6, s7, s8, s9⟩ := id hR0
    have t3 := tE_le s7
    refine x_next hd s3 s2.2.1 t3 (fun N1 hF1 ht => ⟨ov_oK, ?_⟩)
    have e20' : N1.1 20 = 0 := ((hF0.tr hF1).1 20 (by simp)).trans e20
    have hW : wdsO (N1.1 20) = lwW := if_pos e20'
    have hR1 : R0 G N1 (tE G p) k out := ⟨(hF1.1 19 (by simp)).trans s1, ht, tpM_fx hF1 s3 (by simp), ⟨(hF1.1 23 (by simp)).trans s4.1, by rw [hF1.2.2.1 24 (by simp), hF1.2.2.1 25 (by simp)]; exact s4.2⟩, (hF1.1 26 (by simp)).trans s5, wdsG_fx hF1 s6 (by simp), t3, by omega, s9⟩
    have hL1 : LF M N1 := LF.tr hL0 (hF1.le (by simp) (by simp) (by simp) (by simp))
    refine x_tstE hd (wl := 9) (by rw [hW]; exact okW_law) hR1 (fun r a e N hF hN => ?_) (fun r e N hF hB => ?_)
    · rw [hW] at e
      have hL2 := LF.tr hL1 (PF.l hF)
      refine x_rl185 hd hn hN (fun N2 hF2 e2 => h1 r (some a) (by rw [e]; rfl) N2 (LF.tr hL2 (hF2.le (by simp) (by simp) (by simp) (by simp))) (R0_fx hF2 hN (by simp)) ?_ ?_ ?_)
      · exact ((hF2.1 21 (by simp)).trans (hF.1 21 (by simp))).trans ((hF0.tr hF1).1 21 (by simp))
      · exact ((hF2.1 20 (by simp)).trans (hF.1 20 (by simp))).trans e20'
      · rw [e2, hF.2.2.1 22 (by simp), hF1.2.2.1 22 (by simp), e22]
        rfl
    · rw [hW] at e
      exact x_rl185b hd hn (RB.o hB) (fun N2 hF2 hB2 => h0 r (by rw [e]; rfl) N2 (LF.tr (LF.tr hL1 (PF.l hF)) hF2) hB2)
  · rw [if_neg hs] at h1
    refine x_rl185 hd hn hR0 (fun N2 hF2 e2 => h1 (p, k) none rfl N2 (LF.tr hL0 (hF2.le (by simp) (by simp) (by simp) (by simp))) ?_ ((hF0.tr hF2).1 21 (by simp)) (((hF0.tr hF2).1 20 (by simp)).trans e20) ?_)
    · have : out ++ oR' none out.length = out := List.append_nil _
      rw [this]
      exact R0_fx hF2 hR0 (by simp)
    · have : out ++ oR' none out.length = out := List.append_nil _
      rw [this, e2, e22]
theorem x_rl75 (hd : mD o ad) {q : hS → Prop} {n head : Nat} {out : List (Nat × Nat)} {sm : oR} (hn : n < 12) (hh : head < 5) (hR : R0 G M p k out) (e20 : M.1 20 = 0) (e21 : M.1 21 = nI n) (es : sm = if head < 3 then opt (prS G lwW 8 p k) else ((p, k), some none))
    (h1 : ∀ r s r2 t, sm = (r, some s) → prIf G lwW r.1 r.2 = (r2, some t) → ∀ N, LF M N → R0 G N r2.1 r2.2 (out ++ (oR' s out.length ++ oR' t (out.length + (oR' s out.length).length))) → N.1 21 = nI (n + 1) → N.1 20 = 0 → lowM n M N → (N.2.2.1 22 (8 * n) = nI head ∧ N.2.2.1 22 (8 * n + 3) = nI out.length ∧ N.2.2.1 22 (8 * n + 4) = nI (out.length + (oR' s out.length).length) ∧ N.2.2.1 22 (8 * n + 5) = nI (out.length + (oR' s out.length).length) ∧ N.2.2.1 22 (8 * n + 6) = nI (out.length + (oR' s out.length ++ oR' t (out.length + (oR' s out.length).length)).length)) → q (ov S o ad N))
    (h0 : ∀ r, (sm = (r, none) ∨ ∃ r' s, sm = (r', some s) ∧ prIf G lwW r'.1 r'.2 = (r, none)) → ∀ N, LF M N → RBo G N r.1 → q (ov S o ad N)) : ∃ m, w_X12_readLaw_b75 q m (ov S o ad M) o (nI head) (nI (8 * n)) 0 := by
  refine loop_m (σ := mS × Nat) (fun m s => w_X12_readLaw_b75 q m (ov S o ad s.1) o (nI head) (nI (8 * n)) (nI s.2)) (fun s => Fx [] [] [22] [] M s.1 ∧ (∀ i, i < 8 * n → s.1.2.2.1 22 i = M.2.2.1 22 i) ∧ s.2 ≤ 8) (fun s => 8 - s.2) ?_ (M, 0) ⟨Fx.rf', fun _ _ => rfl, by omega⟩
  rintro m ⟨N, j⟩ ⟨hF, g1, g2⟩ ih
  dsimp only at hF g1 g2 ih ⊢
  rw [w_X12_readLaw_b75]
  rw [lit_nI 8, nI_leI (by omega) (by omega)]
  refine ⟨fun c1 => ?_, fun c1 => ?_⟩
  · have hRN := R0_fx hF hR (by simp)
    simp (disch := decide) only [oi_gI, oi_gJ, oi_gP, oi_pI, oi_pZ, oi_pJ, oi_oK, oi_aI hd, oi_aZ hd, oi_aJ hd, oi_sI hd, oi_sZ hd, oi_sJ hd, mI_1, mI_2, mJ_1, mJ_2, mJ_3, mA_1, mA_2, mA_3, mA_4, mL_1, mL_2, mL_3, mL_4, mK, Nat.reduceEqDiff, if_true, if_false, ite_true, ite_false, true_and, Nat.reduceLT, reduceIte, reduceCtorEq, cl_0, cl_1, cl_2, cl_3, cl_4, cl_5, cl_6, cl_7, cl_8, cl_9, cl_10, cl_11, cl_12, cl_13, cl_14, cl_15, vl_0_5585, vl_1_5585, vl_2_5585, vl_3_5585, vl_4_5585, vl_5_5585, vl_6_5585, vl_0_7, vl_1_7, vl_2_7, vl_3_7, vl_4_7, vl_5_7, vl_6_7]
    rw [show nI (8 * n) + 3 = nI (8 * n + 3) from nIadd _ _, hRN.2.2.2.1.1, (hF.1 21 (by simp)).trans e21, nI_1, nI_clamp (by omega), nI_clamp (by omega), lit_nI 3, nI_leI (by omega) (by omega)]
    refine ⟨vp_in_nI (by omega) (by omega), vp_in_nI (by omega) (by omega), ?_⟩
    have hF1 : Fx [21] [] [22] [] N (mA (mI (mA N 22 (upd (N.2.2.1 22) (8 * n) (nI head))) 21 (nI (n + 1))) 22 (upd (upd (N.2.2.1 22) (8 * n) (nI head)) (8 * n + 3) (nI out.length))) := (((Fx.a 22 _).tr (Fx.i 21 _)).tr (Fx.a 22 _)).le (by simp) (by simp) (by simp) (by simp)
    have e22 : (mA (mI (mA N 22 (upd (N.2.2.1 22) (8 * n) (nI head))) 21 (nI (n + 1))) 22 (upd (upd (N.2.2.1 22) (8 * n) (nI head)) (8 * n + 3) (nI out.length))).2.2.1 22 = upd (upd (N.2.2.1 22) (8 * n) (nI head)) (8 * n + 3) (nI out.length) := by simp [mA_3]
    have e21' : (mA (mI (mA N 22 (upd (N.2.2.1 22) (8 * n) (nI head))) 21 (nI (n + 1))) 22 (upd (upd (N.2.2.1 22) (8 * n) (nI head)) (8 * n + 3) (nI out.length))).1 21 = nI (n + 1) := by simp [mA_1, mI_1]
    generalize mA (mI (mA N 22 (upd (N.2.2.1 22) (8 * n) (nI head))) 21 (nI (n + 1))) 22 (upd (upd (N.2.2.1 22) (8 * n) (nI head)) (8 * n + 3) (nI out.length)) = P at hF1 e22 e21' ⊢
    have hFM := hF.tr hF1
    have hLP : LF M P := hFM.le (by simp) (by simp) (by simp) (by simp)
    have hRP := R0_fx hF1 hRN (by simp)
    have p20 : P.1 20 = 0 := (hFM.1 20 (by simp)).trans e20
    -- behind the sum
    have fin : ∀ r s Q, sm = (r, some s) → PF P Q → R0 G Q r.1 r.2 (out ++ oR' s out.length) → w_X12_readLaw_b135 q (ov S o ad Q) o (nI (8 * n)) := by
      intro r s Q hsm hPQ hRQ
      have q20 : Q.1 20 = 0 := (hPQ.1 20 (by simp)).trans p20
      have hLQ := LF.tr hLP (PF.l hPQ)
      have q22 : Q.2.2.1 22 = upd (upd (N.2.2.1 22) (8 * n) (nI head)) (8 * n + 3) (nI out.length) := (hPQ.2.2.1 22 (by simp)).trans e22
      have ll : (out ++ oR' s out.length).length = out.length + (oR' s out.length).length := List.length_append
      refine x_rl135 hd hn hRQ q20 (fun r2 t ht N2 hL2 hR2 a21 a20 a22 => ?_) (fun r2 ht N2 hL2 hB2 => h0 r2 (Or.inr ⟨r, s, hsm, ht⟩) N2 (LF.tr hLQ hL2) hB2)
      rw [ll, List.append_assoc] at hR2 a22
      refine h1 r s r2 t hsm ht N2 (LF.tr hLQ hL2) hR2 (a21.trans ((hPQ.1 21 (by simp)).trans e21')) a20 (fun i hi => ?_) ⟨?_, ?_, ?_, ?_, ?_⟩
      · rw [a22, upd_ne _ _ (by omega), upd_ne _ _ (by omega), upd_ne _ _ (by omega), q22, upd_ne _ _ (by omega), upd_ne _ _ (by omega)]
        exact g1 i hi
      · rw [a22, upd_ne _ _ (by omega), upd_ne _ _ (by omega), upd_ne _ _ (by omega), q22, upd_ne _ _ (by omega), upd_self]
      · rw [a22, upd_ne _ _ (by omega), upd_ne _ _ (by omega), upd_ne _ _ (by omega), q22, upd_self]
      · rw [a22, upd_ne _ _ (by omega), upd_ne _ _ (by omega), upd_self]
      · rw [a22, upd_ne _ _ (by omega), upd_self]
      · rw [a22, upd_self, List.length_append]
    refine ⟨fun c3 => ?_, fun c3 => ?_⟩
    · rw [if_neg (by omega)] at es
      refine fin (p, k) none P es Fx.rf' ?_
      have : out ++ oR' none out.length = out := List.append_nil _
      rw [this]
      exact hRP
    · rw [if_pos (by omega)] at es
      have hW : wdsO (P.1 20) = lwW := if_pos p20
      refine x_sumE hd (wl := 9) (by rw [hW]; exact okW_law) hRP (fun r a e Q hF2 hRQ => ?_) (fun r e Q hF2 hBQ => ?_)
      · rw [hW] at e
        exact fin r (some a) Q (by rw [es, e]; rfl) hF2 hRQ
      · rw [hW] at e
        exact x_rl135b hd hn (RB.o hBQ) (fun N2 hL2 hB2 => h0 r (Or.inl (by rw [es, e]; rfl)) N2 (LF.tr (LF.tr hLP (PF.l hF2)) hL2) hB2)
  · simp (disch := decide) only [oi_gI, oi_gJ, oi_gP, oi_pI, oi_pZ, oi_pJ, oi_oK, oi_aI hd, oi_aZ hd, oi_aJ hd, oi_sI hd, oi_sZ hd, oi_sJ hd, mI_1, mI_2, mJ_1, mJ_2, mJ_3, mA_1, mA_2, mA_3, mA_4, mL_1, mL_2, mL_3, mL_4, mK, Nat.reduceEqDiff, if_true, if_false, ite_true, ite_false, true_and, Nat.reduceLT, reduceIte, reduceCtorEq, cl_0, cl_1, cl_2, cl_3, cl_4, cl_5, cl_6, cl_7, cl_8, cl_9, cl_10, cl_11, cl_12, cl_13, cl_14, cl_15, vl_0_5585, vl_1_5585, vl_2_5585, vl_3_5585, vl_4_5585, vl_5_5585, vl_6_5585, vl_0_7, vl_1_7, vl_2_7, vl_3_7, vl_4_7, vl_5_7, vl_6_7]
    rw [nIadd, nI_clamp (by omega)]
    refine ⟨vp_in_nI (by omega) (by omega), fun y ey => ?_⟩
    rw [ey, nI_1]
    refine ih (_, j + 1) ⟨(hF.tr (Fx.a 22 _)).le (by simp) (by simp) (by simp) (by simp), fun i hi => ?_, by dsimp only; omega⟩ (by dsimp only; omega)
    simp only [mA_3, if_true, reduceIte]
    rw [upd_ne _ _ (by omega)]
    exact g1 i hi
theorem x_readLaw (hd : mD o ad) {q : hS → Prop} {cs : List pCl} (hR : R1 G M p k cs) (h1 : ∀ r c, prLaw G p k = (r, some c) → cs.length < 12 → ∀ N, LF M N → R1 G N r.1 r.2 (cs ++ [c]) → q (ov S o ad N)) (h0 : ∀ r, ((prLaw G p k = (r, none) ∧ cs.length < 12) ∨ (12 ≤ cs.length ∧ r = (p, k))) → ∀ N, LF M N → RBo G N r.1 → q (ov S o ad N)) : w_X12_readLaw q (ov S o ad M) o := by
  obtain ⟨hR0, e21, hn, hm, hh, e20⟩ := hR
  obtain ⟨s1, s2, s3, s4, s5, s6, s7, s8, s9⟩ := id hR0
  have hT := s3.2.1
  have hb := s3.2.2.2
  have t3 := tE_le s7
  have l5 : hdW.length = 5 := rfl
  have bad : ∀ head : Int32, (whW G hdW p = none ∨ 12 ≤ cs.length) → w_X12_readLaw_b54 q (ov S o ad M) o head 0 o := by
    intro head hc
    refine ⟨ov_oK, x_must hd s1 s3 s7 s2 (fun _ N hF h19 h18 => ?_) (fun z => absurd rfl z)⟩
    simp (disch := decide) only [oi_gI, oi_gJ, oi_gP, oi_pI, oi_pZ, oi_pJ, oi_oK, oi_aI hd, oi_aZ hd, oi_aJ hd, oi_sI hd, oi_sZ hd, oi_sJ hd, mI_1, mI_2, mJ_1, mJ_2, mJ_3, mA_1, mA_2, mA_3, mA_4, mL_1, mL_2, mL_3, mL_4, mK, Nat.reduceEqDiff, if_true, if_false, ite_true, ite_false, true_and, Nat.reduceLT, reduceIte, reduceCtorEq, cl_0, cl_1, cl_2, cl_3, cl_4, cl_5, cl_6, cl_7, cl_8, cl_9, cl_10, cl_11, cl_12, cl_13, cl_14, cl_15, vl_0_5585, vl_1_5585, vl_2_5585, vl_3_5585, vl_4_5585, vl_5_5585, vl_6_5585, vl_0_7, vl_1_7, vl_2_7, vl_3_7, vl_4_7, vl_5_7, vl_6_7]
    rw [h19]
    refine ⟨fun z => absurd z (by decide), fun _ => h0 (p, k) ?_ N (hF.le (by simp) (by simp) (by simp) (by simp)) ⟨h19, h18, tpM_fx hF s3 (by simp), wdsM_fx hF s6.1 (by simp)⟩⟩
    by_cases c12 : cs.length < 12
    · left
      rcases hc with e | e
      · unfold prLaw
        rw [e]
        exact ⟨rfl, c12⟩
      · omega
    · exact Or.inr ⟨by omega, rfl⟩
  have good : ∀ h, whW G hdW p = some h → h < 5 → tK G p = 1 → cs.length < 12 → w_X12_readLaw_b54 q (ov S o ad M) o (nI h) 1 o := by
    intro h hw h5 hk hlt
    have t1 := tE_gt (G := G) (p := p) (by omega)
    have t2 := tS_ge G p
    refine ⟨ov_oK, x_must hd s1 s3 s7 s2 (fun z => absurd z (by decide)) (fun _ N hF ht => ?_)⟩
    have n19 : N.1 19 = 0 := (hF.1 19 (by simp)).trans s1
    have n21 : N.1 21 = nI cs.length := (hF.1 21 (by simp)).trans e21
    have n20 : N.1 20 = 0 := (hF.1 20 (by simp)).trans e20
    simp (disch := decide) only [oi_gI, oi_gJ, oi_gP, oi_pI, oi_pZ, oi_pJ, oi_oK, oi_aI hd, oi_aZ hd, oi_aJ hd, oi_sI hd, oi_sZ hd, oi_sJ hd, mI_1, mI_2, mJ_1, mJ_2, mJ_3, mA_1, mA_2, mA_3, mA_4, mL_1, mL_2, mL_3, mL_4, mK, Nat.reduceEqDiff, if_true, if_false, ite_true, ite_false, true_and, Nat.reduceLT, reduceIte, reduceCtorEq, cl_0, cl_1, cl_2, cl_3, cl_4, cl_5, cl_6, cl_7, cl_8, cl_9, cl_10, cl_11, cl_12, cl_13, cl_14, cl_15, vl_0_5585, vl_1_5585, vl_2_5585, vl_3_5585, vl_4_5585, vl_5_5585, vl_6_5585, vl_0_7, vl_1_7, vl_2_7, vl_3_7, vl_4_7, vl_5_7, vl_6_7]
    rw [n19, n21]
    refine ⟨fun _ y ey => ?_, fun z => absurd rfl z⟩
    rw [ey, lit_nI 8, nImul]
    have hRN : R0 G N (tE G p) k (rAll cs 0) := ⟨n19, ht, tpM_fx hF s3 (by simp), ⟨(hF.1 23 (by simp)).trans s4.1, by rw [hF.2.2.1 24 (by simp), hF.2.2.1 25 (by simp)]; exact s4.2⟩, (hF.1 26 (by simp)).trans s5, wdsG_fx hF s6 (by simp), t3, by omega, s9⟩
    have hLN : LF M N := hF.le (by simp) (by simp) (by simp) (by simp)
    have eP : prLaw G p k = lwT G h (if h < 3 then opt (prS G lwW 8 (tE G p) k) else ((tE G p, k), some none)) := by
      unfold prLaw
      rw [hw]
    refine x_rl75 hd hlt h5 hRN n20 n21 rfl (fun r s r2 t hs ht P hLP hRP p21 p20 hlow hmk => ?_) (fun r hr P hLP hBP => ?_)
    · refine h1 r2 (h, s, t) ?_ hlt P (LF.tr hLN hLP) ⟨?_, ?_, ?_, ?_, hdM_fx (LF.tr hLN hLP) hh (by simp), p20⟩
      · rw [eP, hs, lwT, ht]
      · rw [rAll_app]
        dsimp only [rCl]
        rw [Nat.zero_add]
        exact hRP
      · rw [p21, List.length_append, List.length_singleton]
      · rw [List.length_append, List.length_singleton]; omega
      · intro j hj
        have lm : (rMk cs 0).length = cs.length := rMk_len cs 0
        rw [rMk_len, List.length_append, List.length_singleton] at hj
        have em := rMk_app cs (h, s, t) 0
        simp only [Nat.zero_add] at em
        by_cases c : j < cs.length
        · have e := hm j (by omega)
          have ej : (rMk (cs ++ [(h, s, t)]) 0)[j]'(by rw [rMk_len, List.length_append, List.length_singleton]; omega) = (rMk cs 0)[j]'(by omega) := by
            simp only [em]
            rw [List.getElem_append_left (by omega)]
          rw [ej, hlow _ (by omega), hlow _ (by omega), hlow _ (by omega), hlow _ (by omega), hlow _ (by omega), hF.2.2.1 22 (by simp)]
          exact e
        · have ecs : j = cs.length := by omega
          subst ecs
          have ej : (rMk (cs ++ [(h, s, t)]) 0)[cs.length]'(by rw [rMk_len, List.length_append, List.length_singleton]; omega) = (h, (rAll cs 0).length, (rAll cs 0).length + (oR' s (rAll cs 0).length).length, (rAll cs 0).length + (rCl (h, s, t) (rAll cs 0).length).length) := by
            simp only [em]
            rw [List.getElem_append_right (by omega)]
            simp [lm]
          rw [ej]
          exact hmk
    · refine h0 r (Or.inl ⟨?_, hlt⟩) P (LF.tr hLN hLP) hBP
      rw [eP]
      rcases hr with hr | ⟨r', s, hr, ht⟩
      · rw [hr]
        rfl
      · rw [hr, lwT, ht]
  refine loop_m (σ := Int32 × Nat) (fun m s => w_X12_readLaw_b4 q m (ov S o ad M) o s.1 (nI s.2)) (fun s => s.2 ≤ 5 ∧ ((s.1 = -1 ∧ ∀ k, (hk : k < hdW.length) → k < s.2 → ¬ isWd G p (hdW[k]).1 = true) ∨ ∃ k, ∃ hk : k < hdW.length, s.1 = nI k ∧ isWd G p (hdW[k]).1 = true)) (fun s => 5 - s.2) ?_ (-1, 0) ⟨by omega, Or.inl ⟨rfl, fun k _ hk => by dsimp only at hk; omega⟩⟩
  rintro m ⟨x, i⟩ ⟨g1, g2⟩ ih
  dsimp only at g1 g2 ih ⊢
  rw [w_X12_readLaw_b4]
  unfold w_X12_readLaw_b53 w_X12_readLaw_b27
  simp (disch := decide) only [oi_gI, oi_gJ, oi_gP, oi_pI, oi_pZ, oi_pJ, oi_oK, oi_aI hd, oi_aZ hd, oi_aJ hd, oi_sI hd, oi_sZ hd, oi_sJ hd, mI_1, mI_2, mJ_1, mJ_2, mJ_3, mA_1, mA_2, mA_3, mA_4, mL_1, mL_2, mL_3, mL_4, mK, Nat.reduceEqDiff, if_true, if_false, ite_true, ite_false, true_and, Nat.reduceLT, reduceIte, reduceCtorEq, cl_0, cl_1, cl_2, cl_3, cl_4, cl_5, cl_6, cl_7, cl_8, cl_9, cl_10, cl_11, cl_12, cl_13, cl_14, cl_15, vl_0_5585, vl_1_5585, vl_2_5585, vl_3_5585, vl_4_5585, vl_5_5585, vl_6_5585, vl_0_7, vl_1_7, vl_2_7, vl_3_7, vl_4_7, vl_5_7, vl_6_7]
  rw [e21, lit_nI 12, nI_leI (by omega) (by omega), lit_nI 5, nI_leI (by omega) (by omega), nI_clamp (by omega)]
  refine ⟨fun c5 => ?_, fun c5 => ⟨vp_in_nI (by omega) (by omega), x_isWord hd hb s2 (hd_ltr i (by omega)) (hh i (by omega)) (fun hs => ⟨fun z => absurd z (by decide), fun _ y ey => ?_⟩) (fun hs => ⟨fun _ y ey => ?_, fun z => absurd rfl z⟩)⟩⟩
  · rcases g2 with ⟨e, hno⟩ | ⟨j, hj, e, hs⟩
    · have hw := wh_none (W := hdW) (fun k hk => hno k hk (by omega))
      exact ⟨fun _ => bad x (Or.inl hw), fun z => absurd e z⟩
    · obtain ⟨w, w1, w2, w3⟩ := wh_some hj hs
      rw [hd_k j hj w w1 w2] at w3
      have nm : ¬ x = -1 := fun z => by
        have := congrArg Int32.toInt (e.symm.trans z)
        rw [nI_toInt (by omega), show (-1 : Int32).toInt = -1 by decide] at this
        omega
      refine ⟨fun z => absurd z nm, fun _ => ⟨fun c12 => bad x (Or.inr c12), fun c12 => ?_⟩⟩
      rw [e]
      exact good j w3 (by omega) (isWd_k hs) (by omega)
  · rw [ey, nI_1]
    exact ih (nI i, i + 1) ⟨by dsimp only; omega, Or.inr ⟨i, by omega, rfl, hs⟩⟩ (by dsimp only; omega)
  · rw [ey, nI_1]
    refine ih (x, i + 1) ⟨by dsimp only; omega, ?_⟩ (by dsimp only; omega)
    rcases g2 with ⟨e, hno⟩ | z
    · refine Or.inl ⟨e, fun k hk k1 => ?_⟩
      dsimp only at k1
      by_cases ek : k = i
      · subst ek; exact hs
      · exact hno k hk (by omega)
    · exact Or.inr z
end RL
