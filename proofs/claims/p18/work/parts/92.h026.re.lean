/-! THE REFERENCE'S EXPRESSIONS, EXACTLY -/
section RE
variable {S : hS} {o : Nat} {ad : Nat → Nat} {M : mS} {G : pG} {out π : List (Nat × Nat)} {p k d : Nat}
theorem x_behindTest (hd : mD o ad) {q : Int32 → hS → Prop} {test : Bool} (hR : RS G M p k out π d) (hst : pmS G (wdsO (M.1 20)) test (2, p, k, out, π, d) ≠ .inl (2, p, k, out, π, d)) (h : RO G M (pmS G (wdsO (M.1 20)) test (2, p, k, out, π, d)) q S o ad) : w_X12_behindTest q (ov S o ad M) o := by
  obtain ⟨r1, r2, r3, r4, r5, r6, r7, r8, r9, r10, r11, r12⟩ := id hR
  have hT := r3.2.1
  have hb := r3.2.2.2
  have t3 := tE_le r8
  unfold pmS at h hst
  dsimp only at h hst
  rw [if_neg (by omega), if_neg (by omega), if_pos rfl] at h hst
  -- "and", "or"
  have k32 : ∀ (s L : Nat) (v : Int32), s < 2 → L = 2 - s → ((v = 0 → s = 1) ∧ (¬ v = 0 → s = 0)) → jOp G p = some s → tK G p = 1 → tS G p + 2 ≤ tE G p → w_X12_behindTest_b32 q (ov S o ad M) o v (nI L) o := by
    rintro s _ v hs rfl hv hj hk h2
    rw [hj] at h
    dsimp only at h
    obtain ⟨u1, u2, u3, u4⟩ := stl_ok (L := 2 - s) r12
    have t2 := tS_ge G p
    refine ⟨ov_oK, x_settle hd r4 r12 (by omega) (by omega) (fun N hF hN => ?_)⟩
    have k66 : w_X12_behindTest_b66 q (ov S o ad (mP N (stl (2 - s) π out).1.length (nI (29 + s)) (nI (stl (2 - s) π out).2.length))) o (nI (29 + s)) o := by
      have hF1 := mP_fx (N := N) (p := (stl (2 - s) π out).1.length) (x := nI (29 + s)) (y := nI (stl (2 - s) π out).2.length)
      have hP := pR2_push (x := (29 + s, (stl (2 - s) π out).2.length)) hN
      refine ⟨ov_oK, f_emit hd (c := (stl (2 - s) π out).2.length) hP.1 (by omega) ⟨ov_oK, ?_⟩⟩
      have hF2 := hF1.tr (mE_fx (N := mP N (stl (2 - s) π out).1.length (nI (29 + s)) (nI (stl (2 - s) π out).2.length)) (c := (stl (2 - s) π out).2.length) (x := nI (29 + s)) (y := nI 0))
      have hF3 := hF.tr hF2
      refine x_next hd (p := tE G p) (tpM_fx hF3 r3 (by simp)) ((hF3.1 15 (by simp)).trans r2.2.1) t3 (fun P hF4 ht => ?_)
      have hF5 := hF3.tr hF4
      refine h P (hF5.le (by simp) (by simp) (by simp) (by simp)) ⟨(hF5.1 19 (by simp)).trans r1, ht, tpM_fx hF5 r3 (by simp), pR2_fx hF4 (pR2_emit (x := (29 + s, 0)) hP) (by simp), (hF5.1 30 (by simp)).trans r5, (hF5.1 26 (by simp)).trans r6, wdsG_fx hF5 r7 (by simp), t3, ?_, r10, r11, ?_⟩
      · dsimp only
        rw [List.length_cons, List.length_append, List.length_singleton]
        omega
      · refine jOk_push (jOk_app u1) (by dsimp only; omega) (fun _ => ⟨by dsimp only; rw [List.length_append, List.length_singleton]; omega, ?_⟩)
        simp
    have k47 : ∀ x : Int32, x = nI (29 + s) → w_X12_behindTest_b47 q (ov S o ad N) o v x o := by
      rintro _ rfl
      unfold w_X12_behindTest_b47
      simp (disch := decide) only [oi_gI, oi_gJ, oi_gP, oi_pI, oi_pZ, oi_pJ, oi_oK, oi_aI hd, oi_aZ hd, oi_aJ hd, oi_sI hd, oi_sZ hd, oi_sJ hd, mI_1, mI_2, mJ_1, mJ_2, mJ_3, mA_1, mA_2, mA_3, mA_4, mL_1, mL_2, mL_3, mL_4, mK, Nat.reduceEqDiff, if_true, if_false, ite_true, ite_false, true_and, Nat.reduceLT, reduceIte, reduceCtorEq, cl_0, cl_1, cl_2, cl_3, cl_4, cl_5, cl_6, cl_7, cl_8, cl_9, cl_10, cl_11, cl_12, cl_13, cl_14, cl_15, vl_0_5585, vl_1_5585, vl_2_5585, vl_3_5585, vl_4_5585, vl_5_5585, vl_6_5585, vl_0_7, vl_1_7, vl_2_7, vl_3_7, vl_4_7, vl_5_7, vl_6_7]
      rw [hN.1]
      refine f_push hd hN.2.2.1 (by omega) ⟨fun z => ?_, fun z => ?_⟩
      · have e := hv.1 z
        subst e
        exact k66
      · have e := hv.2 z
        subst e
        exact k66
    refine ⟨fun z => k47 _ ?_, fun z => k47 _ ?_⟩
    · rw [hv.1 z]; rfl
    · rw [hv.2 z]; rfl
  have two : ∀ {a b : Nat}, isWd G p [a, b] = true → tS G p + 2 ≤ tE G p := by
    intro a b z
    unfold isWd at z
    have := (of_decide_eq_true z).2.1
    have e : [a, b].length = 2 := rfl
    omega
  have three : ∀ {a b c : Nat}, isWd G p [a, b, c] = true → tS G p + 2 ≤ tE G p := by
    intro a b c z
    unfold isWd at z
    have := (of_decide_eq_true z).2.1
    have e : [a, b, c].length = 3 := rfl
    omega
  refine ⟨ov_oK, x_isWord hd hb r2 (s := [97, 110, 100]) (by decide) wL_and (fun hs => ⟨fun _ => ⟨fun z => absurd z (by decide), fun _ => ?_⟩, fun z => absurd z (by decide)⟩) (fun hs => ⟨fun z => absurd rfl z, fun _ => ⟨ov_oK, x_isWord hd hb r2 (s := [111, 114]) (by decide) wL_or (fun hs2 => ⟨fun z => absurd z (by decide), fun _ => ⟨fun _ => ?_, fun z => absurd rfl z⟩⟩) (fun hs2 => ⟨fun _ => ⟨ov_oK, ?_⟩, fun z => absurd rfl z⟩)⟩⟩)⟩
  · exact k32 0 2 1 (by omega) rfl ⟨fun z => absurd z (by decide), fun _ => rfl⟩ (by unfold jOp andOp; rw [if_pos hs]) (isWd_k hs) (three hs)
  · exact k32 1 1 0 (by omega) rfl ⟨fun _ => rfl, fun z => absurd rfl z⟩ (by unfold jOp andOp orOp; rw [if_neg hs]; dsimp only; rw [if_pos hs2]) (isWd_k hs2) (two hs2)
  · have hj : jOp G p = none := jOp_no (by unfold andOp; rw [if_neg hs]) (by unfold orOp; rw [if_neg hs2])
    rw [hj] at h hst
    dsimp only at h hst
    refine x_inner hd r4 r12 (by omega) (fun r hr1 hr2 => ⟨fun c => ⟨ov_oK, ?_⟩, fun c => ?_⟩)
    · rw [if_neg (fun z => c (hr1.mpr z))] at h hst
      refine x_isSign hd hb r2 (c := 41) (by omega) (fun hs3 => ⟨ov_oK, x_mst hd hR (fun z => absurd z (by decide)) (fun _ N hF hN => ?_)⟩) (fun hs3 => ⟨ov_oK, x_mst hd hR (fun _ N hF hB => ?_) (fun z => absurd rfl z)⟩)
      · rw [if_pos hs3] at h hst
        have hd1 : 1 ≤ d := by
          refine Classical.byContradiction (fun z => ?_)
          rw [if_neg z] at hst
          exact hst rfl
        rw [if_pos hd1] at h
        obtain ⟨v, hv⟩ : ∃ v, innr π = some v := by
          cases e : innr π with
          | none => exact absurd (hr1.mpr e) c
          | some v => exact ⟨v, rfl⟩
        simp (disch := decide) only [oi_gI, oi_gJ, oi_gP, oi_pI, oi_pZ, oi_pJ, oi_oK, oi_aI hd, oi_aZ hd, oi_aJ hd, oi_sI hd, oi_sZ hd, oi_sJ hd, mI_1, mI_2, mJ_1, mJ_2, mJ_3, mA_1, mA_2, mA_3, mA_4, mL_1, mL_2, mL_3, mL_4, mK, Nat.reduceEqDiff, if_true, if_false, ite_true, ite_false, true_and, Nat.reduceLT, reduceIte, reduceCtorEq, cl_0, cl_1, cl_2, cl_3, cl_4, cl_5, cl_6, cl_7, cl_8, cl_9, cl_10, cl_11, cl_12, cl_13, cl_14, cl_15, vl_0_5585, vl_1_5585, vl_2_5585, vl_3_5585, vl_4_5585, vl_5_5585, vl_6_5585, vl_0_7, vl_1_7, vl_2_7, vl_3_7, vl_4_7, vl_5_7, vl_6_7]
        rw [hN.1]
        refine ⟨fun z => absurd rfl z, fun _ => x_shut hd (L := 1) (by omega) hN hv (fun P hF2 hP => ?_) hd1⟩
        exact h P ((hF.tr hF2).le (by simp) (by simp) (by simp) (by simp)) hP
      · rw [if_neg hs3] at h
        simp (disch := decide) only [oi_gI, oi_gJ, oi_gP, oi_pI, oi_pZ, oi_pJ, oi_oK, oi_aI hd, oi_aZ hd, oi_aJ hd, oi_sI hd, oi_sZ hd, oi_sJ hd, mI_1, mI_2, mJ_1, mJ_2, mJ_3, mA_1, mA_2, mA_3, mA_4, mL_1, mL_2, mL_3, mL_4, mK, Nat.reduceEqDiff, if_true, if_false, ite_true, ite_false, true_and, Nat.reduceLT, reduceIte, reduceCtorEq, cl_0, cl_1, cl_2, cl_3, cl_4, cl_5, cl_6, cl_7, cl_8, cl_9, cl_10, cl_11, cl_12, cl_13, cl_14, cl_15, vl_0_5585, vl_1_5585, vl_2_5585, vl_3_5585, vl_4_5585, vl_5_5585, vl_6_5585, vl_0_7, vl_1_7, vl_2_7, vl_3_7, vl_4_7, vl_5_7, vl_6_7]
        exact ⟨fun _ => h N (hF.le (by simp) (by simp) (by simp) (by simp)) hB 2, fun z => absurd (z.symm.trans hB.1) (by decide)⟩
    · rw [if_pos (hr1.mp c)] at h
      exact h M Fx.rf' hR
theorem pmS_turn {W : List (List Nat × Nat × Nat × Option Nat)} {test : Bool} {s s' : pM} (h : pmS G W test s = .inl s') (h4 : s.1 ≤ 4) : s'.1 ≤ 4 := by
  have pt : ∀ p k out π d, ptS G W p k out π d = .inl s' → s'.1 ≤ 4 := by
    intro p k out π d h
    unfold ptS at h
    split at h
    · split at h
      · cases h; dsimp only; omega
      · cases h
    · split at h
      · cases h
      · split at h
        · cases h; dsimp only; omega
        · split at h
          · cases h
          · split at h
            · cases h; dsimp only; omega
            · split at h
              · cases h; dsimp only; omega
              · cases h
  unfold pmS at h
  split at h
  · split at h
    · cases h; dsimp only; omega
    · split at h
      · split at h
        · cases h; dsimp only; omega
        · cases h
      · exact pt _ _ _ _ _ h
  · split at h
    · exact pt _ _ _ _ _ h
    · split at h
      · split at h
        · cases h; dsimp only; omega
        · split at h
          · cases h; dsimp only; omega
          · split at h
            · split at h
              · cases h; dsimp only; omega
              · cases h; exact h4
            · cases h
      · split at h
        · split at h
          · cases h; dsimp only; omega
          · split at h
            · split at h
              · split at h
                · cases h; dsimp only; omega
                · cases h; exact h4
              · cases h
            · split at h
              · cases h; dsimp only; omega
              · split at h
                · cases h; dsimp only; omega
                · split at h
                  · cases h; dsimp only; omega
                  · cases h
        · cases h; exact h4
theorem pmS_4 {W : List (List Nat × Nat × Nat × Option Nat)} {test : Bool} {x : Nat × Nat × List (Nat × Nat) × List (Nat × Nat) × Nat} : pmS G W test (4, x) = .inl (4, x) := by
  unfold pmS
  rw [if_neg (by dsimp only; omega), if_neg (by dsimp only; omega), if_neg (by dsimp only; omega), if_neg (by dsimp only; omega)]
theorem rnn_fix {W : List (List Nat × Nat × Nat × Option Nat)} {test : Bool} {s : pM} (h : pmS G W test s = .inl s) : ∀ n, rnn G W test n s = .inl s
  | 0 => rfl
  | n + 1 => by
    rw [rnn, h]
    exact rnn_fix h n
/-- the loop of the turns -/
theorem x_turns (hd : mD o ad) {q : hS → Prop} {test : Bool} {v : Int32} {W : List (List Nat × Nat × Nat × Option Nat)} (hv : v = 0 ↔ test = false) : ∀ (n : Nat) (s : pM) (M : mS), wdsO (M.1 20) = W → s.1 ≤ 4 → RS G M s.2.1 s.2.2.1 s.2.2.2.1 s.2.2.2.2.1 s.2.2.2.2.2 → ((∃ x, rnn G W test n s = .inl (4, x) ∧ ∀ N, PF M N → RS G N x.1 x.2.1 x.2.2.1 x.2.2.2.1 x.2.2.2.2 → w_X12_readExpression_b76 q (ov S o ad N) o) ∨ ∃ f, rnn G W test n s = .inr f ∧ ∀ N, PF M N → RB G N f → w_X12_readExpression_b76 q (ov S o ad N) o) → w_X12_readExpression_b20 q (n + 1) (ov S o ad M) o v (nI s.1) := by
  intro n
  induction n with
  | zero =>
    rintro ⟨t, p, k, out, π, d⟩ M eW h4 hR hc
    rw [w_X12_readExpression_b20]
    simp (disch := decide) only [oi_gI, oi_gJ, oi_gP, oi_pI, oi_pZ, oi_pJ, oi_oK, oi_aI hd, oi_aZ hd, oi_aJ hd, oi_sI hd, oi_sZ hd, oi_sJ hd, mI_1, mI_2, mJ_1, mJ_2, mJ_3, mA_1, mA_2, mA_3, mA_4, mL_1, mL_2, mL_3, mL_4, mK, Nat.reduceEqDiff, if_true, if_false, ite_true, ite_false, true_and, Nat.reduceLT, reduceIte, reduceCtorEq, cl_0, cl_1, cl_2, cl_3, cl_4, cl_5, cl_6, cl_7, cl_8, cl_9, cl_10, cl_11, cl_12, cl_13, cl_14, cl_15, vl_0_5585, vl_1_5585, vl_2_5585, vl_3_5585, vl_4_5585, vl_5_5585, vl_6_5585, vl_0_7, vl_1_7, vl_2_7, vl_3_7, vl_4_7, vl_5_7, vl_6_7]
    rcases hc with ⟨x, hx, h⟩ | ⟨f, hf, h⟩
    · rw [rnn] at hx
      cases hx
      rw [hR.1]
      exact ⟨fun z => absurd rfl z, fun _ => ⟨fun _ => h M Fx.rf' hR, fun z => absurd rfl z⟩⟩
    · rw [rnn] at hf
      cases hf
  | succ n ih =>
    rintro ⟨t, p, k, out, π, d⟩ M eW h4 hR hc
    dsimp only at h4 hR
    rw [w_X12_readExpression_b20]
    simp (disch := decide) only [oi_gI, oi_gJ, oi_gP, oi_pI, oi_pZ, oi_pJ, oi_oK, oi_aI hd, oi_aZ hd, oi_aJ hd, oi_sI hd, oi_sZ hd, oi_sJ hd, mI_1, mI_2, mJ_1, mJ_2, mJ_3, mA_1, mA_2, mA_3, mA_4, mL_1, mL_2, mL_3, mL_4, mK, Nat.reduceEqDiff, if_true, if_false, ite_true, ite_false, true_and, Nat.reduceLT, reduceIte, reduceCtorEq, cl_0, cl_1, cl_2, cl_3, cl_4, cl_5, cl_6, cl_7, cl_8, cl_9, cl_10, cl_11, cl_12, cl_13, cl_14, cl_15, vl_0_5585, vl_1_5585, vl_2_5585, vl_3_5585, vl_4_5585, vl_5_5585, vl_6_5585, vl_0_7, vl_1_7, vl_2_7, vl_3_7, vl_4_7, vl_5_7, vl_6_7]
    have n0 : nI t = 0 ↔ t = 0 := by rw [show (0 : Int32) = nI 0 from rfl, nI_eq (by omega) (by omega)]
    rw [hR.1, n0, lit_nI 4, nI_eq (by omega) (by omega), lit_nI 1, nI_eq (by omega) (by omega), lit_nI 3, nI_eq (by omega) (by omega)]
    refine ⟨fun z => absurd rfl z, fun _ => ⟨fun c => ?_, fun c => ?_⟩⟩
    · subst c
      rcases hc with ⟨x, hx, h⟩ | ⟨f, hf, h⟩
      · rw [rnn_fix pmS_4] at hx
        cases hx
        exact h M Fx.rf' hR
      · rw [rnn_fix pmS_4] at hf
        cases hf
    · have hst : pmS G W test (t, p, k, out, π, d) ≠ .inl (t, p, k, out, π, d) := by
        intro e
        rcases hc with ⟨x, hx, h⟩ | ⟨f, hf, h⟩
        · rw [rnn_fix e] at hx
          cases hx
          exact c rfl
        · rw [rnn_fix e] at hf
          cases hf
      have go : RO G M (pmS G W test (t, p, k, out, π, d)) (fun r S => w_X12_readExpression_b72 q (fun S v0 v1 v2 => w_X12_readExpression_b20 q (n + 1) S v0 v1 v2) S o v r) S o ad := by
        intro N hF
        have n20 : N.1 20 = M.1 20 := hF.1 20 (by simp)
        rw [rnn] at hc
        cases e : pmS G W test (t, p, k, out, π, d) with
        | inl s' =>
          intro hN
          refine ih s' N (by rw [n20]; exact eW) (pmS_turn e h4) hN ?_
          rw [e] at hc
          rcases hc with ⟨x, hx, h⟩ | ⟨f, hf, h⟩
          · exact Or.inl ⟨x, hx, fun P hF2 hP => h P (PF.tr hF hF2) hP⟩
          · exact Or.inr ⟨f, hf, fun P hF2 hP => h P (PF.tr hF hF2) hP⟩
        | inr f =>
          intro hB r
          show w_X12_readExpression_b20 q (n + 1) (ov S o ad N) o v r
          rw [w_X12_readExpression_b20]
          simp (disch := decide) only [oi_gI, oi_gJ, oi_gP, oi_pI, oi_pZ, oi_pJ, oi_oK, oi_aI hd, oi_aZ hd, oi_aJ hd, oi_sI hd, oi_sZ hd, oi_sJ hd, mI_1, mI_2, mJ_1, mJ_2, mJ_3, mA_1, mA_2, mA_3, mA_4, mL_1, mL_2, mL_3, mL_4, mK, Nat.reduceEqDiff, if_true, if_false, ite_true, ite_false, true_and, Nat.reduceLT, reduceIte, reduceCtorEq, cl_0, cl_1, cl_2, cl_3, cl_4, cl_5, cl_6, cl_7, cl_8, cl_9, cl_10, cl_11, cl_12, cl_13, cl_14, cl_15, vl_0_5585, vl_1_5585, vl_2_5585, vl_3_5585, vl_4_5585, vl_5_5585, vl_6_5585, vl_0_7, vl_1_7, vl_2_7, vl_3_7, vl_4_7, vl_5_7, vl_6_7]
          rw [hB.1]
          refine ⟨fun _ => ?_, fun z => absurd z (by decide)⟩
          rw [e] at hc
          rcases hc with ⟨x, hx, h⟩ | ⟨f', hf, h⟩
          · cases hx
          · cases hf
            exact h N hF hB
      subst eW
      refine ⟨fun c0 => ⟨fun c1 => ⟨fun c3 => ?_, fun c3 => ?_⟩, fun c1 => ?_⟩, fun c0 => ?_⟩
      · have : t = 2 := by omega
        subst this
        exact x_behindTest hd hR hst go
      · subst c3
        exact x_behindSum hd hv hR hst go
      · subst c1
        exact x_readPart hd hR (by
          have e : pmS G (wdsO (M.1 20)) test (1, p, k, out, π, d) = ptS G (wdsO (M.1 20)) p k out π d := by
            unfold pmS
            dsimp only
            rw [if_neg (by omega), if_pos rfl]
          rw [e] at go
          exact go)
      · subst c0
        exact x_readPlain hd hR go
/-- between expressions: what stands in M -/
def R0 (G : pG) (M : mS) (p k : Nat) (out : List (Nat × Nat)) : Prop := M.1 19 = 0 ∧ tokAt G p M ∧ tpM G M ∧ (M.1 23 = nI out.length ∧ outAt out (M.2.2.1 24) (M.2.2.1 25)) ∧ M.1 26 = nI k ∧ wdsG M ∧ p ≤ G.2 ∧ out.length ≤ p ∧ k ≤ 50
theorem x_exp (hd : mD o ad) {q : hS → Prop} {test : Bool} {v t : Int32} {fn : Nat → Nat → pR} (hv : (v = 0 ↔ test = false) ∧ (test = false → t = 1) ∧ (test = true → t = 0)) (hR : R0 G M p k out) (hx : (∀ r, fn p k = (r, none) → Rb G (wdsO (M.1 20)) test (if test = true then 0 else 1, p, k, out, [], 0) r.1) ∧ ∀ r a, fn p k = (r, some a) → ∃ out' δ, Rc G (wdsO (M.1 20)) test (if test = true then 0 else 1, p, k, out, [], 0) (4, r.1, r.2, out', δ, 0) ∧ stl 1 δ out' = ([], out ++ a.2.1 out.length)) (h1 : ∀ r a, fn p k = (r, some a) → ∀ N, PF M N → R0 G N r.1 r.2 (out ++ a.2.1 out.length) → q (ov S o ad N)) (h0 : ∀ r, fn p k = (r, none) → ∀ N, PF M N → RB G N r.1 → q (ov S o ad N)) : w_X12_readExpression q (ov S o ad M) o v := by
  obtain ⟨r1, r2, r3, r4, r5, r6, r7, r8, r9⟩ := hR
  have hF0 : Fx [29, 30] [] [] [] M (mI (mI M 29 0) 30 0) := ((Fx.i 29 0).tr (Fx.i 30 0)).le (by simp) (by simp) (by simp) (by simp)
  have hP0 : PF M (mI (mI M 29 0) 30 0) := hF0.le (by simp) (by simp) (by simp) (by simp)
  have hS : RS G (mI (mI M 29 0) 30 0) p k out [] 0 := ⟨(hF0.1 19 (by simp)).trans r1, tokAt_fx hF0 r2 (by simp), tpM_fx hF0 r3 (by simp), ⟨(hF0.1 23 (by simp)).trans r4.1, r4.2, by simp [mI_1]; rfl, trivial⟩, by simp [mI_1]; rfl, (hF0.1 26 (by simp)).trans r5, wdsG_fx hF0 r6 (by simp), r7, r8, r9, by omega, fun x hx => by cases hx⟩
  have t0 : nI (if test = true then 0 else 1) = t := by
    cases test
    · rw [hv.2.1 rfl]; rfl
    · rw [hv.2.2 rfl]; rfl
  have main : w_X12_readExpression_b19 q (ov S o ad (mI (mI M 29 0) 30 0)) o v t := by
    have e20 : (mI (mI M 29 0) 30 0).1 20 = M.1 20 := hF0.1 20 (by simp)
    cases e : fn p k with
    | mk r a =>
      cases a with
      | none =>
        obtain ⟨n, hn⟩ := hx.1 r e
        refine ⟨n + 1, ?_⟩
        rw [← t0]
        refine x_turns hd hv.1 n (if test = true then 0 else 1, p, k, out, [], 0) _ (by rw [e20]) (by dsimp only; split <;> omega) hS (Or.inr ⟨r.1, hn, fun N hF hB => ⟨ov_oK, ?_⟩⟩)
        obtain ⟨b1, b2, b3, b4, out2, π2, b5, b6, b7⟩ := hB
        obtain ⟨u1, u2, u3, u4⟩ := stl_ok (L := 1) b6
        exact x_settle hd b5 b6 b7 (L := 1) (by omega) (fun P hF2 hP => h0 r e P (PF.tr (PF.tr hP0 hF) (hF2.le (by simp) (by simp) (by simp) (by simp))) ⟨(hF2.1 19 (by simp)).trans b1, (hF2.1 18 (by simp)).trans b2, tpM_fx hF2 b3 (by simp), wdsM_fx hF2 b4 (by simp), _, _, hP, u1, by omega⟩)
      | some a =>
        obtain ⟨out', δ, ⟨n, hn⟩, hs⟩ := hx.2 r a e
        refine ⟨n + 1, ?_⟩
        rw [← t0]
        refine x_turns hd hv.1 n (if test = true then 0 else 1, p, k, out, [], 0) _ (by rw [e20]) (by dsimp only; split <;> omega) hS (Or.inl ⟨(r.1, r.2, out', δ, 0), hn, fun N hF hN => ⟨ov_oK, ?_⟩⟩)
        obtain ⟨s1, s2, s3, s4, s5, s6, s7, s8, s9, s10, s11, s12⟩ := hN
        have hT := s3.2.1
        obtain ⟨u1, u2, u3, u4⟩ := stl_ok (L := 1) s12
        refine x_settle hd s4 s12 (by dsimp only at s8 s9 ⊢; omega) (L := 1) (by omega) (fun P hF2 hP => h1 r a e P (PF.tr (PF.tr hP0 hF) (hF2.le (by simp) (by simp) (by simp) (by simp))) ?_)
        dsimp only at hP u2 s9
        rw [hs] at hP u2
        exact ⟨(hF2.1 19 (by simp)).trans s1, tokAt_fx hF2 s2 (by simp), tpM_fx hF2 s3 (by simp), ⟨hP.1, hP.2.1⟩, (hF2.1 26 (by simp)).trans s6, wdsG_fx hF2 s7 (by simp), s8, by dsimp only at u2; omega, s10⟩
  unfold w_X12_readExpression
  simp (disch := decide) only [oi_gI, oi_gJ, oi_gP, oi_pI, oi_pZ, oi_pJ, oi_oK, oi_aI hd, oi_aZ hd, oi_aJ hd, oi_sI hd, oi_sZ hd, oi_sJ hd, mI_1, mI_2, mJ_1, mJ_2, mJ_3, mA_1, mA_2, mA_3, mA_4, mL_1, mL_2, mL_3, mL_4, mK, Nat.reduceEqDiff, if_true, if_false, ite_true, ite_false, true_and, Nat.reduceLT, reduceIte, reduceCtorEq, cl_0, cl_1, cl_2, cl_3, cl_4, cl_5, cl_6, cl_7, cl_8, cl_9, cl_10, cl_11, cl_12, cl_13, cl_14, cl_15, vl_0_5585, vl_1_5585, vl_2_5585, vl_3_5585, vl_4_5585, vl_5_5585, vl_6_5585, vl_0_7, vl_1_7, vl_2_7, vl_3_7, vl_4_7, vl_5_7, vl_6_7]
  refine ⟨fun c => ?_, fun c => ?_⟩
  · have e := hv.2.1 (hv.1.mp c)
    subst e
    exact main
  · have : test = true := by
      cases test
      · exact absurd (hv.1.mpr rfl) c
      · rfl
    have e := hv.2.2 this
    subst e
    exact main
theorem x_sumE (hd : mD o ad) {q : hS → Prop} {wl : Nat} (hW : okW (wdsO (M.1 20)) wl) (hR : R0 G M p k out) (h1 : ∀ r a, prS G (wdsO (M.1 20)) 8 p k = (r, some a) → ∀ N, PF M N → R0 G N r.1 r.2 (out ++ a.2.1 out.length) → q (ov S o ad N)) (h0 : ∀ r, prS G (wdsO (M.1 20)) 8 p k = (r, none) → ∀ N, PF M N → RB G N r.1 → q (ov S o ad N)) : w_X12_readExpression q (ov S o ad M) o 0 :=
  x_exp hd (test := false) (t := 1) ⟨by simp, fun _ => rfl, fun z => by cases z⟩ hR (x_sum hR.2.2.1.2.1 hW) h1 h0
theorem x_tstE (hd : mD o ad) {q : hS → Prop} {wl : Nat} (hW : okW (wdsO (M.1 20)) wl) (hR : R0 G M p k out) (h1 : ∀ r a, prT G (wdsO (M.1 20)) 8 p k = (r, some a) → ∀ N, PF M N → R0 G N r.1 r.2 (out ++ a.2.1 out.length) → q (ov S o ad N)) (h0 : ∀ r, prT G (wdsO (M.1 20)) 8 p k = (r, none) → ∀ N, PF M N → RB G N r.1 → q (ov S o ad N)) : w_X12_readExpression q (ov S o ad M) o 1 :=
  x_exp hd (test := true) (t := 0) ⟨⟨fun z => absurd z (by decide), fun z => by cases z⟩, (fun z => by cases z), fun _ => rfl⟩ hR (x_tst hR.2.2.1.2.1 hW) h1 h0
end RE
