/-! THE REFERENCE'S TURNS AND EXPRESSIONS, EXACTLY -/
section RZ
variable {S : hS} {o : Nat} {ad : Nat → Nat} {M : mS} {G : pG} {out π : List (Nat × Nat)} {p k d : Nat}
theorem wL_not : (14836 : Int64) = jN (wL [110, 111, 116] : Nat) := by decide
theorem wL_and : (1476 : Int64) = jN (wL [97, 110, 100] : Nat) := by decide
theorem wL_or : (498 : Int64) = jN (wL [111, 114] : Nat) := by decide
theorem x_readPlain (hd : mD o ad) {q : Int32 → hS → Prop} {test : Bool} (hR : RS G M p k out π d) (h : RO G M (pmS G (wdsO (M.1 20)) test (0, p, k, out, π, d)) q S o ad) : w_X12_readPlain q (ov S o ad M) o := by
  obtain ⟨r1, r2, r3, r4, r5, r6, r7, r8, r9, r10, r11, r12⟩ := id hR
  have hT := r3.2.1
  have hb := r3.2.2.2
  unfold pmS at h
  dsimp only at h
  rw [if_pos rfl] at h
  refine ⟨ov_oK, x_isWord hd hb r2 (s := [110, 111, 116]) (by decide) wL_not (fun hs => ⟨fun z => absurd z (by decide), fun _ => ⟨ov_oK, ?_⟩⟩) (fun hs => ⟨fun _ => ⟨ov_oK, x_isSign hd hb r2 (c := 40) (by omega) (fun hs2 => ⟨fun z => absurd z (by decide), fun _ => ⟨ov_oK, ?_⟩⟩) (fun hs2 => ⟨fun _ => ⟨ov_oK, ?_⟩, fun z => absurd rfl z⟩)⟩, fun z => absurd rfl z⟩)⟩
  · rw [if_pos hs] at h
    have t1 := tE_gt (G := G) (p := p) (by rw [isWd_k hs]; omega)
    have t2 := tS_ge G p
    have t3 := tE_le r8
    refine f_push hd r4.2.2.1 (by omega) ⟨ov_oK, ?_⟩
    have hF := mP_fx (N := M) (p := π.length) (x := nI 28) (y := nI 0)
    refine x_next hd (p := tE G p) (tpM_fx hF r3 (by simp)) ((hF.1 15 (by simp)).trans r2.2.1) t3 (fun N hF2 ht => ?_)
    have hF3 := hF.tr hF2
    exact h N (hF3.le (by simp) (by simp) (by simp) (by simp)) ⟨(hF3.1 19 (by simp)).trans r1, ht, tpM_fx hF3 r3 (by simp), pR2_fx hF2 (pR2_push (x := (28, 0)) r4) (by simp), (hF3.1 30 (by simp)).trans r5, (hF3.1 26 (by simp)).trans r6, wdsG_fx hF3 r7 (by simp), t3, by dsimp only; rw [List.length_cons]; omega, r10, r11, jOk_push r12 (by dsimp only; omega) (fun z => by dsimp only at z; omega)⟩
  · rw [if_neg hs, if_pos hs2] at h
    have hk := (isSg_k hs2).1
    refine x_openBracket hd hR (by omega) (op := 31) (Or.inl rfl) (fun c N hF hN => ?_) (fun c N hF hB => ?_)
    · have h := h N hF
      rw [if_pos c] at h
      exact h hN
    · have h := h N hF
      rw [if_neg c] at h
      exact h hB _
  · rw [if_neg hs, if_neg hs2] at h
    exact x_readPart hd hR h
theorem stl_ne {L v : Nat} (hL : 1 ≤ L) : ∀ {π out : List (Nat × Nat)}, innr π = some v → ∃ x π', (stl L π out).1 = x :: π'
  | [], out, h => by cases h
  | x :: π, out, h => by
    rw [stl]
    by_cases c : L ≤ bnd x.1
    · rw [if_pos c]
      rw [innr] at h
      by_cases c2 : 31 ≤ x.1
      · rw [bnd_31 c2] at c
        omega
      · rw [if_neg c2] at h
        exact stl_ne hL h
    · rw [if_neg c]
      exact ⟨x, π, rfl⟩
/-- settle, take the bracket off -/
theorem x_shut (hd : mD o ad) {q : hS → Prop} {L v : Nat} (hL : 1 ≤ L ∧ L ≤ 6) (hR : RS G M p k out π d) (hi : innr π = some v) (h : ∀ N, Fx [23, 29, 30] [] [24, 25] [] M N → RS G N p k (stl L π out).2 (stl L π out).1.tail (d - 1) → q (ov S o ad N)) (hd1 : 1 ≤ d) : w_X12_settle (fun S => gI S o 12 29 (fun x => pI S o 12 29 (x - 1) (fun S => gI S o 12 30 (fun y => pI S o 12 30 (y - 1) (fun S => q S))))) (ov S o ad M) o (nI L) := by
  obtain ⟨r1, r2, r3, r4, r5, r6, r7, r8, r9, r10, r11, r12⟩ := id hR
  have hT := r3.2.1
  obtain ⟨x, π', ex⟩ := stl_ne (L := L) hL.1 (out := out) hi
  obtain ⟨s1, s2, s3, s4⟩ := stl_ok (L := L) r12
  refine x_settle hd r4 r12 (by omega) hL.2 (fun N hF hN => ?_)
  rw [ex] at hN s1 s2 s4 h
  rw [List.length_cons] at s2 s4
  obtain ⟨n1, n2, n3, n4⟩ := hN
  rw [List.length_cons] at n3
  simp (disch := decide) only [oi_gI, oi_gJ, oi_gP, oi_pI, oi_pZ, oi_pJ, oi_oK, oi_aI hd, oi_aZ hd, oi_aJ hd, oi_sI hd, oi_sZ hd, oi_sJ hd, mI_1, mI_2, mJ_1, mJ_2, mJ_3, mA_1, mA_2, mA_3, mA_4, mL_1, mL_2, mL_3, mL_4, mK, Nat.reduceEqDiff, if_true, if_false, ite_true, ite_false, true_and, Nat.reduceLT, reduceIte, reduceCtorEq, cl_0, cl_1, cl_2, cl_3, cl_4, cl_5, cl_6, cl_7, cl_8, cl_9, cl_10, cl_11, cl_12, cl_13, cl_14, cl_15, vl_0_5585, vl_1_5585, vl_2_5585, vl_3_5585, vl_4_5585, vl_5_5585, vl_6_5585, vl_0_7, vl_1_7, vl_2_7, vl_3_7, vl_4_7, vl_5_7, vl_6_7]
  rw [n3, nI_s1 (by omega), show π'.length + 1 - 1 = π'.length by omega, (hF.1 30 (by simp)).trans r5, nI_s1 hd1]
  have hF2 := (Fx.i (M := N) 29 (nI π'.length)).tr (Fx.i 30 (nI (d - 1)))
  have hF3 := hF.tr hF2
  exact h _ (hF3.le (by simp) (by simp) (by simp) (by simp)) ⟨(hF3.1 19 (by simp)).trans r1, tokAt_fx hF3 r2 (by simp), tpM_fx hF3 r3 (by simp), ⟨(hF2.1 23 (by simp)).trans n1, n2, by simp [mI_1], n4.2.2⟩, by simp [mI_1], (hF3.1 26 (by simp)).trans r6, wdsG_fx hF3 r7 (by simp), r8, by dsimp only [List.tail]; omega, r10, by omega, jOk_t s1⟩
theorem rOp_n (o : Nat) : nI (rOp o) = nI (o + 18) := rfl
/-- an operation: settle, push it, go on -/
theorem x_opr (hd : mD o ad) {q : hS → Prop} {L x : Nat} (hL : L ≤ 6) (hR : RS G M p k out π d) (hk : tK G p ≠ 0) (hx : 20 ≤ x ∧ x ≤ 28) (h : ∀ N, PF M N → RS G N (tE G p) k (stl L π out).2 ((x, 0) :: (stl L π out).1) d → q (ov S o ad N)) : w_X12_settle (fun S => oK S o 12 ∧ w_X12_push (fun S => oK S o 12 ∧ w_X12_next (fun S => q S) S o) S o (nI x) 0) (ov S o ad M) o (nI L) := by
  obtain ⟨r1, r2, r3, r4, r5, r6, r7, r8, r9, r10, r11, r12⟩ := id hR
  have hT := r3.2.1
  have t1 := tE_gt hk
  have t2 := tS_ge G p
  have t3 := tE_le r8
  obtain ⟨s1, s2, s3, s4⟩ := stl_ok (L := L) r12
  refine x_settle hd r4 r12 (by omega) hL (fun N hF hN => ⟨ov_oK, f_push hd hN.2.2.1 (by omega) ⟨ov_oK, ?_⟩⟩)
  have hF1 := mP_fx (N := N) (p := (stl L π out).1.length) (x := nI x) (y := nI 0)
  have hF2 := hF.tr hF1
  refine x_next hd (p := tE G p) (tpM_fx hF2 r3 (by simp)) ((hF2.1 15 (by simp)).trans r2.2.1) t3 (fun P hF3 ht => ?_)
  have hF4 := hF2.tr hF3
  exact h P (hF4.le (by simp) (by simp) (by simp) (by simp)) ⟨(hF4.1 19 (by simp)).trans r1, ht, tpM_fx hF4 r3 (by simp), pR2_fx hF3 (pR2_push (x := (x, 0)) hN) (by simp), (hF4.1 30 (by simp)).trans r5, (hF4.1 26 (by simp)).trans r6, wdsG_fx hF4 r7 (by simp), t3, by rw [List.length_cons]; omega, r10, r11, jOk_push s1 (by dsimp only; omega) (fun z => by dsimp only at z; omega)⟩
/-- must(is), then go on from there -/
theorem x_mst (hd : mD o ad) {q : hS → Prop} {v : Int32} (hR : RS G M p k out π d) (k0 : v = 0 → ∀ N, Fx [18, 19] [] [] [] M N → RB G N p → q (ov S o ad N)) (k1 : ¬ v = 0 → ∀ N, Fx [14, 15, 16] [17] [] [] M N → RS G N (tE G p) k out π d → q (ov S o ad N)) : w_X12_must q (ov S o ad M) o v := by
  obtain ⟨r1, r2, r3, r4, r5, r6, r7, r8, r9, r10, r11, r12⟩ := id hR
  have t1 : p ≤ tE G p := Nat.le_trans (tS_ge G p) (by
    by_cases c : tK G p = 0
    · rw [tE_0 c]; exact Nat.le_refl _
    · have := tE_gt c; omega)
  exact x_must hd r1 r3 r8 r2 (fun c N hF h19 h18 => k0 c N hF (RB_of hR hF h19 h18)) (fun c N hF ht => k1 c N hF ⟨(hF.1 19 (by simp)).trans r1, ht, tpM_fx hF r3 (by simp), pR2_fx hF r4 (by simp), (hF.1 30 (by simp)).trans r5, (hF.1 26 (by simp)).trans r6, wdsG_fx hF r7 (by simp), tE_le r8, by omega, r10, r11, r12⟩)
theorem bndV {n : Nat} (h : n ≤ 32) : bnV (nI n) = nI (bnd n) := bnV_n n (by omega)
theorem x_behindSum (hd : mD o ad) {q : Int32 → hS → Prop} {test : Bool} {v : Int32} (hv : v = 0 ↔ test = false) (hR : RS G M p k out π d) (hst : pmS G (wdsO (M.1 20)) test (3, p, k, out, π, d) ≠ .inl (3, p, k, out, π, d)) (h : RO G M (pmS G (wdsO (M.1 20)) test (3, p, k, out, π, d)) q S o ad) : w_X12_behindSum q (ov S o ad M) o v := by
  obtain ⟨r1, r2, r3, r4, r5, r6, r7, r8, r9, r10, r11, r12⟩ := id hR
  have hT := r3.2.1
  have hb := r3.2.2.2
  unfold pmS at h hst
  dsimp only at h hst
  rw [if_neg (by omega), if_neg (by omega), if_neg (by omega), if_pos rfl] at h hst
  -- an operation between
  have kop : ∀ x, arOp G p = some x → (2 ≤ x ∧ x < 7) → tK G p = 3 → w_X12_behindSum_b71 q (ov S o ad M) o v (nI (x + 18)) := by
    intro x hx hx2 hk
    rw [hx] at h
    dsimp only at h
    have ne : ¬ nI (x + 18) = -1 := fun z => by
      have := congrArg Int32.toInt z
      rw [nI_toInt (by omega), show (-1 : Int32).toInt = -1 by decide] at this
      omega
    refine ⟨fun z => absurd z ne, fun _ => s_binds ⟨ov_oK, ?_⟩⟩
    rw [bndV (by omega)]
    exact x_opr hd (bnd_6 _) hR (by omega) (by omega) (fun N hF hN => h N hF hN)
  have kno : (∀ c, (c = 43 ∨ c = 45 ∨ c = 42 ∨ c = 47 ∨ c = 37) → ¬ isSg G p c = true) → w_X12_behindSum_b71 q (ov S o ad M) o v (-1) := by
    intro hno
    have ha : arOp G p = none := by
      refine arOp_no ?_ ?_
      · unfold addOp
        rw [if_neg (hno 43 (by simp)), if_neg (hno 45 (by simp))]
      · unfold mulOp
        rw [if_neg (hno 42 (by simp)), if_neg (hno 47 (by simp)), if_neg (hno 37 (by simp))]
    rw [ha] at h hst
    dsimp only at h hst
    refine ⟨fun _ => ⟨ov_oK, x_inner hd r4 r12 (by omega) (fun r hr1 hr2 => ⟨fun c32 => ?_, fun c32 => ⟨ov_oK, ?_⟩⟩)⟩, fun z => absurd rfl z⟩
    · -- no square bracket
      rw [if_neg (fun z => c32 (hr2.mpr z))] at h hst
      have k163 : ¬ (innr π = none ∧ test = false) → w_X12_behindSum_b163 q (ov S o ad M) o := by
        intro hn
        rw [if_neg hn] at h
        refine ⟨ov_oK, x_isCompared hd r4 r12 (by omega) (fun hc => ⟨fun z => absurd z (by decide), fun _ => ?_⟩) (fun hc => ⟨fun _ => ?_, fun z => absurd rfl z⟩)⟩
        · rw [if_pos hc] at h
          exact h M Fx.rf' hR
        · rw [if_neg hc] at h
          have k224 : ∀ (x : Nat) (g : Int32), 20 ≤ x → x ≤ 28 → (g = 0 → cmpOp G p = none) → (¬ g = 0 → ∃ y, cmpOp G p = some y ∧ x = y + 18) → w_X12_behindSum_b224 q (ov S o ad M) o (nI x) g o := by
            intro x g hx1 hx2 hg0 hg1
            refine ⟨ov_oK, x_mst hd hR (fun c N hF hB => ?_) (fun c N hF hN => ?_)⟩
            · simp (disch := decide) only [oi_gI, oi_gJ, oi_gP, oi_pI, oi_pZ, oi_pJ, oi_oK, oi_aI hd, oi_aZ hd, oi_aJ hd, oi_sI hd, oi_sZ hd, oi_sJ hd, mI_1, mI_2, mJ_1, mJ_2, mJ_3, mA_1, mA_2, mA_3, mA_4, mL_1, mL_2, mL_3, mL_4, mK, Nat.reduceEqDiff, if_true, if_false, ite_true, ite_false, true_and, Nat.reduceLT, reduceIte, reduceCtorEq, cl_0, cl_1, cl_2, cl_3, cl_4, cl_5, cl_6, cl_7, cl_8, cl_9, cl_10, cl_11, cl_12, cl_13, cl_14, cl_15, vl_0_5585, vl_1_5585, vl_2_5585, vl_3_5585, vl_4_5585, vl_5_5585, vl_6_5585, vl_0_7, vl_1_7, vl_2_7, vl_3_7, vl_4_7, vl_5_7, vl_6_7]
              rw [hg0 c] at h
              refine ⟨fun _ => h N (hF.le (by simp) (by simp) (by simp) (by simp)) hB 1, fun z => absurd (z.symm.trans hB.1) (by decide)⟩
            · simp (disch := decide) only [oi_gI, oi_gJ, oi_gP, oi_pI, oi_pZ, oi_pJ, oi_oK, oi_aI hd, oi_aZ hd, oi_aJ hd, oi_sI hd, oi_sZ hd, oi_sJ hd, mI_1, mI_2, mJ_1, mJ_2, mJ_3, mA_1, mA_2, mA_3, mA_4, mL_1, mL_2, mL_3, mL_4, mK, Nat.reduceEqDiff, if_true, if_false, ite_true, ite_false, true_and, Nat.reduceLT, reduceIte, reduceCtorEq, cl_0, cl_1, cl_2, cl_3, cl_4, cl_5, cl_6, cl_7, cl_8, cl_9, cl_10, cl_11, cl_12, cl_13, cl_14, cl_15, vl_0_5585, vl_1_5585, vl_2_5585, vl_3_5585, vl_4_5585, vl_5_5585, vl_6_5585, vl_0_7, vl_1_7, vl_2_7, vl_3_7, vl_4_7, vl_5_7, vl_6_7]
              rw [hN.1]
              obtain ⟨y, hy, rfl⟩ := hg1 c
              rw [hy] at h
              dsimp only at h
              obtain ⟨s1, s2, s3, s4, s5, s6, s7, s8, s9, s10, s11, s12⟩ := id hN
              have hk := (cmpOp_k hy).1
              have t1 := tE_gt hk
              have t2 := tS_ge G p
              obtain ⟨u1, u2, u3, u4⟩ := stl_ok (L := 5) r12
              refine ⟨fun z => absurd rfl z, fun _ => x_settle hd s4 s12 (by omega) (L := 5) (by omega) (fun P hF2 hP => ⟨ov_oK, f_push hd hP.2.2.1 (by omega) ?_⟩)⟩
              have hF3 := hF2.tr (mP_fx (N := P) (p := (stl 5 π out).1.length) (x := nI (y + 18)) (y := nI 0))
              have hF4 := hF.tr hF3
              exact h _ (hF4.le (by simp) (by simp) (by simp) (by simp)) ⟨(hF3.1 19 (by simp)).trans s1, tokAt_fx hF3 s2 (by simp), tpM_fx hF3 s3 (by simp), pR2_push (x := (rOp y, 0)) hP, (hF3.1 30 (by simp)).trans s5, (hF3.1 26 (by simp)).trans s6, wdsG_fx hF3 s7 (by simp), s8, by dsimp only; rw [List.length_cons]; omega, s10, s11, jOk_push u1 (by unfold rOp; dsimp only; omega) (fun z => by unfold rOp at z; dsimp only at z; omega)⟩
          refine ⟨ov_oK, x_isSign hd hb r2 (c := 60) (by omega) (fun hs => ⟨fun z => absurd z (by decide), fun _ => ⟨fun _ => k224 25 1 (by omega) (by omega) (fun z => absurd z (by decide)) (fun _ => ⟨7, by unfold cmpOp; rw [if_pos hs], rfl⟩), fun z => absurd z (by decide)⟩⟩) (fun hs => ⟨fun _ => ⟨ov_oK, x_isSign hd hb r2 (c := 62) (by omega) (fun hs2 => ⟨fun z => absurd z (by decide), fun _ => ⟨fun _ => k224 26 1 (by omega) (by omega) (fun z => absurd z (by decide)) (fun _ => ⟨8, by unfold cmpOp; rw [if_neg hs, if_pos hs2], rfl⟩), fun z => absurd z (by decide)⟩⟩) (fun hs2 => ⟨fun _ => ⟨fun z => absurd rfl z, fun _ => ⟨ov_oK, x_isSign hd hb r2 (c := 61) (by omega) (fun hs3 => ⟨fun z => absurd z (by decide), fun _ => k224 27 1 (by omega) (by omega) (fun z => absurd z (by decide)) (fun _ => ⟨9, by unfold cmpOp; rw [if_neg hs, if_neg hs2, if_pos hs3], rfl⟩)⟩) (fun hs3 => ⟨fun _ => k224 27 0 (by omega) (by omega) (fun _ => by unfold cmpOp; rw [if_neg hs, if_neg hs2, if_neg hs3]) (fun z => absurd rfl z), fun z => absurd rfl z⟩)⟩⟩, fun z => absurd rfl z⟩)⟩, fun z => absurd rfl z⟩)⟩
      refine ⟨fun c1 => k163 (fun z => c1 (hr1.mpr z.1)), fun c1 => ⟨fun c2 => k163 (fun z => c2 (hv.mpr z.2)), fun c2 => ?_⟩⟩
      rw [if_pos ⟨hr1.mp c1, hv.mp c2⟩] at h
      exact h M Fx.rf' hR
    · -- a square bracket
      have i32' := hr2.mp c32
      rw [if_pos i32'] at h hst
      refine x_isSign hd hb r2 (c := 93) (by omega) (fun hs => ⟨ov_oK, x_mst hd hR (fun z => absurd z (by decide)) (fun _ N hF hN => ?_)⟩) (fun hs => ⟨ov_oK, x_mst hd hR (fun _ N hF hB => ?_) (fun z => absurd rfl z)⟩)
      · rw [if_pos hs] at h hst
        have hd1 : 1 ≤ d := by
          refine Classical.byContradiction (fun z => ?_)
          rw [if_neg z] at hst
          exact hst rfl
        rw [if_pos hd1] at h
        simp (disch := decide) only [oi_gI, oi_gJ, oi_gP, oi_pI, oi_pZ, oi_pJ, oi_oK, oi_aI hd, oi_aZ hd, oi_aJ hd, oi_sI hd, oi_sZ hd, oi_sJ hd, mI_1, mI_2, mJ_1, mJ_2, mJ_3, mA_1, mA_2, mA_3, mA_4, mL_1, mL_2, mL_3, mL_4, mK, Nat.reduceEqDiff, if_true, if_false, ite_true, ite_false, true_and, Nat.reduceLT, reduceIte, reduceCtorEq, cl_0, cl_1, cl_2, cl_3, cl_4, cl_5, cl_6, cl_7, cl_8, cl_9, cl_10, cl_11, cl_12, cl_13, cl_14, cl_15, vl_0_5585, vl_1_5585, vl_2_5585, vl_3_5585, vl_4_5585, vl_5_5585, vl_6_5585, vl_0_7, vl_1_7, vl_2_7, vl_3_7, vl_4_7, vl_5_7, vl_6_7]
        rw [hN.1]
        refine ⟨fun z => absurd rfl z, fun _ => x_shut hd (L := 5) (by omega) hN i32' (fun P hF2 hP => ?_) hd1⟩
        exact h P ((hF.tr hF2).le (by simp) (by simp) (by simp) (by simp)) hP
      · rw [if_neg hs] at h
        simp (disch := decide) only [oi_gI, oi_gJ, oi_gP, oi_pI, oi_pZ, oi_pJ, oi_oK, oi_aI hd, oi_aZ hd, oi_aJ hd, oi_sI hd, oi_sZ hd, oi_sJ hd, mI_1, mI_2, mJ_1, mJ_2, mJ_3, mA_1, mA_2, mA_3, mA_4, mL_1, mL_2, mL_3, mL_4, mK, Nat.reduceEqDiff, if_true, if_false, ite_true, ite_false, true_and, Nat.reduceLT, reduceIte, reduceCtorEq, cl_0, cl_1, cl_2, cl_3, cl_4, cl_5, cl_6, cl_7, cl_8, cl_9, cl_10, cl_11, cl_12, cl_13, cl_14, cl_15, vl_0_5585, vl_1_5585, vl_2_5585, vl_3_5585, vl_4_5585, vl_5_5585, vl_6_5585, vl_0_7, vl_1_7, vl_2_7, vl_3_7, vl_4_7, vl_5_7, vl_6_7]
        exact ⟨fun _ => h N (hF.le (by simp) (by simp) (by simp) (by simp)) hB 3, fun z => absurd (z.symm.trans hB.1) (by decide)⟩
  have sgk : ∀ {c}, isSg G p c = true → tK G p = 3 := fun z => (isSg_k z).1
  refine ⟨ov_oK, x_isSign hd hb r2 (c := 43) (by omega) (fun h1 => ⟨fun z => absurd z (by decide), fun _ => kop 2 (by unfold arOp addOp; rw [if_pos h1]) (by omega) (sgk h1)⟩) (fun h1 => ⟨fun _ => ⟨ov_oK, x_isSign hd hb r2 (c := 45) (by omega) (fun h2 => ⟨fun z => absurd z (by decide), fun _ => kop 3 (by unfold arOp addOp; rw [if_neg h1, if_pos h2]) (by omega) (sgk h2)⟩) (fun h2 => ⟨fun _ => ⟨ov_oK, x_isSign hd hb r2 (c := 42) (by omega) (fun h3 => ⟨fun z => absurd z (by decide), fun _ => kop 4 (by unfold arOp addOp mulOp; rw [if_neg h1, if_neg h2, if_pos h3]) (by omega) (sgk h3)⟩) (fun h3 => ⟨fun _ => ⟨ov_oK, x_isSign hd hb r2 (c := 47) (by omega) (fun h4 => ⟨fun z => absurd z (by decide), fun _ => kop 5 (by unfold arOp addOp mulOp; rw [if_neg h1, if_neg h2, if_neg h3, if_pos h4]) (by omega) (sgk h4)⟩) (fun h4 => ⟨fun _ => ⟨ov_oK, x_isSign hd hb r2 (c := 37) (by omega) (fun h5 => ⟨fun z => absurd z (by decide), fun _ => kop 6 (by unfold arOp addOp mulOp; rw [if_neg h1, if_neg h2, if_neg h3, if_neg h4, if_pos h5]) (by omega) (sgk h5)⟩) (fun h5 => ⟨fun _ => kno (fun c hc => ?_), fun z => absurd rfl z⟩)⟩, fun z => absurd rfl z⟩)⟩, fun z => absurd rfl z⟩)⟩, fun z => absurd rfl z⟩)⟩, fun z => absurd rfl z⟩)⟩
  rcases hc with rfl | rfl | rfl | rfl | rfl
  · exact h1
  · exact h2
  · exact h3
  · exact h4
  · exact h5
end RZ
