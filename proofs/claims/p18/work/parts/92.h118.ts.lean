/-! THE REFERENCE'S SETTERS, EXACTLY: TOOLS; HOUSES, PEOPLE -/
section TS
variable {S : hS} {o : Nat} {ad : Nat → Nat} {M N : mS} {mT : mS} {T T' : aS} {rs : Nat} {us : uL} {f g : Nat → Int32}
theorem mI_slf (k : Nat) : mI M k (M.1 k) = M := by
  obtain ⟨a, b⟩ := M
  simp only [mI, Prod.mk.injEq, and_true]
  funext j
  by_cases h : j = k
  · subst h; simp
  · simp [h]
theorem r_ref (hd : mD o ad) (hM : mOk mT M) (hR : RR M rs T) {q : Int32 → hS → Prop} {v : Nat} {x : Int32} (hv : 1 ≤ v ∧ v ≤ 6) (ex : x.toInt = -(v : Int)) (h : ∀ N, mOk mT N → RR N rs (spRef v T).2 → q (spRef v T).1 (ov S o ad N)) : w_X12_tell q (ov S o ad M) o x := by
  have e : spTell (-(v : Int)) T = spRef v T := by
    unfold spTell
    rw [if_pos (by omega), show (-(-(v : Int))).toNat = v by omega]
  exact r_tell hd hM hR ex (by omega) (by rw [e]; exact h)
theorem r_acc (hd : mD o ad) (hM : mOk mT M) (hR : RR M rs T) {q : Int32 → hS → Prop} {x : Int32} (h0 : 0 ≤ x.toInt) (h : ∀ N, mOk mT N → RR N rs (spAcc x T).2 → q (spAcc x T).1 (ov S o ad N)) : w_X12_tell q (ov S o ad M) o x := by
  have e : spTell x.toInt T = spAcc x T := by
    unfold spTell
    rw [if_neg (by omega), ← wI_of (x := x) rfl]
  exact r_tell hd hM hR rfl (by omega) (by rw [e]; exact h)
theorem r_settled (hd : mD o ad) (hM : mOk mT M) (hR : RR (mI M 8 0) rs T) {q : Int32 → hS → Prop} {x : Int32} (h0 : 0 ≤ x.toInt) (h : ∀ N, mOk mT N → RR N rs (spAcc x T).2 → q (spAcc x T).1 (ov S o ad N)) : w_X12_settled q (ov S o ad M) o x := by
  have z0 : (0 : Int32).toInt = 0 := by decide
  have c : 0 ≤ x := by rw [Int32.le_iff_toInt_le, z0]; exact h0
  refine ⟨fun _ => ?_, fun z => absurd c z⟩
  unfold w_X12_settled_b13
  simp (disch := decide) only [oi_gI, oi_gJ, oi_gP, oi_pI, oi_pZ, oi_pJ, oi_oK, oi_aI hd, oi_aZ hd, oi_aJ hd, oi_sI hd, oi_sZ hd, oi_sJ hd, mI_1, mI_2, mJ_1, mJ_2, mJ_3, mA_1, mA_2, mA_3, mA_4, mL_1, mL_2, mL_3, mL_4, mK, Nat.reduceEqDiff, if_true, if_false, ite_true, ite_false, true_and, Nat.reduceLT, reduceIte, reduceCtorEq]
  exact r_acc hd (mOk_u0 hM) hR h0 h
theorem r_settledN (hd : mD o ad) (hM : mOk mT M) (hR : RR M rs T) {q : Int32 → hS → Prop} {v : Nat} {x : Int32} (hv : 1 ≤ v ∧ v ≤ 6) (ex : x.toInt = -(v : Int)) (h : ∀ N, mOk mT N → RR N rs (spRef v T).2 → q (spRef v T).1 (ov S o ad N)) : w_X12_settled q (ov S o ad M) o x := by
  have z0 : (0 : Int32).toInt = 0 := by decide
  have c : ¬ 0 ≤ x := by rw [Int32.le_iff_toInt_le, z0]; omega
  refine ⟨fun z => absurd z c, fun _ => ?_⟩
  unfold w_X12_settled_b13
  simp (disch := decide) only [oi_gI, oi_gJ, oi_gP, oi_pI, oi_pZ, oi_pJ, oi_oK, oi_aI hd, oi_aZ hd, oi_aJ hd, oi_sI hd, oi_sZ hd, oi_sJ hd, mI_1, mI_2, mJ_1, mJ_2, mJ_3, mA_1, mA_2, mA_3, mA_4, mL_1, mL_2, mL_3, mL_4, mK, Nat.reduceEqDiff, if_true, if_false, ite_true, ite_false, true_and, Nat.reduceLT, reduceIte, reduceCtorEq]
  rw [mI_slf]
  exact r_ref hd hM hR hv ex h
theorem RR.st {x : Int32} (h : RR M rs T) : RR (mI M 1 0) rs (spAcc x T).2 := by
  obtain ⟨h1, h2, h3, h4, h5, h6, h7, h8, h9⟩ := h
  refine ⟨?_, ?_, ?_, ?_, ?_, ?_, ?_, ?_, ?_⟩
  · exact h1
  · exact h2
  · exact h3
  · exact h4
  · refine ⟨h5.1, h5.2.1, ?_⟩
    show (0 : Int32) = upd T.2.2.2.2.1 2 0 2
    rw [upd_self]
  · exact h6
  · exact h7
  · exact h8
  · exact h9
theorem r_change (hd : mD o ad) {q : Int32 → hS → Prop} {a : Nat} {v : Int32} (ha : a < 185) (hM : mOk mT (mA M 3 (upd (M.2.2.1 3) a v))) (hR : RR (mA M 3 (upd (M.2.2.1 3) a v)) rs T) (h : ∀ N, mOk mT N → RR N rs (spAcc (M.2.2.1 3 a) T).2 → q (M.2.2.1 3 a) (ov S o ad N)) : w_X12_change q (ov S o ad M) o (nI a) v :=
  s_change hd (by omega) (h _ (mOk_i hM (by omega)) hR.st)
/-- another row below the laws -/
theorem RR.tn (h : RR M rs T) (hc : cut f = g) (hr : ∀ i, 185 ≤ i → f i = M.2.2.1 3 i) (h3 : g 3 = T.1.1 3) (h67 : g 6 = T.1.1 6 ∧ g 7 = T.1.1 7) : RR (mA M 3 f) rs (aTn g T) := by
  have fa : ∀ i, i < 185 → f i = g i := fun i hi => by rw [← hc, cut_lt hi]
  have e3 : (f 3).toInt = (M.2.2.1 3 3).toInt := by rw [fa 3 (by omega), h3, h.at (by omega)]
  have e6 := h.at (i := 6) (by omega)
  have e7 := h.at (i := 7) (by omega)
  obtain ⟨h1, h2, h3', h4, h5, h6, h7, h8, h9⟩ := h
  refine ⟨⟨?_, ?_⟩, ?_, ⟨?_, ?_⟩, ?_, ?_, ?_, ?_, ?_, ?_⟩
  · exact hc
  · exact lawG_cg hr e3 h1.2
  · exact h2
  · exact h3'.1
  · refine undU_cg (u := M.2.2.1 6) (s := M.2.2.1 7) (f := M.2.2.1 3) (fun j _ => rfl) (fun k _ => rfl) ⟨?_, ?_⟩ h3'.2
    · show f 6 = _
      rw [fa 6 (by omega), h67.1, e6]
    · show f 7 = _
      rw [fa 7 (by omega), h67.2, e7]
  · exact h4
  · exact h5
  · exact h6
  · exact h7
  · exact h8
  · exact h9
theorem undU_0 {u s f : Nat → Int32} : undU u s f [] := ⟨Nat.zero_le _, fun k hk => absurd hk (Nat.not_lt_zero _)⟩
theorem RR.cl (h : RR M rs T) : RR (mI M 8 0) rs (aCl T) := by
  obtain ⟨h1, h2, h3', h4, h5, h6, h7, h8, h9⟩ := h
  exact ⟨h1, h2, ⟨rfl, undU_0⟩, h4, h5, h6, h7, h8, h9⟩
theorem RR.tc (h : RR M rs T) (hc : cut f = g) (hr : ∀ i, 185 ≤ i → f i = M.2.2.1 3 i) (h3 : g 3 = T.1.1 3) : RR (mI (mA M 3 f) 8 0) rs (aCl (aTn g T)) := by
  have fa : ∀ i, i < 185 → f i = g i := fun i hi => by rw [← hc, cut_lt hi]
  have e3 : (f 3).toInt = (M.2.2.1 3 3).toInt := by rw [fa 3 (by omega), h3, h.at (by omega)]
  obtain ⟨h1, h2, h3', h4, h5, h6, h7, h8, h9⟩ := h
  exact ⟨⟨hc, lawG_cg hr e3 h1.2⟩, h2, ⟨rfl, undU_0⟩, h4, h5, h6, h7, h8, h9⟩
theorem RRnH (h : RR M rs T) (hA : aB T) : M.2.2.1 3 0 = nI (nHR T.1.1) := by
  have := hA.hi
  apply Int32.toInt_inj.mp
  have e : (M.2.2.1 3 0).toInt = iR T.1.1 0 := h.iR (by omega)
  unfold nHR
  rw [nI_toInt (by omega), e]; omega
theorem RRnP (h : RR M rs T) (hA : aB T) : M.2.2.1 3 1 = nI (nPR T.1.1) := by
  have := hA.hi
  apply Int32.toInt_inj.mp
  have e : (M.2.2.1 3 1).toInt = iR T.1.1 1 := h.iR (by omega)
  unfold nPR
  rw [nI_toInt (by omega), e]; omega
theorem xr_house (hd : mD o ad) (hM : mOk M M) (hR : RR M rs T) (hA : aB T) {q : Int32 → hS → Prop} {a b : Int32} (h : ∀ N, mOk N N → RR N rs (spHouse a b T).2 → q (spHouse a b T).1 (ov S o ad N)) : w_X12_house q (ov S o ad M) o a b := by
  have hM0 : mOk M (mI M 0 0) := mOk_i hM (by omega)
  have hR0 := hR.z (x := 0)
  have no : ¬ (inB a 0 24 ∧ inB b 0 99) → ∀ N, mOk M N → RR N rs (spRef 1 T).2 → q (spRef 1 T).1 (ov S o ad N) := fun c N hN hRN => by
    have e : spHouse a b T = spRef 1 T := by unfold spHouse; rw [if_pos c]
    rw [e] at h
    exact h N (mOk_self hN) hRN
  have bb := hA.hi
  unfold w_X12_house
  simp (disch := decide) only [oi_gI, oi_gJ, oi_gP, oi_pI, oi_pZ, oi_pJ, oi_oK, oi_aI hd, oi_aZ hd, oi_aJ hd, oi_sI hd, oi_sZ hd, oi_sJ hd, mI_1, mI_2, mJ_1, mJ_2, mJ_3, mA_1, mA_2, mA_3, mA_4, mL_1, mL_2, mL_3, mL_4, mK, Nat.reduceEqDiff, if_true, if_false, ite_true, ite_false, true_and, Nat.reduceLT, reduceIte, reduceCtorEq, cl_0, cl_1, cl_2, cl_3, cl_4, cl_5, cl_6, cl_7, cl_8, cl_9, cl_10, cl_11, cl_12, cl_13, cl_14, cl_15, vl_0_5585, vl_1_5585, vl_2_5585, vl_3_5585, vl_4_5585, vl_5_5585, vl_6_5585, vl_0_7, vl_1_7, vl_2_7, vl_3_7, vl_4_7, vl_5_7, vl_6_7]
  refine s_isPlaceI (fun a1 a2 => ⟨fun z => absurd z (by decide), fun _ => s_inI 0 99 (by decide) (by decide) (fun b1 b2 => ⟨fun _ => ?_, fun z => absurd z (by decide)⟩) (fun nb => ⟨fun z => absurd rfl z, fun _ => ⟨ov_oK, r_ref hd hM0 hR0 (v := 1) (by omega) (by decide) (no (fun z => nb z.2))⟩⟩)⟩) (fun na => ⟨fun _ => ⟨ov_oK, r_ref hd hM0 hR0 (v := 1) (by omega) (by decide) (no (fun z => na z.1))⟩, fun z => absurd rfl z⟩)
  have hr : inB a 0 24 ∧ inB b 0 99 := And.intro (And.intro a1 a2) (And.intro b1 b2)
  simp (disch := decide) only [oi_gI, oi_gJ, oi_gP, oi_pI, oi_pZ, oi_pJ, oi_oK, oi_aI hd, oi_aZ hd, oi_aJ hd, oi_sI hd, oi_sZ hd, oi_sJ hd, mI_1, mI_2, mJ_1, mJ_2, mJ_3, mA_1, mA_2, mA_3, mA_4, mL_1, mL_2, mL_3, mL_4, mK, Nat.reduceEqDiff, if_true, if_false, ite_true, ite_false, true_and, Nat.reduceLT, reduceIte, reduceCtorEq, cl_0, cl_1, cl_2, cl_3, cl_4, cl_5, cl_6, cl_7, cl_8, cl_9, cl_10, cl_11, cl_12, cl_13, cl_14, cl_15, vl_0_5585, vl_1_5585, vl_2_5585, vl_3_5585, vl_4_5585, vl_5_5585, vl_6_5585, vl_0_7, vl_1_7, vl_2_7, vl_3_7, vl_4_7, vl_5_7, vl_6_7]
  obtain ⟨n, hnn⟩ : ∃ n, nHR T.1.1 = n := ⟨_, rfl⟩
  have hn : n ≤ 6 := by rw [← hnn]; unfold nHR; omega
  have en : M.2.2.1 3 0 = nI n := by rw [RRnH hR hA, hnn]
  have i0 : iR T.1.1 0 = n := by rw [← hnn]; unfold nHR; omega
  rw [en]
  refine ⟨fun c => ?_, fun c => r_ref hd hM0 hR0 (v := 5) (by omega) (by decide) (fun N hN hRN => ?_)⟩
  · have hn6 : n < 6 := by
      have : n ≠ 6 := fun e => c (by rw [e]; rfl)
      omega
    have es : spHouse a b T = spAcc (nI n) (aTn (hsR T.1.1 n a b) (aCl T)) := by
      unfold spHouse
      rw [if_neg (fun z => z hr), if_pos (by omega), hnn]
    rw [es] at h
    simp (disch := decide) only [oi_gI, oi_gJ, oi_gP, oi_pI, oi_pZ, oi_pJ, oi_oK, oi_aI hd, oi_aZ hd, oi_aJ hd, oi_sI hd, oi_sZ hd, oi_sJ hd, mI_1, mI_2, mJ_1, mJ_2, mJ_3, mA_1, mA_2, mA_3, mA_4, mL_1, mL_2, mL_3, mL_4, mK, Nat.reduceEqDiff, if_true, if_false, ite_true, ite_false, true_and, Nat.reduceLT, reduceIte, reduceCtorEq, cl_0, cl_1, cl_2, cl_3, cl_4, cl_5, cl_6, cl_7, cl_8, cl_9, cl_10, cl_11, cl_12, cl_13, cl_14, cl_15, vl_0_5585, vl_1_5585, vl_2_5585, vl_3_5585, vl_4_5585, vl_5_5585, vl_6_5585, vl_0_7, vl_1_7, vl_2_7, vl_3_7, vl_4_7, vl_5_7, vl_6_7, mA_mA]
    rw [lit_nI 126, lit_nI 132, lit_nI 8, nIadd, nIadd, nIadd, nI_clamp (by omega), nI_clamp (by omega), nI_clamp (by omega)]
    refine ⟨vp_in_nI (by omega) (by omega), vp_in_nI (by omega) (by omega), vp_in_nI (by omega) (by omega), ?_⟩
    have hf : rowOk (M.2.2.1 3) (upd (upd (upd (M.2.2.1 3) (126 + n) a) (132 + n) b) (8 + n) 0) := rowOk_free (by unfold rCon; omega) (rowOk_free (by unfold rCon; omega) (rowOk_free (by unfold rCon; omega) hM.1))
    obtain ⟨f0, ef⟩ : ∃ f0, upd (upd (upd (M.2.2.1 3) (126 + n) a) (132 + n) b) (8 + n) 0 = f0 := ⟨_, rfl⟩
    rw [ef] at hf ⊢
    have h0 : ∀ m, hsL f0 n m 0 = nI n := fun m => by
      unfold hsL
      rw [if_neg (by omega), ← ef, upd_ne _ _ (by omega), upd_ne _ _ (by omega), upd_ne _ _ (by omega)]
      exact en
    refine loop_m (σ := (Nat → Int32) × Nat) (fun t s => w_X12_house_b84 q t (ov S o ad (mA (mI M 0 0) 3 s.1)) o (nI n) (nI s.2)) (fun s => s.2 ≤ 8 ∧ rowOk (M.2.2.1 3) s.1 ∧ s.1 = hsL f0 n s.2) (fun s => 8 - s.2) ?_ (f0, 0) ⟨Nat.zero_le _, hf, ?_⟩
    · rintro t ⟨f, i⟩ ⟨hi, hf, hL⟩ ih
      dsimp only at hi hf hL ih ⊢
      rw [w_X12_house_b84]
      refine ⟨fun c => ?_, fun c => ?_⟩
      · simp (disch := decide) only [oi_gI, oi_gJ, oi_gP, oi_pI, oi_pZ, oi_pJ, oi_oK, oi_aI hd, oi_aZ hd, oi_aJ hd, oi_sI hd, oi_sZ hd, oi_sJ hd, mI_1, mI_2, mJ_1, mJ_2, mJ_3, mA_1, mA_2, mA_3, mA_4, mL_1, mL_2, mL_3, mL_4, mK, Nat.reduceEqDiff, if_true, if_false, ite_true, ite_false, true_and, Nat.reduceLT, reduceIte, reduceCtorEq, cl_0, cl_1, cl_2, cl_3, cl_4, cl_5, cl_6, cl_7, cl_8, cl_9, cl_10, cl_11, cl_12, cl_13, cl_14, cl_15, vl_0_5585, vl_1_5585, vl_2_5585, vl_3_5585, vl_4_5585, vl_5_5585, vl_6_5585, vl_0_7, vl_1_7, vl_2_7, vl_3_7, vl_4_7, vl_5_7, vl_6_7, mA_mA]
        have c8 : i = 8 := by
          rw [lit_nI 8, nI_leI (by omega) (by omega)] at c
          omega
        have h0' : f 0 = nI n := by rw [hL]; exact h0 i
        rw [h0', nI_1]
        have hcut : cut (upd f 0 (nI (n + 1))) = hsR T.1.1 n a b := by
          rw [cut_upd (by omega), hL, c8]
          have c0 : ∀ j, cut (hsL f0 n 8) j = if 30 ≤ j ∧ j < 126 ∧ j % 6 = n then 0 else if j = 8 + n then 0 else if j = 132 + n then b else if j = 126 + n then a else T.1.1 j := by
            intro j
            have e1 : T.1.1 j = cut (M.2.2.1 3) j := by rw [hR.1.1]
            rw [e1, ← ef]
            unfold cut hsL upd
            by_cases cj : j < 185
            · rw [if_pos cj, if_pos cj]
              by_cases d1 : 30 ≤ j ∧ j < 126 ∧ j % 6 = n
              · rw [if_pos (by omega), if_pos d1]
              · rw [if_neg (by omega), if_neg d1]
            · rw [if_neg cj, if_neg cj, if_neg (by omega), if_neg (by omega), if_neg (by omega), if_neg (by omega)]
          funext j
          unfold hsR upd
          rw [c0]
          by_cases d0 : j = 0
          · rw [if_pos d0, if_pos d0]
          · rw [if_neg d0, if_neg d0]
            by_cases d1 : 30 ≤ j ∧ j < 126 ∧ j % 6 = n
            · rw [if_pos d1, if_neg (by omega), if_neg (by omega), if_neg (by omega), if_pos d1]
            · rw [if_neg d1, if_neg d1]
              by_cases d2 : j = 8 + n
              · rw [if_pos d2, if_neg (by omega), if_neg (by omega), if_pos d2]
              · rw [if_neg d2, if_neg d2]
                by_cases d3 : j = 132 + n
                · rw [if_pos d3, if_neg (by omega), if_pos d3]
                · rw [if_neg d3, if_neg d3]
        have hhi : ∀ i, 185 ≤ i → upd f 0 (nI (n + 1)) i = M.2.2.1 3 i := fun i hi => by
          rw [upd_ne _ _ (by omega), hL]
          unfold hsL
          rw [if_neg (by omega), ← ef, upd_ne _ _ (by omega), upd_ne _ _ (by omega), upd_ne _ _ (by omega)]
        have hR8 := hR0.tc (f := upd f 0 (nI (n + 1))) (g := hsR T.1.1 n a b) hcut hhi (by unfold hsR; rw [if_neg (by omega), if_neg (by omega), if_neg (by omega), if_neg (by omega), if_neg (by omega)])
        refine r_settled hd (mT := mA M 3 (upd (M.2.2.1 3) 0 (nI (n + 1)))) (mOk_rT hM0 (rowOk_updT hf (by omega) (by omega) (fun _ => ⟨?_, ?_⟩) (fun e => by omega) (fun e => by omega) (fun e => by omega) (fun e => by omega) (fun e => by omega) (fun e => by omega))) hR8 ?_ (fun N hN hRN => h N (mOk_self hN) hRN)
        · rw [nI_toInt (by omega)]; omega
        · rw [nI_toInt (by omega)]; omega
        · rw [nI_toInt (by omega)]; omega
      · have c : i < 8 := by
          rw [lit_nI 8, nI_not_le (by omega) (by omega)] at c
          exact c
        simp (disch := decide) only [oi_gI, oi_gJ, oi_gP, oi_pI, oi_pZ, oi_pJ, oi_oK, oi_aI hd, oi_aZ hd, oi_aJ hd, oi_sI hd, oi_sZ hd, oi_sJ hd, mI_1, mI_2, mJ_1, mJ_2, mJ_3, mA_1, mA_2, mA_3, mA_4, mL_1, mL_2, mL_3, mL_4, mK, Nat.reduceEqDiff, if_true, if_false, ite_true, ite_false, true_and, Nat.reduceLT, reduceIte, reduceCtorEq, cl_0, cl_1, cl_2, cl_3, cl_4, cl_5, cl_6, cl_7, cl_8, cl_9, cl_10, cl_11, cl_12, cl_13, cl_14, cl_15, vl_0_5585, vl_1_5585, vl_2_5585, vl_3_5585, vl_4_5585, vl_5_5585, vl_6_5585, vl_0_7, vl_1_7, vl_2_7, vl_3_7, vl_4_7, vl_5_7, vl_6_7, mA_mA]
        rw [lit_nI 30, lit_nI 78, lit_nI 6, nImul, nIadd, nIadd, nIadd, nIadd, nI_1, nI_clamp (by omega), nI_clamp (by omega)]
        refine ⟨vp_in_nI (by omega) (by omega), vp_in_nI (by omega) (by omega), eq_imp ?_⟩
        refine ih (upd (upd f (30 + 6 * i + n) 0) (78 + 6 * i + n) 0, i + 1) ⟨by show i + 1 ≤ 8; omega, ?_, ?_⟩ (by show 8 - (i + 1) < 8 - i; omega)
        · exact rowOk_free (by unfold rCon; omega) (rowOk_free (by unfold rCon; omega) hf)
        · dsimp only
          rw [hL]
          funext j
          unfold hsL upd
          dsimp only
          by_cases d1 : j = 78 + 6 * i + n
          · rw [if_pos d1, if_pos (by omega)]
          · rw [if_neg d1]
            by_cases d2 : j = 30 + 6 * i + n
            · rw [if_pos d2, if_pos (by omega)]
            · rw [if_neg d2]
              by_cases d3 : 30 ≤ j ∧ j < 126 ∧ j % 6 = n ∧ ((j - 30) / 6) % 8 < i
              · rw [if_pos d3, if_pos (by omega)]
              · rw [if_neg d3, if_neg (by omega)]
    · dsimp only
      funext j
      unfold hsL
      rw [if_neg (by omega)]
  · have n6 : n = 6 := nI_inj (by omega) (by omega) c
    have es : spHouse a b T = spRef 5 T := by
      unfold spHouse
      rw [if_neg (fun z => z hr), if_neg (by omega)]
    rw [es] at h
    exact h N (mOk_self hN) hRN
end TS
