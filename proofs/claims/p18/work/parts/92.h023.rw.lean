/-! THE REFERENCE'S PARTS, EXACTLY -/
/-- reading goes on: what stands in M -/
def RS (G : pG) (M : mS) (p k : Nat) (out π : List (Nat × Nat)) (d : Nat) : Prop := M.1 19 = 0 ∧ tokAt G p M ∧ tpM G M ∧ pR2 M out π ∧ M.1 30 = nI d ∧ M.1 26 = nI k ∧ wdsG M ∧ p ≤ G.2 ∧ out.length + π.length ≤ p ∧ k ≤ 50 ∧ d ≤ 8 ∧ jOk out π
/-- it is bad, by the token from f on -/
def RB (G : pG) (M : mS) (f : Nat) : Prop := M.1 19 = 1 ∧ M.1 18 = nI (tS G f) ∧ tpM G M ∧ wdsM M ∧ ∃ out π, pR2 M out π ∧ jOk out π ∧ out.length + π.length ≤ 400
/-- what a step leads to -/
def RO (G : pG) (M : mS) (s : pM ⊕ Nat) (q : Int32 → hS → Prop) (S : hS) (o : Nat) (ad : Nat → Nat) : Prop := ∀ N, PF M N → match s with
  | .inl s => RS G N s.2.1 s.2.2.1 s.2.2.2.1 s.2.2.2.2.1 s.2.2.2.2.2 → q (nI s.1) (ov S o ad N)
  | .inr f => RB G N f → ∀ r, q r (ov S o ad N)
theorem nI_all (r : Int32) : ∃ n, r = nI n := by
  by_cases c : 0 ≤ r.toInt
  · exact ⟨r.toInt.toNat, Int32.toInt_inj.mp (by have := fb_rng r; rw [nI_toInt (by omega)]; omega)⟩
  · refine ⟨r.toUInt32.toNat, ?_⟩
    cases r with
    | ofUInt32 u =>
      show _ = Int32.ofUInt32 (UInt32.ofNat u.toNat)
      simp
theorem lw_k : ∀ k, (h : k < lwW.length) → ∀ w ∈ lwW, w.1 = (lwW[k]).1 → w.2.2.1 = k + 1 ∧ w.2.2.2 = none := by decide
theorem or_k : ∀ k, (h : k < orW.length) → ∀ w ∈ orW, w.1 = (orW[k]).1 → w.2.2.1 = k + 1 ∧ (w.2.2.2 = none ↔ k + 1 < 5) ∧ (w.2.2.2 = none ∨ w.2.2.2 = some (if k + 1 = 7 then 5 else 7)) := by decide
theorem lw_ltr : ∀ k, (h : k < lwW.length) → ltr (lwW[k]).1 = true := by decide
theorem or_ltr : ∀ k, (h : k < orW.length) → ltr (orW[k]).1 = true := by decide
section RW
variable {S : hS} {o : Nat} {ad : Nat → Nat} {M : mS} {G : pG} {out π : List (Nat × Nat)} {p k d : Nat}
theorem fnd_none {W : List (List Nat × Nat × Nat × Option Nat)} (h : ∀ k, (hk : k < W.length) → ¬ isWd G p (W[k]).1 = true) : fndW G W p = none := by
  unfold fndW
  rw [List.find?_eq_none]
  intro w hw
  obtain ⟨k, hk, rfl⟩ := List.mem_iff_getElem.mp hw
  exact h k hk
theorem fnd_some {W : List (List Nat × Nat × Nat × Option Nat)} {k : Nat} (hk : k < W.length) (h : isWd G p (W[k]).1 = true) : ∃ w, fndW G W p = some w ∧ w ∈ W ∧ w.1 = (W[k]).1 := by
  cases e : fndW G W p with
  | none =>
    unfold fndW at e
    exact absurd h (List.find?_eq_none.mp e _ (List.getElem_mem hk))
  | some w =>
    refine ⟨w, rfl, (fndW_in e).1, ?_⟩
    unfold fndW at e
    have := List.find?_some e
    exact isWd_uniq this h
def fndN (G : pG) (W : List (List Nat × Nat × Nat × Option Nat)) (p : Nat) : Int32 := match fndW G W p with
  | none => -1
  | some w => nI w.2.2.1
theorem x_partAt (hd : mD o ad) {q : Int32 → hS → Prop} (hw : wdsM M) (hb : ∀ i, G.1 i < 256) (ht : tokAt G p M) (h : q (fndN G lwW p) (ov S o ad M)) : w_X12_partAt q (ov S o ad M) o := by
  refine loop_m (σ := Int32 × Nat) (fun n s => w_X12_partAt_b4 q n (ov S o ad M) o s.1 (nI s.2)) (fun s => s.2 ≤ 9 ∧ ((s.1 = -1 ∧ ∀ k, (hk : k < lwW.length) → k < s.2 → ¬ isWd G p (lwW[k]).1 = true) ∨ ∃ k, ∃ hk : k < lwW.length, s.1 = nI (k + 1) ∧ isWd G p (lwW[k]).1 = true)) (fun s => 9 - s.2) ?_ (-1, 0) ⟨by omega, Or.inl ⟨rfl, fun k _ hk => by dsimp only at hk; omega⟩⟩
  rintro n ⟨x, i⟩ ⟨h1, h2⟩ ih
  dsimp only at h1 h2 ih ⊢
  have l9 : lwW.length = 9 := rfl
  rw [w_X12_partAt_b4]
  unfold w_X12_partAt_b30
  simp (disch := decide) only [oi_gI, oi_gJ, oi_gP, oi_pI, oi_pZ, oi_pJ, oi_oK, oi_aI hd, oi_aZ hd, oi_aJ hd, oi_sI hd, oi_sZ hd, oi_sJ hd, mI_1, mI_2, mJ_1, mJ_2, mJ_3, mA_1, mA_2, mA_3, mA_4, mL_1, mL_2, mL_3, mL_4, mK, Nat.reduceEqDiff, if_true, if_false, ite_true, ite_false, true_and, Nat.reduceLT, reduceIte, reduceCtorEq, cl_0, cl_1, cl_2, cl_3, cl_4, cl_5, cl_6, cl_7, cl_8, cl_9, cl_10, cl_11, cl_12, cl_13, cl_14, cl_15, vl_0_5585, vl_1_5585, vl_2_5585, vl_3_5585, vl_4_5585, vl_5_5585, vl_6_5585, vl_0_7, vl_1_7, vl_2_7, vl_3_7, vl_4_7, vl_5_7, vl_6_7]
  rw [lit_nI 9, nI_leI (by omega) (by omega), nI_clamp (by omega)]
  refine ⟨fun c => ?_, fun c => ⟨vp_in_nI (by omega) (by omega), x_isWord hd hb ht (lw_ltr i (by omega)) (hw.1 i (by omega)) (fun hs => ⟨fun z => absurd z (by decide), fun _ y ey => ?_⟩) (fun hs => ⟨fun _ y ey => ?_, fun z => absurd rfl z⟩)⟩⟩
  · have : x = fndN G lwW p := by
      unfold fndN
      rcases h2 with ⟨e, hn⟩ | ⟨k, hk, e, hs⟩
      · rw [fnd_none (fun k hk => hn k hk (by omega)), e]
      · obtain ⟨w, w1, w2, w3⟩ := fnd_some hk hs
        rw [w1, e]
        dsimp only
        rw [(lw_k k hk w w2 w3).1]
    rw [this]
    exact h
  · rw [ey, nI_1]
    exact ih (nI (i + 1), i + 1) ⟨by dsimp only; omega, Or.inr ⟨i, by omega, rfl, hs⟩⟩ (by dsimp only; omega)
  · rw [ey, nI_1]
    refine ih (x, i + 1) ⟨by dsimp only; omega, ?_⟩ (by dsimp only; omega)
    rcases h2 with ⟨e, hn⟩ | z
    · refine Or.inl ⟨e, fun k hk k1 => ?_⟩
      dsimp only at k1
      by_cases ek : k = i
      · subst ek; exact hs
      · exact hn k hk (by omega)
    · exact Or.inr z
theorem x_orderPartAt (hd : mD o ad) {q : Int32 → hS → Prop} (hw : wdsM M) (hb : ∀ i, G.1 i < 256) (ht : tokAt G p M) (h : q (fndN G orW p) (ov S o ad M)) : w_X12_orderPartAt q (ov S o ad M) o := by
  refine loop_m (σ := Int32 × Nat) (fun n s => w_X12_orderPartAt_b4 q n (ov S o ad M) o s.1 (nI s.2)) (fun s => s.2 ≤ 7 ∧ ((s.1 = -1 ∧ ∀ k, (hk : k < orW.length) → k < s.2 → ¬ isWd G p (orW[k]).1 = true) ∨ ∃ k, ∃ hk : k < orW.length, s.1 = nI (k + 1) ∧ isWd G p (orW[k]).1 = true)) (fun s => 7 - s.2) ?_ (-1, 0) ⟨by omega, Or.inl ⟨rfl, fun k _ hk => by dsimp only at hk; omega⟩⟩
  rintro n ⟨x, i⟩ ⟨h1, h2⟩ ih
  dsimp only at h1 h2 ih ⊢
  have l7 : orW.length = 7 := rfl
  rw [w_X12_orderPartAt_b4]
  unfold w_X12_orderPartAt_b30
  simp (disch := decide) only [oi_gI, oi_gJ, oi_gP, oi_pI, oi_pZ, oi_pJ, oi_oK, oi_aI hd, oi_aZ hd, oi_aJ hd, oi_sI hd, oi_sZ hd, oi_sJ hd, mI_1, mI_2, mJ_1, mJ_2, mJ_3, mA_1, mA_2, mA_3, mA_4, mL_1, mL_2, mL_3, mL_4, mK, Nat.reduceEqDiff, if_true, if_false, ite_true, ite_false, true_and, Nat.reduceLT, reduceIte, reduceCtorEq, cl_0, cl_1, cl_2, cl_3, cl_4, cl_5, cl_6, cl_7, cl_8, cl_9, cl_10, cl_11, cl_12, cl_13, cl_14, cl_15, vl_0_5585, vl_1_5585, vl_2_5585, vl_3_5585, vl_4_5585, vl_5_5585, vl_6_5585, vl_0_7, vl_1_7, vl_2_7, vl_3_7, vl_4_7, vl_5_7, vl_6_7]
  rw [lit_nI 7, nI_leI (by omega) (by omega), nI_clamp (by omega)]
  refine ⟨fun c => ?_, fun c => ⟨vp_in_nI (by omega) (by omega), x_isWord hd hb ht (or_ltr i (by omega)) (hw.2 i (by omega)) (fun hs => ⟨fun z => absurd z (by decide), fun _ y ey => ?_⟩) (fun hs => ⟨fun _ y ey => ?_, fun z => absurd rfl z⟩)⟩⟩
  · have : x = fndN G orW p := by
      unfold fndN
      rcases h2 with ⟨e, hn⟩ | ⟨k, hk, e, hs⟩
      · rw [fnd_none (fun k hk => hn k hk (by omega)), e]
      · obtain ⟨w, w1, w2, w3⟩ := fnd_some hk hs
        rw [w1, e]
        dsimp only
        rw [(or_k k hk w w2 w3).1]
    rw [this]
    exact h
  · rw [ey, nI_1]
    exact ih (nI (i + 1), i + 1) ⟨by dsimp only; omega, Or.inr ⟨i, by omega, rfl, hs⟩⟩ (by dsimp only; omega)
  · rw [ey, nI_1]
    refine ih (x, i + 1) ⟨by dsimp only; omega, ?_⟩ (by dsimp only; omega)
    rcases h2 with ⟨e, hn⟩ | z
    · refine Or.inl ⟨e, fun k hk k1 => ?_⟩
      dsimp only at k1
      by_cases ek : k = i
      · subst ek; exact hs
      · exact hn k hk (by omega)
    · exact Or.inr z
theorem RB_of (hR : RS G M p k out π d) {N : mS} {f : Nat} (hF : Fx [18, 19] [] [] [] M N) (h19 : N.1 19 = 1) (h18 : N.1 18 = nI (tS G f)) : RB G N f := by
  obtain ⟨r1, r2, r3, r4, r5, r6, r7, r8, r9, r10, r11, r12⟩ := hR
  have := r3.2.1
  exact ⟨h19, h18, tpM_fx hF r3 (by simp), wdsM_fx hF r7.1 (by simp), out, π, pR2_fx hF r4 (by simp), r12, by omega⟩
theorem pR2_push (hR : pR2 M out π) {x : Nat × Nat} : pR2 (mP M π.length (nI x.1) (nI x.2)) out (x :: π) := by
  obtain ⟨h1, h2, h3, h4⟩ := hR
  refine ⟨(mP_fx.1 23 (by simp)).trans h1, ?_, mP_29, ?_⟩
  · rw [mP_fx.2.2.1 24 (by simp), mP_fx.2.2.1 25 (by simp)]
    exact h2
  · rw [mP_27, mP_28]
    exact plAt_push h4
theorem pR2_emit (hR : pR2 M out π) {x : Nat × Nat} : pR2 (mE M out.length (nI x.1) (nI x.2)) (out ++ [x]) π := by
  obtain ⟨h1, h2, h3, h4⟩ := hR
  refine ⟨by rw [mE_23, List.length_append, List.length_singleton], ?_, (mE_fx.1 29 (by simp)).trans h3, ?_⟩
  · rw [mE_24, mE_25]
    exact outAt_emit h2
  · rw [mE_fx.2.2.1 27 (by simp), mE_fx.2.2.1 28 (by simp)]
    exact h4
theorem jOk_push (h : jOk out π) {x : Nat × Nat} (h1 : 20 ≤ x.1 ∧ x.1 ≤ 32) (h2 : x.1 = 29 ∨ x.1 = 30 → ∃ h : x.2 < out.length, (out[x.2]).1 = x.1) : jOk out (x :: π) := fun y hy => by
  rcases List.mem_cons.mp hy with rfl | hy
  · exact ⟨h1, h2⟩
  · exact h y hy
theorem x_openBracket (hd : mD o ad) {q : hS → Prop} (hR : RS G M p k out π d) (hk : tK G p ≠ 0) {op : Nat} (hop : op = 31 ∨ op = 32) (h1 : d < 8 → ∀ N, PF M N → RS G N (tE G p) k out ((op, 0) :: π) (d + 1) → q (ov S o ad N)) (h0 : ¬ d < 8 → ∀ N, PF M N → RB G N p → q (ov S o ad N)) : w_X12_openBracket q (ov S o ad M) o (nI op) := by
  obtain ⟨r1, r2, r3, r4, r5, r6, r7, r8, r9, r10, r11, r12⟩ := id hR
  have t1 := tE_gt hk
  have t2 := tS_ge G p
  have t3 := tE_le r8
  have hT := r3.2.1
  unfold w_X12_openBracket w_X12_openBracket_b15
  simp (disch := decide) only [oi_gI, oi_gJ, oi_gP, oi_pI, oi_pZ, oi_pJ, oi_oK, oi_aI hd, oi_aZ hd, oi_aJ hd, oi_sI hd, oi_sZ hd, oi_sJ hd, mI_1, mI_2, mJ_1, mJ_2, mJ_3, mA_1, mA_2, mA_3, mA_4, mL_1, mL_2, mL_3, mL_4, mK, Nat.reduceEqDiff, if_true, if_false, ite_true, ite_false, true_and, Nat.reduceLT, reduceIte, reduceCtorEq, cl_0, cl_1, cl_2, cl_3, cl_4, cl_5, cl_6, cl_7, cl_8, cl_9, cl_10, cl_11, cl_12, cl_13, cl_14, cl_15, vl_0_5585, vl_1_5585, vl_2_5585, vl_3_5585, vl_4_5585, vl_5_5585, vl_6_5585, vl_0_7, vl_1_7, vl_2_7, vl_3_7, vl_4_7, vl_5_7, vl_6_7]
  rw [r5, lit_nI 8, nI_leI (by omega) (by omega)]
  refine ⟨fun c => x_must hd r1 r3 r8 r2 (fun _ N hF h19 h18 => ?_) (fun z => absurd rfl z), fun c => x_must hd r1 r3 r8 r2 (fun z => absurd z (by decide)) (fun _ N hF ht => ?_)⟩
  · simp (disch := decide) only [oi_gI, oi_gJ, oi_gP, oi_pI, oi_pZ, oi_pJ, oi_oK, oi_aI hd, oi_aZ hd, oi_aJ hd, oi_sI hd, oi_sZ hd, oi_sJ hd, mI_1, mI_2, mJ_1, mJ_2, mJ_3, mA_1, mA_2, mA_3, mA_4, mL_1, mL_2, mL_3, mL_4, mK, Nat.reduceEqDiff, if_true, if_false, ite_true, ite_false, true_and, Nat.reduceLT, reduceIte, reduceCtorEq, cl_0, cl_1, cl_2, cl_3, cl_4, cl_5, cl_6, cl_7, cl_8, cl_9, cl_10, cl_11, cl_12, cl_13, cl_14, cl_15, vl_0_5585, vl_1_5585, vl_2_5585, vl_3_5585, vl_4_5585, vl_5_5585, vl_6_5585, vl_0_7, vl_1_7, vl_2_7, vl_3_7, vl_4_7, vl_5_7, vl_6_7]
    rw [h19]
    exact ⟨fun _ => h0 (by omega) N (hF.le (by simp) (by simp) (by simp) (by simp)) (RB_of hR hF h19 h18), fun z => absurd z (by decide)⟩
  · have n19 : N.1 19 = 0 := (hF.1 19 (by simp)).trans r1
    have n30 : N.1 30 = nI d := (hF.1 30 (by simp)).trans r5
    simp (disch := decide) only [oi_gI, oi_gJ, oi_gP, oi_pI, oi_pZ, oi_pJ, oi_oK, oi_aI hd, oi_aZ hd, oi_aJ hd, oi_sI hd, oi_sZ hd, oi_sJ hd, mI_1, mI_2, mJ_1, mJ_2, mJ_3, mA_1, mA_2, mA_3, mA_4, mL_1, mL_2, mL_3, mL_4, mK, Nat.reduceEqDiff, if_true, if_false, ite_true, ite_false, true_and, Nat.reduceLT, reduceIte, reduceCtorEq, cl_0, cl_1, cl_2, cl_3, cl_4, cl_5, cl_6, cl_7, cl_8, cl_9, cl_10, cl_11, cl_12, cl_13, cl_14, cl_15, vl_0_5585, vl_1_5585, vl_2_5585, vl_3_5585, vl_4_5585, vl_5_5585, vl_6_5585, vl_0_7, vl_1_7, vl_2_7, vl_3_7, vl_4_7, vl_5_7, vl_6_7]
    rw [n19, n30, nI_1]
    have hF2 := hF.tr (Fx.i 30 (nI (d + 1)))
    have r4' := pR2_fx hF2 r4 (by simp)
    refine ⟨fun z => absurd rfl z, fun _ => f_push hd (p := π.length) (M := mI N 30 (nI (d + 1))) r4'.2.2.1 (by omega) (h1 (by omega) _ ?_ ?_)⟩
    · exact (hF2.tr mP_fx).le (by simp) (by simp) (by simp) (by simp)
    · have hF3 := (Fx.i (M := N) 30 (nI (d + 1))).tr (mP_fx (p := π.length) (x := nI op) (y := 0))
      have hF4 := hF.tr hF3
      refine ⟨(hF3.1 19 (by simp)).trans n19, tokAt_fx hF3 ht (by simp), tpM_fx hF4 r3 (by simp), pR2_push (x := (op, 0)) r4', ?_, (hF4.1 26 (by simp)).trans r6, wdsG_fx hF4 r7 (by simp), t3, by rw [List.length_cons]; omega, r10, by omega, jOk_push r12 (by dsimp only; omega) (fun z => by dsimp only at z; omega)⟩
      rw [mP_fx.1 30 (by simp)]
      simp [mI_1]
end RW
