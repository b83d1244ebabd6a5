/-! LAYER 2, the reference: remember, undo, image, back -/
section REF6
variable {S : hS} {o : Nat} {ad : Nat → Nat} {M : mS} {mT : mS}
theorem f_rem41 (hd : mD o ad) (hu : undOk (M.2.2.1 6) 18) (hs : srtOk (M.2.2.1 7)) (en : M.1 8 = 16) (hy : rg (M.2.2.1 3 5) 0 999) {q : hS → Prop} {t : Int32} (ht : rg t 0 3) (h : ∀ N, Fx [8] [] [6, 7] [] M N → undOk (N.2.2.1 6) 18 → srtOk (N.2.2.1 7) → rg (N.1 8) 0 16 → q (ov S o ad N)) : ∃ n, w_X12_remember_b41 q n (ov S o ad M) o t 0 := by
  have key := loop_m (σ := (Nat → Int32) × Nat) (fun n s => w_X12_remember_b41 q n (ov S o ad (mA M 7 s.1)) o t (nI s.2)) (fun s => s.2 ≤ 15 ∧ srtOk s.1) (fun s => 15 - s.2) ?_ (M.2.2.1 7, 0) ⟨Nat.zero_le _, hs⟩
  · rw [mA_self] at key
    exact key
  rintro n ⟨f, i⟩ ⟨hi, hf⟩ ih
  dsimp only at hi hf ih ⊢
  rw [w_X12_remember_b41]
  refine ⟨fun c => ?_, fun c => ?_⟩
  · simp (disch := decide) only [oi_gI, oi_gJ, oi_gP, oi_pI, oi_pZ, oi_pJ, oi_oK, oi_aI hd, oi_aZ hd, oi_aJ hd, oi_sI hd, oi_sZ hd, oi_sJ hd, mI_1, mI_2, mJ_1, mJ_2, mJ_3, mA_1, mA_2, mA_3, mA_4, mL_1, mL_2, mL_3, mL_4, mK, Nat.reduceEqDiff, if_true, if_false, ite_true, ite_false, true_and, Nat.reduceLT, reduceIte, reduceCtorEq]
    rw [en]
    refine f_rem77 hd (M := mI (mA M 7 f) 8 15) hu (by simpa [mI_2, mA_3] using hf) (n := 15) (by omega) (by simp [mI_1]; rfl) hy ht (fun N hF h1 h2 h3 => ?_)
    exact h N ((((Fx.a 7 f).tr (Fx.i 8 15)).tr hF).le (by simp) (by simp) (by simp) (by simp)) h1 h2 h3
  · have c : i < 15 := by
      rw [lit_nI 15, nI_not_le (by omega) (by omega)] at c
      exact c
    simp (disch := decide) only [oi_gI, oi_gJ, oi_gP, oi_pI, oi_pZ, oi_pJ, oi_oK, oi_aI hd, oi_aZ hd, oi_aJ hd, oi_sI hd, oi_sZ hd, oi_sJ hd, mI_1, mI_2, mJ_1, mJ_2, mJ_3, mA_1, mA_2, mA_3, mA_4, mL_1, mL_2, mL_3, mL_4, mK, Nat.reduceEqDiff, if_true, if_false, ite_true, ite_false, true_and, Nat.reduceLT, reduceIte, reduceCtorEq, mA_mA]
    rw [nI_1, nI_clamp (by omega), nI_clamp (by omega)]
    refine ⟨vp_in_nI (by omega) (by omega), vp_in_nI (by omega) (by omega), eq_imp ?_⟩
    refine ih (upd f i (f (i + 1)), i + 1) ⟨by show i + 1 ≤ 15; omega, fun k hk => ?_⟩ (by show 15 - (i + 1) < 15 - i; omega)
    dsimp only
    by_cases e : k = i
    · subst e; rw [upd_self]; exact hf _ (by omega)
    · rw [upd_ne _ _ e]; exact hf k hk
theorem f_rem11 (hd : mD o ad) (hu : undOk (M.2.2.1 6) 18) (hs : srtOk (M.2.2.1 7)) (en : M.1 8 = 16) (hy : rg (M.2.2.1 3 5) 0 999) {q : hS → Prop} {t : Int32} (ht : rg t 0 3) (h : ∀ N, Fx [8] [] [6, 7] [] M N → undOk (N.2.2.1 6) 18 → srtOk (N.2.2.1 7) → rg (N.1 8) 0 16 → q (ov S o ad N)) : ∃ n, w_X12_remember_b11 q n (ov S o ad M) o t 0 := by
  have key := loop_m (σ := (Nat → Int32) × Nat) (fun n s => w_X12_remember_b11 q n (ov S o ad (mA M 6 s.1)) o t (nI s.2)) (fun s => s.2 ≤ 1815 ∧ undOk s.1 18) (fun s => 1815 - s.2) ?_ (M.2.2.1 6, 0) ⟨Nat.zero_le _, hu⟩
  · rw [mA_self] at key
    exact key
  rintro n ⟨f, i⟩ ⟨hi, hf⟩ ih
  dsimp only at hi hf ih ⊢
  rw [w_X12_remember_b11]
  refine ⟨fun c => ?_, fun c => ?_⟩
  · refine f_rem41 hd (M := mA M 6 f) (by simpa [mA_3] using hf) hs en hy ht (fun N hF h1 h2 h3 => ?_)
    exact h N (((Fx.a 6 f).tr hF).le (by simp) (by simp) (by simp) (by simp)) h1 h2 h3
  · have c : i < 1815 := by
      rw [lit_nI 1815, nI_not_le (by omega) (by omega)] at c
      exact c
    simp (disch := decide) only [oi_gI, oi_gJ, oi_gP, oi_pI, oi_pZ, oi_pJ, oi_oK, oi_aI hd, oi_aZ hd, oi_aJ hd, oi_sI hd, oi_sZ hd, oi_sJ hd, mI_1, mI_2, mJ_1, mJ_2, mJ_3, mA_1, mA_2, mA_3, mA_4, mL_1, mL_2, mL_3, mL_4, mK, Nat.reduceEqDiff, if_true, if_false, ite_true, ite_false, true_and, Nat.reduceLT, reduceIte, reduceCtorEq, mA_mA]
    rw [lit_nI 121, nIadd, nI_1, nI_clamp (by omega), nI_clamp (by omega)]
    refine ⟨vp_in_nI (by omega) (by omega), vp_in_nI (by omega) (by omega), eq_imp ?_⟩
    refine ih (upd f i (f (i + 121)), i + 1) ⟨by show i + 1 ≤ 1815; omega, fun k hk => ?_⟩ (by show 1815 - (i + 1) < 1815 - i; omega)
    dsimp only
    by_cases e : 121 * k = i
    · rw [e, upd_self, ← e, show 121 * k + 121 = 121 * (k + 1) by omega]; exact hf _ (by omega)
    · rw [upd_ne _ _ e]; exact hf k hk
theorem f_remember (hd : mD o ad) (hu : undOk (M.2.2.1 6) 18) (hs : srtOk (M.2.2.1 7)) (hn : rg (M.1 8) 0 16) (hy : rg (M.2.2.1 3 5) 0 999) {q : hS → Prop} {t : Int32} (ht : rg t 0 3) (h : ∀ N, Fx [8] [] [6, 7] [] M N → undOk (N.2.2.1 6) 18 → srtOk (N.2.2.1 7) → rg (N.1 8) 0 16 → q (ov S o ad N)) : w_X12_remember q (ov S o ad M) o t := by
  obtain ⟨n, hn16, en, -⟩ := rg_nI (b := 16) hn (by omega) (by omega)
  unfold w_X12_remember
  simp (disch := decide) only [oi_gI, oi_gJ, oi_gP, oi_pI, oi_pZ, oi_pJ, oi_oK, oi_aI hd, oi_aZ hd, oi_aJ hd, oi_sI hd, oi_sZ hd, oi_sJ hd, mI_1, mI_2, mJ_1, mJ_2, mJ_3, mA_1, mA_2, mA_3, mA_4, mL_1, mL_2, mL_3, mL_4, mK, Nat.reduceEqDiff, if_true, if_false, ite_true, ite_false, true_and, Nat.reduceLT, reduceIte, reduceCtorEq]
  refine ⟨fun c => ?_, fun c => f_rem11 hd hu hs c hy ht h⟩
  have : n ≠ 16 := fun e => c (by rw [en, e]; rfl)
  exact f_rem77 hd hu hs (n := n) (by omega) en hy ht h
/-- undo() -/
theorem p_undo (hd : mD o ad) (hM : mOk mT M) {q : Int32 → hS → Prop} (h : ∀ r N, mOk mT N → q r (ov S o ad N)) : w_X12_undo q (ov S o ad M) o := by
  obtain ⟨n, hn16, en, -⟩ := rg_nI (b := 16) hM.2.2.2.2.2.2.1 (by omega) (by omega)
  unfold w_X12_undo
  simp (disch := decide) only [oi_gI, oi_gJ, oi_gP, oi_pI, oi_pZ, oi_pJ, oi_oK, oi_aI hd, oi_aZ hd, oi_aJ hd, oi_sI hd, oi_sZ hd, oi_sJ hd, mI_1, mI_2, mJ_1, mJ_2, mJ_3, mA_1, mA_2, mA_3, mA_4, mL_1, mL_2, mL_3, mL_4, mK, Nat.reduceEqDiff, if_true, if_false, ite_true, ite_false, true_and, Nat.reduceLT, reduceIte, reduceCtorEq]
  refine ⟨fun c => ?_, fun c => f_tell hd (by decide) (fun N hF => h _ N (mOk_fx ((Fx.i 0 0).tr hF) hM (by simp)))⟩
  have hn0 : 0 < n := by
    rcases Nat.eq_zero_or_pos n with e | e
    · subst e; exact absurd en c
    · exact e
  rw [en]
  have e1 : nI n - 1 = nI (n - 1) := by
    have := nI_pred (n - 1)
    rw [show n - 1 + 1 = n by omega] at this
    exact this
  rw [e1]
  refine f_putBack hd (by omega) (fun N hF h1 h2 => ?_)
  have hF' := ((Fx.i 0 0).tr (Fx.i 8 (nI (n - 1)))).tr hF
  simp (disch := decide) only [oi_gI, oi_gJ, oi_gP, oi_pI, oi_pZ, oi_pJ, oi_oK, oi_aI hd, oi_aZ hd, oi_aJ hd, oi_sI hd, oi_sZ hd, oi_sJ hd, mI_1, mI_2, mJ_1, mJ_2, mJ_3, mA_1, mA_2, mA_3, mA_4, mL_1, mL_2, mL_3, mL_4, mK, Nat.reduceEqDiff, if_true, if_false, ite_true, ite_false, true_and, Nat.reduceLT, reduceIte, reduceCtorEq]
  rw [hF.1 8 (by simp), hF.2.2.1 7 (by simp)]
  simp only [mI_1, mI_2, if_true, reduceIte]
  rw [nI_clamp (by omega)]
  have hs := hM.2.2.2.2.1 (n - 1) (by omega)
  refine ⟨vp_in_nI (by omega) (by omega), f_tell hd (by have := hs.1; omega) (fun P hP => h _ P ?_)⟩
  have hFF := hF'.tr hP
  refine mOk_und hFF hM ?_ ?_ ?_ ?_ (by simp)
  · rw [hP.1 8 (by simp), hF.1 8 (by simp)]
    simp only [mI_1, if_true, reduceIte]
    unfold rg
    rw [nI_toInt (by omega)]
    omega
  · rw [hP.2.2.1 6 (by simp), hF.2.2.1 6 (by simp)]
    exact hM.2.2.1
  · rw [hP.2.2.1 7 (by simp), hF.2.2.1 7 (by simp)]
    exact hM.2.2.2.2.1
  · rw [hP.2.2.1 3 (by simp)]
    refine rowOk_year (f := M.2.2.1 3) (fun i hi h5 => h2 i ?_) ?_ hM.1
    · unfold rCon at hi; omega
    · have := h1 0 (by omega)
      rw [Nat.add_zero, Nat.add_zero] at this
      rw [this]
      exact hM.2.2.1 (n - 1) (by omega)
end REF6
