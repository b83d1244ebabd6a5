/-! THE REFERENCE REMEMBERS AND PUTS BACK, EXACTLY -/
section RL2
variable {S : hS} {o : Nat} {ad : Nat → Nat} {M N : mS} {mT : mS} {T : aS} {rs : Nat} {us : uL} {f g u s : Nat → Int32}
/-- what stands behind remember(): n notes were there, in U and V -/
def remA (M N : mS) (t : Int32) (n : Nat) (U V : Nat → Int32) : Prop := N.1 8 = nI (n + 1) ∧ (∀ i, i < 121 → N.2.2.1 6 (121 * n + i) = M.2.2.1 3 (5 + i)) ∧ (∀ j, (j < 121 * n ∨ 121 * n + 121 ≤ j) → N.2.2.1 6 j = U j) ∧ N.2.2.1 7 = upd V n t
theorem x_rem77 (hd : mD o ad) {n : Nat} (hn : n < 16) (en : M.1 8 = nI n) {q : hS → Prop} {t : Int32} (h : ∀ N, Fx [8] [] [6, 7] [] M N → remA M N t n (M.2.2.1 6) (M.2.2.1 7) → q (ov S o ad N)) : w_X12_remember_b77 q (ov S o ad M) o t := by
  unfold w_X12_remember_b77
  simp (disch := decide) only [oi_gI, oi_gJ, oi_gP, oi_pI, oi_pZ, oi_pJ, oi_oK, oi_aI hd, oi_aZ hd, oi_aJ hd, oi_sI hd, oi_sZ hd, oi_sJ hd, mI_1, mI_2, mJ_1, mJ_2, mJ_3, mA_1, mA_2, mA_3, mA_4, mL_1, mL_2, mL_3, mL_4, mK, Nat.reduceEqDiff, if_true, if_false, ite_true, ite_false, true_and, Nat.reduceLT, reduceIte, reduceCtorEq]
  rw [en]
  refine f_keepAll hd (by omega) (fun N hF h1 h2 => ?_)
  simp (disch := decide) only [oi_gI, oi_gJ, oi_gP, oi_pI, oi_pZ, oi_pJ, oi_oK, oi_aI hd, oi_aZ hd, oi_aJ hd, oi_sI hd, oi_sZ hd, oi_sJ hd, mI_1, mI_2, mJ_1, mJ_2, mJ_3, mA_1, mA_2, mA_3, mA_4, mL_1, mL_2, mL_3, mL_4, mK, Nat.reduceEqDiff, if_true, if_false, ite_true, ite_false, true_and, Nat.reduceLT, reduceIte, reduceCtorEq]
  rw [hF.1 8 (by simp), en, nI_clamp (by omega)]
  refine ⟨vp_in_nI (by omega) (by omega), h _ (((hF.tr (Fx.a 7 _)).tr (Fx.i 8 _)).le (by simp) (by simp) (by simp) (by simp)) ⟨?_, ?_, ?_, ?_⟩⟩
  · show nI n + 1 = nI (n + 1)
    exact nI_1 _
  · exact h1
  · exact h2
  · show upd (N.2.2.1 7) n t = upd (M.2.2.1 7) n t
    rw [hF.2.2.1 7 (by simp)]
theorem x_rem41 (hd : mD o ad) {q : hS → Prop} {t : Int32} {V0 : Nat → Int32} (e0 : M.2.2.1 7 = V0) (en : M.1 8 = 16) (h : ∀ N V, Fx [8] [] [6, 7] [] M N → (∀ k, k < 15 → V k = V0 (k + 1)) → (∀ k, 15 ≤ k → V k = V0 k) → remA M N t 15 (M.2.2.1 6) V → q (ov S o ad N)) : ∃ n, w_X12_remember_b41 q n (ov S o ad M) o t 0 := by
  have key := loop_m (σ := (Nat → Int32) × Nat) (fun n s => w_X12_remember_b41 q n (ov S o ad (mA M 7 s.1)) o t (nI s.2)) (fun s => s.2 ≤ 15 ∧ (∀ k, k < s.2 → s.1 k = V0 (k + 1)) ∧ ∀ k, s.2 ≤ k → s.1 k = V0 k) (fun s => 15 - s.2) ?_ (M.2.2.1 7, 0) ⟨Nat.zero_le _, fun k hk => by omega, fun k _ => by rw [e0]⟩
  · rw [mA_self] at key
    exact key
  rintro n ⟨f, i⟩ ⟨hi, hf1, hf2⟩ ih
  dsimp only at hi hf1 hf2 ih ⊢
  rw [w_X12_remember_b41]
  refine ⟨fun c => ?_, fun c => ?_⟩
  · rw [lit_nI 15, nI_leI (by omega) (by omega)] at c
    simp (disch := decide) only [oi_gI, oi_gJ, oi_gP, oi_pI, oi_pZ, oi_pJ, oi_oK, oi_aI hd, oi_aZ hd, oi_aJ hd, oi_sI hd, oi_sZ hd, oi_sJ hd, mI_1, mI_2, mJ_1, mJ_2, mJ_3, mA_1, mA_2, mA_3, mA_4, mL_1, mL_2, mL_3, mL_4, mK, Nat.reduceEqDiff, if_true, if_false, ite_true, ite_false, true_and, Nat.reduceLT, reduceIte, reduceCtorEq]
    rw [en]
    refine x_rem77 hd (M := mI (mA M 7 f) 8 15) (n := 15) (by omega) (by simp [mI_1]; rfl) (fun N hF hR => ?_)
    exact h N f ((((Fx.a 7 f).tr (Fx.i 8 15)).tr hF).le (by simp) (by simp) (by simp) (by simp)) (fun k hk => hf1 k (by omega)) (fun k hk => hf2 k (by omega)) hR
  · have c : i < 15 := by
      rw [lit_nI 15, nI_not_le (by omega) (by omega)] at c
      exact c
    simp (disch := decide) only [oi_gI, oi_gJ, oi_gP, oi_pI, oi_pZ, oi_pJ, oi_oK, oi_aI hd, oi_aZ hd, oi_aJ hd, oi_sI hd, oi_sZ hd, oi_sJ hd, mI_1, mI_2, mJ_1, mJ_2, mJ_3, mA_1, mA_2, mA_3, mA_4, mL_1, mL_2, mL_3, mL_4, mK, Nat.reduceEqDiff, if_true, if_false, ite_true, ite_false, true_and, Nat.reduceLT, reduceIte, reduceCtorEq, mA_mA]
    rw [nI_1, nI_clamp (by omega), nI_clamp (by omega)]
    refine ⟨vp_in_nI (by omega) (by omega), vp_in_nI (by omega) (by omega), eq_imp ?_⟩
    refine ih (upd f i (f (i + 1)), i + 1) ⟨by show i + 1 ≤ 15; omega, fun k hk => ?_, fun k hk => ?_⟩ (by show 15 - (i + 1) < 15 - i; omega)
    · dsimp only at hk ⊢
      by_cases e : k = i
      · subst e; rw [upd_self]; exact hf2 _ (by omega)
      · rw [upd_ne _ _ e]; exact hf1 k (by omega)
    · dsimp only at hk ⊢
      rw [upd_ne _ _ (by omega)]
      exact hf2 k (by omega)
theorem x_rem11 (hd : mD o ad) {q : hS → Prop} {t : Int32} {U0 V0 : Nat → Int32} (e6 : M.2.2.1 6 = U0) (e7 : M.2.2.1 7 = V0) (en : M.1 8 = 16) (h : ∀ N U V, Fx [8] [] [6, 7] [] M N → (∀ k, k < 1815 → U k = U0 (k + 121)) → (∀ k, 1815 ≤ k → U k = U0 k) → (∀ k, k < 15 → V k = V0 (k + 1)) → (∀ k, 15 ≤ k → V k = V0 k) → remA M N t 15 U V → q (ov S o ad N)) : ∃ n, w_X12_remember_b11 q n (ov S o ad M) o t 0 := by
  have key := loop_m (σ := (Nat → Int32) × Nat) (fun n s => w_X12_remember_b11 q n (ov S o ad (mA M 6 s.1)) o t (nI s.2)) (fun s => s.2 ≤ 1815 ∧ (∀ k, k < s.2 → s.1 k = U0 (k + 121)) ∧ ∀ k, s.2 ≤ k → s.1 k = U0 k) (fun s => 1815 - s.2) ?_ (M.2.2.1 6, 0) ⟨Nat.zero_le _, fun k hk => by omega, fun k _ => by rw [e6]⟩
  · rw [mA_self] at key
    exact key
  rintro n ⟨f, i⟩ ⟨hi, hf1, hf2⟩ ih
  dsimp only at hi hf1 hf2 ih ⊢
  rw [w_X12_remember_b11]
  refine ⟨fun c => ?_, fun c => ?_⟩
  · rw [lit_nI 1815, nI_leI (by omega) (by omega)] at c
    refine x_rem41 hd (M := mA M 6 f) (V0 := V0) e7 en (fun N V hF hV hV2 hR => ?_)
    exact h N f V (((Fx.a 6 f).tr hF).le (by simp) (by simp) (by simp) (by simp)) (fun k hk => hf1 k (by omega)) (fun k hk => hf2 k (by omega)) hV hV2 hR
  · have c : i < 1815 := by
      rw [lit_nI 1815, nI_not_le (by omega) (by omega)] at c
      exact c
    simp (disch := decide) only [oi_gI, oi_gJ, oi_gP, oi_pI, oi_pZ, oi_pJ, oi_oK, oi_aI hd, oi_aZ hd, oi_aJ hd, oi_sI hd, oi_sZ hd, oi_sJ hd, mI_1, mI_2, mJ_1, mJ_2, mJ_3, mA_1, mA_2, mA_3, mA_4, mL_1, mL_2, mL_3, mL_4, mK, Nat.reduceEqDiff, if_true, if_false, ite_true, ite_false, true_and, Nat.reduceLT, reduceIte, reduceCtorEq, mA_mA]
    rw [lit_nI 121, nIadd, nI_1, nI_clamp (by omega), nI_clamp (by omega)]
    refine ⟨vp_in_nI (by omega) (by omega), vp_in_nI (by omega) (by omega), eq_imp ?_⟩
    refine ih (upd f i (f (i + 121)), i + 1) ⟨by show i + 1 ≤ 1815; omega, fun k hk => ?_, fun k hk => ?_⟩ (by show 1815 - (i + 1) < 1815 - i; omega)
    · dsimp only at hk ⊢
      by_cases e : k = i
      · subst e; rw [upd_self]; exact hf2 _ (by omega)
      · rw [upd_ne _ _ e]; exact hf1 k (by omega)
    · dsimp only at hk ⊢
      rw [upd_ne _ _ (by omega)]
      exact hf2 k (by omega)
/-- a note more: the ring of the last sixteen -/
theorem undU_push {U V u' s' : Nat → Int32} {n t : Nat} {vs : uL} (hn : n < 16) (hv : vs.length = n) (hV : ∀ k, (h : k < vs.length) → V k = nI (vs[k]).1 ∧ (vs[k]).1 ≤ 3 ∧ ∀ i, i < 121 → U (121 * k + i) = snp f (vs[k]).2 (5 + i)) (ht : t ≤ 3) (h1 : ∀ i, i < 121 → u' (121 * n + i) = f (5 + i)) (h2 : ∀ j, (j < 121 * n ∨ 121 * n + 121 ≤ j) → u' j = U j) (h3 : s' = upd V n (nI t)) : undU u' s' f (vs ++ [(t, cut f)]) := by
  refine ⟨by rw [List.length_append, List.length_singleton]; omega, fun k hk => ?_⟩
  rw [List.length_append, List.length_singleton] at hk
  rw [List.getElem_append]
  split
  · rename_i c
    obtain ⟨a1, a2, a3⟩ := hV k c
    refine ⟨by rw [h3, upd_ne _ _ (by omega)]; exact a1, a2, fun i hi => ?_⟩
    rw [h2 _ (by omega)]
    exact a3 i hi
  · rename_i c
    have e : k = n := by omega
    subst e
    have e2 : ([(t, cut f)] : uL)[k - vs.length]'(by rw [List.length_singleton]; omega) = (t, cut f) := by
      have : ∀ (j : Nat) (hj : j < ([(t, cut f)] : uL).length), ([(t, cut f)] : uL)[j] = (t, cut f) := fun j hj => by
        rw [List.length_singleton] at hj
        have : j = 0 := by omega
        subst this
        rfl
      exact this _ _
    rw [e2]
    refine ⟨by rw [h3, upd_self], ht, fun i hi => ?_⟩
    rw [h1 i hi]
    unfold snp
    dsimp only
    rw [cut_lt (by omega)]
    split <;> rfl
/-- what lies behind the sixteen snapshots stays -/
def kp (M N : mS) : Prop := ∀ j, 1936 ≤ j → N.2.2.1 6 j = M.2.2.1 6 j
theorem x_remember (hd : mD o ad) (hM : mOk mT M) (hU : luM M us) {q : hS → Prop} {t : Nat} (ht : t ≤ 3) (h : ∀ N, mOk mT N → Fx [8] [] [6, 7] [] M N → luM N (pushU us (t, cut (M.2.2.1 3))) ∧ kp M N → q (ov S o ad N)) : w_X12_remember q (ov S o ad M) o (nI t) := by
  obtain ⟨e8, hl, hU2⟩ := hU
  have t3 : rg (nI t) 0 3 := by unfold rg; rw [nI_toInt (by omega)]; omega
  have fin : ∀ N n U V, Fx [8] [] [6, 7] [] M N → n < 16 → remA M N (nI t) n U V → undOk U 18 → srtOk V → mOk mT N := by
    intro N n U V hF hn hR hu hs
    refine mOk_rem hM hF ?_ ?_ ?_
    · refine undOk_keep hu ?_ hR.2.2.1
      rw [show 121 * n = 121 * n + 0 by omega, hR.2.1 0 (by omega)]
      exact hM.1.2.2.2.2.2.1
    · rw [hR.2.2.2]
      intro k hk
      by_cases e : k = n
      · subst e; rw [upd_self]; exact t3
      · rw [upd_ne _ _ e]; exact hs k hk
    · rw [hR.1]; unfold rg; rw [nI_toInt (by omega)]; omega
  unfold w_X12_remember
  simp (disch := decide) only [oi_gI, oi_gJ, oi_gP, oi_pI, oi_pZ, oi_pJ, oi_oK, oi_aI hd, oi_aZ hd, oi_aJ hd, oi_sI hd, oi_sZ hd, oi_sJ hd, mI_1, mI_2, mJ_1, mJ_2, mJ_3, mA_1, mA_2, mA_3, mA_4, mL_1, mL_2, mL_3, mL_4, mK, Nat.reduceEqDiff, if_true, if_false, ite_true, ite_false, true_and, Nat.reduceLT, reduceIte, reduceCtorEq]
  rw [e8]
  refine ⟨fun c => ?_, fun c => ?_⟩
  · have n16 : us.length ≠ 16 := fun e => c (by rw [e]; rfl)
    refine x_rem77 hd (n := us.length) (by omega) e8 (fun N hF hR => h N (fin N _ _ _ hF (by omega) hR hM.2.2.1 hM.2.2.2.2.1) hF ⟨⟨?_, ?_⟩, fun j hj => hR.2.2.1 j (by omega)⟩)
    · unfold pushU
      rw [if_neg n16, List.length_append, List.length_singleton]
      exact hR.1
    · unfold pushU
      rw [if_neg n16, hF.2.2.1 3 (by simp)]
      exact undU_push (by omega) rfl hU2 ht hR.2.1 hR.2.2.1 hR.2.2.2
  · have n16 : us.length = 16 := by
      have := congrArg Int32.toInt c
      rw [nI_toInt (by omega), show (16 : Int32).toInt = 16 by decide] at this
      omega
    refine x_rem11 hd rfl rfl (e8.trans c) (fun N U V hF h1 h2 h3 h4 hR => h N (fin N 15 U V hF (by omega) hR ?_ ?_) hF ⟨⟨?_, ?_⟩, fun j hj => by rw [hR.2.2.1 j (by omega)]; exact h2 j (by omega)⟩)
    · intro k hk
      by_cases c2 : k < 15
      · rw [h1 _ (by omega), show 121 * k + 121 = 121 * (k + 1) by omega]; exact hM.2.2.1 _ (by omega)
      · rw [h2 _ (by omega)]; exact hM.2.2.1 _ hk
    · intro k hk
      by_cases c2 : k < 15
      · rw [h3 _ c2]; exact hM.2.2.2.2.1 _ (by omega)
      · rw [h4 _ (by omega)]; exact hM.2.2.2.2.1 _ hk
    · unfold pushU
      rw [if_pos n16, List.length_append, List.length_singleton, List.length_tail, n16]
      exact hR.1
    · unfold pushU
      rw [if_pos n16, hF.2.2.1 3 (by simp)]
      refine undU_push (n := 15) (U := U) (V := V) (by omega) (by rw [List.length_tail, n16]) (fun k hk => ?_) ht hR.2.1 hR.2.2.1 hR.2.2.2
      rw [List.length_tail] at hk
      rw [List.getElem_tail]
      obtain ⟨a1, a2, a3⟩ := hU2 (k + 1) (by omega)
      refine ⟨by rw [h3 k (by omega)]; exact a1, a2, fun i hi => ?_⟩
      rw [h1 _ (by omega), show 121 * k + i + 121 = 121 * (k + 1) + i by omega]
      exact a3 i hi
end RL2
