/-! THE REFERENCE UNDOES -/
theorem wI_nI {n : Nat} (h : n < 2 ^ 31) : wI (n : Int) = nI n := by
  apply Int32.toInt_inj.mp
  rw [wI_i (by omega), nI_toInt h]
section XU
variable {S : hS} {o : Nat} {ad : Nat → Nat} {M N P M1 : mS} {mT : mS} {T : aS} {rs : Nat} {L : Nat → List pCl} {us : uL} {f g u s F r : Nat → Int32}
theorem RR.lu (h : RR M rs T) : M.1 8 = nI T.2.2.1.length ∧ undU (M.2.2.1 6) (M.2.2.1 7) (M.2.2.1 3) T.2.2.1 := h.2.2.1
theorem put_cut {n : Nat} {y : Nat → Int32} {r s : Nat → Int32} (h1 : ∀ i, i < 121 → s (5 + i) = u (121 * n + i)) (h2 : ∀ j, (j < 5 ∨ 126 ≤ j) → s j = r j) (hu : ∀ i, i < 121 → u (121 * n + i) = snp r y (5 + i)) : cut s = undF (cut r) y := by
  funext j
  unfold undF
  by_cases c : j < 185
  · rw [cut_lt c, cut_lt c]
    by_cases c2 : 5 ≤ j ∧ j < 126
    · have e := h1 (j - 5) (by omega)
      rw [show 5 + (j - 5) = j by omega, hu (j - 5) (by omega), show 5 + (j - 5) = j by omega] at e
      rw [e]
      unfold snp
      by_cases c3 : j = 6 ∨ j = 7
      · rw [if_pos c3, if_neg (by omega)]
      · rw [if_neg c3, if_pos (by omega)]
    · rw [if_neg (by omega)]
      exact h2 j (by omega)
  · rw [if_neg (by omega)]
    unfold cut
    rw [if_neg c, if_neg c]
theorem xr_undo (hd : mD o ad) (hM : mOk mT M) (hR : RR M rs T) (hA : aB T) {q : Int32 → hS → Prop} (h : ∀ N, mOk mT N → RR N rs (spUndo T).2 → q (spUndo T).1 (ov S o ad N)) : w_X12_undo q (ov S o ad M) o := by
  obtain ⟨e8, hl, hU⟩ := hR.lu
  unfold w_X12_undo
  simp (disch := decide) only [oi_gI, oi_gJ, oi_gP, oi_pI, oi_pZ, oi_pJ, oi_oK, oi_aI hd, oi_aZ hd, oi_aJ hd, oi_sI hd, oi_sZ hd, oi_sJ hd, mI_1, mI_2, mJ_1, mJ_2, mJ_3, mA_1, mA_2, mA_3, mA_4, mL_1, mL_2, mL_3, mL_4, mK, Nat.reduceEqDiff, if_true, if_false, ite_true, ite_false, true_and, Nat.reduceLT, reduceIte, reduceCtorEq]
  rw [e8]
  refine ⟨fun c => ?_, fun c => ?_⟩
  · obtain ⟨vs, y, hus⟩ : ∃ vs y, T.2.2.1 = vs ++ [y] := by
      have hne : T.2.2.1 ≠ [] := fun z => c (by rw [z]; rfl)
      exact ⟨T.2.2.1.dropLast, T.2.2.1.getLast hne, (List.dropLast_concat_getLast _).symm⟩
    have es : spUndo T = spAcc (nI y.1) ((undF T.1.1 y.2, T.1.2), T.2.1, vs, T.2.2.2) := by
      unfold spUndo
      rw [hus, List.getLast?_concat, List.dropLast_concat]
    have hlen : T.2.2.1.length = vs.length + 1 := by rw [hus, List.length_append, List.length_singleton]
    have hlast : ∀ (hk : vs.length < T.2.2.1.length), T.2.2.1[vs.length] = y := by
      rw [hus]
      intro hk
      exact List.getElem_concat_length rfl _
    obtain ⟨u1, u2, u3⟩ := hU vs.length (by omega)
    rw [hlast] at u1 u2 u3
    rw [hlen]
    have e1 : nI (vs.length + 1) - 1 = nI vs.length := nI_pred vs.length
    rw [e1]
    refine f_putBack hd (by omega) (fun N hF h1 h2 => ?_)
    have hF' := ((Fx.i 0 0).tr (Fx.i 8 (nI vs.length))).tr hF
    have hF2 : Fx [0, 8] [] [3, 6, 7] [] M N := hF'.le (by simp) (by simp) (by simp) (by simp)
    have h1' : ∀ i, i < 121 → N.2.2.1 3 (5 + i) = M.2.2.1 6 (121 * vs.length + i) := h1
    have h2' : ∀ j, (j < 5 ∨ 126 ≤ j) → N.2.2.1 3 j = M.2.2.1 3 j := h2
    simp (disch := decide) only [oi_gI, oi_gJ, oi_gP, oi_pI, oi_pZ, oi_pJ, oi_oK, oi_aI hd, oi_aZ hd, oi_aJ hd, oi_sI hd, oi_sZ hd, oi_sJ hd, mI_1, mI_2, mJ_1, mJ_2, mJ_3, mA_1, mA_2, mA_3, mA_4, mL_1, mL_2, mL_3, mL_4, mK, Nat.reduceEqDiff, if_true, if_false, ite_true, ite_false, true_and, Nat.reduceLT, reduceIte, reduceCtorEq]
    rw [hF.1 8 (by simp), hF.2.2.1 7 (by simp)]
    simp only [mI_1, mI_2, if_true, reduceIte]
    rw [nI_clamp (by omega), u1]
    have hN : mOk mT N := by
      refine mOk_und hF' hM ?_ ?_ ?_ ?_ (by simp)
      · rw [hF.1 8 (by simp)]
        simp only [mI_1, if_true, reduceIte]
        unfold rg
        rw [nI_toInt (by omega)]
        omega
      · rw [hF.2.2.1 6 (by simp)]
        exact hM.2.2.1
      · rw [hF.2.2.1 7 (by simp)]
        exact hM.2.2.2.2.1
      · refine rowOk_year (f := M.2.2.1 3) (fun i hi h5 => h2 i ?_) ?_ hM.1
        · unfold rCon at hi; omega
        · have := h1' 0 (by omega)
          rw [Nat.add_zero, Nat.add_zero] at this
          rw [this]
          exact hM.2.2.1 vs.length (by omega)
    have hcut : cut (N.2.2.1 3) = undF T.1.1 y.2 := by
      rw [← hR.1.1]
      exact put_cut h1' h2' u3
    have n67 : ∀ i, i < 185 → ¬ inLe i → N.2.2.1 3 i = M.2.2.1 3 i := fun i hi hn => by
      rw [← cut_lt (f := N.2.2.1 3) hi, hcut]
      unfold undF
      unfold inLe at hn
      rw [if_neg hn, hR.at hi]
    have hRN : RR N rs ((undF T.1.1 y.2, T.1.2), T.2.1, vs, T.2.2.2) := by
      refine hR.deed hF2 (by simp) (by simp) hcut (fun i hi => h2' i (by omega)) (by unfold undF; rw [if_neg (by omega)]) ⟨?_, ?_⟩
      · rw [hF.1 8 (by simp)]
        simp only [mI_1, if_true, reduceIte]
      · refine undU_cg (u := M.2.2.1 6) (s := M.2.2.1 7) (f := M.2.2.1 3) (fun j _ => by rw [hF.2.2.1 6 (by simp)]; rfl) (fun k _ => by rw [hF.2.2.1 7 (by simp)]; rfl) ⟨n67 6 (by omega) (by unfold inLe; omega), n67 7 (by omega) (by unfold inLe; omega)⟩ ⟨by omega, fun k hk => ?_⟩
        have hk' : k < T.2.2.1.length := by omega
        have ek : T.2.2.1[k] = vs[k] := by
          have : ∀ (us : uL) (e : us = vs ++ [y]) (h : k < us.length), us[k] = vs[k] := fun us e h => by
            subst e
            exact List.getElem_append_left hk
          exact this _ hus _
        have := hU k hk'
        rw [ek] at this
        exact this
    rw [es] at h
    refine ⟨vp_in_nI (by omega) (by omega), r_tell hd hN hRN (code := (y.1 : Int)) (nI_toInt (by omega)) (by omega) (fun P hP hRP => ?_)⟩
    unfold spTell at hRP ⊢
    rw [if_neg (by omega), wI_nI (by omega)] at hRP ⊢
    exact h P hP hRP
  · have e0 : T.2.2.1 = [] := by
      have := congrArg Int32.toInt c
      rw [nI_toInt (by omega), show (0 : Int32).toInt = 0 by decide] at this
      exact List.eq_nil_of_length_eq_zero (by omega)
    have es : spUndo T = spRef 3 T := by unfold spUndo; rw [e0]; rfl
    have e3 : spTell (-3) T = spRef 3 T := by unfold spTell; rw [if_pos (by decide)]; rfl
    rw [es, ← e3] at h
    exact r_tell hd (mOk_i hM (by omega)) hR.z (code := -3) (by decide) (by omega) h
end XU
