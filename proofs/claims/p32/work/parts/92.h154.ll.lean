section LL
variable {Γ : kG} {Φ : kF} {S : hS} {x : Nat} {ρ : Nat → Nat} {rs : Nat} {T : aS} {o : Nat} {ad : Nat → Nat} {M : mS} {mT : mS} {G : Nat → Int32}
def spWho (T : aS) : Int32 := whoR T.1.1 (nPR T.1.1)
theorem cx_who {q : Int32 → hS → Prop} (h : CR Γ S x ρ rs T) (hs : St Γ Φ S) (hc : cluB T) (k : q (spWho T) S) : w_X11_who q S x := by
  obtain ⟨t1, t2, t3, t4, t5⟩ := h.2.1
  unfold w_X11_who
  refine E_gP_11_0 hs h.1 (fun _ => T_oK_8 hs t1 (kx_suspects hs t1 (by rw [t2]; exact t3) (by rw [t2]; exact hc.1) ?_))
  rw [t2]
  exact k
theorem cx_look {q : Int32 → hS → Prop} {a : Int32} (h : CR Γ S x ρ rs T) (hs : St Γ Φ S) (hc : cluB T) (k : q (spLook a T) S) : w_X11_look q S x a := by
  obtain ⟨t1, t2, t3, t4, t5⟩ := h.2.1
  have b0 := rB_0 t3
  have b1 := rB_1 t3
  have hP : nPR T.1.1 ≤ 8 := by unfold nPR; omega
  have hH : nHR T.1.1 ≤ 6 := by unfold nHR; omega
  have iH : iR T.1.1 0 = nHR T.1.1 := by unfold nHR; omega
  have e0 : T.1.1 0 = nI (nHR T.1.1) := by
    apply Int32.toInt_inj.mp
    have : iR T.1.1 0 = (T.1.1 0).toInt := rfl
    rw [nI_toInt (by omega)]; omega
  unfold w_X11_look
  refine E_gP_11_0 hs h.1 (fun _ => T_oK_8 hs t1 (kx_suspects hs t1 (by rw [t2]; exact t3) (by rw [t2]; exact hc.1) ?_))
  rw [t2]
  unfold spLook at k
  obtain ⟨w, ew⟩ : ∃ w, whoR T.1.1 (nPR T.1.1) = w := ⟨_, rfl⟩
  rw [ew] at k ⊢
  refine ⟨fun c => ?_, fun c => ?_⟩
  · rw [if_pos (Or.inl c)] at k
    exact k
  · have b23 : (a = 0 ∨ a = 1) → w_X11_look_b23 q S x a w := by
      intro ha
      rw [if_neg (fun z => z.elim c (fun z => z ha))] at k
      unfold w_X11_look_b23
      have key := loop_m (σ := Nat) (fun t n => w_X11_look_b32 q t S x a w (wI (lkS T.1.1 w n).2) (nI (lkS T.1.1 w n).1) (nI n)) (fun n => n ≤ nHR T.1.1) (fun n => nHR T.1.1 - n) ?_ 0 (Nat.zero_le _)
      · exact key
      rintro t n hn ih
      have ll := lkS_le (f := T.1.1) (w := w) n
      rw [w_X11_look_b32]
      refine E_gP_11_0 hs h.1 (fun _ => V_gI_1 hs t1 (fun r => ?_))
      rw [t2, e0, nI_leI (by omega) (by omega)]
      have m1 : wI (lkS T.1.1 w n).2 = -1 ↔ (lkS T.1.1 w n).2 = -1 := by
        rw [← Int32.toInt_inj, wI_i (by omega), show (-1 : Int32).toInt = -1 by decide]
      refine ⟨fun cn => ?_, fun cn => E_gP_11_0 hs h.1 (fun _ => T_oK_8 hs t1 (kx_remain hs t1 (by rw [t2]; exact t3) (by rw [t2]; exact ew.symm) rfl (by rw [t2]; omega) ?_))⟩
      · have en : n = nHR T.1.1 := by omega
        rw [← en] at k
        refine ⟨fun c1 => ?_, fun c1 => ⟨fun c2 => ?_, fun c2 => ?_⟩⟩
        · rw [if_pos (Or.inl (m1.mp c1))] at k
          exact k
        · rw [if_neg (fun z => z.elim (fun z => c1 (m1.mpr z)) c2)] at k
          exact k
        · rw [if_pos (Or.inr c2)] at k
          exact k
      · rw [t2]
        have ml := moR_le (h := n) ew.symm hP
        have nx : ∀ (u : Int32) (v : Int32), u = wI (lkS T.1.1 w (n + 1)).2 → v = nI (lkS T.1.1 w (n + 1)).1 → w_X11_look_b70 q (fun S v0 v1 v2 v3 v4 v5 => w_X11_look_b32 q t S v0 v1 v2 v3 v4 v5) S x a w u v (nI n) := by
          intro u v eu ev y ey
          rw [ey, nI_1, eu, ev]
          exact ih (n + 1) (by omega) (by omega)
        rw [nI_leI (by omega) (by omega)]
        refine ⟨fun cl => nx _ _ ?_ ?_, fun cl => nx _ _ ?_ ?_⟩
        · rw [lkS, if_neg (by omega)]
        · rw [lkS, if_neg (by omega)]
        · rw [lkS, if_pos (by omega)]
          exact (wI_nI (by omega)).symm
        · rw [lkS, if_pos (by omega)]
    refine ⟨fun c0 => b23 (Or.inl c0), fun c0 => ⟨fun c1 => b23 (Or.inr c1), fun c1 => ?_⟩⟩
    rw [if_pos (Or.inr (fun z => z.elim c0 c1))] at k
    exact k
theorem x_look (hd : mD o ad) (hB : rB G) (hG : ∀ i, i < 185 → M.2.2.1 3 i = G i) {q : Int32 → hS → Prop} {a : Int32} (eT : T.1.1 = G) (k : q (spLook a T) (ov S o ad (mI M 0 0))) : w_X12_look q (ov S o ad M) o a := by
  have b0 := rB_0 hB
  have b1 := rB_1 hB
  have hP : nPR G ≤ 8 := by unfold nPR; omega
  have hH : nHR G ≤ 6 := by unfold nHR; omega
  have e0 : G 0 = nI (nHR G) := by
    apply Int32.toInt_inj.mp
    have : iR G 0 = (G 0).toInt := rfl
    unfold nHR
    rw [nI_toInt (by omega)]; omega
  have e1 : G 1 = nI (nPR G) := by
    apply Int32.toInt_inj.mp
    have : iR G 1 = (G 1).toInt := rfl
    unfold nPR
    rw [nI_toInt (by omega)]; omega
  have hG0 : ∀ i, i < 185 → (mI M 0 0).2.2.1 3 i = G i := hG
  unfold spLook at k
  rw [eT] at k
  unfold w_X12_look
  simp (disch := decide) only [oi_gI, oi_gJ, oi_gP, oi_pI, oi_pZ, oi_pJ, oi_oK, oi_aI hd, oi_aZ hd, oi_aJ hd, oi_sI hd, oi_sZ hd, oi_sJ hd, mI_1, mI_2, mJ_1, mJ_2, mJ_3, mA_1, mA_2, mA_3, mA_4, mL_1, mL_2, mL_3, mL_4, mK, Nat.reduceEqDiff, if_true, if_false, ite_true, ite_false, true_and, Nat.reduceLT, reduceIte, reduceCtorEq, cl_0, cl_1, cl_2, cl_3, cl_4, cl_5, cl_6, cl_7, cl_8, cl_9, cl_10, cl_11, cl_12, cl_13, cl_14, cl_15, vl_0_5585, vl_1_5585, vl_2_5585, vl_3_5585, vl_4_5585, vl_5_5585, vl_6_5585, vl_0_7, vl_1_7, vl_2_7, vl_3_7, vl_4_7, vl_5_7, vl_6_7]
  refine x_whoCan hd hB hG0 ?_
  obtain ⟨w, ew⟩ : ∃ w, whoR G (nPR G) = w := ⟨_, rfl⟩
  rw [ew] at k ⊢
  have in01 : ∀ z : Int32, 0 ≤ z.toInt → z.toInt ≤ 1 → z = 0 ∨ z = 1 := fun z h1 h2 => by
    have : z.toInt = 0 ∨ z.toInt = 1 := by omega
    rcases this with e | e
    · exact Or.inl (Int32.toInt_inj.mp (by rw [e]; decide))
    · exact Or.inr (Int32.toInt_inj.mp (by rw [e]; decide))
  refine s_inI 0 1 (by decide) (by decide) (fun a1 a2 => ⟨fun z => absurd z (by decide), fun _ => ⟨fun cw => ?_, fun cw => ?_⟩⟩) (fun na => ⟨fun _ => ?_, fun z => absurd rfl z⟩)
  · have ha := in01 a a1 a2
    rw [if_neg (fun z => z.elim cw (fun z => z ha))] at k
    have lst : Nat → Int32 := fun n => if n = 0 then 100000000 else nI (lkS G w n).1
    have key := loop_m (σ := Nat) (fun t n => w_X12_look_b36 q t (ov S o ad (mI M 0 0)) o a w (if n = 0 then 100000000 else nI (lkS G w n).1) (wI (lkS G w n).2) (nI n)) (fun n => n ≤ nHR G) (fun n => nHR G - n) ?_ 0 (Nat.zero_le _)
    · exact key
    rintro t n hn ih
    have ll := lkS_le (f := G) (w := w) n
    have ml := moR_le (h := n) ew.symm hP
    have m1 : wI (lkS G w n).2 = -1 ↔ (lkS G w n).2 = -1 := by
      rw [← Int32.toInt_inj, wI_i (by omega), show (-1 : Int32).toInt = -1 by decide]
    rw [w_X12_look_b36]
    simp (disch := decide) only [oi_gI, oi_gJ, oi_gP, oi_pI, oi_pZ, oi_pJ, oi_oK, oi_aI hd, oi_aZ hd, oi_aJ hd, oi_sI hd, oi_sZ hd, oi_sJ hd, mI_1, mI_2, mJ_1, mJ_2, mJ_3, mA_1, mA_2, mA_3, mA_4, mL_1, mL_2, mL_3, mL_4, mK, Nat.reduceEqDiff, if_true, if_false, ite_true, ite_false, true_and, Nat.reduceLT, reduceIte, reduceCtorEq, cl_0, cl_1, cl_2, cl_3, cl_4, cl_5, cl_6, cl_7, cl_8, cl_9, cl_10, cl_11, cl_12, cl_13, cl_14, cl_15, vl_0_5585, vl_1_5585, vl_2_5585, vl_3_5585, vl_4_5585, vl_5_5585, vl_6_5585, vl_0_7, vl_1_7, vl_2_7, vl_3_7, vl_4_7, vl_5_7, vl_6_7]
    rw [hG 0 (by omega), e0, nI_leI (by omega) (by omega)]
    refine ⟨fun cn => ?_, fun cn => ?_⟩
    · have en : n = nHR G := by omega
      rw [← en] at k
      refine ⟨fun c1 => ?_, fun c1 => ⟨fun c2 => ?_, fun c2 => ?_⟩⟩
      · rw [if_pos (Or.inl (m1.mp c1))] at k
        exact k
      · rw [if_neg (fun z => z.elim (fun z => c1 (m1.mpr z)) c2)] at k
        have n0 : n ≠ 0 := fun z => c1 (m1.mpr (by rw [z]; rfl))
        rw [if_neg n0]
        exact k
      · rw [if_pos (Or.inr c2)] at k
        exact k
    · -- one house
      have nx : ∀ (u v : Int32), u = nI (lkS G w (n + 1)).1 → v = wI (lkS G w (n + 1)).2 → w_X12_look_b153 q (fun S v0 v1 v2 v3 v4 v5 => w_X12_look_b36 q t S v0 v1 v2 v3 v4 v5) (ov S o ad (mI M 0 0)) o a w v (nI n) u := by
        intro u v eu ev y ey
        rw [ey, nI_1, eu, ev]
        have := ih (n + 1) (by omega) (by omega)
        rw [if_neg (by omega)] at this
        exact this
      have b124 : w_X12_look_b124 q (fun S v0 v1 v2 v3 v4 v5 => w_X12_look_b36 q t S v0 v1 v2 v3 v4 v5) (ov S o ad (mI M 0 0)) o a w (if n = 0 then 100000000 else nI (lkS G w n).1) (wI (lkS G w n).2) (nI n) (nI (moR G w n)) := by
        have cmp : (if n = 0 then 100000000 else nI (lkS G w n).1) ≤ nI (moR G w n) ↔ ¬ moR G w n < (lkS G w n).1 := by
          by_cases z : n = 0
          · rw [if_pos z, Int32.le_iff_toInt_le, nI_toInt (by omega), show (100000000 : Int32).toInt = 100000000 by decide, z]
            show (100000000 : Int) ≤ (moR G w 0 : Int) ↔ ¬ moR G w 0 < 9
            rw [z] at ml
            omega
          · rw [if_neg z, nI_leI (by omega) (by omega)]
            omega
        refine ⟨fun c1 => ⟨fun c2 => nx _ _ ?_ ?_, fun c2 => absurd c1 c2⟩, fun c1 => ⟨fun c2 => absurd c2 c1, fun c2 => nx _ _ ?_ ?_⟩⟩
        · have c1' := cmp.mp c1
          rw [lkS, if_neg c1']
          have z : n ≠ 0 := fun z => c1' (by rw [z] at ml ⊢; show moR G w 0 < 9; omega)
          rw [if_neg z]
        · rw [lkS, if_neg (cmp.mp c1)]
        · have c1' : moR G w n < (lkS G w n).1 := Decidable.of_not_not (fun z => c1 (cmp.mpr z))
          rw [lkS, if_pos c1']
        · have c1' : moR G w n < (lkS G w n).1 := Decidable.of_not_not (fun z => c1 (cmp.mpr z))
          rw [lkS, if_pos c1']
          exact (wI_nI (by omega)).symm
      have key := loop_m (σ := Nat) (fun t' p => w_X12_look_b53 q (fun S v0 v1 v2 v3 v4 v5 => w_X12_look_b36 q t S v0 v1 v2 v3 v4 v5) t' (ov S o ad (mI M 0 0)) o a w (if n = 0 then 100000000 else nI (lkS G w n).1) (wI (lkS G w n).2) (nI n) (nI (wiN G w n p)) (nI p)) (fun p => p ≤ nPR G) (fun p => nPR G - p) ?_ 0 (Nat.zero_le _)
      · exact key
      rintro t' p hp ih'
      have w1 := wiN_le (f := G) (w := w) (h := n) p
      have w2 := onesN_le (a := w) p
      have w3 := onesN_le (a := w) 8
      rw [w_X12_look_b53]
      simp (disch := decide) only [oi_gI, oi_gJ, oi_gP, oi_pI, oi_pZ, oi_pJ, oi_oK, oi_aI hd, oi_aZ hd, oi_aJ hd, oi_sI hd, oi_sZ hd, oi_sJ hd, mI_1, mI_2, mJ_1, mJ_2, mJ_3, mA_1, mA_2, mA_3, mA_4, mL_1, mL_2, mL_3, mL_4, mK, Nat.reduceEqDiff, if_true, if_false, ite_true, ite_false, true_and, Nat.reduceLT, reduceIte, reduceCtorEq, cl_0, cl_1, cl_2, cl_3, cl_4, cl_5, cl_6, cl_7, cl_8, cl_9, cl_10, cl_11, cl_12, cl_13, cl_14, cl_15, vl_0_5585, vl_1_5585, vl_2_5585, vl_3_5585, vl_4_5585, vl_5_5585, vl_6_5585, vl_0_7, vl_1_7, vl_2_7, vl_3_7, vl_4_7, vl_5_7, vl_6_7]
      rw [hG 1 (by omega), e1, nI_leI (by omega) (by omega)]
      have nb : ∀ u : Int32, u = nI (wiN G w n (p + 1)) → p < nPR G → ∀ y94 : Int32, y94 = nI p + 1 → w_X12_look_b53 q (fun S v0 v1 v2 v3 v4 v5 => w_X12_look_b36 q t S v0 v1 v2 v3 v4 v5) t' (ov S o ad (mI M 0 0)) o a w (if n = 0 then 100000000 else nI (lkS G w n).1) (wI (lkS G w n).2) (nI n) u y94 := by
        intro u eu hl y ey
        rw [ey, nI_1, eu]
        exact ih' (p + 1) (by omega) (by omega)
      refine ⟨fun cn2 => x_ones ?_, fun cn2 => s_isB (by omega) (fun hb => ⟨fun z => absurd z (by decide), fun _ => ⟨ov_oK, s_leftOf hd (by omega) (by omega) ?_⟩⟩) (fun hb => ⟨fun _ z ez => ?_, fun z => absurd rfl z⟩)⟩
      · have ep : p = nPR G := by omega
        have w1' : wiN G w n (nPR G) ≤ onesN w 8 := by
          have := ones_who (f := G) hP 8 hP (Nat.le_refl _)
          rw [ew] at this
          rw [this, ← ep]
          exact w1
        rw [ep, nIsub w1', nI_leI (by omega) (by omega)]
        have em : ∀ c : Prop, True := fun _ => trivial
        refine ⟨fun c1 => x_ones ?_, fun c1 => ?_⟩
        · rw [nIsub w1']
          have : moR G w n = onesN w 8 - wiN G w n (nPR G) := by unfold moR; rw [if_pos c1]
          rw [← this]
          exact b124
        · have : moR G w n = wiN G w n (nPR G) := by unfold moR; rw [if_neg c1]
          rw [← this]
          exact b124
      · have l := left_G hB (p := p) (e := n) (by omega) (by omega)
        have cl : (mI M 0 0).2.2.1 3 (30 + 6 * p + n) - (mI M 0 0).2.2.1 3 (78 + 6 * p + n) ≤ 0 ↔ ¬ 1 ≤ leftR G p n := by
          rw [hG0 _ (by omega), hG0 _ (by omega), Int32.le_iff_toInt_le, l.1, show (0 : Int32).toInt = 0 by decide]
          omega
        refine ⟨fun c1 z ez => ?_, fun c1 z ez => ?_⟩
        · have e : wiN G w n (p + 1) = wiN G w n p := by rw [wiN, if_neg (fun z => (cl.mp c1) z.2)]
          exact nb z (by rw [ez, e, Int32.add_zero]) (by omega)
        · have e : wiN G w n (p + 1) = wiN G w n p + 1 := by rw [wiN, if_pos ⟨hb, Decidable.of_not_not (fun z => c1 (cl.mpr z))⟩]
          exact nb z (by rw [ez, e, nI_1]) (by omega)
      · have e : wiN G w n (p + 1) = wiN G w n p := by rw [wiN, if_neg (fun z => hb z.1)]
        exact nb z (by rw [ez, e, Int32.add_zero]) (by omega)
  · rw [if_pos (Or.inl cw)] at k
    exact k
  · rw [if_pos (Or.inr (fun z => na (by rcases z with z | z <;> rw [z] <;> decide)))] at k
    exact k
end LL
