section RU3
variable {S : hS} {o : Nat} {ad : Nat → Nat} {M N P : mS} {mT : mS} {T T' : aS} {rs : Nat} {us : uL} {f g : Nat → Int32} {os : List pOr} {s s' : oS} {u : Nat}
theorem deedD_neg {cs : List pCl} {act : Nat} {a b c : Int} (hB : rB f) (h : (deedD cs act f a b c).1 < 0) : (deedD cs act f a b c).2 = f := by
  have y5 := hB.1 5 (by omega)
  rw [show rLo 5 = 0 by decide, show rHi 5 = 999 by decide] at y5
  unfold deedD at h ⊢
  split at h
  · rename_i c0
    rw [if_pos c0]
    unfold ringD at h ⊢
    split at h
    · rename_i c1; rw [if_pos c1]
    · rename_i c1
      rw [if_neg c1]
      split at h
      · rename_i c2; rw [if_pos c2]
      · exfalso
        dsimp only at h
        split at h <;> omega
  · rename_i c0
    rw [if_neg c0]
    split at h
    · rename_i c1
      rw [if_pos c1]
      unfold sellD at h ⊢
      split at h
      · rename_i c1; rw [if_pos c1]
      · rename_i c1
        rw [if_neg c1]
        split at h
        · rename_i c2; rw [if_pos c2]
        · rename_i c2
          rw [if_neg c2]
          split at h
          · rename_i c3; rw [if_pos c3]
          · exfalso
            dsimp only at h
            have := costs_in (f := f) (cs := cs) (p := a.toNat) (o := b.toNat) (h := c.toNat)
            omega
    · rename_i c1
      rw [if_neg c1]
      split at h
      · rename_i c2
        rw [if_pos c2]
        unfold dieD at h ⊢
        split at h
        · rename_i c1; rw [if_pos c1]
        · rename_i c1
          rw [if_neg c1]
          split at h
          · rename_i c2; rw [if_pos c2]
          · exfalso
            dsimp only at h
            omega
      · rename_i c2
        rw [if_neg c2]
        unfold passD at h ⊢
        split at h
        · rename_i c1; rw [if_pos c1]
        · exfalso
          dsimp only at h
          omega
theorem x_sumB (hd : mD o ad) (hI : ORI mT rs os T u s M) {q : Int32 → hS → Prop} {i : Nat} {a : Option pA} {out : List (Nat × Nat)} (hu : u ≤ 1000) (hi : i < 119) (hmk : mkP out M i a) (hout : outAt out (M.2.2.1 24) (M.2.2.1 25)) (hl : out.length ≤ 400) (hp : ∀ t, a = some t → prtO t) (hnw : ∀ j, 1 ≤ j → j ≤ 4 → M.2.2.2 36 j = (nwM M s j).toInt64) (h : ∀ x N, Fx [20, 38, 56] [39] [] [37] M N → ORI mT rs os T u s N → ((¬ M.1 56 = 0 ∧ ¬ N.1 56 = 0) ∨ (M.1 56 = 0 ∧ smO a (envO s.1 s.2.1 s.2.2.1) N x)) → q x (ov S o ad N)) : w_X12_sumOf q (ov S o ad M) o (nI i) := by
  by_cases c56 : M.1 56 = 0
  · exact x_sumN hd hI hu hi hmk hout hl hp hnw (fun x N hF hN hx => h x N hF hN (Or.inr ⟨c56, hx⟩)) c56
  · unfold w_X12_sumOf
    simp (disch := decide) only [oi_gI, oi_gJ, oi_gP, oi_pI, oi_pZ, oi_pJ, oi_oK, oi_aI hd, oi_aZ hd, oi_aJ hd, oi_sI hd, oi_sZ hd, oi_sJ hd, mI_1, mI_2, mJ_1, mJ_2, mJ_3, mA_1, mA_2, mA_3, mA_4, mL_1, mL_2, mL_3, mL_4, mK, Nat.reduceEqDiff, if_true, if_false, ite_true, ite_false, true_and, Nat.reduceLT, reduceIte, reduceCtorEq, cl_0, cl_1, cl_2, cl_3, cl_4, cl_5, cl_6, cl_7, cl_8, cl_9, cl_10, cl_11, cl_12, cl_13, cl_14, cl_15, vl_0_5585, vl_1_5585, vl_2_5585, vl_3_5585, vl_4_5585, vl_5_5585, vl_6_5585, vl_0_7, vl_1_7, vl_2_7, vl_3_7, vl_4_7, vl_5_7, vl_6_7]
    exact ⟨fun _ => h (-1) M Fx.rf' hI (Or.inl ⟨c56, c56⟩), fun z => absurd z c56⟩
/-- a sum that could be reckoned, or not -/
theorem smO.val {a : Option pA} {e : Nat → Int} {x : Int32} (h : smO a e N x) : (¬ N.1 56 = 0 ∧ wgV a e = none) ∨ (N.1 56 = 0 ∧ ∃ v, wgV a e = some v ∧ (a ≠ none → x.toInt = v)) := by
  rcases h with ⟨h1, h2⟩ | ⟨t, h1, ⟨h2, h3⟩ | ⟨v, h2, h3, h4⟩⟩
  · rw [h1]
    exact Or.inr ⟨h2, 1, rfl, fun z => absurd rfl z⟩
  · rw [h1]
    exact Or.inl ⟨h3, h2⟩
  · rw [h1]
    exact Or.inr ⟨h3, v, h2, fun _ => h4⟩
theorem nw_cg (hF : Fx [20, 38, 56] [39] [] [37] M N) (h : ∀ j, 1 ≤ j → j ≤ 4 → M.2.2.2 36 j = (nwM M s j).toInt64) : ∀ j, 1 ≤ j → j ≤ 4 → N.2.2.2 36 j = (nwM N s j).toInt64 := by
  intro j h1 h2
  rw [hF.2.2.2 36 (by simp), h j h1 h2]
  unfold nwM
  rw [hF.1 53 (by simp), hF.1 54 (by simp)]
theorem mkP.fx {a b c d : List Nat} {out : List (Nat × Nat)} {i : Nat} {t : Option pA} (h : mkP out M i t) (hF : Fx a b c d M N) (hc : 52 ∉ c) : mkP out N i t := by
  have := h.to (l := []) (N := N) (by rw [hF.2.2.1 52 hc]) (by rw [hF.2.2.1 52 hc])
  rw [List.append_nil] at this
  exact this
end RU3
