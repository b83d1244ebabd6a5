/-! ORDERS ARE RUN BY THE REFERENCE: A CLAUSE ONCE -/
section RT2
variable {S : hS} {o : Nat} {ad : Nat → Nat} {M N P : mS} {mT : mS} {T T' : aS} {rs : Nat} {us : uL} {f g : Nat → Int32} {os : List pOr} {s s' : oS} {u : Nat}
theorem envO_B (hB : rB f) {dn last : Int} (h1 : 0 ≤ dn ∧ dn ≤ 1000) (h2 : -1 ≤ last ∧ last ≤ 1000) : envB (envO f dn last) := by
  have b0 := rB_0 hB
  have b1 := rB_1 hB
  have hH : nHR f ≤ 6 := by unfold nHR; omega
  have hP : nPR f ≤ 8 := by unfold nPR; omega
  have y5 := hB.1 5 (by omega)
  rw [show rLo 5 = 0 by decide, show rHi 5 = 999 by decide] at y5
  have al := aliveR_le (f := f) (nPR f)
  intro w
  unfold envO
  split
  · omega
  split
  · omega
  split
  · omega
  split
  · omega
  split
  · split
    · rename_i c
      have := hB.1 (14 + (w - 4)) (by omega)
      have h1 : rLo (14 + (w - 4)) = 0 := by unfold rLo; rw [if_neg (by omega)]
      have h2 : rHi (14 + (w - 4)) = 999 := by
        unfold rHi
        rw [if_neg (by omega), if_neg (by omega), if_neg (by omega), if_neg (by omega), if_neg (by omega), if_neg (by omega), if_neg (by omega), if_neg (by omega), if_pos (by omega)]
      rw [h1, h2] at this
      omega
    · omega
  split
  · split
    · have := allLR_in hB (p := w - 12) (by omega) (nHR f) hH
      omega
    · omega
  · split
    · have := hB.1 (8 + (w - 20)) (by omega)
      rw [(hi_w (by omega)).1, (hi_w (by omega)).2] at this
      omega
    · omega
/-- the marks of a clause -/
theorem OT.mk (h : OT M os) {j : Nat} (hj : j < os.length) : ∃ out, outAt out (M.2.2.1 24) (M.2.2.1 25) ∧ out.length ≤ 400 ∧ j < 12 ∧ clR out M j os[j] := by
  obtain ⟨out, h1, h2, h3, h4, h5, h6⟩ := h
  exact ⟨out, h2, h3, by omega, h6 j hj⟩
/-- what a sum of a clause comes to -/
def smO (a : Option pA) (e : Nat → Int) (N : mS) (x : Int32) : Prop := (a = none ∧ N.1 56 = 0) ∨ (∃ t, a = some t ∧ ((t.2.2 e = none ∧ ¬ N.1 56 = 0) ∨ ∃ v, t.2.2 e = some v ∧ N.1 56 = 0 ∧ x.toInt = v))
theorem x_sumN (hd : mD o ad) (hI : ORI mT rs os T u s M) {q : Int32 → hS → Prop} {i : Nat} {a : Option pA} {out : List (Nat × Nat)} (hu : u ≤ 1000) (hi : i < 119) (hmk : mkP out M i a) (hout : outAt out (M.2.2.1 24) (M.2.2.1 25)) (hl : out.length ≤ 400) (hp : ∀ t, a = some t → prtO t) (hnw : ∀ j, 1 ≤ j → j ≤ 4 → M.2.2.2 36 j = (nwM M s j).toInt64) (h : ∀ x N, Fx [20, 38, 56] [39] [] [37] M N → ORI mT rs os T u s N → smO a (envO s.1 s.2.1 s.2.2.1) N x → q x (ov S o ad N)) (c56 : M.1 56 = 0) : w_X12_sumOf q (ov S o ad M) o (nI i) := by
  obtain ⟨h1, h2, h3, h4, h5, h6, h7⟩ := id hI
  have hB : rB s.1 := h6.1.1
  have hBM : rB (M.2.2.1 3) := rB_cut.mp (by rw [h2.1.1]; exact hB)
  have ec : cut (M.2.2.1 3) = s.1 := h2.1.1
  have al := aliveR_le (f := s.1) (nPR s.1)
  have b1 := rB_1 hB
  have hP : nPR s.1 ≤ 8 := by unfold nPR; omega
  have y5 := hB.1 5 (by omega)
  rw [show rLo 5 = 0 by decide, show rHi 5 = 999 by decide] at y5
  have n4 : (nwM M s 4).toInt = aliveR s.1 (nPR s.1) := by
    show (nI (aliveR s.1 (nPR s.1))).toInt = _
    rw [nI_toInt (by omega)]
  have hnB : nwB (nwM M s) := by
    intro j j1 j4
    have : j = 1 ∨ j = 2 ∨ j = 3 ∨ j = 4 := by omega
    rcases this with rfl | rfl | rfl | rfl
    · show -1000000 ≤ (s.1 5).toInt ∧ (s.1 5).toInt ≤ 1000000
      unfold iR at y5
      omega
    · show -1000000 ≤ (M.1 53).toInt ∧ (M.1 53).toInt ≤ 1000000
      have := h6.2.2.1
      omega
    · show -1000000 ≤ (M.1 54).toInt ∧ (M.1 54).toInt ≤ 1000000
      have := h6.2.2.2
      omega
    · rw [n4]; omega
  have hlk : lnk orW (envO s.1 s.2.1 s.2.2.1) (eRf (cut (M.2.2.1 3)) (nwM M s)) := by
    rw [ec]
    exact lnk_or hB rfl h3 h4 n4
  have i20 : M.1 20 = 0 := h1.2.2.2.2.2.2.2.2.1
  refine x_sumOf hd hi hmk hout hl hp hBM hnw hnB hlk (envO_B hB ⟨h6.2.2.1, by omega⟩ h6.2.2.2) c56 (fun ea => h _ M Fx.rf' hI (Or.inl ⟨ea, c56⟩)) (fun t N x ea hF h20 hx => ?_)
  have hMN : mOk mT N := by
    unfold mOk at h1 ⊢
    rw [hF.1 8 (by simp), hF.1 13 (by simp), h20, hF.1 59 (by simp), hF.1 60 (by simp), hF.1 11 (by simp), hF.2.2.1 12 (by simp), hF.2.2.1 3 (by simp), hF.2.2.1 6 (by simp), hF.2.2.1 9 (by simp), hF.2.2.1 7 (by simp), hF.2.2.1 10 (by simp), hF.2.2.1 4 (by simp), hF.2.2.1 5 (by simp)]
    rw [i20] at h1
    exact h1
  refine h x N hF (hI.fx hF hMN (by simp) (by simp) (by simp)) (Or.inr ⟨t, ea, ?_⟩)
  rcases hx with hx | ⟨v, v1, v2, v3, v4⟩
  · exact Or.inl hx
  · exact Or.inr ⟨v, v1, v2, by rw [v3, wI_i (by omega)]⟩
end RT2
