/-! ORDERS ARE RUN BY THE REFERENCE: ONE TRY -/
def Fo (M N : mS) : Prop := Fx [8, 20, 34, 38, 53, 54, 56] [39, 40] [3, 6, 7] [35, 36, 37] M N ∧ kp M N
section RNN
variable {S : hS} {o : Nat} {ad : Nat → Nat} {M N P : mS} {mT : mS} {T T' : aS} {rs : Nat} {us : uL} {f g : Nat → Int32} {os : List pOr} {s s' : oS} {u : Nat}
theorem Fo.tr (h : Fo M N) (h' : Fo N P) : Fo M P := ⟨(h.1.tr h'.1).le (by simp) (by simp) (by simp) (by simp), fun j hj => by rw [h'.2 j hj, h.2 j hj]⟩
theorem Fo.of {a b c d : List Nat} (h : Fx a b c d M N) (ha : a ⊆ [8, 20, 34, 38, 53, 54, 56]) (hb : b ⊆ [39, 40]) (hc : c ⊆ [3, 6, 7]) (hd : d ⊆ [35, 36, 37]) (h6 : 6 ∉ c) : Fo M N := ⟨h.le ha hb hc hd, fun j _ => by rw [h.2.2.1 6 h6]⟩
/-- the state in the midst of orders -/
def oT (T : aS) (s : oS) : aS := ((s.1, T.1.2), T.2.1, s.2.2.2, T.2.2.2)
def oB (T : aS) (s : oS) : Prop := aB (oT T s) ∧ (∀ i, ¬ inLe i → s.1 i = T.1.1 i) ∧ 0 ≤ s.2.1 ∧ -1 ≤ s.2.2.1 ∧ s.2.2.1 ≤ 1000
def ORI (mT : mS) (rs : Nat) (os : List pOr) (T : aS) (u : Nat) (s : oS) (M : mS) : Prop := mOk mT M ∧ RR M rs (oT T s) ∧ (M.1 53).toInt = s.2.1 ∧ (M.1 54).toInt = s.2.2.1 ∧ OT M os ∧ oB T s ∧ s.2.1 ≤ u
/-- a clause of orders that can be run -/
def okR (o : pOr) : Prop := o.1 < 4 ∧ orQ prtO o ∧ (∀ t, o.2.2.2 = some t → Tst t) ∧ (o.1 < 3 → o.2.1.1 ≠ none) ∧ (o.1 < 2 → o.2.1.2.1 ≠ none) ∧ (o.1 = 1 → o.2.1.2.2 ≠ none) ∧ 1 ≤ o.2.2.1 ∧ o.2.2.1 ≤ 20
theorem oT_cs (h : oB T s) : csF (oT T s).1.1 (oT T s).1.2 = csF T.1.1 T.1.2 := by
  show csF s.1 T.1.2 = csF T.1.1 T.1.2
  unfold csF iR
  rw [h.2.1 4 (by unfold inLe; omega)]
theorem OT.fx {a b c d : List Nat} (h : OT M os) (hF : Fx a b c d M N) (ha : 21 ∉ a ∧ 23 ∉ a) (hc : 24 ∉ c ∧ 25 ∉ c ∧ 52 ∉ c) : OT N os := by
  obtain ⟨out, h1, h2, h3, h4, h5, h6⟩ := h
  refine ⟨out, by rw [hF.1 23 ha.2]; exact h1, by rw [hF.2.2.1 24 hc.1, hF.2.2.1 25 hc.2.1]; exact h2, h3, by rw [hF.1 21 ha.1]; exact h4, h5, fun j hj => clR_fx (h6 j hj) (hF.2.2.1 52 hc.2.2)⟩
theorem ORI.fx {a b c d : List Nat} (h : ORI mT rs os T u s M) (hF : Fx a b c d M N) (hM : mOk mT N) (ha : (8 ∉ a ∧ 13 ∉ a ∧ 18 ∉ a ∧ 55 ∉ a ∧ 1 ∉ a ∧ 59 ∉ a ∧ 60 ∉ a ∧ 11 ∉ a) ∧ 21 ∉ a ∧ 23 ∉ a ∧ 53 ∉ a ∧ 54 ∉ a) (hc : (2 ∉ c ∧ 3 ∉ c ∧ 4 ∉ c ∧ 5 ∉ c ∧ 6 ∉ c ∧ 7 ∉ c ∧ 12 ∉ c ∧ 58 ∉ c) ∧ 24 ∉ c ∧ 25 ∉ c ∧ 52 ∉ c) (hd : 31 ∉ d ∧ 32 ∉ d ∧ 33 ∉ d ∧ 51 ∉ d) : ORI mT rs os T u s N := by
  obtain ⟨h1, h2, h3, h4, h5, h6, h7⟩ := h
  exact ⟨hM, h2.fx hF ha.1 hc.1 hd, by rw [hF.1 53 ha.2.2.2.1]; exact h3, by rw [hF.1 54 ha.2.2.2.2]; exact h4, h5.fx hF ⟨ha.2.1, ha.2.2.1⟩ hc.2, h6, h7⟩
/-- the words that orders may name, as the reference has them -/
def nwM (M : mS) (s : oS) : Nat → Int32 := fun j => if j = 1 then s.1 5 else if j = 2 then M.1 53 else if j = 3 then M.1 54 else nI (aliveR s.1 (nPR s.1))
theorem dDx_0 {cs : List pCl} {f : Nat → Int32} {a b c c' : Int} : deedD cs 0 f a b c = deedD cs 0 f a b c' := by
  unfold deedD
  rw [if_pos (show 0 = 0 from rfl), if_pos (show 0 = 0 from rfl)]
theorem dDx_2 {cs : List pCl} {f : Nat → Int32} {a b c b' c' : Int} : deedD cs 2 f a b c = deedD cs 2 f a b' c' := by
  unfold deedD
  rw [if_neg (show ¬ 2 = 0 by omega), if_neg (show ¬ 2 = 0 by omega), if_neg (show ¬ 2 = 1 by omega), if_neg (show ¬ 2 = 1 by omega), if_pos (show 2 = 2 from rfl)]
theorem dDx_3 {cs : List pCl} {f : Nat → Int32} {a b c a' b' c' : Int} : deedD cs 3 f a b c = deedD cs 3 f a' b' c' := by
  unfold deedD
  rw [if_neg (show ¬ 3 = 0 by omega), if_neg (show ¬ 3 = 0 by omega), if_neg (show ¬ 3 = 1 by omega), if_neg (show ¬ 3 = 1 by omega), if_neg (show ¬ 3 = 2 by omega), if_neg (show ¬ 3 = 2 by omega)]
theorem x_act (hd : mD o ad) (hM : mOk mT M) (hR : RR M rs T) (hA : aB T) {q : Int32 → hS → Prop} {act : Nat} (ha : act < 4) {x y z : Int32} {a b c : Int} (ea : act < 3 → x.toInt = a) (eb : act < 2 → y.toInt = b) (ec : act = 1 → z.toInt = c) (h : dPo S o ad mT M rs act a b c T q) : w_X12_act q (ov S o ad M) o (nI act) x y z := by
  intro y1 e1
  have ty : y1.toInt = act := by rw [e1, nI_toInt (by omega)]
  rw [ty]
  have cg : ∀ a' b' c', deedD (csF T.1.1 T.1.2) act T.1.1 a b c = deedD (csF T.1.1 T.1.2) act T.1.1 a' b' c' → dPo S o ad mT M rs act a' b' c' T q := by
    intro a' b' c' e
    have h' := h
    unfold dPo aDc aDd at h' ⊢
    rw [e] at h'
    exact h'
  refine ⟨fun c0 => ⟨ov_oK, ?_⟩, fun c1 => ⟨ov_oK, ?_⟩, fun c2 => ⟨ov_oK, ?_⟩, fun c3 => ⟨ov_oK, ?_⟩⟩
  · have : act = 0 := by omega
    subst this
    refine xd_ring hd hM hR hA (cg _ _ _ ?_)
    rw [ea (by omega), eb (by omega)]
    exact dDx_0
  · have : act = 1 := by omega
    subst this
    refine xd_sell hd hM hR hA (cg _ _ _ ?_)
    rw [ea (by omega), eb (by omega), ec rfl]
  · have : act = 2 := by omega
    subst this
    refine xd_die hd hM hR hA (cg _ _ _ ?_)
    rw [ea (by omega)]
    exact dDx_2
  · have : act = 3 := by omega
    subst this
    exact xd_pass hd hM hR hA (cg _ _ _ dDx_3)
end RNN
