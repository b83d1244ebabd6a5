/-! WHAT IS WANTED IS A HOUSE THAT THERE IS, WHATEVER IS CALLED -/
def wtF (f : Nat → Int32) : Prop := ∀ p : Nat, (p : Int) < iR f 1 → iR f (154 + p) < iR f 0
def wtB (T : aS) : Prop := wtF T.1.1 ∧ ∀ k, k < 2 → ∀ t, T.2.1 k = some t → wtF t.1
/-- as many houses or more, the same wants or new ones that may be -/
def wtE (f g : Nat → Int32) : Prop := iR f 0 ≤ iR g 0 ∧ ∀ p : Nat, (p : Int) < iR g 1 → ((p : Int) < iR f 1 ∧ g (154 + p) = f (154 + p)) ∨ iR g (154 + p) < iR g 0
theorem wtE.rf {f : Nat → Int32} : wtE f f := ⟨Int.le_refl _, fun _ h => Or.inl ⟨h, rfl⟩⟩
theorem wtE.tr {f g h : Nat → Int32} (a : wtE f g) (b : wtE g h) : wtE f h := ⟨Int.le_trans a.1 b.1, fun p hp => by
  rcases b.2 p hp with ⟨z1, z2⟩ | z
  · rcases a.2 p z1 with ⟨y1, y2⟩ | y
    · exact Or.inl ⟨y1, z2.trans y2⟩
    · refine Or.inr ?_
      have e : iR h (154 + p) = iR g (154 + p) := by unfold iR; rw [z2]
      have := b.1
      omega
  · exact Or.inr z⟩
theorem wtE.eq {f g : Nat → Int32} (h0 : g 0 = f 0) (h1 : g 1 = f 1) (h : ∀ p, p < 8 → g (154 + p) = f (154 + p)) (hB : rB f) : wtE f g := by
  have e0 : iR g 0 = iR f 0 := by unfold iR; rw [h0]
  have e1 : iR g 1 = iR f 1 := by unfold iR; rw [h1]
  have b1 := rB_1 hB
  refine ⟨by omega, fun p hp => Or.inl ⟨by omega, h p (by omega)⟩⟩
theorem wtE.up {f : Nat → Int32} {k : Nat} {x : Int32} (hB : rB f) (hk : k ≠ 0 ∧ k ≠ 1 ∧ (k < 154 ∨ 162 ≤ k)) : wtE f (upd f k x) := wtE.eq (upd_ne _ _ (by omega)) (upd_ne _ _ (by omega)) (fun p hp => upd_ne _ _ (by omega)) hB
/-- the same, without bounds -/
def wtQ (f g : Nat → Int32) : Prop := g 0 = f 0 ∧ g 1 = f 1 ∧ ∀ p, p < 8 → g (154 + p) = f (154 + p)
theorem wtQ.rf {f : Nat → Int32} : wtQ f f := ⟨rfl, rfl, fun _ _ => rfl⟩
theorem wtQ.tr {f g h : Nat → Int32} (a : wtQ f g) (b : wtQ g h) : wtQ f h := ⟨b.1.trans a.1, b.2.1.trans a.2.1, fun p hp => (b.2.2 p hp).trans (a.2.2 p hp)⟩
theorem wtQ.up {f : Nat → Int32} {k : Nat} {x : Int32} (hk : k ≠ 0 ∧ k ≠ 1 ∧ (k < 154 ∨ 162 ≤ k)) : wtQ f (upd f k x) := ⟨upd_ne _ _ (by omega), upd_ne _ _ (by omega), fun p hp => upd_ne _ _ (by omega)⟩
theorem wtQ.E {f g : Nat → Int32} (h : wtQ f g) (hB : rB f) : wtE f g := wtE.eq h.1 h.2.1 h.2.2 hB
theorem wtE.clu {f g : Nat → Int32} (h : wtE f g) (hc : wtF f) : wtF g := by
  intro p hp
  rcases h.2 p hp with ⟨z1, z2⟩ | z
  · have e : iR g (154 + p) = iR f (154 + p) := by unfold iR; rw [z2]
    have := hc p z1
    have := h.1
    omega
  · exact z
theorem wtB.of {T : aS} {f : Nat → Int32} {L : Nat → List pCl} {R : uL × pG × (Nat → Int32) × (Nat → Int32) × (Nat → Int32)} (h : wtB T) (hf : wtE T.1.1 f) : wtB ((f, L), T.2.1, R) := ⟨hf.clu h.1, h.2⟩
theorem wtB.at {T T' : aS} (h : wtB T) (hf : wtE T.1.1 T'.1.1) (e : T'.2.1 = T.2.1) : wtB T' := ⟨hf.clu h.1, by rw [e]; exact h.2⟩
section CB
variable {T : aS} {f : Nat → Int32} {cs : List pCl}
theorem wt_ref {v : Nat} (h : wtB T) : wtB (spRef v T).2 := h.at wtE.rf rfl
theorem wt_acc {v : Int32} (h : wtB T) : wtB (spAcc v T).2 := h.at wtE.rf rfl
theorem wt_tn (h : wtB T) (hf : wtE T.1.1 f) : wtB (aTn f T) := h.at hf rfl
theorem wtE_hs {n : Nat} {p r : Int32} (hB : rB f) (hn : n < 6) (e0 : iR f 0 = n) : wtE f (hsR f n p r) := by
  have b1 := rB_1 hB
  have i0 : iR (hsR f n p r) 0 = n + 1 := by
    unfold iR hsR
    rw [if_pos rfl, nI_toInt (by omega)]
    omega
  have out : ∀ j, (j = 1 ∨ (154 ≤ j ∧ j < 162)) → hsR f n p r j = f j := fun j hj => by
    unfold hsR
    rw [if_neg (by omega), if_neg (by omega), if_neg (by omega), if_neg (by omega), if_neg (by omega)]
  have e1 : iR (hsR f n p r) 1 = iR f 1 := by unfold iR; rw [out 1 (by omega)]
  exact ⟨by omega, fun q hq => Or.inl ⟨by omega, out _ (by omega)⟩⟩
theorem wtE_ps {n : Nat} {p a m : Int32} (h0 : 0 ≤ iR f 0) (hn : n < 8) (e1 : iR f 1 = n) : wtE f (psX f n p a m) ∧ 0 ≤ iR (psX f n p a m) 0 ∧ 0 ≤ iR (psX f n p a m) 1 := by
  have i1 : iR (psX f n p a m) 1 = n + 1 := by
    unfold iR psX psR
    rw [if_neg (by omega), if_pos rfl, nI_toInt (by omega)]
    omega
  have z0 : psX f n p a m 0 = f 0 := by
    unfold psX psR
    rw [if_neg (by omega), if_neg (by omega), if_neg (by omega), if_neg (by omega), if_neg (by omega), if_neg (by omega), if_neg (by omega), if_neg (by omega)]
  have i0 : iR (psX f n p a m) 0 = iR f 0 := by unfold iR; rw [z0]
  refine ⟨⟨by omega, fun q hq => ?_⟩, by omega, by omega⟩
  by_cases c : q = n
  · refine Or.inr ?_
    have : iR (psX f n p a m) (154 + q) = -1 := by
      unfold iR psX psR
      rw [if_neg (by omega), if_neg (by omega), if_neg (by omega), if_neg (by omega), if_pos (by omega)]
      decide
    omega
  · refine Or.inl ⟨by omega, ?_⟩
    unfold psX psR
    rw [if_neg (by omega), if_neg (by omega), if_neg (by omega), if_neg (by omega), if_neg (by omega), if_neg (by omega), if_neg (by omega), if_neg (by omega)]
theorem wt_house {a b : Int32} (hA : aB T) (h : wtB T) : wtB (spHouse a b T).2 := by
  have b0 := rB_0 hA.1
  unfold spHouse
  split
  · exact wt_ref h
  · split
    · refine wt_acc (h.at (wtE_hs hA.1 (by unfold nHR; omega) (by unfold nHR; omega)) rfl)
    · exact wt_ref h
theorem wt_person {a b c : Int32} (hA : aB T) (h : wtB T) : wtB (spPerson a b c T).2 := by
  have b1 := rB_1 hA.1
  unfold spPerson
  split
  · exact wt_ref h
  · split
    · exact wt_acc (h.at (wtE_ps (rB_0 hA.1).1 (by unfold nPR; omega) (by unfold nPR; omega)).1 rfl)
    · exact wt_ref h
theorem wt_want {a b : Int32} (hA : aB T) (h : wtB T) : wtB (spWant a b T).2 := by
  have b1 := rB_1 hA.1
  have b0 := rB_0 hA.1
  unfold spWant
  split
  · exact wt_ref h
  · rename_i n1
    split
    · exact wt_ref h
    · rename_i n2
      refine wt_acc (h.at (show wtE T.1.1 (upd T.1.1 (154 + a.toInt.toNat) b) from ⟨?_, fun p hp => ?_⟩) rfl)
      · unfold iR
        rw [upd_ne _ _ (by omega)]
        exact Int.le_refl _
      · have e0 : iR (upd T.1.1 (154 + a.toInt.toNat) b) 0 = iR T.1.1 0 := by unfold iR; rw [upd_ne _ _ (by omega)]
        have e1 : iR (upd T.1.1 (154 + a.toInt.toNat) b) 1 = iR T.1.1 1 := by unfold iR; rw [upd_ne _ _ (by omega)]
        by_cases c : p = a.toInt.toNat
        · refine Or.inr ?_
          have : iR (upd T.1.1 (154 + a.toInt.toNat) b) (154 + p) = b.toInt := by unfold iR; rw [c, upd_self]
          rw [this, e0]
          by_cases cb : b = -1
          · rw [cb, show (-1 : Int32).toInt = -1 by decide]
            omega
          · have : 0 ≤ b.toInt ∧ b.toInt < iR T.1.1 0 := Decidable.of_not_not (fun z => n1 ⟨cb, z⟩)
            omega
        · exact Or.inl ⟨by omega, upd_ne _ _ (by omega)⟩
theorem wt_will {a b : Int32} (hA : aB T) (h : wtB T) : wtB (spWill a b T).2 := by
  have b1 := rB_1 hA.1
  unfold spWill
  split
  · exact wt_ref h
  · split
    · exact wt_ref h
    · split
      · exact wt_ref h
      · exact wt_acc (h.at (wtE.up hA.1 (by omega)) rfl)
theorem wt_right {a b c : Int32} (hA : aB T) (h : wtB T) : wtB (spRight a b c T).2 := by
  have b1 := rB_1 hA.1
  have b0 := rB_0 hA.1
  unfold spRight
  split
  · exact wt_ref h
  · split
    · exact wt_ref h
    · split
      · exact wt_ref h
      · exact wt_acc (h.at (wtE.up hA.1 (by omega)) rfl)
theorem wt_terms {a b : Int32} (hA : aB T) (h : wtB T) : wtB (spTerms a b T).2 := by
  unfold spTerms
  split
  · exact wt_acc (h.at (wtE.up hA.1 (by omega)) rfl)
  · split
    · exact wt_acc (h.at (wtE.up hA.1 (by omega)) rfl)
    · split
      · exact wt_acc (h.at (wtE.up hA.1 (by omega)) rfl)
      · exact wt_ref h
theorem wt_feed {a b c d e : Int32} (h : wtB T) : wtB (spFeed a b c d e T).2 := by
  unfold spFeed
  split
  · exact h
  · exact h.at wtE.rf rfl
theorem wt_end {a : Int32} (h : wtB T) : wtB (spEnd a T).2 := by
  unfold spEnd
  split
  · exact h
  · exact h.at wtE.rf rfl
theorem wt_clue {a b : Int32} (hA : aB T) (h : wtB T) : wtB (spClue a b T).2 := by
  unfold spClue
  split
  · exact wt_ref h
  · split
    · exact wt_ref h
    · split
      · exact wt_acc (h.at ((((wtQ.up (by omega)).tr (wtQ.up (by omega))).tr (wtQ.up (by omega))).E hA.1) rfl)
      · exact wt_ref h
theorem wt_forget (hA : aB T) (h : wtB T) : wtB (spForget T).2 := h.at (wtE.up hA.1 (by omega)) rfl
theorem wt_force {a : Int32} (hA : aB T) (h : wtB T) : wtB (spForce a T).2 := by
  unfold spForce
  split
  · exact wt_acc (h.at (wtE.up hA.1 (by omega)) rfl)
  · exact wt_ref h
theorem wt_image {a : Int32} (h : wtB T) : wtB (spImage a T).2 := by
  unfold spImage
  split
  · exact wt_ref h
  · refine wt_acc ⟨h.1, fun k hk t ht => ?_⟩
    dsimp only at ht
    split at ht
    · cases ht
      exact h.1
    · exact h.2 k hk t ht
theorem wt_back {a : Int32} (h : wtB T) : wtB (spBack a T).2 := by
  unfold spBack
  split
  · exact wt_ref h
  · rename_i n1
    have n1 : inB a 0 1 := Decidable.of_not_not n1
    split
    · exact wt_ref h
    · rename_i t ht
      have : a.toInt.toNat < 2 := by
        have := n1.2
        omega
      exact wt_acc ⟨h.2 _ this t ht, h.2⟩
theorem wtQ_deed {act : Nat} {a b c : Int} (hB : rB f) : wtQ f (deedD cs act f a b c).2 := by
  have b0 := rB_0 hB
  have b1 := rB_1 hB
  have ri : wtQ f (ringD f cs a b).2 := by
    unfold ringD
    split
    · exact wtQ.rf
    · rename_i n1
      split
      · exact wtQ.rf
      · have r2 : wtQ f (ringF f cs a.toNat b.toNat) := by
          unfold ringF
          exact (wtQ.up (by omega)).tr (wtQ.up (by omega))
        split
        · exact r2
        · exact r2
  unfold deedD
  split
  · exact ri
  · split
    · unfold sellD
      split
      · exact wtQ.rf
      · split
        · exact wtQ.rf
        · rename_i n1
          split
          · exact wtQ.rf
          · unfold sellF
            exact (((wtQ.up (by omega)).tr (wtQ.up (by omega))).tr (wtQ.up (by omega))).tr (wtQ.up (by omega))
    · split
      · unfold dieD
        split
        · exact wtQ.rf
        · rename_i n1
          split
          · exact wtQ.rf
          · unfold dieF
            have out : ∀ j, (j = 0 ∨ j = 1 ∨ (154 ≤ j ∧ j < 162)) → dieH f a.toNat (nHR f) j = f j := fun j hj => by
              unfold dieH
              rw [if_neg (by omega), if_neg (by omega)]
            exact (show wtQ f (dieH f a.toNat (nHR f)) from ⟨out 0 (by omega), out 1 (by omega), fun p hp => out _ (by omega)⟩).tr (wtQ.up (by omega))
      · unfold passD
        split
        · exact wtQ.rf
        · have out : ∀ j, (j = 0 ∨ j = 1 ∨ (154 ≤ j ∧ j < 162)) → passF f j = f j := fun j hj => by
            unfold passF
            rw [if_neg (by omega), if_neg (by omega), if_neg (by omega)]
          exact ⟨out 0 (by omega), out 1 (by omega), fun p hp => out _ (by omega)⟩
theorem wtE_deed {act : Nat} {a b c : Int} (hB : rB f) : wtE f (deedD cs act f a b c).2 := (wtQ_deed hB).E hB
theorem wt_tell {code : Int} (h : wtB T) : wtB (spTell code T).2 := by
  unfold spTell
  split
  · exact wt_ref h
  · exact wt_acc h
theorem wt_deed {act : Nat} {a b c : Int} (hA : aB T) (h : wtB T) : wtB (spDeed act a b c T).2 := by
  unfold spDeed
  exact wt_tell (h.of (wtE_deed hA.1))
theorem wt_undo (hA : aB T) (h : wtB T) : wtB (spUndo T).2 := by
  unfold spUndo
  split
  · exact wt_ref h
  · refine wt_acc (h.of (wtE.eq ?_ ?_ (fun j hj => ?_) hA.1))
    · unfold undF
      rw [if_neg (by omega)]
    · unfold undF
      rw [if_neg (by omega)]
    · unfold undF
      rw [if_neg (by omega)]
theorem wtE_row {G : pG} (h0 : 0 ≤ iR f 0) (h1 : 0 ≤ iR f 1) : ∀ j, wtE f (rowSt G f j).1 ∧ 0 ≤ iR (rowSt G f j).1 0 ∧ 0 ≤ iR (rowSt G f j).1 1
  | 0 => ⟨wtE.rf, h0, h1⟩
  | j + 1 => by
    have ih := wtE_row (G := G) h0 h1 j
    rw [rowSt]
    split
    · rename_i c
      unfold cmB at c
      simp only [Bool.and_eq_true, decide_eq_true_eq] at c
      have ps := wtE_ps (p := byG G (4 * j)) (a := byG G (4 * j + 1)) (m := 10 * byG G (4 * j + 2) + byG G (4 * j + 3)) ih.2.1 c.2 (by unfold nPR; omega)
      exact ⟨ih.1.tr ps.1, ps.2⟩
    · exact ih
theorem wt_row (hA : aB T) (h : wtB T) : wtB (spRow T).2 := by
  unfold spRow
  split
  · exact wt_ref h
  · exact wt_acc (h.at (wtE_row (rB_0 hA.1).1 (rB_1 hA.1).1 _).1 rfl)
theorem wt_law (hA : aB T) (h : wtB T) : wtB (spLaw T).2 := by
  unfold spLaw
  split
  · split
    · exact wt_ref (h.at wtE.rf rfl)
    · exact wt_acc (h.of (wtE.up hA.1 (by omega)))
  · exact wt_ref (h.at wtE.rf rfl)
theorem wtE_try {o : pOr} {s s' : oS} (e : orTry cs o s = some s') (hB : rB s.1) : wtE s.1 s'.1 := by
  have d : ∀ {a b c : Int} {s'}, orDo cs o.1 s a b c = some s' → wtE s.1 s'.1 := by
    intro a b c s' e
    unfold orDo at e
    split at e
    · cases e
    · cases e
      exact wtE_deed hB
  unfold orTry at e
  split at e
  · split at e
    · exact d e
    · cases e
  · cases e
    exact wtE.rf
theorem wtE_rep {o : pOr} : ∀ n {s s' : oS}, orRep cs o n s = some s' → (rB s.1 ∧ ∀ y ∈ s.2.2.2, rB y.2) → wtE s.1 s'.1 ∧ rB s'.1 ∧ ∀ y ∈ s'.2.2.2, rB y.2
  | 0, s, s', e, h => by
    rw [orRep] at e
    cases e
    exact ⟨wtE.rf, h⟩
  | n + 1, s, s', e, h => by
    rw [orRep] at e
    cases z : orTry cs o s with
    | none => rw [z] at e; cases e
    | some s1 =>
      rw [z] at e
      have h1 := orTry_us z h
      obtain ⟨i1, i2⟩ := wtE_rep n e h1
      exact ⟨(wtE_try z h.1).tr i1, i2⟩
theorem wtE_run : ∀ (os : List pOr) j {s s' : oS}, orRun cs os j s = .inr s' → (rB s.1 ∧ ∀ y ∈ s.2.2.2, rB y.2) → wtE s.1 s'.1
  | [], j, s, s', e, h => by
    rw [orRun] at e
    cases e
    exact wtE.rf
  | o :: os, j, s, s', e, h => by
    rw [orRun] at e
    cases z : orRep cs o o.2.2.1 s with
    | none => rw [z] at e; cases e
    | some s1 =>
      rw [z] at e
      obtain ⟨i1, i2⟩ := wtE_rep _ z h
      exact i1.tr (wtE_run os _ e i2)
theorem wt_orders (hA : aB T) (h : wtB T) : wtB (spOrders T).2 := by
  unfold spOrders
  split
  · exact wt_ref (h.at wtE.rf rfl)
  · split
    · exact wt_ref (h.at wtE.rf rfl)
    · rename_i s hs
      exact wt_acc (h.of (wtE_run _ _ hs ⟨hA.1, hA.2.2⟩))
theorem wt_gen {a b : Int} (h : wtB T) : wtB (spGen a b T).2 := by
  unfold spGen
  split
  · exact wt_ref h
  · split
    · exact wt_ref h
    · split
      · exact wt_ref h
      · exact wt_acc (h.at wtE.rf rfl)
end CB
