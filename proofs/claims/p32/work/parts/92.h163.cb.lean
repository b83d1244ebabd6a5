/-! THE CLUES NAME HOUSES THAT THERE ARE, WHATEVER IS CALLED -/
/-- as many houses or more, the same clues -/
def clE (f g : Nat → Int32) : Prop := iR f 0 ≤ iR g 0 ∧ g 2 = f 2 ∧ ∀ j, 170 ≤ j → g j = f j
theorem clE.rf {f : Nat → Int32} : clE f f := ⟨Int.le_refl _, rfl, fun _ _ => rfl⟩
theorem clE.tr {f g h : Nat → Int32} (a : clE f g) (b : clE g h) : clE f h := ⟨Int.le_trans a.1 b.1, b.2.1.trans a.2.1, fun j hj => (b.2.2 j hj).trans (a.2.2 j hj)⟩
theorem clE.eq {f g : Nat → Int32} (h0 : g 0 = f 0) (h2 : g 2 = f 2) (h : ∀ j, 170 ≤ j → g j = f j) : clE f g := ⟨by unfold iR; rw [h0]; exact Int.le_refl _, h2, h⟩
theorem clE.up {f : Nat → Int32} {k : Nat} {x : Int32} (hk : k ≠ 0 ∧ k ≠ 2 ∧ k < 170) : clE f (upd f k x) := clE.eq (upd_ne _ _ (by omega)) (upd_ne _ _ (by omega)) (fun j hj => upd_ne _ _ (by omega))
theorem clE.clu {f g : Nat → Int32} (h : clE f g) (hc : cluF f) : cluF g := by
  intro k hk
  have e2 : iR g 2 = iR f 2 := by unfold iR; rw [h.2.1]
  have ek : iR g (170 + 2 * k) = iR f (170 + 2 * k) := by unfold iR; rw [h.2.2 _ (by omega)]
  rw [e2] at hk
  rw [ek]
  have := hc k hk
  have := h.1
  omega
theorem cluB.of {T : aS} {f : Nat → Int32} {L : Nat → List pCl} {R : uL × pG × (Nat → Int32) × (Nat → Int32) × (Nat → Int32)} (h : cluB T) (hf : clE T.1.1 f) : cluB ((f, L), T.2.1, R) := ⟨hf.clu h.1, h.2⟩
theorem cluB.at {T T' : aS} (h : cluB T) (hf : clE T.1.1 T'.1.1) (e : T'.2.1 = T.2.1) : cluB T' := ⟨hf.clu h.1, by rw [e]; exact h.2⟩
section CB
variable {T : aS} {f : Nat → Int32} {cs : List pCl}
theorem cb_ref {v : Nat} (h : cluB T) : cluB (spRef v T).2 := h.at clE.rf rfl
theorem cb_acc {v : Int32} (h : cluB T) : cluB (spAcc v T).2 := h.at clE.rf rfl
theorem cb_tn (h : cluB T) (hf : clE T.1.1 f) : cluB (aTn f T) := h.at hf rfl
theorem clE_hs {n : Nat} {p r : Int32} (hn : n < 6) (e0 : iR f 0 = n) : clE f (hsR f n p r) := by
  refine ⟨?_, ?_, fun j hj => ?_⟩
  · have : iR (hsR f n p r) 0 = n + 1 := by
      unfold iR hsR
      rw [if_pos rfl, nI_toInt (by omega)]
      omega
    omega
  · unfold hsR
    rw [if_neg (by omega), if_neg (by omega), if_neg (by omega), if_neg (by omega), if_neg (by omega)]
  · unfold hsR
    rw [if_neg (by omega), if_neg (by omega), if_neg (by omega), if_neg (by omega), if_neg (by omega)]
theorem clE_ps {n : Nat} {p a m : Int32} (hn : n < 8) : clE f (psX f n p a m) := by
  have out : ∀ j, (j = 0 ∨ j = 2 ∨ 170 ≤ j) → psX f n p a m j = f j := fun j hj => by
    unfold psX psR
    rw [if_neg (by omega), if_neg (by omega), if_neg (by omega), if_neg (by omega), if_neg (by omega), if_neg (by omega), if_neg (by omega), if_neg (by omega)]
  exact clE.eq (out 0 (by omega)) (out 2 (by omega)) (fun j hj => out j (by omega))
theorem cb_house {a b : Int32} (hA : aB T) (h : cluB T) : cluB (spHouse a b T).2 := by
  have b0 := rB_0 hA.1
  unfold spHouse
  split
  · exact cb_ref h
  · split
    · refine cb_acc (h.at (clE_hs (by unfold nHR; omega) (by unfold nHR; omega)) rfl)
    · exact cb_ref h
theorem cb_person {a b c : Int32} (hA : aB T) (h : cluB T) : cluB (spPerson a b c T).2 := by
  have b1 := rB_1 hA.1
  unfold spPerson
  split
  · exact cb_ref h
  · split
    · exact cb_acc (h.at (clE_ps (by unfold nPR; omega)) rfl)
    · exact cb_ref h
theorem cb_want {a b : Int32} (hA : aB T) (h : cluB T) : cluB (spWant a b T).2 := by
  have b1 := rB_1 hA.1
  unfold spWant
  split
  · exact cb_ref h
  · split
    · exact cb_ref h
    · exact cb_acc (h.at (clE.up (by omega)) rfl)
theorem cb_will {a b : Int32} (hA : aB T) (h : cluB T) : cluB (spWill a b T).2 := by
  have b1 := rB_1 hA.1
  unfold spWill
  split
  · exact cb_ref h
  · split
    · exact cb_ref h
    · split
      · exact cb_ref h
      · exact cb_acc (h.at (clE.up (by omega)) rfl)
theorem cb_right {a b c : Int32} (hA : aB T) (h : cluB T) : cluB (spRight a b c T).2 := by
  have b1 := rB_1 hA.1
  have b0 := rB_0 hA.1
  unfold spRight
  split
  · exact cb_ref h
  · split
    · exact cb_ref h
    · split
      · exact cb_ref h
      · exact cb_acc (h.at (clE.up (by omega)) rfl)
theorem cb_terms {a b : Int32} (h : cluB T) : cluB (spTerms a b T).2 := by
  unfold spTerms
  split
  · exact cb_acc (h.at (clE.up (by omega)) rfl)
  · split
    · exact cb_acc (h.at (clE.up (by omega)) rfl)
    · split
      · exact cb_acc (h.at (clE.up (by omega)) rfl)
      · exact cb_ref h
theorem cb_feed {a b c d e : Int32} (h : cluB T) : cluB (spFeed a b c d e T).2 := by
  unfold spFeed
  split
  · exact h
  · exact h.at clE.rf rfl
theorem cb_end {a : Int32} (h : cluB T) : cluB (spEnd a T).2 := by
  unfold spEnd
  split
  · exact h
  · exact h.at clE.rf rfl
theorem cb_clue {a b : Int32} (hA : aB T) (h : cluB T) : cluB (spClue a b T).2 := by
  have b2 := hA.1.1 2 (by omega)
  rw [show rLo 2 = 0 by decide, show rHi 2 = 6 by decide] at b2
  unfold spClue
  split
  · exact cb_ref h
  · split
    · exact cb_ref h
    · rename_i n1 n2
      split
      · rename_i n3
        refine cb_acc ⟨fun k hk => ?_, h.2⟩
        obtain ⟨m, em⟩ : ∃ m, m = (iR T.1.1 2).toNat := ⟨_, rfl⟩
        rw [← em] at hk ⊢
        have i2 : iR T.1.1 2 = m := by omega
        unfold aTn at hk ⊢
        dsimp only at hk ⊢
        have e0 : iR (upd (upd (upd T.1.1 (170 + 2 * m) a) (171 + 2 * m) b) 2 (nI (m + 1))) 0 = iR T.1.1 0 := by
          unfold iR
          rw [upd_ne _ _ (by omega), upd_ne _ _ (by omega), upd_ne _ _ (by omega)]
        have e2 : iR (upd (upd (upd T.1.1 (170 + 2 * m) a) (171 + 2 * m) b) 2 (nI (m + 1))) 2 = m + 1 := by
          unfold iR
          rw [upd_self, nI_toInt (by omega)]
          omega
        rw [e2] at hk
        rw [e0]
        by_cases c : k = m
        · have : iR (upd (upd (upd T.1.1 (170 + 2 * m) a) (171 + 2 * m) b) 2 (nI (m + 1))) (170 + 2 * k) = a.toInt := by
            unfold iR
            rw [upd_ne _ _ (by omega), upd_ne _ _ (by omega), c, upd_self]
          rw [this]
          omega
        · have : iR (upd (upd (upd T.1.1 (170 + 2 * m) a) (171 + 2 * m) b) 2 (nI (m + 1))) (170 + 2 * k) = iR T.1.1 (170 + 2 * k) := by
            unfold iR
            rw [upd_ne _ _ (by omega), upd_ne _ _ (by omega), upd_ne _ _ (by omega)]
          rw [this]
          exact h.1 k (by omega)
      · exact cb_ref h
theorem cb_forget (h : cluB T) : cluB (spForget T).2 := by
  refine ⟨fun k hk => ?_, h.2⟩
  have e2 : iR (upd T.1.1 2 0) 2 = 0 := by
    unfold iR
    rw [upd_self]
    decide
  have hk : (k : Int) < iR (upd T.1.1 2 0) 2 := hk
  rw [e2] at hk
  omega
theorem cb_force {a : Int32} (h : cluB T) : cluB (spForce a T).2 := by
  unfold spForce
  split
  · exact cb_acc (h.at (clE.up (by omega)) rfl)
  · exact cb_ref h
theorem cb_image {a : Int32} (h : cluB T) : cluB (spImage a T).2 := by
  unfold spImage
  split
  · exact cb_ref h
  · refine cb_acc ⟨h.1, fun k hk t ht => ?_⟩
    dsimp only at ht
    split at ht
    · cases ht
      exact h.1
    · exact h.2 k hk t ht
theorem cb_back {a : Int32} (h : cluB T) : cluB (spBack a T).2 := by
  unfold spBack
  split
  · exact cb_ref h
  · rename_i n1
    have n1 : inB a 0 1 := Decidable.of_not_not n1
    split
    · exact cb_ref h
    · rename_i t ht
      have : a.toInt.toNat < 2 := by
        have := n1.2
        omega
      exact cb_acc ⟨h.2 _ this t ht, h.2⟩
theorem clE_deed {act : Nat} {a b c : Int} (hB : rB f) : clE f (deedD cs act f a b c).2 := by
  have b0 := rB_0 hB
  have b1 := rB_1 hB
  have ri : clE f (ringD f cs a b).2 := by
    unfold ringD
    split
    · exact clE.rf
    · rename_i n1
      split
      · exact clE.rf
      · have r2 : clE f (ringF f cs a.toNat b.toNat) := by
          unfold ringF
          exact (clE.up (by omega)).tr (clE.up (by omega))
        split
        · exact r2
        · exact r2
  unfold deedD
  split
  · exact ri
  · split
    · unfold sellD
      split
      · exact clE.rf
      · split
        · exact clE.rf
        · rename_i n1
          split
          · exact clE.rf
          · unfold sellF
            exact (((clE.up (by omega)).tr (clE.up (by omega))).tr (clE.up (by omega))).tr (clE.up (by omega))
    · split
      · unfold dieD
        split
        · exact clE.rf
        · rename_i n1
          split
          · exact clE.rf
          · unfold dieF
            have out : ∀ j, (j = 0 ∨ j = 2 ∨ 170 ≤ j) → dieH f a.toNat (nHR f) j = f j := fun j hj => by
              unfold dieH
              rw [if_neg (by omega), if_neg (by omega)]
            exact (clE.eq (out 0 (by omega)) (out 2 (by omega)) (fun j hj => out j (by omega))).tr (clE.up (by omega))
      · unfold passD
        split
        · exact clE.rf
        · have out : ∀ j, (j = 0 ∨ j = 2 ∨ 170 ≤ j) → passF f j = f j := fun j hj => by
            unfold passF
            rw [if_neg (by omega), if_neg (by omega), if_neg (by omega)]
          exact clE.eq (out 0 (by omega)) (out 2 (by omega)) (fun j hj => out j (by omega))
theorem cb_tell {code : Int} (h : cluB T) : cluB (spTell code T).2 := by
  unfold spTell
  split
  · exact cb_ref h
  · exact cb_acc h
theorem cb_deed {act : Nat} {a b c : Int} (hA : aB T) (h : cluB T) : cluB (spDeed act a b c T).2 := by
  unfold spDeed
  exact cb_tell (h.of (clE_deed hA.1))
theorem cb_undo (h : cluB T) : cluB (spUndo T).2 := by
  unfold spUndo
  split
  · exact cb_ref h
  · refine cb_acc (h.of (clE.eq ?_ ?_ (fun j hj => ?_)))
    · unfold undF
      rw [if_neg (by omega)]
    · unfold undF
      rw [if_neg (by omega)]
    · unfold undF
      rw [if_neg (by omega)]
theorem clE_row {G : pG} : ∀ j, clE f (rowSt G f j).1
  | 0 => clE.rf
  | j + 1 => by
    rw [rowSt]
    split
    · rename_i c
      refine (clE_row j).tr (clE_ps ?_)
      unfold cmB at c
      simp only [Bool.and_eq_true, decide_eq_true_eq] at c
      exact c.2
    · exact clE_row j
theorem cb_row (h : cluB T) : cluB (spRow T).2 := by
  unfold spRow
  split
  · exact cb_ref h
  · exact cb_acc (h.at (clE_row _) rfl)
theorem cb_law (h : cluB T) : cluB (spLaw T).2 := by
  unfold spLaw
  split
  · split
    · exact cb_ref (h.at clE.rf rfl)
    · exact cb_acc (h.of (clE.up (by omega)))
  · exact cb_ref (h.at clE.rf rfl)
theorem clE_try {o : pOr} {s s' : oS} (e : orTry cs o s = some s') (hB : rB s.1) : clE s.1 s'.1 := by
  have d : ∀ {a b c : Int} {s'}, orDo cs o.1 s a b c = some s' → clE s.1 s'.1 := by
    intro a b c s' e
    unfold orDo at e
    split at e
    · cases e
    · cases e
      exact clE_deed hB
  unfold orTry at e
  split at e
  · split at e
    · exact d e
    · cases e
  · cases e
    exact clE.rf
theorem clE_rep {o : pOr} : ∀ n {s s' : oS}, orRep cs o n s = some s' → (rB s.1 ∧ ∀ y ∈ s.2.2.2, rB y.2) → clE s.1 s'.1 ∧ rB s'.1 ∧ ∀ y ∈ s'.2.2.2, rB y.2
  | 0, s, s', e, h => by
    rw [orRep] at e
    cases e
    exact ⟨clE.rf, h⟩
  | n + 1, s, s', e, h => by
    rw [orRep] at e
    cases z : orTry cs o s with
    | none => rw [z] at e; cases e
    | some s1 =>
      rw [z] at e
      have h1 := orTry_us z h
      obtain ⟨i1, i2⟩ := clE_rep n e h1
      exact ⟨(clE_try z h.1).tr i1, i2⟩
theorem clE_run : ∀ (os : List pOr) j {s s' : oS}, orRun cs os j s = .inr s' → (rB s.1 ∧ ∀ y ∈ s.2.2.2, rB y.2) → clE s.1 s'.1
  | [], j, s, s', e, h => by
    rw [orRun] at e
    cases e
    exact clE.rf
  | o :: os, j, s, s', e, h => by
    rw [orRun] at e
    cases z : orRep cs o o.2.2.1 s with
    | none => rw [z] at e; cases e
    | some s1 =>
      rw [z] at e
      obtain ⟨i1, i2⟩ := clE_rep _ z h
      exact i1.tr (clE_run os _ e i2)
theorem cb_orders (hA : aB T) (h : cluB T) : cluB (spOrders T).2 := by
  unfold spOrders
  split
  · exact cb_ref (h.at clE.rf rfl)
  · split
    · exact cb_ref (h.at clE.rf rfl)
    · rename_i s hs
      exact cb_acc (h.of (clE_run _ _ hs ⟨hA.1, hA.2.2⟩))
theorem cb_gen {a b : Int} (h : cluB T) : cluB (spGen a b T).2 := by
  unfold spGen
  split
  · exact cb_ref h
  · split
    · exact cb_ref h
    · split
      · exact cb_ref h
      · exact cb_acc (h.at clE.rf rfl)
end CB
