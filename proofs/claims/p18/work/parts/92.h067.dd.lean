/-! A DEED, WHOLE: CODE AND ROW -/
def ringD (f : Nat → Int32) (cs : List pCl) (a b : Int) : Int × (Nat → Int32) := if ¬ ((0 ≤ a ∧ a < iR f 1) ∧ (0 ≤ b ∧ b < iR f 0)) then (-2, f) else if ¬ (liveR f a.toNat = true ∧ 1 ≤ leftR f a.toNat b.toNat) then (-3, f) else (if opensR f cs a.toNat b.toNat = true then 1 else 0, ringF f cs a.toNat b.toNat)
def sellD (f : Nat → Int32) (cs : List pCl) (a b c : Int) : Int × (Nat → Int32) := if a = b then (-1, f) else if ¬ ((0 ≤ a ∧ a < iR f 1) ∧ (0 ≤ b ∧ b < iR f 1) ∧ (0 ≤ c ∧ c < iR f 0)) then (-2, f) else if ¬ (1 ≤ leftR f a.toNat c.toNat ∧ canBuyR f cs a.toNat b.toNat c.toNat = true) then (-3, f) else (costsR f cs a.toNat b.toNat c.toNat, sellF f cs a.toNat b.toNat c.toNat)
def dieD (f : Nat → Int32) (a : Int) : Int × (Nat → Int32) := if ¬ (0 ≤ a ∧ a < iR f 1) then (-2, f) else if ¬ liveR f a.toNat = true then (-3, f) else (manyR f a.toNat, dieF f a.toNat)
def passD (f : Nat → Int32) : Int × (Nat → Int32) := if ¬ iR f 5 < 999 then (-3, f) else (iR f 5 + 1, passF f)
def deedD (cs : List pCl) (act : Nat) (f : Nat → Int32) (a b c : Int) : Int × (Nat → Int32) := if act = 0 then ringD f cs a b else if act = 1 then sellD f cs a b c else if act = 2 then dieD f a else passD f
theorem iR_ge {f g : Nat → Int32} {i : Nat} (h : f i = g i) : iR f i = iR g i := by unfold iR; rw [h]
section DD0
variable {f : Nat → Int32} {cs : List pCl} {a b c : Int}
theorem passF_o {i : Nat} (h : ¬ (i = 5 ∨ (8 ≤ i ∧ i < 14) ∨ (78 ≤ i ∧ i < 126))) : passF f i = f i := by
  unfold passF
  rw [if_neg (by omega), if_neg (by omega), if_neg (by omega)]
/-- a deed keeps the bounds, and what is no ledger's -/
theorem ringD_ok (hB : rB f) : rB (ringD f cs a b).2 ∧ (∀ i, ¬ inLe i → (ringD f cs a b).2 i = f i) ∧ -3 ≤ (ringD f cs a b).1 ∧ (ringD f cs a b).1 ≤ 1 := by
  have b1 := rB_1 hB
  have b0 := rB_0 hB
  unfold ringD
  by_cases c1 : ¬ ((0 ≤ a ∧ a < iR f 1) ∧ (0 ≤ b ∧ b < iR f 0))
  · rw [if_pos c1]; exact ⟨hB, fun _ _ => rfl, by dsimp only; omega, by dsimp only; omega⟩
  rw [if_neg c1]
  by_cases c2 : ¬ (liveR f a.toNat = true ∧ 1 ≤ leftR f a.toNat b.toNat)
  · rw [if_pos c2]; exact ⟨hB, fun _ _ => rfl, by dsimp only; omega, by dsimp only; omega⟩
  rw [if_neg c2]
  have c2' := Decidable.not_not.mp c2
  refine ⟨rB_ring hB (by omega) (by omega) c2'.2, fun i hi => ?_, ?_, ?_⟩
  · unfold inLe at hi
    show ringF f cs a.toNat b.toNat i = f i
    unfold ringF
    rw [upd_ne _ _ (by omega), upd_ne _ _ (by omega)]
  · show -3 ≤ (if opensR f cs a.toNat b.toNat = true then (1 : Int) else 0)
    split <;> decide
  · show (if opensR f cs a.toNat b.toNat = true then (1 : Int) else 0) ≤ 1
    split <;> decide
theorem sellD_ok (hB : rB f) : rB (sellD f cs a b c).2 ∧ (∀ i, ¬ inLe i → (sellD f cs a b c).2 i = f i) ∧ -3 ≤ (sellD f cs a b c).1 ∧ (sellD f cs a b c).1 ≤ 999 := by
  have b1 := rB_1 hB
  have b0 := rB_0 hB
  unfold sellD
  by_cases c0 : a = b
  · rw [if_pos c0]; exact ⟨hB, fun _ _ => rfl, by dsimp only; omega, by dsimp only; omega⟩
  rw [if_neg c0]
  by_cases c1 : ¬ ((0 ≤ a ∧ a < iR f 1) ∧ (0 ≤ b ∧ b < iR f 1) ∧ (0 ≤ c ∧ c < iR f 0))
  · rw [if_pos c1]; exact ⟨hB, fun _ _ => rfl, by dsimp only; omega, by dsimp only; omega⟩
  rw [if_neg c1]
  by_cases c2 : ¬ (1 ≤ leftR f a.toNat c.toNat ∧ canBuyR f cs a.toNat b.toNat c.toNat = true)
  · rw [if_pos c2]; exact ⟨hB, fun _ _ => rfl, by dsimp only; omega, by dsimp only; omega⟩
  rw [if_neg c2]
  have c2' := Decidable.not_not.mp c2
  have t := costs_in (f := f) (cs := cs) (p := a.toNat) (o := b.toNat) (h := c.toNat)
  refine ⟨rB_sell hB (by omega) (by omega) (by omega) (by omega) c2'.1 c2'.2, fun i hi => ?_, by dsimp only; omega, t.2⟩
  unfold inLe at hi
  show sellF f cs a.toNat b.toNat c.toNat i = f i
  unfold sellF
  rw [upd_ne _ _ (by omega), upd_ne _ _ (by omega), upd_ne _ _ (by omega), upd_ne _ _ (by omega)]
theorem dieD_ok (hB : rB f) : rB (dieD f a).2 ∧ (∀ i, ¬ inLe i → (dieD f a).2 i = f i) ∧ -3 ≤ (dieD f a).1 ∧ (dieD f a).1 ≤ 8 := by
  have b1 := rB_1 hB
  unfold dieD
  by_cases c1 : ¬ (0 ≤ a ∧ a < iR f 1)
  · rw [if_pos c1]; exact ⟨hB, fun _ _ => rfl, by dsimp only; omega, by dsimp only; omega⟩
  rw [if_neg c1]
  by_cases c2 : ¬ liveR f a.toNat = true
  · rw [if_pos c2]; exact ⟨hB, fun _ _ => rfl, by dsimp only; omega, by dsimp only; omega⟩
  rw [if_neg c2]
  have m : manyR f a.toNat ≤ nPR f := rank_le (nPR f)
  refine ⟨rB_die hB (by omega), fun i hi => ?_, by dsimp only; omega, by dsimp only; unfold nPR at m; omega⟩
  unfold inLe at hi
  show dieF f a.toNat i = f i
  unfold dieF
  rw [upd_ne _ _ (by omega), dieH_o (by omega)]
theorem passD_ok (hB : rB f) : rB (passD f).2 ∧ (∀ i, ¬ inLe i → (passD f).2 i = f i) ∧ -3 ≤ (passD f).1 ∧ (passD f).1 ≤ 999 := by
  have y5 := hB.1 5 (by omega)
  rw [show rHi 5 = 999 by decide, show rLo 5 = 0 by decide] at y5
  unfold passD
  by_cases c1 : ¬ iR f 5 < 999
  · rw [if_pos c1]; exact ⟨hB, fun _ _ => rfl, by dsimp only; omega, by dsimp only; omega⟩
  rw [if_neg c1]
  have c1' := Decidable.not_not.mp c1
  refine ⟨rB_pass hB c1', fun i hi => ?_, by dsimp only; omega, by dsimp only; omega⟩
  unfold inLe at hi
  exact passF_o (by omega)
theorem deedD_ok {act : Nat} (hB : rB f) : rB (deedD cs act f a b c).2 ∧ (∀ i, ¬ inLe i → (deedD cs act f a b c).2 i = f i) ∧ -3 ≤ (deedD cs act f a b c).1 ∧ (deedD cs act f a b c).1 ≤ 999 ∧ (act = 0 → (deedD cs act f a b c).1 ≤ 1) := by
  unfold deedD
  by_cases c0 : act = 0
  · rw [if_pos c0]
    obtain ⟨x1, x2, x3, x4⟩ := ringD_ok (cs := cs) (a := a) (b := b) hB
    exact ⟨x1, x2, x3, by omega, fun _ => x4⟩
  rw [if_neg c0]
  by_cases c1 : act = 1
  · rw [if_pos c1]
    obtain ⟨x1, x2, x3, x4⟩ := sellD_ok (cs := cs) (a := a) (b := b) (c := c) hB
    exact ⟨x1, x2, x3, x4, fun z => absurd z c0⟩
  rw [if_neg c1]
  by_cases c2 : act = 2
  · rw [if_pos c2]
    obtain ⟨x1, x2, x3, x4⟩ := dieD_ok (a := a) hB
    exact ⟨x1, x2, x3, by omega, fun z => absurd z c0⟩
  rw [if_neg c2]
  obtain ⟨x1, x2, x3, x4⟩ := passD_ok hB
  exact ⟨x1, x2, x3, x4, fun z => absurd z c0⟩
end DD0
/-- the log behind a deed -/
def usD (us : uL) (kd : Nat) (f : Nat → Int32) (code : Int) : uL := if code < 0 then us else pushU us (kd, f)
def lgQ (ρg : Nat → Nat) (Γ' : kG) (S S' : hS) (lg : Option Nat) (us : uL) (kd : Nat) (f : Nat → Int32) (code : Int) : Prop := ∀ g, lg = some g → (0 ≤ code → lgN S' g + lgF S g ≤ lgN S g) ∧ lgS Γ' S' g ρg (usD us kd f code)
section DD
variable {Γ : kG} {Φ : kF} {S : hS} {a b d g i u : Nat} {ρ ρd ρg : Nat → Nat} {us : uL} {L : Nat → List pCl}
theorem lgQ_n {lg : Option Nat} {kd : Nat} {f : Nat → Int32} {code : Int} (hl : lgI ρg Γ Φ S u lg us) (hc : code < 0) : lgQ ρg Γ S S lg us kd f code := fun g hg => ⟨fun z => by omega, by unfold usD; rw [if_pos hc]; exact (hl g hg).2.2.2⟩
theorem lgQ_y {Γ' : kG} {S' : hS} {lg : Option Nat} {kd : Nat} {f : Nat → Int32} {code : Int} (hl : lgJ ρg Γ' S S' lg (pushU us (kd, f))) (hc : 0 ≤ code) : lgQ ρg Γ' S S' lg us kd f code := fun g hg => ⟨fun _ => (hl g hg).1, by unfold usD; rw [if_neg (by omega)]; exact (hl g hg).2⟩
theorem nI_tn {v : Int32} {p : Nat} (e : v = nI p) (hp : p < 1000) : v.toInt.toNat = p ∧ v.toInt = p := by
  rw [e, nI_toInt (by omega)]
  omega
theorem kz_ring {q : Int32 → hS → Prop} {lg : Option Nat} {v3 v4 : Int32} (h : St Γ Φ S) (hf : fre Γ Φ (dbNm i)) (hd : Γ d = some (1, 1, 0, 0, ρd)) (hi : i < 10) (hA : askS Γ S (ρd 0) b i (bk 0 ρd) ρ L) (hl : lgI ρg Γ Φ S u lg us) (k : ∀ (r : Int32) Γ' S', r.toInt = (ringD (sV S b ρ) (csF (sV S b ρ) L) v3.toInt v4.toInt).1 → gro Γ Φ Γ' → St Γ' Φ S' → sV S' b ρ = (ringD (sV S b ρ) (csF (sV S b ρ) L) v3.toInt v4.toInt).2 → lgQ ρg Γ' S S' lg us 0 (sV S b ρ) (ringD (sV S b ρ) (csF (sV S b ρ) L) v3.toInt v4.toInt).1 → sam Γ (deNm i) S S' → q r S') : w_X1_ringBell q S u d b lg v3 v4 := by
  have b1 := rB_1 hA.2.2.1
  have b0 := rB_0 hA.2.2.1
  refine kx_X1_ringBell h hf hd hi hA hl (fun c => ?_) (fun p hh ep eh hp hh' c => ?_) (fun p hh ep eh hp hh' lv lf Γ' S' g' h' j' m' ev => ?_)
  · have e : ringD (sV S b ρ) (csF (sV S b ρ) L) v3.toInt v4.toInt = (-2, sV S b ρ) := if_pos c
    rw [e] at k
    exact k (-2) Γ S (show Int32.toInt (-2) = -2 by decide) gro_rf h rfl (lgQ_n hl (show (-2 : Int) < 0 by decide)) sam.rf
  · obtain ⟨t1, t2⟩ := nI_tn ep (by omega)
    obtain ⟨t3, t4⟩ := nI_tn eh (by omega)
    have e : ringD (sV S b ρ) (csF (sV S b ρ) L) v3.toInt v4.toInt = (-3, sV S b ρ) := by
      unfold ringD
      rw [if_neg (by rw [t2, t4]; omega), t1, t3]
      exact if_pos c
    rw [e] at k
    exact k (-3) Γ S (show Int32.toInt (-3) = -3 by decide) gro_rf h rfl (lgQ_n hl (show (-3 : Int) < 0 by decide)) sam.rf
  · obtain ⟨t1, t2⟩ := nI_tn ep (by omega)
    obtain ⟨t3, t4⟩ := nI_tn eh (by omega)
    have e : ringD (sV S b ρ) (csF (sV S b ρ) L) v3.toInt v4.toInt = (if opensR (sV S b ρ) (csF (sV S b ρ) L) p hh = true then 1 else 0, ringF (sV S b ρ) (csF (sV S b ρ) L) p hh) := by
      unfold ringD
      rw [if_neg (by rw [t2, t4]; omega), t1, t3]
      exact if_neg (fun z => z ⟨lv, lf⟩)
    rw [e] at k
    refine k _ Γ' S' ?_ g' h' ev (lgQ_y j' ?_) m'
    · dsimp only; split <;> rfl
    · dsimp only; split <;> decide
theorem lgQ_s {S' : hS} {lg : Option Nat} {kd : Nat} {f : Nat → Int32} {code : Int} (h : St Γ Φ S) (hl : lgI ρg Γ Φ S u lg us) (hm : sam Γ [101, 700] S S') (hc : code < 0) : lgQ ρg Γ S S' lg us kd f code := fun g hg => ⟨fun z => by omega, by
  unfold usD
  rw [if_pos hc]
  refine (hl g hg).2.2.2.sm h (hl g hg).1 hm ⟨by simp, by simp, by simp, fun j hj x hx => ?_⟩
  simp only [leN, List.mem_cons, List.not_mem_nil, or_false] at hx ⊢
  omega⟩
theorem sam_dn {S' : hS} (h : sam Γ [101, 700] S S') : sam Γ (deNm i) S S' := h.le (fun x hx => dbNm_sub (by
    simp only [List.mem_cons, List.not_mem_nil, or_false] at hx
    rcases hx with rfl | rfl <;> simp [dbNm]))
theorem kz_sell {q : Int32 → hS → Prop} {lg : Option Nat} {v3 v4 v5 : Int32} (h : St Γ Φ S) (hf : fre Γ Φ (dbNm i)) (hd : Γ d = some (1, 1, 0, 0, ρd)) (hi : i < 10) (hA : askS Γ S (ρd 0) b i (bk 0 ρd) ρ L) (hl : lgI ρg Γ Φ S u lg us) (k : ∀ (r : Int32) Γ' S', r.toInt = (sellD (sV S b ρ) (csF (sV S b ρ) L) v3.toInt v4.toInt v5.toInt).1 → gro Γ Φ Γ' → St Γ' Φ S' → sV S' b ρ = (sellD (sV S b ρ) (csF (sV S b ρ) L) v3.toInt v4.toInt v5.toInt).2 → lgQ ρg Γ' S S' lg us 1 (sV S b ρ) (sellD (sV S b ρ) (csF (sV S b ρ) L) v3.toInt v4.toInt v5.toInt).1 → sam Γ (deNm i) S S' → q r S') : w_X1_sellRing q S u d b lg v3 v4 v5 := by
  have b1 := rB_1 hA.2.2.1
  have b0 := rB_0 hA.2.2.1
  refine kx_X1_sellRing h hf hd hi hA hl (fun c => ?_) (fun ne c => ?_) (fun p o hh ne ep eo eh hp ho hh' c S' h' m' => ?_) (fun p o hh po ep eo eh hp ho hh' lf cb Γ' S' g' h' j' m' ev => ?_)
  · have e : sellD (sV S b ρ) (csF (sV S b ρ) L) v3.toInt v4.toInt v5.toInt = (-1, sV S b ρ) := if_pos (by rw [c])
    rw [e] at k
    exact k (-1) Γ S (show Int32.toInt (-1) = -1 by decide) gro_rf h rfl (lgQ_n hl (show (-1 : Int) < 0 by decide)) sam.rf
  · have e : sellD (sV S b ρ) (csF (sV S b ρ) L) v3.toInt v4.toInt v5.toInt = (-2, sV S b ρ) := by
      unfold sellD
      rw [if_neg (fun z => ne (Int32.toInt_inj.mp z))]
      exact if_pos c
    rw [e] at k
    exact k (-2) Γ S (show Int32.toInt (-2) = -2 by decide) gro_rf h rfl (lgQ_n hl (show (-2 : Int) < 0 by decide)) sam.rf
  · obtain ⟨t1, t2⟩ := nI_tn ep (by omega)
    obtain ⟨t3, t4⟩ := nI_tn eo (by omega)
    obtain ⟨t5, t6⟩ := nI_tn eh (by omega)
    have e : sellD (sV S b ρ) (csF (sV S b ρ) L) v3.toInt v4.toInt v5.toInt = (-3, sV S b ρ) := by
      unfold sellD
      rw [if_neg (fun z => ne (Int32.toInt_inj.mp z)), if_neg (by rw [t2, t4, t6]; omega), t1, t3, t5]
      exact if_pos c
    rw [e] at k
    have vv : sV S' b ρ = sV S b ρ := (hA.sm2 h m').2
    exact k (-3) Γ S' (show Int32.toInt (-3) = -3 by decide) gro_rf h' vv (lgQ_s h hl m' (show (-3 : Int) < 0 by decide)) (sam_dn m')
  · obtain ⟨t1, t2⟩ := nI_tn ep (by omega)
    obtain ⟨t3, t4⟩ := nI_tn eo (by omega)
    obtain ⟨t5, t6⟩ := nI_tn eh (by omega)
    have e : sellD (sV S b ρ) (csF (sV S b ρ) L) v3.toInt v4.toInt v5.toInt = (costsR (sV S b ρ) (csF (sV S b ρ) L) p o hh, sellF (sV S b ρ) (csF (sV S b ρ) L) p o hh) := by
      unfold sellD
      rw [if_neg (by rw [t2, t4]; omega), if_neg (by rw [t2, t4, t6]; omega), t1, t3, t5]
      exact if_neg (fun z => z ⟨lf, cb⟩)
    rw [e] at k
    have t := costs_in (f := sV S b ρ) (cs := csF (sV S b ρ) L) (p := p) (o := o) (h := hh)
    exact k _ Γ' S' (wI_i (by omega)) g' h' ev (lgQ_y j' t.1) m'
theorem kz_die {q : Int32 → hS → Prop} {lg : Option Nat} {v3 : Int32} (h : St Γ Φ S) (hf : fre Γ Φ (dbNm i)) (hi : i < 10) (hb : Γ b = some (8, 8 + 10000 * i, i, 0, ρ)) (hB : rB (sV S b ρ)) (hl : lgI ρg Γ Φ S u lg us) (k : ∀ (r : Int32) Γ' S', r.toInt = (dieD (sV S b ρ) v3.toInt).1 → gro Γ Φ Γ' → St Γ' Φ S' → sV S' b ρ = (dieD (sV S b ρ) v3.toInt).2 → lgQ ρg Γ' S S' lg us 2 (sV S b ρ) (dieD (sV S b ρ) v3.toInt).1 → sam Γ (deNm i) S S' → q r S') : w_X1_bury q S u d b lg v3 := by
  have b1 := rB_1 hB
  refine kx_X1_bury h hf hi hb hB hl (fun c => ?_) (fun p ep hp c => ?_) (fun p ep hp lv Γ' S' g' h' j' m' ev => ?_)
  · have e : dieD (sV S b ρ) v3.toInt = (-2, sV S b ρ) := if_pos c
    rw [e] at k
    exact k (-2) Γ S (show Int32.toInt (-2) = -2 by decide) gro_rf h rfl (lgQ_n hl (show (-2 : Int) < 0 by decide)) sam.rf
  · obtain ⟨t1, t2⟩ := nI_tn ep (by omega)
    have e : dieD (sV S b ρ) v3.toInt = (-3, sV S b ρ) := by
      unfold dieD
      rw [if_neg (by rw [t2]; omega), t1]
      exact if_pos c
    rw [e] at k
    exact k (-3) Γ S (show Int32.toInt (-3) = -3 by decide) gro_rf h rfl (lgQ_n hl (show (-3 : Int) < 0 by decide)) sam.rf
  · obtain ⟨t1, t2⟩ := nI_tn ep (by omega)
    have e : dieD (sV S b ρ) v3.toInt = ((manyR (sV S b ρ) p : Int), dieF (sV S b ρ) p) := by
      unfold dieD
      rw [if_neg (by rw [t2]; omega), t1]
      exact if_neg (fun z => z lv)
    rw [e] at k
    have m8 : manyR (sV S b ρ) p ≤ nPR (sV S b ρ) := rank_le (nPR (sV S b ρ))
    exact k _ Γ' S' (nI_toInt (by unfold nPR at m8; omega)) g' h' ev (lgQ_y j' (by dsimp only; omega)) m'
theorem kz_pass {q : Int32 → hS → Prop} {lg : Option Nat} (h : St Γ Φ S) (hf : fre Γ Φ (dbNm i)) (hi : i < 10) (hb : Γ b = some (8, 8 + 10000 * i, i, 0, ρ)) (hB : rB (sV S b ρ)) (hl : lgI ρg Γ Φ S u lg us) (k : ∀ (r : Int32) Γ' S', r.toInt = (passD (sV S b ρ)).1 → gro Γ Φ Γ' → St Γ' Φ S' → sV S' b ρ = (passD (sV S b ρ)).2 → lgQ ρg Γ' S S' lg us 3 (sV S b ρ) (passD (sV S b ρ)).1 → sam Γ (deNm i) S S' → q r S') : w_X1_turnYear q S u d b lg := by
  have y5 := hB.1 5 (by omega)
  rw [show rHi 5 = 999 by decide, show rLo 5 = 0 by decide] at y5
  refine kx_turnYear h hf hi hb hB hl (fun c => ?_) (fun c Γ' S' g' h' j' m' ev => ?_)
  · have e : passD (sV S b ρ) = (-3, sV S b ρ) := if_pos c
    rw [e] at k
    exact k (-3) Γ S (show Int32.toInt (-3) = -3 by decide) gro_rf h rfl (lgQ_n hl (show (-3 : Int) < 0 by decide)) sam.rf
  · have e : passD (sV S b ρ) = (iR (sV S b ρ) 5 + 1, passF (sV S b ρ)) := if_neg (fun z => z c)
    rw [e] at k
    exact k _ Γ' S' (wI_i (by omega)) g' h' ev (lgQ_y j' (by dsimp only; omega)) m'
end DD
