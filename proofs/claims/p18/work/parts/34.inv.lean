/-! LAYER 2, the reference: what holds of it between calls -/
def rg (z : Int32) (a b : Int) : Prop := a ≤ z.toInt ∧ z.toInt ≤ b
/-- one step of a code: what it does to the depth d of the pile -/
def stepOk (op arg : Int32) (d : Nat → Nat) (k hi : Nat) : Prop :=
  (rg op 0 9 ∧ d (k + 1) = d k + 1) ∨ (rg op 20 27 ∧ 2 ≤ d k ∧ d (k + 1) + 1 = d k) ∨ (op = 28 ∧ 1 ≤ d k ∧ d (k + 1) = d k) ∨
  ((op = 29 ∨ op = 30) ∧ 1 ≤ d k ∧ d (k + 1) + 1 = d k ∧ ∃ t : Nat, arg = nI t ∧ k < t ∧ t ≤ hi ∧ d t = d k)
def codeOk (op arg : Nat → Int32) (lo hi : Nat) : Prop := ∃ d : Nat → Nat, d lo = 0 ∧ (∀ k, d k ≤ 399) ∧ ∀ k, lo ≤ k → k < hi → stepOk (op k) (arg k) d k hi
def segOk (op arg : Nat → Int32) (x y : Int32) : Prop := ∃ lo hi : Nat, x = nI lo ∧ y = nI hi ∧ lo ≤ hi ∧ hi ≤ 400 ∧ codeOk op arg lo hi
def lawOk (f : Nat → Int32) (b : Nat) : Prop := rg (f (b + 1)) 0 12 ∧ ∀ c : Nat, (c : Int) < (f (b + 1)).toInt → segOk (fun j => f (b + 98 + 2 * j)) (fun j => f (b + 98 + 2 * j + 1)) (f (b + 2 + 8 * c + 3)) (f (b + 2 + 8 * c + 4)) ∧ segOk (fun j => f (b + 98 + 2 * j)) (fun j => f (b + 98 + 2 * j + 1)) (f (b + 2 + 8 * c + 5)) (f (b + 2 + 8 * c + 6))
/-- the places of the row that are followed: how many houses, people, clues; the heirs -/
def rTk (i : Nat) : Prop := i ≤ 2 ∨ (162 ≤ i ∧ i ≤ 169)
/-- the row: how many there are, what is in force, the year, wants, clues, laws; what is followed is as u has it -/
def rowOk (u f : Nat → Int32) : Prop := rg (f 0) 0 6 ∧ rg (f 1) 0 8 ∧ rg (f 2) 0 6 ∧ rg (f 3) 0 6 ∧ (-1 ≤ (f 4).toInt ∧ (f 4).toInt < (f 3).toInt) ∧ rg (f 5) 0 999 ∧ (∀ k, k < 8 → rg (f (154 + k)) (-1) 5) ∧ (∀ k, k < 6 → rg (f (170 + 2 * k)) 0 5) ∧ (∀ i : Nat, (i : Int) < (f 3).toInt → lawOk f (185 + 900 * i)) ∧ ∀ i, rTk i → f i = u i
/-- what is kept for undoing: years, sorts -/
def undOk (f : Nat → Int32) (n : Nat) : Prop := ∀ k, k < n → rg (f (121 * k)) 0 999
def srtOk (f : Nat → Int32) : Prop := ∀ k, k < 16 → rg (f k) 0 3
def imgOk (f g : Nat → Int32) : Prop := ∀ k, k < 2 → g k ≠ 0 → rowOk (fun i => f (5585 * k + i)) (fun i => f (5585 * k + i))
def mOk (mT M : mS) : Prop := rowOk (mT.2.2.1 3) (M.2.2.1 3) ∧ imgOk (M.2.2.1 4) (M.2.2.1 5) ∧ undOk (M.2.2.1 6) 18 ∧ undOk (M.2.2.1 9) 16 ∧ srtOk (M.2.2.1 7) ∧ srtOk (M.2.2.1 10) ∧ rg (M.1 8) 0 16 ∧ rg (M.1 13) 0 400 ∧ M.1 20 = 0 ∧ rg (M.1 59) (-1) 8 ∧ rg (M.1 60) (-1) 6 ∧ M.2.2.1 4 = mT.2.2.1 4 ∧ M.2.2.1 5 = mT.2.2.1 5 ∧ M.2.2.1 12 = mT.2.2.1 12 ∧ M.1 13 = mT.1 13 ∧ M.1 11 = mT.1 11
theorem rg_nI {z : Int32} {a : Int} {b : Nat} (h : rg z a b) (ha : 0 ≤ a) (hb : b < 2 ^ 31) : ∃ n : Nat, n ≤ b ∧ z = nI n ∧ a ≤ n := by
  obtain ⟨h1, h2⟩ := h
  refine ⟨z.toInt.toNat, by omega, ?_, by omega⟩
  apply Int32.toInt_inj.mp
  rw [nI_toInt (by omega)]
  omega
section REF3
variable {S : hS} {o : Nat} {ad : Nat → Nat} {M : mS} {mT : mS}
theorem nI_not_le {a b : Nat} (ha : a < 2 ^ 31) (hb : b < 2 ^ 31) : (¬ nI a ≤ nI b) ↔ b < a := by rw [nI_leI ha hb]; omega
theorem i64sub1 (x : Int32) : ((Int32.toInt64 x) - 1).toInt = x.toInt - 1 := by
  have h := fb_rng x
  rw [fb_subL] <;> rw [i64toInt] <;> simp <;> omega
theorem s_isHouse (hd : mD o ad) {q : Int32 → hS → Prop} {x : Int32} (h1 : 0 ≤ x.toInt → x.toInt < (M.2.2.1 3 0).toInt → q 1 (ov S o ad M)) (h0 : ¬ (0 ≤ x.toInt ∧ x.toInt < (M.2.2.1 3 0).toInt) → q 0 (ov S o ad M)) : w_X12_isHouse q (ov S o ad M) o x := by
  unfold w_X12_isHouse
  simp (disch := decide) only [oi_gI, oi_gJ, oi_gP, oi_pI, oi_pZ, oi_pJ, oi_oK, oi_aI hd, oi_aZ hd, oi_aJ hd, oi_sI hd, oi_sZ hd, oi_sJ hd, mI_1, mI_2, mJ_1, mJ_2, mJ_3, mA_1, mA_2, mA_3, mA_4, mL_1, mL_2, mL_3, mL_4, mK, Nat.reduceEqDiff, if_true, if_false, ite_true, ite_false, true_and, Nat.reduceLT, reduceIte, reduceCtorEq]
  refine ⟨vp_in_iff.mpr (by decide), s_in (fun a b => ⟨Or.inr rfl, h1 ?_ ?_⟩) (fun a => ⟨Or.inl rfl, h0 (fun b => a ?_)⟩)⟩
  · rw [i64toInt] at a; simpa using a
  · rw [i64sub1, i64toInt] at b
    have e : (0 : Int32).toNatClampNeg = 0 := by decide
    rw [e] at b
    omega
  · rw [i64sub1, i64toInt]
    have e : (0 : Int32).toNatClampNeg = 0 := by decide
    rw [e]
    have : (0 : Int64).toInt = 0 := by decide
    omega
theorem s_isPerson (hd : mD o ad) {q : Int32 → hS → Prop} {x : Int32} (h1 : 0 ≤ x.toInt → x.toInt < (M.2.2.1 3 1).toInt → q 1 (ov S o ad M)) (h0 : ¬ (0 ≤ x.toInt ∧ x.toInt < (M.2.2.1 3 1).toInt) → q 0 (ov S o ad M)) : w_X12_isPerson q (ov S o ad M) o x := by
  unfold w_X12_isPerson
  simp (disch := decide) only [oi_gI, oi_gJ, oi_gP, oi_pI, oi_pZ, oi_pJ, oi_oK, oi_aI hd, oi_aZ hd, oi_aJ hd, oi_sI hd, oi_sZ hd, oi_sJ hd, mI_1, mI_2, mJ_1, mJ_2, mJ_3, mA_1, mA_2, mA_3, mA_4, mL_1, mL_2, mL_3, mL_4, mK, Nat.reduceEqDiff, if_true, if_false, ite_true, ite_false, true_and, Nat.reduceLT, reduceIte, reduceCtorEq]
  refine ⟨vp_in_iff.mpr (by decide), s_in (fun a b => ⟨Or.inr rfl, h1 ?_ ?_⟩) (fun a => ⟨Or.inl rfl, h0 (fun b => a ?_)⟩)⟩
  · rw [i64toInt] at a; simpa using a
  · rw [i64sub1, i64toInt] at b
    have e : (1 : Int32).toNatClampNeg = 1 := by decide
    rw [e] at b
    omega
  · rw [i64sub1, i64toInt]
    have e : (1 : Int32).toNatClampNeg = 1 := by decide
    rw [e]
    have : (0 : Int64).toInt = 0 := by decide
    omega
theorem s_isPlace {q : Int32 → hS → Prop} {T : hS} {x : Int32} (h1 : 0 ≤ x.toInt → x.toInt ≤ 24 → q 1 T) (h0 : q 0 T) : w_X12_isPlace q T x := by
  unfold w_X12_isPlace
  refine s_in (fun a b => ⟨Or.inr rfl, h1 ?_ ?_⟩) (fun a => ⟨Or.inl rfl, h0⟩)
  · rw [i64toInt] at a; simpa using a
  · rw [i64toInt] at b; simpa using b
theorem s_lives (hd : mD o ad) {q : Int32 → hS → Prop} {p : Nat} (hp : p < 8) (h1 : M.2.2.1 3 (22 + p) = 0 → q 1 (ov S o ad M)) (h0 : ¬ M.2.2.1 3 (22 + p) = 0 → q 0 (ov S o ad M)) : w_X12_lives q (ov S o ad M) o (nI p) := by
  unfold w_X12_lives
  simp (disch := decide) only [oi_gI, oi_gJ, oi_gP, oi_pI, oi_pZ, oi_pJ, oi_oK, oi_aI hd, oi_aZ hd, oi_aJ hd, oi_sI hd, oi_sZ hd, oi_sJ hd, mI_1, mI_2, mJ_1, mJ_2, mJ_3, mA_1, mA_2, mA_3, mA_4, mL_1, mL_2, mL_3, mL_4, mK, Nat.reduceEqDiff, if_true, if_false, ite_true, ite_false, true_and, Nat.reduceLT, reduceIte, reduceCtorEq]
  rw [lit_nI 22, nIadd, nI_clamp (by omega)]
  exact ⟨vp_in_nI (by omega) (by omega), h0, h1⟩
theorem s_rights (hd : mD o ad) {q : Int32 → hS → Prop} {p h : Nat} (hp : p < 8) (hh : h < 6) (k : q (M.2.2.1 3 (30 + 6 * p + h)) (ov S o ad M)) : w_X12_rights q (ov S o ad M) o (nI p) (nI h) := by
  unfold w_X12_rights
  simp (disch := decide) only [oi_gI, oi_gJ, oi_gP, oi_pI, oi_pZ, oi_pJ, oi_oK, oi_aI hd, oi_aZ hd, oi_aJ hd, oi_sI hd, oi_sZ hd, oi_sJ hd, mI_1, mI_2, mJ_1, mJ_2, mJ_3, mA_1, mA_2, mA_3, mA_4, mL_1, mL_2, mL_3, mL_4, mK, Nat.reduceEqDiff, if_true, if_false, ite_true, ite_false, true_and, Nat.reduceLT, reduceIte, reduceCtorEq]
  rw [lit_nI 30, lit_nI 6, nImul, nIadd, nIadd, nI_clamp (by omega)]
  exact ⟨vp_in_nI (by omega) (by omega), k⟩
theorem s_leftOf (hd : mD o ad) {q : Int32 → hS → Prop} {p h : Nat} (hp : p < 8) (hh : h < 6) (k : q (M.2.2.1 3 (30 + 6 * p + h) - M.2.2.1 3 (78 + 6 * p + h)) (ov S o ad M)) : w_X12_leftOf q (ov S o ad M) o (nI p) (nI h) := by
  unfold w_X12_leftOf
  refine ⟨ov_oK, s_rights hd hp hh ?_⟩
  simp (disch := decide) only [oi_gI, oi_gJ, oi_gP, oi_pI, oi_pZ, oi_pJ, oi_oK, oi_aI hd, oi_aZ hd, oi_aJ hd, oi_sI hd, oi_sZ hd, oi_sJ hd, mI_1, mI_2, mJ_1, mJ_2, mJ_3, mA_1, mA_2, mA_3, mA_4, mL_1, mL_2, mL_3, mL_4, mK, Nat.reduceEqDiff, if_true, if_false, ite_true, ite_false, true_and, Nat.reduceLT, reduceIte, reduceCtorEq]
  rw [lit_nI 78, lit_nI 6, nImul, nIadd, nIadd, nI_clamp (by omega)]
  exact ⟨vp_in_nI (by omega) (by omega), k⟩
theorem s_living (hd : mD o ad) (hr : rg (M.2.2.1 3 1) 0 8) {q : Int32 → hS → Prop} (h : ∀ x, q x (ov S o ad M)) : w_X12_living q (ov S o ad M) o := by
  obtain ⟨p, hp, ep, -⟩ := rg_nI (b := 8) hr (by omega) (by omega)
  refine loop_m (σ := Int32 × Nat) (fun n s => w_X12_living_b4 q n (ov S o ad M) o s.1 (nI s.2)) (fun s => s.2 ≤ p) (fun s => p - s.2) ?_ (0, 0) (Nat.zero_le _)
  rintro n ⟨v, i⟩ hi ih
  dsimp only at hi ih ⊢
  rw [w_X12_living_b4]
  simp (disch := decide) only [oi_gI, oi_gJ, oi_gP, oi_pI, oi_pZ, oi_pJ, oi_oK, oi_aI hd, oi_aZ hd, oi_aJ hd, oi_sI hd, oi_sZ hd, oi_sJ hd, mI_1, mI_2, mJ_1, mJ_2, mJ_3, mA_1, mA_2, mA_3, mA_4, mL_1, mL_2, mL_3, mL_4, mK, Nat.reduceEqDiff, if_true, if_false, ite_true, ite_false, true_and, Nat.reduceLT, reduceIte, reduceCtorEq]
  have e : (1 : Int32).toNatClampNeg = 1 := by decide
  rw [e, ep]
  refine ⟨vp_in_iff.mpr (by decide), fun _ => h _, fun c => s_lives hd (p := i) ?_ (fun _ => ⟨fun z => absurd z (by decide), fun _ => ?_⟩) (fun _ => ⟨fun _ => ?_, fun z => absurd rfl z⟩)⟩
  · rw [nI_not_le (by omega) (by omega)] at c; omega
  all_goals
    rw [nI_not_le (by omega) (by omega)] at c
    intro y _ z ez
    rw [ez, nI_1]
    exact ih (y, i + 1) (by show i + 1 ≤ p; omega) (by show p - (i + 1) < p - i; omega)
theorem s_leftOfAll (hd : mD o ad) (hr : rg (M.2.2.1 3 0) 0 6) {q : Int32 → hS → Prop} {p : Nat} (hp : p < 8) (h : ∀ x, q x (ov S o ad M)) : w_X12_leftOfAll q (ov S o ad M) o (nI p) := by
  obtain ⟨n0, hn, en, -⟩ := rg_nI (b := 6) hr (by omega) (by omega)
  refine loop_m (σ := Int32 × Nat) (fun n s => w_X12_leftOfAll_b4 q n (ov S o ad M) o (nI p) s.1 (nI s.2)) (fun s => s.2 ≤ n0) (fun s => n0 - s.2) ?_ (0, 0) (Nat.zero_le _)
  rintro n ⟨v, i⟩ hi ih
  dsimp only at hi ih ⊢
  rw [w_X12_leftOfAll_b4]
  simp (disch := decide) only [oi_gI, oi_gJ, oi_gP, oi_pI, oi_pZ, oi_pJ, oi_oK, oi_aI hd, oi_aZ hd, oi_aJ hd, oi_sI hd, oi_sZ hd, oi_sJ hd, mI_1, mI_2, mJ_1, mJ_2, mJ_3, mA_1, mA_2, mA_3, mA_4, mL_1, mL_2, mL_3, mL_4, mK, Nat.reduceEqDiff, if_true, if_false, ite_true, ite_false, true_and, Nat.reduceLT, reduceIte, reduceCtorEq]
  have e : (0 : Int32).toNatClampNeg = 0 := by decide
  rw [e, en]
  refine ⟨vp_in_iff.mpr (by decide), fun _ => h _, fun c => s_leftOf hd hp (h := i) ?_ ?_⟩
  · rw [nI_not_le (by omega) (by omega)] at c; omega
  · rw [nI_not_le (by omega) (by omega)] at c
    intro y _ z ez
    rw [ez, nI_1]
    exact ih (y, i + 1) (by show i + 1 ≤ n0; omega) (by show n0 - (i + 1) < n0 - i; omega)
theorem s_rightsTo (hd : mD o ad) (hr : rg (M.2.2.1 3 1) 0 8) {q : Int32 → hS → Prop} {h0 : Nat} (hh : h0 < 6) (h : ∀ x, q x (ov S o ad M)) : w_X12_rightsTo q (ov S o ad M) o (nI h0) := by
  obtain ⟨n0, hn, en, -⟩ := rg_nI (b := 8) hr (by omega) (by omega)
  refine loop_m (σ := Int32 × Nat) (fun n s => w_X12_rightsTo_b4 q n (ov S o ad M) o (nI h0) s.1 (nI s.2)) (fun s => s.2 ≤ n0) (fun s => n0 - s.2) ?_ (0, 0) (Nat.zero_le _)
  rintro n ⟨v, i⟩ hi ih
  dsimp only at hi ih ⊢
  rw [w_X12_rightsTo_b4]
  simp (disch := decide) only [oi_gI, oi_gJ, oi_gP, oi_pI, oi_pZ, oi_pJ, oi_oK, oi_aI hd, oi_aZ hd, oi_aJ hd, oi_sI hd, oi_sZ hd, oi_sJ hd, mI_1, mI_2, mJ_1, mJ_2, mJ_3, mA_1, mA_2, mA_3, mA_4, mL_1, mL_2, mL_3, mL_4, mK, Nat.reduceEqDiff, if_true, if_false, ite_true, ite_false, true_and, Nat.reduceLT, reduceIte, reduceCtorEq]
  have e : (1 : Int32).toNatClampNeg = 1 := by decide
  rw [e, en]
  refine ⟨vp_in_iff.mpr (by decide), fun _ => h _, fun c => s_rights hd (p := i) ?_ hh ?_⟩
  · rw [nI_not_le (by omega) (by omega)] at c; omega
  · rw [nI_not_le (by omega) (by omega)] at c
    intro y _ z ez
    rw [ez, nI_1]
    exact ih (y, i + 1) (by show i + 1 ≤ n0; omega) (by show n0 - (i + 1) < n0 - i; omega)
theorem s_stepsOf {q : Int32 → hS → Prop} {T : hS} {a b : Int32} (h : ∀ x, q x T) : w_X12_stepsOf q T a b := by
  intro y _ z _
  exact ⟨fun _ => ⟨fun _ => h _, fun _ => h _⟩, fun _ => ⟨fun _ => h _, fun _ => h _⟩⟩
end REF3
