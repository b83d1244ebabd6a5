/-! THE REFERENCE'S DEATHS AND YEARS, EXACTLY -/
theorem dB_and2 {a b : Int32} {j : Nat} (hj : j < 8) : dB (a &&& b) j = 1 ↔ dB a j = 1 ∧ dB b j = 1 := by
  rw [dB_bit hj, dB_bit hj, dB_bit hj, Int32.toBitVec_and, BitVec.getLsbD_and]
  cases a.toBitVec.getLsbD j <;> cases b.toBitVec.getLsbD j <;> simp
theorem dB_or0 {a : Int32} : a ||| 0 = a := by
  apply Int32.toBitVec_inj.mp
  rw [Int32.toBitVec_or]
  show a.toBitVec ||| 0#32 = _
  simp
/-- how many of the first n bits are set -/
def onesN (a : Int32) : Nat → Nat
  | 0 => 0
  | n + 1 => onesN a n + if dB a n = 1 then 1 else 0
theorem onesN_le {a : Int32} (n : Nat) : onesN a n ≤ n := by
  induction n with
  | zero => exact Nat.le_refl _
  | succ n ih => rw [onesN]; split <;> omega
theorem rank_end {f : Nat → Int32} {p : Nat} : ∀ n, nPR f ≤ n → rankR f p n = manyR f p
  | 0, h => by
    have : nPR f = 0 := by omega
    unfold manyR
    rw [this]
  | n + 1, h => by
    by_cases c : nPR f = n + 1
    · unfold manyR; rw [c]
    · rw [rankR, rank_end n (by omega)]
      have : heirB f p n = false := by
        unfold heirB
        have : ¬ (n : Int) < iR f 1 := by unfold nPR at h c; omega
        rw [decide_eq_false this, Bool.and_false]
      rw [this]
      simp
theorem onesN_rank {f : Nat → Int32} {a : Int32} {p : Nat} (h : ∀ j, j < 8 → (dB a j = 1 ↔ heirB f p j = true)) : ∀ n, n ≤ 8 → onesN a n = rankR f p n
  | 0, _ => rfl
  | n + 1, hn => by
    rw [onesN, rankR, onesN_rank h n (by omega)]
    by_cases c : dB a n = 1
    · rw [if_pos c, if_pos ((h n (by omega)).mp c)]
    · rw [if_neg c, if_neg (fun z => c ((h n (by omega)).mpr z))]
theorem onesN_alive {f : Nat → Int32} {a : Int32} {m : Nat} (h : ∀ j, j < 8 → (dB a j = 1 ↔ j < m ∧ liveR f j = true)) : ∀ n, n ≤ 8 → onesN a n = aliveR f (min n m)
  | 0, _ => by rw [Nat.zero_min]; rfl
  | n + 1, hn => by
    rw [onesN, onesN_alive h n (by omega)]
    by_cases c : n < m
    · rw [show min (n + 1) m = n + 1 by omega, show min n m = n by omega, aliveR]
      by_cases c2 : liveR f n = true
      · rw [if_pos ((h n (by omega)).mpr ⟨c, c2⟩), if_pos c2]
      · rw [if_neg (fun z => c2 ((h n (by omega)).mp z).2), if_neg c2]
    · rw [show min (n + 1) m = m by omega, show min n m = m by omega, if_neg (fun z => c ((h n (by omega)).mp z).1)]
      rfl
/-- the heirs below m have theirs; the owner's still stand -/
def dieX (f : Nat → Int32) (p n m : Nat) : Nat → Int32 := upd (upd (dieQ f p n m) (30 + 6 * p + n) (f (30 + 6 * p + n))) (78 + 6 * p + n) (f (78 + 6 * p + n))
theorem dieX_0 {f : Nat → Int32} {p n : Nat} (hp : p < 8) (hn : n < 6) : dieX f p n 0 = dieH f p n := by
  unfold dieX
  rw [← dieQ_0 hp hn]
  funext i
  unfold upd
  by_cases c1 : i = 78 + 6 * p + n
  · rw [if_pos c1, c1]
    unfold dieH
    rw [if_neg (by omega), if_neg (by omega)]
  · rw [if_neg c1]
    by_cases c2 : i = 30 + 6 * p + n
    · rw [if_pos c2, c2, dieH_r hn hp]
    · rw [if_neg c2, if_neg c1, if_neg c2]
theorem dieX_s {f : Nat → Int32} {p n o : Nat} (ho : o < 8) (hn : n < 6) (hpp : heirB f p p = false) : dieX f p n (o + 1) = if heirB f p o = true then upd (dieX f p n o) (30 + 6 * o + n) (gotR f p n o) else dieX f p n o := by
  unfold dieX
  rw [dieQ_s ho hn hpp]
  by_cases hh : heirB f p o = true
  · have po : o ≠ p := fun z => by rw [z, hpp] at hh; cases hh
    rw [if_pos hh, if_pos hh]
    funext i
    unfold upd
    by_cases c0 : i = 30 + 6 * o + n
    · rw [if_neg (by omega), if_neg (by omega), if_pos c0, if_pos c0]
    · rw [if_neg c0, if_neg c0]
  · rw [if_neg hh, if_neg hh]
theorem dieX_e {f : Nat → Int32} {p n m : Nat} (hp : p < 8) (hn : n < 6) (hm : ∀ o, m ≤ o → o < 8 → heirB f p o = false) : upd (upd (dieX f p n m) (30 + 6 * p + n) 0) (78 + 6 * p + n) 0 = dieH f p (n + 1) := by
  rw [← dieQ_e hn hm]
  unfold dieX
  funext i
  unfold upd
  by_cases c1 : i = 78 + 6 * p + n
  · rw [if_pos c1, c1]
    unfold dieQ
    rw [if_neg (by omega), if_pos (by omega)]
  · rw [if_neg c1]
    by_cases c2 : i = 30 + 6 * p + n
    · rw [if_pos c2, c2]
      unfold dieQ
      rw [if_pos (by omega), if_pos (by omega)]
    · rw [if_neg c2, if_neg c1, if_neg c2]
theorem dieX_r {f : Nat → Int32} {p n m o : Nat} (hp : p < 8) (hn : n < 6) (ho : o < 8) (hm : m ≤ o) : dieX f p n m (30 + 6 * o + n) = f (30 + 6 * o + n) := by
  unfold dieX upd
  rw [if_neg (by omega)]
  by_cases c : o = p
  · subst c; rw [if_pos rfl]
  · rw [if_neg (by omega), dieQ_r hn ho hm c]
theorem dieX_o {f : Nat → Int32} {p n m i : Nat} (hp : p < 8) (hn : n < 6) (h : ¬ (30 ≤ i ∧ i < 126)) : dieX f p n m i = f i := by
  unfold dieX upd
  rw [if_neg (by omega), if_neg (by omega), dieQ_o h]
section DI
variable {S : hS} {o : Nat} {ad : Nat → Nat} {M N P M1 : mS} {mT : mS} {T : aS} {rs : Nat} {L : Nat → List pCl} {us : uL} {f g u s : Nat → Int32}
theorem x_living (hd : mD o ad) (hB : rB (M.2.2.1 3)) {q : Int32 → hS → Prop} (h : ∀ x, (∀ j, j < 8 → (dB x j = 1 ↔ j < nPR (M.2.2.1 3) ∧ liveR (M.2.2.1 3) j = true)) → q x (ov S o ad M)) : w_X12_living q (ov S o ad M) o := by
  have h1 := hB.1 1 (by omega)
  rw [show rLo 1 = 0 by decide, show rHi 1 = 8 by decide] at h1
  have ep : M.2.2.1 3 1 = nI (nPR (M.2.2.1 3)) := by
    apply Int32.toInt_inj.mp
    unfold nPR
    have : iR (M.2.2.1 3) 1 = (M.2.2.1 3 1).toInt := rfl
    rw [nI_toInt (by omega)]
    omega
  have hp : nPR (M.2.2.1 3) ≤ 8 := by unfold nPR; omega
  generalize nPR (M.2.2.1 3) = p at ep hp h
  have d0 : ∀ j, j < 8 → dB 0 j ≠ 1 := by decide
  refine loop_m (σ := Int32 × Nat) (fun n s => w_X12_living_b4 q n (ov S o ad M) o s.1 (nI s.2)) (fun s => s.2 ≤ p ∧ ∀ j, j < 8 → (dB s.1 j = 1 ↔ j < s.2 ∧ liveR (M.2.2.1 3) j = true)) (fun s => p - s.2) ?_ (0, 0) ⟨Nat.zero_le _, fun j hj => ⟨fun z => absurd z (d0 j hj), fun z => by have := z.1; dsimp only at this; omega⟩⟩
  rintro n ⟨v, i⟩ ⟨hi, hv⟩ ih
  dsimp only at hi hv ih ⊢
  rw [w_X12_living_b4]
  simp (disch := decide) only [oi_gI, oi_gJ, oi_gP, oi_pI, oi_pZ, oi_pJ, oi_oK, oi_aI hd, oi_aZ hd, oi_aJ hd, oi_sI hd, oi_sZ hd, oi_sJ hd, mI_1, mI_2, mJ_1, mJ_2, mJ_3, mA_1, mA_2, mA_3, mA_4, mL_1, mL_2, mL_3, mL_4, mK, Nat.reduceEqDiff, if_true, if_false, ite_true, ite_false, true_and, Nat.reduceLT, reduceIte, reduceCtorEq]
  have e : (1 : Int32).toNatClampNeg = 1 := by decide
  rw [e, ep]
  have lv : liveR (M.2.2.1 3) i = true ↔ M.2.2.1 3 (22 + i) = 0 := by
    unfold liveR
    rw [decide_eq_true_eq, i32_z]; rfl
  refine ⟨vp_in_iff.mpr (by decide), fun c => ?_, fun c => ?_⟩
  · rw [nI_leI (by omega) (by omega)] at c
    have : i = p := by omega
    subst this
    exact h _ hv
  · rw [nI_not_le (by omega) (by omega)] at c
    refine s_lives hd (p := i) (by omega) (fun c1 => ⟨fun z => absurd z (by decide), fun _ => ?_⟩) (fun c0 => ⟨fun _ => ?_, fun z => absurd rfl z⟩)
    · intro y ey z ez
      rw [ez, nI_1]
      refine ih (y, i + 1) ⟨by show i + 1 ≤ p; omega, fun j hj => ?_⟩ (by show p - (i + 1) < p - i; omega)
      dsimp only
      rw [ey, dB_or (by omega) hj]
      by_cases cj : j = i
      · rw [if_pos cj, cj]
        exact ⟨fun _ => ⟨by omega, lv.mpr c1⟩, fun _ => rfl⟩
      · rw [if_neg cj, hv j hj]
        exact ⟨fun z => ⟨by omega, z.2⟩, fun z => ⟨by omega, z.2⟩⟩
    · intro y ey z ez
      rw [ez, nI_1]
      refine ih (y, i + 1) ⟨by show i + 1 ≤ p; omega, fun j hj => ?_⟩ (by show p - (i + 1) < p - i; omega)
      dsimp only
      rw [ey, dB_or0, hv j hj]
      refine ⟨fun z => ⟨by omega, z.2⟩, fun z => ⟨?_, z.2⟩⟩
      by_cases cj : j = i
      · rw [cj] at z
        exact absurd (lv.mp z.2) c0
      · omega
theorem x_ones {q : Int32 → hS → Prop} {X : hS} {a : Int32} (h : q (nI (onesN a 8)) X) : w_X12_ones q X a := by
  refine loop_m (σ := Nat × Nat) (fun n s => w_X12_ones_b4 q n X a (nI s.1) (nI s.2)) (fun s => s.1 = onesN a s.2 ∧ s.2 ≤ 8) (fun s => 8 - s.2) ?_ (0, 0) ⟨rfl, by omega⟩
  rintro n ⟨x, i⟩ ⟨h1, h2⟩ ih
  dsimp only at h1 h2 ih ⊢
  rw [w_X12_ones_b4, lit_nI 8, nI_leI (by omega) (by omega)]
  refine ⟨fun c => ?_, fun c y ey z ez => ?_⟩
  · have : i = 8 := by omega
    rw [h1, this]
    exact h
  · rw [ez, nI_1]
    have e1 : y = nI (onesN a (i + 1)) := by
      rw [ey, n31 i (by omega), onesN, h1]
      show nI (onesN a i) + dB a i = _
      rcases dB_01 (d := a) (j := i) (by omega) with d | d
      · rw [d, if_neg (by decide), Nat.add_zero]
        show nI _ + nI 0 = _
        rw [nIadd]
        rfl
      · rw [d, if_pos rfl, nI_1]
    rw [e1]
    exact ih (onesN a (i + 1), i + 1) ⟨rfl, by dsimp only; omega⟩ (by dsimp only; omega)
end DI
