/-! LAYER 2, the reference: rounds of visits, exchanges -/
theorem pig : ∀ (H m : Nat) (f : Nat → Int), (∀ i, i < m → 0 ≤ f i ∧ f i < H) → (∀ i j, i < j → j < m → f i ≠ f j) → m ≤ H := by
  intro H
  induction H with
  | zero =>
    intro m f h1 _
    cases m with
    | zero => exact Nat.le_refl _
    | succ m => have := h1 0 (by omega); omega
  | succ H ih =>
    intro m f h1 h2
    by_cases hx : ∃ i, i < m ∧ f i = H
    · obtain ⟨x, hx, ex⟩ := hx
      have hne : ∀ i, i < m → i ≠ x → f i < H := by
        intro i hi hix
        have a := h1 i hi
        have : f i ≠ H := by
          rcases Nat.lt_or_gt_of_ne hix with c | c
          · intro e; exact h2 i x c hx (by omega)
          · intro e; exact h2 x i c hi (by omega)
        omega
      have : m - 1 ≤ H := by
        refine ih (m - 1) (fun i => if i = x then f (m - 1) else f i) (fun i hi => ?_) (fun i j hij hj => ?_)
        · split
          · exact ⟨(h1 _ (by omega)).1, hne _ (by omega) (by omega)⟩
          · exact ⟨(h1 _ (by omega)).1, hne _ (by omega) (by omega)⟩
        · split
          · split
            · omega
            · exact fun e => h2 j (m - 1) (by omega) (by omega) e.symm
          · split
            · exact fun e => h2 i (m - 1) (by omega) (by omega) e
            · exact h2 i j hij (by omega)
      omega
    · have : m ≤ H := ih m f (fun i hi => ⟨(h1 i hi).1, by
        have a := h1 i hi
        have : f i ≠ H := fun e => hx ⟨i, hi, e⟩
        omega⟩) h2
      omega
/-- rows of digits in their order -/
def lx (t : Nat → Nat) (C B E : Nat) : Nat → Nat
  | 0 => 0
  | j + 1 => lx t C B E j + (C - t j) * B ^ (E - j)
theorem lx_congr {t t' : Nat → Nat} {C B E : Nat} : ∀ j, (∀ i, i < j → t' i = t i) → lx t' C B E j = lx t C B E j
  | 0, _ => rfl
  | j + 1, h => by rw [lx, lx, lx_congr j (fun i hi => h i (by omega)), h j (by omega)]
theorem lx_pow {B E k : Nat} (hB : 0 < B) : 0 < B ^ (E - k) := Nat.pow_pos hB
theorem lx_inc {t t' : Nat → Nat} {C B E k : Nat} (h : ∀ i, i < k → t' i = t i) (hk : t' k = t k + 1) (hC : t k < C) : lx t' C B E (k + 1) + B ^ (E - k) = lx t C B E (k + 1) := by
  rw [lx, lx, lx_congr k h, hk]
  obtain ⟨d, hd⟩ : ∃ d, C = t k + 1 + d := ⟨C - (t k + 1), by omega⟩
  rw [show C - (t k + 1) = d by omega, show C - t k = d + 1 by omega, Nat.add_mul, Nat.one_mul]
  omega
theorem lx_push {t t' : Nat → Nat} {C B E k : Nat} (h : ∀ i, i < k + 1 → t' i = t i) (hE : k < E) (hC : C < B) : lx t' C B E (k + 2) < lx t C B E (k + 1) + B ^ (E - k) := by
  rw [lx, lx_congr (k + 1) h]
  have e : E - k = (E - (k + 1)) + 1 := by omega
  rw [e, Nat.pow_succ]
  have p : 0 < B ^ (E - (k + 1)) := Nat.pow_pos (by omega)
  have : (C - t' (k + 1)) * B ^ (E - (k + 1)) < B ^ (E - (k + 1)) * B := by
    rw [Nat.mul_comm]
    exact Nat.mul_lt_mul_of_pos_left (by omega) p
  omega
theorem i32lt {a b : Int32} : a < b ↔ a.toInt < b.toInt := Int32.lt_iff_toInt_lt
theorem i32ne {a b : Int32} : a ≠ b ↔ a.toInt ≠ b.toInt := ⟨fun h e => h (Int32.toInt_inj.mp e), fun h e => h (by rw [e])⟩
theorem i32s1 {a : Int32} (h1 : -2147483648 ≤ a.toInt) (h2 : a.toInt < 2147483647) : (a + 1).toInt = a.toInt + 1 := by
  have : (1 : Int32).toInt = 1 := by decide
  rw [fb_addI (by omega) (by omega)]; omega
def tI (f : Nat → Int32) : Nat → Nat := fun i => ((f i).toInt + 1).toNat
def vI (f : Nat → Int32) (H j : Nat) : Prop := j ≤ H + 1 ∧ (∀ i, i + 1 < j → 0 ≤ (f i).toInt ∧ (f i).toInt < H) ∧ (∀ a b, a < b → b + 1 < j → f a ≠ f b) ∧ ∀ k, j = k + 1 → -1 ≤ (f k).toInt ∧ (f k).toInt < H
def vm (f : Nat → Int32) (H j : Nat) : Nat := lx (tI f) (H + 1) (H + 2) 8 j
section VIS
variable {f : Nat → Int32} {H k : Nat}
theorem tI_up (v : Int32) (i : Nat) (h : i ≠ k) : tI (upd f k v) i = tI f i := by unfold tI; rw [upd_ne _ _ h]
theorem v_t (h : vI f H (k + 1)) (hH : H ≤ 8) : (f k + 1).toInt = (f k).toInt + 1 ∧ tI (upd f k (f k + 1)) k = tI f k + 1 ∧ tI f k < H + 1 := by
  have := h.2.2.2 k rfl
  have e := i32s1 (a := f k) (by omega) (by omega)
  refine ⟨e, ?_, ?_⟩
  · unfold tI; rw [upd_self, e]; omega
  · unfold tI; omega
theorem v_stay (h : vI f H (k + 1)) (hH : H ≤ 8) (hl : (f k + 1).toInt < H) : vI (upd f k (f k + 1)) H (k + 1) ∧ vm (upd f k (f k + 1)) H (k + 1) < vm f H (k + 1) := by
  obtain ⟨e, e1, e2⟩ := v_t h hH
  refine ⟨⟨h.1, fun i hi => ?_, fun a b hab hb => ?_, fun k' hk => ?_⟩, ?_⟩
  · rw [upd_ne _ _ (by omega)]; exact h.2.1 i hi
  · rw [upd_ne _ _ (by omega), upd_ne _ _ (by omega)]; exact h.2.2.1 a b hab hb
  · obtain rfl : k' = k := by omega
    rw [upd_self]
    have := h.2.2.2 k' rfl
    omega
  · have := lx_inc (t := tI f) (t' := tI (upd f k (f k + 1))) (C := H + 1) (B := H + 2) (E := 8) (k := k) (fun i hi => tI_up _ i (by omega)) e1 e2
    have p := lx_pow (B := H + 2) (E := 8) (k := k) (by omega)
    unfold vm
    omega
theorem v_pop (h : vI f H (k + 1)) (hH : H ≤ 8) (hl : ¬ (f k + 1).toInt < H) : vI (upd f k (f k + 1)) H k ∧ vm (upd f k (f k + 1)) H k < vm f H (k + 1) := by
  obtain ⟨e, e1, e2⟩ := v_t h hH
  refine ⟨⟨by have := h.1; omega, fun i hi => ?_, fun a b hab hb => ?_, fun k' hk => ?_⟩, ?_⟩
  · rw [upd_ne _ _ (by omega)]; exact h.2.1 i (by omega)
  · rw [upd_ne _ _ (by omega), upd_ne _ _ (by omega)]; exact h.2.2.1 a b hab (by omega)
  · rw [upd_ne _ _ (by omega)]
    have := h.2.1 k' (by omega)
    omega
  · have := lx_inc (t := tI f) (t' := tI (upd f k (f k + 1))) (C := H + 1) (B := H + 2) (E := 8) (k := k) (fun i hi => tI_up _ i (by omega)) e1 e2
    have p := lx_pow (B := H + 2) (E := 8) (k := k) (by omega)
    rw [lx] at this
    unfold vm
    omega
theorem v_push (h : vI f H (k + 1)) (hH : H ≤ 7) (hl : (f k + 1).toInt < H) (hn : ∀ i, i < k → f i ≠ f k + 1) : k + 1 ≤ H ∧ vI (upd (upd f k (f k + 1)) (k + 1) (-1)) H (k + 2) ∧ vm (upd (upd f k (f k + 1)) (k + 1) (-1)) H (k + 2) < vm f H (k + 1) := by
  obtain ⟨e, e1, e2⟩ := v_t h (by omega)
  have hk := h.2.2.2 k rfl
  have hp : k + 1 ≤ H := by
    refine pig H (k + 1) (fun i => (upd f k (f k + 1) i).toInt) (fun i hi => ?_) (fun i j hij hj => ?_)
    · by_cases c : i = k
      · subst c; rw [upd_self]; omega
      · rw [upd_ne _ _ c]; exact h.2.1 i (by omega)
    · rw [upd_ne _ _ (show i ≠ k by omega), ← i32ne]
      by_cases c : j = k
      · subst c; rw [upd_self]; exact hn i hij
      · rw [upd_ne _ _ c]; exact h.2.2.1 i j hij (by omega)
  refine ⟨hp, ⟨by omega, fun i hi => ?_, fun a b hab hb => ?_, fun k' hk' => ?_⟩, ?_⟩
  · rw [upd_ne _ _ (by omega)]
    by_cases c : i = k
    · subst c; rw [upd_self]; omega
    · rw [upd_ne _ _ c]; exact h.2.1 i (by omega)
  · rw [upd_ne (upd f k (f k + 1)) _ (show a ≠ k + 1 by omega), upd_ne (upd f k (f k + 1)) _ (show b ≠ k + 1 by omega), upd_ne f _ (show a ≠ k by omega)]
    by_cases c : b = k
    · subst c; rw [upd_self]; exact hn a hab
    · rw [upd_ne _ _ c]; exact h.2.2.1 a b hab (by omega)
  · obtain rfl : k' = k + 1 := by omega
    rw [upd_self]
    have : (-1 : Int32).toInt = -1 := by decide
    omega
  · have a1 := lx_inc (t := tI f) (t' := tI (upd f k (f k + 1))) (C := H + 1) (B := H + 2) (E := 8) (k := k) (fun i hi => tI_up _ i (by omega)) e1 e2
    have a2 := lx_push (t := tI (upd f k (f k + 1))) (t' := tI (upd (upd f k (f k + 1)) (k + 1) (-1))) (C := H + 1) (B := H + 2) (E := 8) (k := k) (fun i hi => tI_up _ i (by omega)) (by omega) (by omega)
    unfold vm
    omega
end VIS
section REF16
variable {S : hS} {o : Nat} {ad : Nat → Nat} {M : mS} {mT : mS}
theorem s_isNew (hd : mD o ad) {q : Int32 → hS → Prop} {k : Nat} (hk : k < 7) (h1 : (∀ i, i < k → M.2.2.1 41 i ≠ M.2.2.1 41 k) → q 1 (ov S o ad M)) (h0 : q 0 (ov S o ad M)) : w_X12_isNew q (ov S o ad M) o (nI k) := by
  refine loop_m (σ := Int32 × Nat) (fun n s => w_X12_isNew_b4 q n (ov S o ad M) o (nI k) s.1 (nI s.2)) (fun s => (s.1 = 0 ∨ (s.1 = 1 ∧ ∀ i, i < s.2 → M.2.2.1 41 i ≠ M.2.2.1 41 k)) ∧ s.2 ≤ k) (fun s => k - s.2) ?_ (1, 0) ⟨Or.inr ⟨rfl, fun i hi => absurd hi (by simp)⟩, Nat.zero_le _⟩
  rintro n ⟨x, i⟩ ⟨hx, hi⟩ ih
  dsimp only at hx hi ih ⊢
  rw [w_X12_isNew_b4]
  simp (disch := decide) only [oi_gI, oi_gJ, oi_gP, oi_pI, oi_pZ, oi_pJ, oi_oK, oi_aI hd, oi_aZ hd, oi_aJ hd, oi_sI hd, oi_sZ hd, oi_sJ hd, mI_1, mI_2, mJ_1, mJ_2, mJ_3, mA_1, mA_2, mA_3, mA_4, mL_1, mL_2, mL_3, mL_4, mK, Nat.reduceEqDiff, if_true, if_false, ite_true, ite_false, true_and, Nat.reduceLT, reduceIte, reduceCtorEq, cl_0, cl_1, cl_2, cl_3, cl_4, cl_5, cl_6, cl_7, cl_8, cl_9, cl_10, cl_11, cl_12, cl_13, cl_14, cl_15, vl_0_5585, vl_1_5585, vl_2_5585, vl_3_5585, vl_4_5585, vl_5_5585, vl_6_5585, vl_0_7, vl_1_7, vl_2_7, vl_3_7, vl_4_7, vl_5_7, vl_6_7]
  rw [nI_leI (by omega) (by omega), nI_clamp (by omega), nI_clamp (by omega)]
  have k33 : ∀ y : Int32, (y = 0 ∨ (y = 1 ∧ ∀ i', i' < i + 1 → M.2.2.1 41 i' ≠ M.2.2.1 41 k)) → i < k → w_X12_isNew_b33 q (fun S v0 v1 v2 v3 => w_X12_isNew_b4 q n S v0 v1 v2 v3) (ov S o ad M) o (nI k) (nI i) y := by
    intro y hy hik z ez
    rw [ez, nI_1]
    exact ih (y, i + 1) ⟨hy, by dsimp only; omega⟩ (by dsimp only; omega)
  refine ⟨fun c => ?_, fun c => ⟨fun _ => k33 0 (Or.inl rfl) (by omega), fun c0 => ⟨vp_in_nI (by omega) (by omega), vp_in_nI (by omega) (by omega), fun _ => k33 0 (Or.inl rfl) (by omega), fun ne => k33 1 (Or.inr ⟨rfl, fun i' hi' => ?_⟩) (by omega)⟩⟩⟩
  · rcases hx with rfl | ⟨rfl, hx⟩
    · exact ⟨by simp, h0⟩
    · exact ⟨by simp, h1 (fun i hi => hx i (by omega))⟩
  · rcases hx with rfl | ⟨rfl, hx⟩
    · exact absurd rfl c0
    · by_cases e : i' = i
      · subst e; exact ne
      · exact hx i' (by omega)
theorem s_findVisits (hd : mD o ad) (hM : mOk mT M) {q : hS → Prop} {p : Nat} {m : Int32} (hp : p < 8) (h : ∀ N, Fx [44] [] [41, 42, 43] [] M N → rg (N.1 44) 0 6 → q (ov S o ad N)) : w_X12_findVisits q (ov S o ad M) o (nI p) m := by
  obtain ⟨H, hH, eH⟩ := rg_inR (b := 6) hM.1.1 (by omega) (by omega)
  unfold w_X12_findVisits
  simp (disch := decide) only [oi_gI, oi_gJ, oi_gP, oi_pI, oi_pZ, oi_pJ, oi_oK, oi_aI hd, oi_aZ hd, oi_aJ hd, oi_sI hd, oi_sZ hd, oi_sJ hd, mI_1, mI_2, mJ_1, mJ_2, mJ_3, mA_1, mA_2, mA_3, mA_4, mL_1, mL_2, mL_3, mL_4, mK, Nat.reduceEqDiff, if_true, if_false, ite_true, ite_false, true_and, Nat.reduceLT, reduceIte, reduceCtorEq, cl_0, cl_1, cl_2, cl_3, cl_4, cl_5, cl_6, cl_7, cl_8, cl_9, cl_10, cl_11, cl_12, cl_13, cl_14, cl_15, vl_0_5585, vl_1_5585, vl_2_5585, vl_3_5585, vl_4_5585, vl_5_5585, vl_6_5585, vl_0_7, vl_1_7, vl_2_7, vl_3_7, vl_4_7, vl_5_7, vl_6_7]
  have e01 : nI 1 - 1 = 0 := by decide
  suffices key : ∃ n, w_X12_findVisits_b24 q n (ov S o ad (mA (mA (mI M 44 0) 41 (upd (M.2.2.1 41) 0 (-1))) 42 (upd (M.2.2.1 42) 0 0))) o (nI p) m 0 (nI 1 - 1) by
    rw [e01] at key
    exact key
  refine loop_m (σ := mS × Int32 × Nat) (fun n s => w_X12_findVisits_b24 q n (ov S o ad s.1) o (nI p) m s.2.1 (nI s.2.2 - 1)) (fun s => Fx [44] [] [41, 42, 43] [] M s.1 ∧ rg (s.1.1 44) 0 6 ∧ vI (s.1.2.2.1 41) H s.2.2) (fun s => vm (s.1.2.2.1 41) H s.2.2) ?_ (mA (mA (mI M 44 0) 41 (upd (M.2.2.1 41) 0 (-1))) 42 (upd (M.2.2.1 42) 0 0), 0, 1) ⟨(((Fx.i 44 0).tr (Fx.a 41 _)).tr (Fx.a 42 _)).le (by simp) (by simp) (by simp) (by simp), (show rg 0 0 6 from ⟨by decide, by decide⟩), by dsimp only; omega, fun i hi => absurd hi (by dsimp only; omega), fun a b _ hb => absurd hb (by dsimp only; omega), fun k hk => ?_⟩
  rotate_left
  · obtain rfl : k = 0 := by dsimp only at hk; omega
    show -1 ≤ (upd (M.2.2.1 41) 0 (-1) 0).toInt ∧ (upd (M.2.2.1 41) 0 (-1) 0).toInt < (H : Int)
    rw [upd_self]
    have : (-1 : Int32).toInt = -1 := by decide
    omega
  rintro n ⟨N, fw, j⟩ ⟨hF, h44, hv⟩ ih
  dsimp only at hF h44 hv ih ⊢
  have er : N.2.2.1 3 = M.2.2.1 3 := hF.2.2.1 3 (by simp)
  rw [w_X12_findVisits_b24]
  cases j with
  | zero => exact ⟨fun _ => h N hF h44, fun c => absurd (by decide) c⟩
  | succ k =>
    have hj := hv.1
    have hkv := hv.2.2.2 k rfl
    obtain ⟨e1, -, -⟩ := v_t hv (by omega)
    rw [nI_pm1]
    refine ⟨fun z => absurd z (nI_ltz (by omega)), fun _ => ?_⟩
    simp (disch := decide) only [oi_gI, oi_gJ, oi_gP, oi_pI, oi_pZ, oi_pJ, oi_oK, oi_aI hd, oi_aZ hd, oi_aJ hd, oi_sI hd, oi_sZ hd, oi_sJ hd, mI_1, mI_2, mJ_1, mJ_2, mJ_3, mA_1, mA_2, mA_3, mA_4, mL_1, mL_2, mL_3, mL_4, mK, Nat.reduceEqDiff, if_true, if_false, ite_true, ite_false, true_and, Nat.reduceLT, reduceIte, reduceCtorEq, cl_0, cl_1, cl_2, cl_3, cl_4, cl_5, cl_6, cl_7, cl_8, cl_9, cl_10, cl_11, cl_12, cl_13, cl_14, cl_15, vl_0_5585, vl_1_5585, vl_2_5585, vl_3_5585, vl_4_5585, vl_5_5585, vl_6_5585, vl_0_7, vl_1_7, vl_2_7, vl_3_7, vl_4_7, vl_5_7, vl_6_7]
    rw [nI_clamp (by omega), upd_self, er, eH, i32lt, e1, nI_toInt (by omega)]
    refine ⟨vp_in_nI (by omega) (by omega), vp_in_nI (by omega) (by omega), vp_in_nI (by omega) (by omega), fun c => ?_, fun c y ey => ?_⟩
    rotate_left
    · obtain ⟨w1, w2⟩ := v_pop hv (by omega) (by omega)
      rw [ey, nI_am1]
      exact ih (_, fw, k) ⟨(hF.tr (Fx.a 41 _)).le (by simp) (by simp) (by simp) (by simp), h44, w1⟩ w2
    obtain ⟨e, he, ee⟩ := rg_inR (x := N.2.2.1 41 k + 1) (a := 0) (b := 5) ⟨by omega, by omega⟩ (by omega) (by omega)
    obtain ⟨w1, w2⟩ := v_stay hv (by omega) (by omega)
    have hF1 : Fx [44] [] [41, 42, 43] [] M (mA N 41 (upd (N.2.2.1 41) k (N.2.2.1 41 k + 1))) := (hF.tr (Fx.a 41 _)).le (by simp) (by simp) (by simp) (by simp)
    have hst : ∀ fw, w_X12_findVisits_b24 q n (ov S o ad (mA N 41 (upd (N.2.2.1 41) k (N.2.2.1 41 k + 1)))) o (nI p) m fw (nI k) := by
      intro fw
      have := ih (mA N 41 (upd (N.2.2.1 41) k (N.2.2.1 41 k + 1)), fw, k + 1) ⟨hF1, h44, w1⟩ w2
      dsimp only at this
      rw [nI_pm1] at this
      exact this
    refine s_isNew hd (by omega) (fun hnew => ⟨fun z => absurd z (by decide), fun _ => ?_⟩) ⟨fun _ => hst fw, fun z => absurd rfl z⟩
    simp (disch := decide) only [oi_gI, oi_gJ, oi_gP, oi_pI, oi_pZ, oi_pJ, oi_oK, oi_aI hd, oi_aZ hd, oi_aJ hd, oi_sI hd, oi_sZ hd, oi_sJ hd, mI_1, mI_2, mJ_1, mJ_2, mJ_3, mA_1, mA_2, mA_3, mA_4, mL_1, mL_2, mL_3, mL_4, mK, Nat.reduceEqDiff, if_true, if_false, ite_true, ite_false, true_and, Nat.reduceLT, reduceIte, reduceCtorEq, cl_0, cl_1, cl_2, cl_3, cl_4, cl_5, cl_6, cl_7, cl_8, cl_9, cl_10, cl_11, cl_12, cl_13, cl_14, cl_15, vl_0_5585, vl_1_5585, vl_2_5585, vl_3_5585, vl_4_5585, vl_5_5585, vl_6_5585, vl_0_7, vl_1_7, vl_2_7, vl_3_7, vl_4_7, vl_5_7, vl_6_7] at hnew ⊢
    rw [nI_clamp (by omega), upd_self, ee]
    have hnew' : ∀ i, i < k → N.2.2.1 41 i ≠ N.2.2.1 41 k + 1 := by
      intro i hi
      have := hnew i hi
      rw [upd_self, upd_ne _ _ (by omega)] at this
      exact this
    obtain ⟨p1, p2, p3⟩ := v_push hv (by omega) (by omega) hnew'
    have k228 : ∀ N' fw v6, Fx [44] [] [43] [] (mA N 41 (upd (N.2.2.1 41) k (N.2.2.1 41 k + 1))) N' → rg (N'.1 44) 0 6 → w_X12_findVisits_b228 q (fun S v0 v1 v2 v3 v4 => w_X12_findVisits_b24 q n S v0 v1 v2 v3 v4) (ov S o ad N') o (nI p) m fw (nI k) v6 := by
      intro N' fw v6 hF' h44'
      unfold w_X12_findVisits_b228 w_X12_findVisits_b248
      intro y ey
      rw [nI_1] at ey
      subst ey
      simp (disch := decide) only [oi_gI, oi_gJ, oi_gP, oi_pI, oi_pZ, oi_pJ, oi_oK, oi_aI hd, oi_aZ hd, oi_aJ hd, oi_sI hd, oi_sZ hd, oi_sJ hd, mI_1, mI_2, mJ_1, mJ_2, mJ_3, mA_1, mA_2, mA_3, mA_4, mL_1, mL_2, mL_3, mL_4, mK, Nat.reduceEqDiff, if_true, if_false, ite_true, ite_false, true_and, Nat.reduceLT, reduceIte, reduceCtorEq, cl_0, cl_1, cl_2, cl_3, cl_4, cl_5, cl_6, cl_7, cl_8, cl_9, cl_10, cl_11, cl_12, cl_13, cl_14, cl_15, vl_0_5585, vl_1_5585, vl_2_5585, vl_3_5585, vl_4_5585, vl_5_5585, vl_6_5585, vl_0_7, vl_1_7, vl_2_7, vl_3_7, vl_4_7, vl_5_7, vl_6_7]
      rw [nI_clamp (by omega)]
      refine ⟨vp_in_nI (by omega) (by omega), vp_in_nI (by omega) (by omega), ?_⟩
      have e41 : N'.2.2.1 41 = upd (N.2.2.1 41) k (N.2.2.1 41 k + 1) := hF'.2.2.1 41 (by simp)
      have := ih (mA (mA N' 42 (upd (N'.2.2.1 42) (k + 1) v6)) 41 (upd (N'.2.2.1 41) (k + 1) (-1)), fw, k + 2) ⟨(((hF1.tr hF').tr (Fx.a 42 _)).tr (Fx.a 41 _)).le (by simp) (by simp) (by simp) (by simp), h44', ?_⟩ ?_
      · dsimp only at this
        rw [nI_pm1] at this
        exact this
      · dsimp only
        simp (disch := decide) only [oi_gI, oi_gJ, oi_gP, oi_pI, oi_pZ, oi_pJ, oi_oK, oi_aI hd, oi_aZ hd, oi_aJ hd, oi_sI hd, oi_sZ hd, oi_sJ hd, mI_1, mI_2, mJ_1, mJ_2, mJ_3, mA_1, mA_2, mA_3, mA_4, mL_1, mL_2, mL_3, mL_4, mK, Nat.reduceEqDiff, if_true, if_false, ite_true, ite_false, true_and, Nat.reduceLT, reduceIte, reduceCtorEq, cl_0, cl_1, cl_2, cl_3, cl_4, cl_5, cl_6, cl_7, cl_8, cl_9, cl_10, cl_11, cl_12, cl_13, cl_14, cl_15, vl_0_5585, vl_1_5585, vl_2_5585, vl_3_5585, vl_4_5585, vl_5_5585, vl_6_5585, vl_0_7, vl_1_7, vl_2_7, vl_3_7, vl_4_7, vl_5_7, vl_6_7]
        rw [e41]; exact p2
      · dsimp only
        simp (disch := decide) only [oi_gI, oi_gJ, oi_gP, oi_pI, oi_pZ, oi_pJ, oi_oK, oi_aI hd, oi_aZ hd, oi_aJ hd, oi_sI hd, oi_sZ hd, oi_sJ hd, mI_1, mI_2, mJ_1, mJ_2, mJ_3, mA_1, mA_2, mA_3, mA_4, mL_1, mL_2, mL_3, mL_4, mK, Nat.reduceEqDiff, if_true, if_false, ite_true, ite_false, true_and, Nat.reduceLT, reduceIte, reduceCtorEq, cl_0, cl_1, cl_2, cl_3, cl_4, cl_5, cl_6, cl_7, cl_8, cl_9, cl_10, cl_11, cl_12, cl_13, cl_14, cl_15, vl_0_5585, vl_1_5585, vl_2_5585, vl_3_5585, vl_4_5585, vl_5_5585, vl_6_5585, vl_0_7, vl_1_7, vl_2_7, vl_3_7, vl_4_7, vl_5_7, vl_6_7]
        rw [e41]; exact p3
    have k187 : ∀ v6, w_X12_findVisits_b187 q (fun S v0 v1 v2 v3 v4 => w_X12_findVisits_b24 q n S v0 v1 v2 v3 v4) (ov S o ad (mA N 41 (upd (N.2.2.1 41) k (N.2.2.1 41 k + 1)))) o (nI p) m (nI k) v6 := by
      intro v6
      unfold w_X12_findVisits_b187
      simp (disch := decide) only [oi_gI, oi_gJ, oi_gP, oi_pI, oi_pZ, oi_pJ, oi_oK, oi_aI hd, oi_aZ hd, oi_aJ hd, oi_sI hd, oi_sZ hd, oi_sJ hd, mI_1, mI_2, mJ_1, mJ_2, mJ_3, mA_1, mA_2, mA_3, mA_4, mL_1, mL_2, mL_3, mL_4, mK, Nat.reduceEqDiff, if_true, if_false, ite_true, ite_false, true_and, Nat.reduceLT, reduceIte, reduceCtorEq, cl_0, cl_1, cl_2, cl_3, cl_4, cl_5, cl_6, cl_7, cl_8, cl_9, cl_10, cl_11, cl_12, cl_13, cl_14, cl_15, vl_0_5585, vl_1_5585, vl_2_5585, vl_3_5585, vl_4_5585, vl_5_5585, vl_6_5585, vl_0_7, vl_1_7, vl_2_7, vl_3_7, vl_4_7, vl_5_7, vl_6_7]
      rw [nI_1]
      refine loop_m (σ := mS × Nat) (fun n' s => w_X12_findVisits_b201 q (fun S v0 v1 v2 v3 v4 => w_X12_findVisits_b24 q n S v0 v1 v2 v3 v4) n' (ov S o ad s.1) o (nI p) m v6 (nI k) v6 (nI s.2)) (fun s => Fx [44] [] [43] [] (mA N 41 (upd (N.2.2.1 41) k (N.2.2.1 41 k + 1))) s.1 ∧ rg (s.1.1 44) 0 6 ∧ s.2 ≤ k + 1) (fun s => k + 1 - s.2) ?_ (_, 0) ⟨(Fx.i 44 (nI (k + 1))).le (by simp) (by simp) (by simp) (by simp), rg_n (b := 6) (by omega) (by omega), Nat.zero_le _⟩
      rintro n' ⟨N', i⟩ ⟨hF', h44', hi⟩ ih'
      dsimp only at hF' h44' hi ih' ⊢
      rw [w_X12_findVisits_b201]
      simp (disch := decide) only [oi_gI, oi_gJ, oi_gP, oi_pI, oi_pZ, oi_pJ, oi_oK, oi_aI hd, oi_aZ hd, oi_aJ hd, oi_sI hd, oi_sZ hd, oi_sJ hd, mI_1, mI_2, mJ_1, mJ_2, mJ_3, mA_1, mA_2, mA_3, mA_4, mL_1, mL_2, mL_3, mL_4, mK, Nat.reduceEqDiff, if_true, if_false, ite_true, ite_false, true_and, Nat.reduceLT, reduceIte, reduceCtorEq, cl_0, cl_1, cl_2, cl_3, cl_4, cl_5, cl_6, cl_7, cl_8, cl_9, cl_10, cl_11, cl_12, cl_13, cl_14, cl_15, vl_0_5585, vl_1_5585, vl_2_5585, vl_3_5585, vl_4_5585, vl_5_5585, vl_6_5585, vl_0_7, vl_1_7, vl_2_7, vl_3_7, vl_4_7, vl_5_7, vl_6_7]
      rw [nI_ltI (by omega) (by omega)]
      refine ⟨fun _ => k228 _ _ _ hF' h44', fun c => ⟨vp_in_nI (by omega) (by omega), vp_in_nI (by omega) (by omega), fun y ey => ?_⟩⟩
      rw [ey, nI_1]
      exact ih' (_, i + 1) ⟨(hF'.tr (Fx.a 43 _)).le (by simp) (by simp) (by simp) (by simp), h44', by dsimp only; omega⟩ (by dsimp only; omega)
    have k121 : ∀ t0, w_X12_findVisits_b121 q (fun S v0 v1 v2 v3 v4 => w_X12_findVisits_b24 q n S v0 v1 v2 v3 v4) (ov S o ad (mA N 41 (upd (N.2.2.1 41) k (N.2.2.1 41 k + 1)))) o (nI p) m fw (nI k) t0 := by
      intro t0
      unfold w_X12_findVisits_b121 w_X12_findVisits_b248
      simp (disch := decide) only [oi_gI, oi_gJ, oi_gP, oi_pI, oi_pZ, oi_pJ, oi_oK, oi_aI hd, oi_aZ hd, oi_aJ hd, oi_sI hd, oi_sZ hd, oi_sJ hd, mI_1, mI_2, mJ_1, mJ_2, mJ_3, mA_1, mA_2, mA_3, mA_4, mL_1, mL_2, mL_3, mL_4, mK, Nat.reduceEqDiff, if_true, if_false, ite_true, ite_false, true_and, Nat.reduceLT, reduceIte, reduceCtorEq, cl_0, cl_1, cl_2, cl_3, cl_4, cl_5, cl_6, cl_7, cl_8, cl_9, cl_10, cl_11, cl_12, cl_13, cl_14, cl_15, vl_0_5585, vl_1_5585, vl_2_5585, vl_3_5585, vl_4_5585, vl_5_5585, vl_6_5585, vl_0_7, vl_1_7, vl_2_7, vl_3_7, vl_4_7, vl_5_7, vl_6_7]
      rw [nI_clamp (by omega), upd_self, ee, lit_nI 126, nIadd]
      refine ⟨vp_in_nI (by omega) (by omega), vp_in_nI (by omega) (by omega), vp_in_nI (by omega) (by omega), s_stepsOf (fun r y _ => ⟨fun _ => (by have := hst fw; rw [ee] at this; exact this), fun _ => ?_⟩)⟩
      simp (disch := decide) only [oi_gI, oi_gJ, oi_gP, oi_pI, oi_pZ, oi_pJ, oi_oK, oi_aI hd, oi_aZ hd, oi_aJ hd, oi_sI hd, oi_sZ hd, oi_sJ hd, mI_1, mI_2, mJ_1, mJ_2, mJ_3, mA_1, mA_2, mA_3, mA_4, mL_1, mL_2, mL_3, mL_4, mK, Nat.reduceEqDiff, if_true, if_false, ite_true, ite_false, true_and, Nat.reduceLT, reduceIte, reduceCtorEq, cl_0, cl_1, cl_2, cl_3, cl_4, cl_5, cl_6, cl_7, cl_8, cl_9, cl_10, cl_11, cl_12, cl_13, cl_14, cl_15, vl_0_5585, vl_1_5585, vl_2_5585, vl_3_5585, vl_4_5585, vl_5_5585, vl_6_5585, vl_0_7, vl_1_7, vl_2_7, vl_3_7, vl_4_7, vl_5_7, vl_6_7]
      have := k228 _ fw y Fx.rf' h44
      refine ⟨fun _ => ?_, fun _ => ⟨fun _ => ?_, fun _ => ⟨fun _ => ?_, fun _ => ?_⟩⟩⟩
      · have := k187 y; rw [ee] at this; exact this
      · rw [ee] at this; exact this
      · rw [ee] at this; exact this
      · have := k187 y; rw [ee] at this; exact this
    have hst' := hst fw
    rw [ee] at hst' k121
    refine ⟨vp_in_nI (by omega) (by omega), s_leftOf hd hp (by omega) ⟨fun _ => hst', fun _ => ⟨fun ck => ?_, fun _ => ?_⟩⟩⟩
    · have hk1 : 1 ≤ k := by
        rcases Nat.eq_zero_or_pos k with rfl | c
        · exact absurd rfl ck
        · exact c
      simp (disch := decide) only [oi_gI, oi_gJ, oi_gP, oi_pI, oi_pZ, oi_pJ, oi_oK, oi_aI hd, oi_aZ hd, oi_aJ hd, oi_sI hd, oi_sZ hd, oi_sJ hd, mI_1, mI_2, mJ_1, mJ_2, mJ_3, mA_1, mA_2, mA_3, mA_4, mL_1, mL_2, mL_3, mL_4, mK, Nat.reduceEqDiff, if_true, if_false, ite_true, ite_false, true_and, Nat.reduceLT, reduceIte, reduceCtorEq, cl_0, cl_1, cl_2, cl_3, cl_4, cl_5, cl_6, cl_7, cl_8, cl_9, cl_10, cl_11, cl_12, cl_13, cl_14, cl_15, vl_0_5585, vl_1_5585, vl_2_5585, vl_3_5585, vl_4_5585, vl_5_5585, vl_6_5585, vl_0_7, vl_1_7, vl_2_7, vl_3_7, vl_4_7, vl_5_7, vl_6_7]
      rw [nI_s1 hk1, nI_clamp (by omega), upd_ne _ _ (by omega), lit_nI 126]
      obtain ⟨e', he', ee'⟩ := rg_inR (x := N.2.2.1 41 (k - 1)) (a := 0) (b := 5) ⟨(hv.2.1 (k - 1) (by omega)).1, by have := (hv.2.1 (k - 1) (by omega)).2; omega⟩ (by omega) (by omega)
      rw [ee', nIadd]
      exact ⟨vp_in_nI (by omega) (by omega), vp_in_nI (by omega) (by omega), k121 _⟩
    · simp (disch := decide) only [oi_gI, oi_gJ, oi_gP, oi_pI, oi_pZ, oi_pJ, oi_oK, oi_aI hd, oi_aZ hd, oi_aJ hd, oi_sI hd, oi_sZ hd, oi_sJ hd, mI_1, mI_2, mJ_1, mJ_2, mJ_3, mA_1, mA_2, mA_3, mA_4, mL_1, mL_2, mL_3, mL_4, mK, Nat.reduceEqDiff, if_true, if_false, ite_true, ite_false, true_and, Nat.reduceLT, reduceIte, reduceCtorEq, cl_0, cl_1, cl_2, cl_3, cl_4, cl_5, cl_6, cl_7, cl_8, cl_9, cl_10, cl_11, cl_12, cl_13, cl_14, cl_15, vl_0_5585, vl_1_5585, vl_2_5585, vl_3_5585, vl_4_5585, vl_5_5585, vl_6_5585, vl_0_7, vl_1_7, vl_2_7, vl_3_7, vl_4_7, vl_5_7, vl_6_7]
      rw [lit_nI 138, nIadd]
      exact ⟨vp_in_nI (by omega) (by omega), k121 _⟩
theorem p_visits (hd : mD o ad) (hM : mOk mT M) {q : Int32 → hS → Prop} {a b c : Int32} (h : ∀ r N, mOk mT N → q r (ov S o ad N)) : w_X12_visits q (ov S o ad M) o a b c := by
  have hM0 : mOk mT (mI M 0 0) := mOk_i hM (by omega)
  unfold w_X12_visits
  simp (disch := decide) only [oi_gI, oi_gJ, oi_gP, oi_pI, oi_pZ, oi_pJ, oi_oK, oi_aI hd, oi_aZ hd, oi_aJ hd, oi_sI hd, oi_sZ hd, oi_sJ hd, mI_1, mI_2, mJ_1, mJ_2, mJ_3, mA_1, mA_2, mA_3, mA_4, mL_1, mL_2, mL_3, mL_4, mK, Nat.reduceEqDiff, if_true, if_false, ite_true, ite_false, true_and, Nat.reduceLT, reduceIte, reduceCtorEq, cl_0, cl_1, cl_2, cl_3, cl_4, cl_5, cl_6, cl_7, cl_8, cl_9, cl_10, cl_11, cl_12, cl_13, cl_14, cl_15, vl_0_5585, vl_1_5585, vl_2_5585, vl_3_5585, vl_4_5585, vl_5_5585, vl_6_5585, vl_0_7, vl_1_7, vl_2_7, vl_3_7, vl_4_7, vl_5_7, vl_6_7]
  refine s_isPerson hd (fun h1 h2 => ⟨fun z => absurd z (by decide), fun _ => ⟨ov_oK, ?_⟩⟩) (fun _ => ⟨fun _ => h _ _ hM0, fun z => absurd rfl z⟩)
  have b2 := hM0.1.2.1.2
  obtain ⟨p, hp, rfl⟩ := rg_in 8 (by omega) h1 (by omega)
  have key : w_X12_findVisits (fun S => (¬ c = (-1) → gI S o 12 44 (fun x60 => (x60 ≤ c → q (-1) S) ∧ (¬ x60 ≤ c → gP S o 12 43 (fun x67 => aI S x67 c (fun x71 => q x71 S))))) ∧ (c = (-1) → gI S o 12 44 (fun x52 => q x52 S))) (ov S o ad (mI M 0 0)) o (nI p) b ∨ ¬ (-1) ≤ c := by
    by_cases hc : (-1) ≤ c
    · left
      refine s_findVisits hd hM0 hp (fun N hF h44 => ?_)
      have hN : mOk mT N := mOk_fx hF hM0 (by simp)
      simp (disch := decide) only [oi_gI, oi_gJ, oi_gP, oi_pI, oi_pZ, oi_pJ, oi_oK, oi_aI hd, oi_aZ hd, oi_aJ hd, oi_sI hd, oi_sZ hd, oi_sJ hd, mI_1, mI_2, mJ_1, mJ_2, mJ_3, mA_1, mA_2, mA_3, mA_4, mL_1, mL_2, mL_3, mL_4, mK, Nat.reduceEqDiff, if_true, if_false, ite_true, ite_false, true_and, Nat.reduceLT, reduceIte, reduceCtorEq, cl_0, cl_1, cl_2, cl_3, cl_4, cl_5, cl_6, cl_7, cl_8, cl_9, cl_10, cl_11, cl_12, cl_13, cl_14, cl_15, vl_0_5585, vl_1_5585, vl_2_5585, vl_3_5585, vl_4_5585, vl_5_5585, vl_6_5585, vl_0_7, vl_1_7, vl_2_7, vl_3_7, vl_4_7, vl_5_7, vl_6_7]
      refine ⟨fun cn => ⟨fun _ => h _ _ hN, fun cl => ⟨?_, h _ _ hN⟩⟩, fun _ => h _ _ hN⟩
      have : (-1 : Int32).toInt = -1 := by decide
      rw [i32ge] at hc cl
      have cn' : c.toInt ≠ -1 := fun z => cn (Int32.toInt_inj.mp z)
      have := h44.2
      obtain ⟨j, hj, rfl⟩ := rg_in (z := c) 6 (by omega) (by omega) (by omega)
      exact vp_in_nI hj (by omega)
    · exact Or.inr hc
  have fin : ((-1) ≤ c → oK (ov S o ad (mI M 0 0)) o 12 ∧ w_X12_findVisits (fun S => (¬ c = (-1) → gI S o 12 44 (fun x60 => (x60 ≤ c → q (-1) S) ∧ (¬ x60 ≤ c → gP S o 12 43 (fun x67 => aI S x67 c (fun x71 => q x71 S))))) ∧ (c = (-1) → gI S o 12 44 (fun x52 => q x52 S))) (ov S o ad (mI M 0 0)) o (nI p) b) ∧ (¬ (-1) ≤ c → q (-1) (ov S o ad (mI M 0 0))) :=
    ⟨fun z => ⟨ov_oK, key.resolve_right (fun y => y z)⟩, fun _ => h _ _ hM0⟩
  exact s_lives hd hp (fun _ => ⟨fun _ => h _ _ hM0, fun _ => s_in01 ⟨fun _ => h _ _ hM0, fun _ => fin⟩ ⟨fun _ => h _ _ hM0, fun _ => fin⟩⟩) (fun _ => ⟨fun _ => h _ _ hM0, fun _ => s_in01 ⟨fun _ => h _ _ hM0, fun _ => fin⟩ ⟨fun _ => h _ _ hM0, fun _ => fin⟩⟩)
end REF16
