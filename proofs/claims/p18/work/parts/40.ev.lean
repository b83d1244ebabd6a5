/-! LAYER 2, the reference: sums and tests -/
theorem lgc0 (a b : Int64) : lg_cmp a b = 0 ↔ a = b := by
  constructor
  · intro h
    have h1 : lg_cmp a b ≤ 0 := by rw [h]; exact Int32.le_refl _
    have h2 : 0 ≤ lg_cmp a b := by rw [h]; exact Int32.le_refl _
    rw [lg_cmp_le] at h1
    rw [lg_cmp_ge] at h2
    exact Int64.le_antisymm h1 h2
  · rintro rfl
    have h1 : lg_cmp a a ≤ 0 := (lg_cmp_le a a).mpr (Int64.le_refl _)
    have h2 : 0 ≤ lg_cmp a a := (lg_cmp_ge a a).mpr (Int64.le_refl _)
    exact Int32.le_antisymm h1 h2
def rkV (op : Int32) (a b : Int64) : Int64 := if op.toInt = 20 then a + b else if op.toInt = 21 then a - b else if op.toInt = 22 then a * b else if op.toInt = 23 then (if b = 0 then 0 else a / b) else if op.toInt = 24 then (if b = 0 then 0 else a - a / b * b) else if op.toInt = 25 then (if b ≤ a then 0 else 1) else if op.toInt = 26 then (if a ≤ b then 0 else 1) else if a = b then 1 else 0
def rkB (op : Int32) (b : Int64) : Int32 := if (op.toInt = 23 ∨ op.toInt = 24) ∧ b = 0 then 1 else 0
def evStep (op arg : Int32) (set : Nat → Int64) (n k : Nat) (r : Nat → Int64) : Nat × Nat × Int32 × (Nat → Int64) :=
  if op.toInt < 20 then (n + 1, k + 1, 0, vp_updL r n (if op = 0 then arg.toInt64 else set op.toNatClampNeg))
  else if op.toInt < 28 then (n - 1, k + 1, (if rkB op (r (n - 1)) = 0 ∧ -1000000000 ≤ (rkV op (r (n - 2)) (r (n - 1))).toInt ∧ (rkV op (r (n - 2)) (r (n - 1))).toInt ≤ 1000000000 then 0 else 1), vp_updL r (n - 2) (rkV op (r (n - 2)) (r (n - 1))))
  else if op = 28 then (n, k + 1, 0, vp_updL r (n - 1) (1 - r (n - 1)))
  else if r (n - 1) = (if op = 29 then 0 else 1) then (n, arg.toNatClampNeg, 0, r)
  else (n - 1, k + 1, 0, r)
def evRun (op arg : Nat → Int32) (set : Nat → Int64) (hi : Nat) : Nat → Nat × Nat × Int32 × (Nat → Int64) → Int64 × Int32
  | 0, _ => (0, 0)
  | f + 1, s => if hi ≤ s.2.1 ∨ ¬ s.2.2.1 = 0 then (if 0 < s.1 then s.2.2.2 0 else 0, s.2.2.1) else evRun op arg set hi f (evStep (op s.2.1) (arg s.2.1) set s.1 s.2.1 s.2.2.2)
theorem updL_self (f : Nat → Int64) (k : Nat) (x : Int64) : vp_updL f k x k = x := if_pos rfl
theorem updL_ne (f : Nat → Int64) {k j : Nat} (x : Int64) (h : j ≠ k) : vp_updL f k x j = f j := if_neg h
theorem i32ge {a b : Int32} : a ≤ b ↔ a.toInt ≤ b.toInt := Int32.le_iff_toInt_le
theorem i32lit (n : Nat) (h : n < 2 ^ 31) : (OfNat.ofNat n : Int32).toInt = n := by rw [lit_nI]; exact nI_toInt h
theorem nI_m1 {n : Nat} (h : 1 ≤ n) : nI n + (-1) = nI (n - 1) := by
  obtain ⟨m, rfl⟩ : ∃ m, n = m + 1 := ⟨n - 1, by omega⟩
  rw [← Int32.sub_eq_add_neg, nI_pred]; rfl
theorem nI_s1 {n : Nat} (h : 1 ≤ n) : nI n - 1 = nI (n - 1) := by
  obtain ⟨m, rfl⟩ : ∃ m, n = m + 1 := ⟨n - 1, by omega⟩
  rw [nI_pred]; rfl
section REF9
variable {S : hS} {o : Nat} {ad : Nat → Nat} {M : mS}
theorem Fx.rf' {a b c d : List Nat} : Fx a b c d M M := Fx.rf.le (by simp) (by simp) (by simp) (by simp)
theorem s_reckon (hd : mD o ad) (hb : M.1 38 = 0) {q : Int64 → hS → Prop} {op : Int32} {a b : Int64} (h : ∀ N, Fx [38] [] [] [] M N → N.1 38 = rkB op b → q (rkV op a b) (ov S o ad N)) : w_X12_reckon q (ov S o ad M) o op a b := by
  have h0 : ¬ (op.toInt = 23 ∨ op.toInt = 24) → q (rkV op a b) (ov S o ad M) := fun c => h M Fx.rf' (by rw [hb, rkB, if_neg (fun z => c z.1)])
  unfold w_X12_reckon w_X12_reckon_b72 w_X12_reckon_b104
  intro y e
  subst e
  simp (disch := decide) only [oi_gI, oi_gJ, oi_gP, oi_pI, oi_pZ, oi_pJ, oi_oK, oi_aI hd, oi_aZ hd, oi_aJ hd, oi_sI hd, oi_sZ hd, oi_sJ hd, mI_1, mI_2, mJ_1, mJ_2, mJ_3, mA_1, mA_2, mA_3, mA_4, mL_1, mL_2, mL_3, mL_4, mK, Nat.reduceEqDiff, if_true, if_false, ite_true, ite_false, true_and, Nat.reduceLT, reduceIte, reduceCtorEq, cl_0, cl_1, cl_2, cl_3, cl_4, cl_5, cl_6, cl_7, cl_8, cl_9, cl_10, cl_11, cl_12, cl_13, cl_14, cl_15, vl_0_5585, vl_1_5585, vl_2_5585, vl_3_5585, vl_4_5585, vl_5_5585, vl_6_5585, vl_0_7, vl_1_7, vl_2_7, vl_3_7, vl_4_7, vl_5_7, vl_6_7, lgc0]
  refine ⟨fun e => ?_, fun e => ?_, fun e => ?_, fun e => ⟨fun c => ⟨Or.inl trivial, fun _ => ⟨c, ?_⟩, fun z => absurd trivial z⟩, fun c => ⟨by simp, fun z => absurd z (by decide), fun _ => ?_⟩⟩, fun e => ⟨fun c => ⟨Or.inl trivial, fun _ => ⟨c, ?_⟩, fun z => absurd trivial z⟩, fun c => ⟨by simp, fun z => absurd z (by decide), fun _ => ?_⟩⟩, fun e => ⟨fun c => ?_, fun c => ?_⟩, fun e => ⟨fun c => ?_, fun c => ?_⟩, fun e => ⟨fun c => ?_, fun c => ?_⟩⟩
  · simpa [rkV, e] using h0 (by omega)
  · simpa [rkV, e] using h0 (by omega)
  · simpa [rkV, e] using h0 (by omega)
  · simpa [rkV, e, c] using h _ (Fx.i 38 0) (by simp [rkB, c, mI_1])
  · simpa [rkV, e, c] using h _ (Fx.i 38 1) (by simp [rkB, c, e, mI_1])
  · simpa [rkV, e, c] using h _ (Fx.i 38 0) (by simp [rkB, c, mI_1])
  · simpa [rkV, e, c] using h _ (Fx.i 38 1) (by simp [rkB, c, e, mI_1])
  · rw [lg_cmp_ge] at c
    simpa [rkV, e, c] using h0 (by omega)
  · rw [lg_cmp_ge] at c
    have := h0 (by omega)
    simp only [rkV, e, if_neg c] at this
    simpa using this
  · rw [lg_cmp_le] at c
    simpa [rkV, e, c] using h0 (by omega)
  · rw [lg_cmp_le] at c
    have := h0 (by omega)
    simp only [rkV, e, if_neg c] at this
    simpa using this
  · have := h0 (by omega)
    rw [rkV, if_neg (by omega), if_neg (by omega), if_neg (by omega), if_neg (by omega), if_neg (by omega), if_neg (by omega), if_neg (by omega), if_neg c] at this
    exact this
  · have := h0 (by omega)
    rw [rkV, if_neg (by omega), if_neg (by omega), if_neg (by omega), if_neg (by omega), if_neg (by omega), if_neg (by omega), if_neg (by omega), if_pos c] at this
    exact this
end REF9
