/-! the same reads and writes as equivalences, for simp -/
section OV2
variable {S : hS} {o : Nat} {ad : Nat → Nat} {M : mS}
theorem oi_gI (k : Nat) {P : Int32 → Prop} (hk : k < 61 ∧ (mK k).1 = 0) : gI (ov S o ad M) o 12 k P ↔ P (M.1 k) := by
  refine ⟨?_, ov_gI k hk⟩
  rintro ⟨fs, x, h1, h2, h3⟩
  rw [ov_o] at h1
  cases h1
  rw [mFs_get k hk.1, mF, hk.2] at h2
  cases h2
  exact h3
theorem oi_gJ (k : Nat) {P : Int64 → Prop} (hk : k < 61 ∧ (mK k).1 = 1) : gJ (ov S o ad M) o 12 k P ↔ P (M.2.1 k) := by
  refine ⟨?_, ov_gJ k hk⟩
  rintro ⟨fs, x, h1, h2, h3⟩
  rw [ov_o] at h1
  cases h1
  rw [mFs_get k hk.1, mF, hk.2] at h2
  cases h2
  exact h3
theorem oi_gP (k : Nat) {P : Nat → Prop} (hk : k < 61 ∧ 2 ≤ (mK k).1) : gP (ov S o ad M) o 12 k P ↔ P (ad k) := by
  refine ⟨?_, ov_gP k hk⟩
  rintro ⟨fs, x, h1, h2, h3⟩
  rw [ov_o] at h1
  cases h1
  have e : mF ad M k = .ref (ad k) := by
    unfold mF
    split
    · omega
    · omega
    · rfl
  rw [mFs_get k hk.1, e] at h2
  cases h2
  exact h3
theorem oi_pI (k : Nat) {x : Int32} {P : hS → Prop} (hk : k < 61 ∧ (mK k).1 = 0) : pI (ov S o ad M) o 12 k x P ↔ P (ov S o ad (mI M k x)) := by
  refine ⟨?_, ov_pI k hk⟩
  rintro ⟨fs, h1, -, h3⟩
  rw [ov_o] at h1
  cases h1
  rw [mFs_set (M' := mI M k x) hk.1 (by rw [mF, hk.2]; simp [mI]) (fun j hj => by unfold mF; simp [mI, hj]), ov_seto (fun k _ => by unfold mC; rfl)] at h3
  exact h3
theorem oi_pZ (k : Nat) {x : Int32} {P : hS → Prop} (hk : k < 61 ∧ (mK k).1 = 0) : pZ (ov S o ad M) o 12 k x P ↔ (x = 0 ∨ x = 1) ∧ P (ov S o ad (mI M k x)) := by
  rw [pZ, oi_pI k hk]
theorem oi_pJ (k : Nat) {x : Int64} {P : hS → Prop} (hk : k < 61 ∧ (mK k).1 = 1) : pJ (ov S o ad M) o 12 k x P ↔ P (ov S o ad (mJ M k x)) := by
  refine ⟨?_, ov_pJ k hk⟩
  rintro ⟨fs, h1, -, h3⟩
  rw [ov_o] at h1
  cases h1
  rw [mFs_set (M' := mJ M k x) hk.1 (by rw [mF, hk.2]; simp [mJ]) (fun j hj => by unfold mF; simp [mJ, hj]), ov_seto (fun k _ => by unfold mC; rfl)] at h3
  exact h3
theorem oi_oK : oK (ov S o ad M) o 12 ↔ True := iff_true_intro ov_oK
theorem oi_aI (hd : mD o ad) (k : Nat) {i : Int32} {P : Int32 → Prop} (hk : k ∈ mIx ∧ (mK k).1 = 2) : aI (ov S o ad M) (ad k) i P ↔ vp_in i (mK k).2 ∧ P (M.2.2.1 k i.toNatClampNeg) := by
  refine ⟨?_, fun h => ov_aI hd k hk h.1 h.2⟩
  rintro ⟨n, f, h1, h2, h3⟩
  rw [ov_a hd hk.1, mC, hk.2] at h1
  cases h1
  exact ⟨h2, h3⟩
theorem oi_aZ (hd : mD o ad) (k : Nat) {i : Int32} {P : Int32 → Prop} (hk : k ∈ mIx ∧ (mK k).1 = 4) : aZ (ov S o ad M) (ad k) i P ↔ vp_in i (mK k).2 ∧ P (M.2.2.1 k i.toNatClampNeg) := by
  refine ⟨?_, fun h => ov_aZ hd k hk h.1 h.2⟩
  rintro ⟨n, f, h1, h2, h3⟩
  rw [ov_a hd hk.1, mC, hk.2] at h1
  cases h1
  exact ⟨h2, h3⟩
theorem oi_aJ (hd : mD o ad) (k : Nat) {i : Int32} {P : Int64 → Prop} (hk : k ∈ mIx ∧ (mK k).1 = 3) : aJ (ov S o ad M) (ad k) i P ↔ vp_in i (mK k).2 ∧ P (M.2.2.2 k i.toNatClampNeg) := by
  refine ⟨?_, fun h => ov_aJ hd k hk h.1 h.2⟩
  rintro ⟨n, f, h1, h2, h3⟩
  rw [ov_a hd hk.1, mC, hk.2] at h1
  cases h1
  exact ⟨h2, h3⟩
theorem oi_sI (hd : mD o ad) (k : Nat) {i x : Int32} {P : hS → Prop} (hk : k ∈ mIx ∧ (mK k).1 = 2) : sI (ov S o ad M) (ad k) i x P ↔ vp_in i (mK k).2 ∧ P (ov S o ad (mA M k (upd (M.2.2.1 k) i.toNatClampNeg x))) := by
  refine ⟨?_, fun h => ov_sI hd k hk h.1 h.2⟩
  rintro ⟨n, f, h1, h2, h3⟩
  rw [ov_a hd hk.1, mC, hk.2] at h1
  cases h1
  have e : (Sum.inl (0, (mK k).2, Sum.inl (upd (M.2.2.1 k) i.toNatClampNeg x)) : hE) = mC (mA M k (upd (M.2.2.1 k) i.toNatClampNeg x)) k := by
    rw [mC, hk.2]; simp [mA]
  rw [e, ov_seta hd hk.1 (mFs_A k _) (fun j _ hj => mC_A _ hj)] at h3
  exact ⟨h2, h3⟩
theorem oi_sZ (hd : mD o ad) (k : Nat) {i x : Int32} {P : hS → Prop} (hk : k ∈ mIx ∧ (mK k).1 = 4) : sZ (ov S o ad M) (ad k) i x P ↔ vp_in i (mK k).2 ∧ P (ov S o ad (mA M k (upd (M.2.2.1 k) i.toNatClampNeg (vp_nar .boolean x)))) := by
  refine ⟨?_, fun h => ov_sZ hd k hk h.1 h.2⟩
  rintro ⟨n, f, h1, h2, h3⟩
  rw [ov_a hd hk.1, mC, hk.2] at h1
  cases h1
  have e : (Sum.inl (2, (mK k).2, Sum.inl (upd (M.2.2.1 k) i.toNatClampNeg (vp_nar .boolean x))) : hE) = mC (mA M k (upd (M.2.2.1 k) i.toNatClampNeg (vp_nar .boolean x))) k := by
    rw [mC, hk.2]; simp [mA]
  rw [e, ov_seta hd hk.1 (mFs_A k _) (fun j _ hj => mC_A _ hj)] at h3
  exact ⟨h2, h3⟩
theorem oi_sJ (hd : mD o ad) (k : Nat) {i : Int32} {x : Int64} {P : hS → Prop} (hk : k ∈ mIx ∧ (mK k).1 = 3) : sJ (ov S o ad M) (ad k) i x P ↔ vp_in i (mK k).2 ∧ P (ov S o ad (mL M k (vp_updL (M.2.2.2 k) i.toNatClampNeg x))) := by
  refine ⟨?_, fun h => ov_sJ hd k hk h.1 h.2⟩
  rintro ⟨n, f, h1, h2, h3⟩
  rw [ov_a hd hk.1, mC, hk.2] at h1
  cases h1
  have e : (Sum.inl (1, (mK k).2, Sum.inr (Sum.inl (vp_updL (M.2.2.2 k) i.toNatClampNeg x))) : hE) = mC (mL M k (vp_updL (M.2.2.2 k) i.toNatClampNeg x)) k := by
    rw [mC, hk.2]; simp [mL]
  rw [e, ov_seta hd hk.1 (mFs_L k _) (fun j _ hj => mC_L _ hj)] at h3
  exact ⟨h2, h3⟩
/-! M read behind its writes -/
theorem mI_1 (k j : Nat) (x : Int32) : (mI M k x).1 j = if j = k then x else M.1 j := rfl
theorem mI_2 (k : Nat) (x : Int32) : (mI M k x).2 = M.2 := rfl
theorem mJ_1 (k : Nat) (x : Int64) : (mJ M k x).1 = M.1 := rfl
theorem mJ_2 (k j : Nat) (x : Int64) : (mJ M k x).2.1 j = if j = k then x else M.2.1 j := rfl
theorem mJ_3 (k : Nat) (x : Int64) : (mJ M k x).2.2 = M.2.2 := rfl
theorem mA_1 (k : Nat) (f : Nat → Int32) : (mA M k f).1 = M.1 := rfl
theorem mA_2 (k : Nat) (f : Nat → Int32) : (mA M k f).2.1 = M.2.1 := rfl
theorem mA_3 (k j : Nat) (f : Nat → Int32) : (mA M k f).2.2.1 j = if j = k then f else M.2.2.1 j := rfl
theorem mA_4 (k : Nat) (f : Nat → Int32) : (mA M k f).2.2.2 = M.2.2.2 := rfl
theorem mL_1 (k : Nat) (f : Nat → Int64) : (mL M k f).1 = M.1 := rfl
theorem mL_2 (k : Nat) (f : Nat → Int64) : (mL M k f).2.1 = M.2.1 := rfl
theorem mL_3 (k : Nat) (f : Nat → Int64) : (mL M k f).2.2.1 = M.2.2.1 := rfl
theorem mL_4 (k j : Nat) (f : Nat → Int64) : (mL M k f).2.2.2 j = if j = k then f else M.2.2.2 j := rfl
end OV2
/-- numbers -/
theorem lit_nI (n : Nat) : (OfNat.ofNat n : Int32) = nI n := rfl
theorem nIadd (a b : Nat) : nI a + nI b = nI (a + b) := nI_add a b
theorem nImul (a b : Nat) : nI a * nI b = nI (a * b) := pk_mul a b
theorem eq_imp {α : Sort _} {a : α} {P : α → Prop} (h : P a) : ∀ y, y = a → P y := fun y e => e ▸ h
theorem i64in {a lo hi : Int64} : (lg_cmp a lo < 0 ∨ 0 < lg_cmp a hi) ↔ ¬ (lo ≤ a ∧ a ≤ hi) := by
  rw [show lg_cmp a lo < 0 ↔ ¬ (0 ≤ lg_cmp a lo) from by rw [Int32.not_le], lg_cmp_ge, show 0 < lg_cmp a hi ↔ ¬ (lg_cmp a hi ≤ 0) from by rw [Int32.not_le], lg_cmp_le]
  constructor
  · rintro (h | h) ⟨h1, h2⟩
    · exact h h1
    · exact h h2
  · intro h
    by_cases h1 : lo ≤ a
    · exact Or.inr (fun h2 => h ⟨h1, h2⟩)
    · exact Or.inl h1
theorem cl_0 : (0 : Int32).toNatClampNeg = 0 := by decide
theorem cl_1 : (1 : Int32).toNatClampNeg = 1 := by decide
theorem cl_2 : (2 : Int32).toNatClampNeg = 2 := by decide
theorem cl_3 : (3 : Int32).toNatClampNeg = 3 := by decide
theorem cl_4 : (4 : Int32).toNatClampNeg = 4 := by decide
theorem cl_5 : (5 : Int32).toNatClampNeg = 5 := by decide
theorem cl_6 : (6 : Int32).toNatClampNeg = 6 := by decide
theorem cl_7 : (7 : Int32).toNatClampNeg = 7 := by decide
theorem cl_8 : (8 : Int32).toNatClampNeg = 8 := by decide
theorem cl_9 : (9 : Int32).toNatClampNeg = 9 := by decide
theorem cl_10 : (10 : Int32).toNatClampNeg = 10 := by decide
theorem cl_11 : (11 : Int32).toNatClampNeg = 11 := by decide
theorem cl_12 : (12 : Int32).toNatClampNeg = 12 := by decide
theorem cl_13 : (13 : Int32).toNatClampNeg = 13 := by decide
theorem cl_14 : (14 : Int32).toNatClampNeg = 14 := by decide
theorem cl_15 : (15 : Int32).toNatClampNeg = 15 := by decide
theorem vl_0_5585 : vp_in 0 5585 ↔ True := iff_true_intro (vp_in_iff.mpr (by decide))
theorem vl_1_5585 : vp_in 1 5585 ↔ True := iff_true_intro (vp_in_iff.mpr (by decide))
theorem vl_2_5585 : vp_in 2 5585 ↔ True := iff_true_intro (vp_in_iff.mpr (by decide))
theorem vl_3_5585 : vp_in 3 5585 ↔ True := iff_true_intro (vp_in_iff.mpr (by decide))
theorem vl_4_5585 : vp_in 4 5585 ↔ True := iff_true_intro (vp_in_iff.mpr (by decide))
theorem vl_5_5585 : vp_in 5 5585 ↔ True := iff_true_intro (vp_in_iff.mpr (by decide))
theorem vl_6_5585 : vp_in 6 5585 ↔ True := iff_true_intro (vp_in_iff.mpr (by decide))
theorem vl_0_7 : vp_in 0 7 ↔ True := iff_true_intro (vp_in_iff.mpr (by decide))
theorem vl_1_7 : vp_in 1 7 ↔ True := iff_true_intro (vp_in_iff.mpr (by decide))
theorem vl_2_7 : vp_in 2 7 ↔ True := iff_true_intro (vp_in_iff.mpr (by decide))
theorem vl_3_7 : vp_in 3 7 ↔ True := iff_true_intro (vp_in_iff.mpr (by decide))
theorem vl_4_7 : vp_in 4 7 ↔ True := iff_true_intro (vp_in_iff.mpr (by decide))
theorem vl_5_7 : vp_in 5 7 ↔ True := iff_true_intro (vp_in_iff.mpr (by decide))
theorem vl_6_7 : vp_in 6 7 ↔ True := iff_true_intro (vp_in_iff.mpr (by decide))
