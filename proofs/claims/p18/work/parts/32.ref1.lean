/-! LAYER 2, the reference: first methods -/
section REF1
variable {S : hS} {o : Nat} {ad : Nat → Nat} {M : mS}
theorem mA_self (k : Nat) : mA M k (M.2.2.1 k) = M := by
  obtain ⟨a, b, c, d⟩ := M
  simp only [mA, Prod.mk.injEq, true_and, and_true]
  funext j
  by_cases h : j = k
  · subst h; simp
  · simp [h]
theorem mL_self (k : Nat) : mL M k (M.2.2.2 k) = M := by
  obtain ⟨a, b, c, d⟩ := M
  simp only [mL, Prod.mk.injEq, true_and]
  funext j
  by_cases h : j = k
  · subst h; simp
  · simp [h]
theorem mA_mA (k : Nat) (f g : Nat → Int32) : mA (mA M k f) k g = mA M k g := by
  simp only [mA, Prod.mk.injEq, true_and, and_true]
  funext j
  by_cases h : j = k <;> simp [h]
theorem mL_mL (k : Nat) (f g : Nat → Int64) : mL (mL M k f) k g = mL M k g := by
  simp only [mL, Prod.mk.injEq, true_and]
  funext j
  by_cases h : j = k <;> simp [h]
theorem i64toInt (x : Int32) : (Int32.toInt64 x).toInt = x.toInt := by simp
theorem nI_cl {n N : Nat} (h : n < N) (hN : N < 2 ^ 31) : (nI n).toNatClampNeg = n := nI_clamp (by omega)
theorem s_in {q : Int32 → hS → Prop} {T : hS} {a lo hi : Int64} (h1 : lo.toInt ≤ a.toInt → a.toInt ≤ hi.toInt → q 1 T) (h0 : ¬ (lo.toInt ≤ a.toInt ∧ a.toInt ≤ hi.toInt) → q 0 T) : w_X12_in q T a lo hi := by
  have e1 : lg_cmp a lo < 0 ↔ ¬ lo.toInt ≤ a.toInt := by rw [← Int32.not_le, lg_cmp_ge, Int64.le_iff_toInt_le]
  have e2 : 0 < lg_cmp a hi ↔ ¬ a.toInt ≤ hi.toInt := by rw [← Int32.not_le, lg_cmp_le, Int64.le_iff_toInt_le]
  refine ⟨fun c => h0 (fun h => e1.mp c h.1), fun c => ⟨fun c2 => h0 (fun h => e2.mp c2 h.2), fun c2 => h1 ?_ ?_⟩⟩
  · exact Classical.not_not.mp (fun h => c (e1.mpr h))
  · exact Classical.not_not.mp (fun h => c2 (e2.mpr h))
theorem s_is {q : Int32 → hS → Prop} {T : hS} {a b : Int32} (h1 : q 1 T) (h0 : q 0 T) : w_X12_is q T a b := ⟨fun _ => h0, fun _ => h1⟩
/-- a loop that counts up: enough fuel -/
theorem up_loop {P : Nat → Nat → Prop} (e : Nat) (hx : ∀ n, P (n + 1) e) (hs : ∀ n i, i < e → P n (i + 1) → P (n + 1) i) : ∀ d i, i + d = e → P (d + 1) i := by
  intro d
  induction d with
  | zero => intro i h; rw [show i = e by omega]; exact hx 0
  | succ d ih => intro i h; exact hs (d + 1) i (by omega) (ih (i + 1) (by omega))
theorem s_ones {q : Int32 → hS → Prop} {T : hS} {a : Int32} (h : ∀ x, q x T) : w_X12_ones q T a := by
  refine ⟨9, ?_⟩
  have : ∀ d i, i + d = 8 → ∀ x, w_X12_ones_b4 q (d + 1) T a x (nI i) := by
    intro d
    induction d with
    | zero =>
      intro i hi x
      rw [w_X12_ones_b4]
      refine ⟨fun _ => h _, fun c => absurd (nI_le (a := 8) (b := i) (by omega) (by omega)) c⟩
    | succ d ih =>
      intro i hi x
      rw [w_X12_ones_b4]
      refine ⟨fun _ => h _, fun c => fun y _ z ez => ?_⟩
      rw [ez, nI_1]
      exact ih (i + 1) (by omega) y
  exact this 8 0 rfl 0
theorem s_within {q : Int32 → hS → Prop} {T : hS} {v : Int64} {lo hi : Int32} (hlh : lo.toInt ≤ hi.toInt) (h : ∀ x : Int32, lo.toInt ≤ x.toInt → x.toInt ≤ hi.toInt → q x T) : w_X12_within q T v lo hi := by
  have e1 : ∀ a b : Int64, 0 ≤ lg_cmp a b ↔ b.toInt ≤ a.toInt := fun a b => by rw [lg_cmp_ge, Int64.le_iff_toInt_le]
  have e2 : ∀ a b : Int64, lg_cmp a b ≤ 0 ↔ a.toInt ≤ b.toInt := fun a b => by rw [lg_cmp_le, Int64.le_iff_toInt_le]
  unfold w_X12_within
  simp only [e1, e2, i64toInt]
  refine ⟨fun c => ⟨fun c2 => h _ ?_ ?_, fun c2 => h _ hlh (Int.le_refl _)⟩, fun c => h _ (Int.le_refl _) hlh⟩
  · have : v.toInt32.toInt = v.toInt := by
      have b1 := fb_rng lo
      have b2 := fb_rng hi
      rw [Int64.toInt_toInt32]
      exact fb_bmod (by omega) (by omega)
    rw [this]; exact c
  · have : v.toInt32.toInt = v.toInt := by
      have b1 := fb_rng lo
      have b2 := fb_rng hi
      rw [Int64.toInt_toInt32]
      exact fb_bmod (by omega) (by omega)
    rw [this]; exact c2
end REF1
