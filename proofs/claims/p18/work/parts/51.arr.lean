/-! LAYER 2, the class: its arrays -/
section AR
variable {Γ : kG} {Φ : kF} {S : hS} {L : List Nat} {a i c n id : Nat} {z : Nat × (Nat → Nat)}
theorem aV_of {S : hS} {a kd n : Nat} {f : Nat → Int32} (h : S a = some (.inl (kd, n, .inl f))) (j : Nat) : aV S a j = f j := by unfold aV; rw [h]
theorem aO_of {S : hS} {a kd n : Nat} {f : Nat → Option Nat} (h : S a = some (.inl (kd, n, .inr (.inr (.inr (.inr f)))))) (j : Nat) : aO S a j = f j := by unfold aO; rw [h]
theorem cl_lt {i : Int32} {n : Nat} (hi : 0 ≤ i.toInt ∧ i.toInt < n) : i.toNatClampNeg < n := by
  have : (i.toNatClampNeg : Int) = i.toInt := by
    rw [show i.toNatClampNeg = i.toInt.toNat from rfl]
    omega
  omega
theorem cl_eq {i : Int32} (hi : 0 ≤ i.toInt) : (i.toNatClampNeg : Int) = i.toInt := by
  rw [show i.toNatClampNeg = i.toInt.toNat from rfl]
  omega
theorem vin {i : Int32} {n : Nat} (hi : 0 ≤ i.toInt ∧ i.toInt < n) : vp_in i n := vp_in_iff.mpr hi
theorem aO_ne {x y : vp_A} {S : hS} {a kd kd' : Nat} (h : S a = some (.inl (kd, x))) (b j : Nat) (hb : b ≠ a) : aO (hset S a (.inl (kd', y))) b j = aO S b j := aO_hset_ne hb
theorem aO_int {S : hS} {a kd n : Nat} {f : Nat → Int32} (h : S a = some (.inl (kd, n, .inl f))) (j : Nat) : aO S a j = none := by unfold aO; rw [h]
theorem aV_ref {S : hS} {a kd n : Nat} {f : Nat → Option Nat} (h : S a = some (.inl (kd, n, .inr (.inr (.inr (.inr f)))))) (j : Nat) : aV S a j = 0 := by unfold aV; rw [h]
theorem St.a20 (h : St Γ Φ S) (ha : Γ a = some (20, id, n, z)) : arI n (-2147483648) (2147483647) (S a) := (h.1 a _ ha).2.2.2.2.2.2.2.2.2.2.2.2.1 rfl
theorem T_aI_20 {P : Int32 → Prop} {i : Int32} (h : St Γ Φ S) (ha : Γ a = some (20, id, n, z)) (hi : 0 ≤ i.toInt ∧ i.toInt < n) (k : ∀ x, x = aV S a i.toNatClampNeg → (x.toInt = (aV S a i.toNatClampNeg).toInt) → P x) : aI S a i P := by
  obtain ⟨hn, f, e, hf⟩ := h.a20 ha
  exact ⟨n, f, e, vin hi, k _ (aV_of e _).symm (congrArg Int32.toInt (aV_of e _)).symm⟩
theorem T_sI_20 {P : hS → Prop} {i x : Int32} (h : St Γ Φ S) (hl : fre Γ Φ L) (ha : Γ a = some (20, id, n, z)) (hm : id ∈ L) (hi : 0 ≤ i.toInt ∧ i.toInt < n) (k : ∀ S', St Γ Φ S' → sEq S S' → (∀ b j, b ≠ a → aV S' b j = aV S b j) → (∀ b j, aO S' b j = aO S b j) → (∀ j, aV S' a j = if j = i.toNatClampNeg then x else aV S a j) → P S') : sI S a i x P := by
  obtain ⟨hn, f, e, hf⟩ := h.a20 ha
  refine ⟨n, f, e, vin hi, k _ (h.set ha (hl a _ ha hm) (cellOk_20 rfl ⟨hn, _, rfl, fun j hj => ?_⟩)) (fun b j => fv_hset_inl e) (fun b j hb => aV_hset_ne hb) (fun b j => ?_) (fun j => ?_)⟩
  · by_cases c : j = i.toNatClampNeg
    · subst c; rw [upd_self]; have := fb_rng x; omega
    · rw [upd_ne _ _ c]; exact hf j hj
  · by_cases c : b = a
    · subst c; rw [aO_int e, aO_int (hset_self _ _ _)]
    · exact aO_hset_ne c
  · rw [aV_of (hset_self _ _ _), aV_of e]
    rfl
theorem T_aN_20 {P : Int32 → Prop} (h : St Γ Φ S) (ha : Γ a = some (20, id, n, z)) (k : ∀ x : Int32, x.toInt = (n : Int) → P x) : aN S a P := by
  obtain ⟨hn, f, e, hf⟩ := h.a20 ha
  exact ⟨_, _, e, by omega, k _ (nI_toInt (by omega))⟩
theorem T_cI_20 {P : hS → Prop} {b id' n' : Nat} {z' : Nat × (Nat → Nat)} {sp dp m : Int32} (h : St Γ Φ S) (ha : Γ a = some (20, id, n, z)) (hl : fre Γ Φ L) (hb : Γ b = some (20, id', n', z')) (hm : id' ∈ L) (h1 : (0 ≤ sp.toInt ∧ 0 ≤ dp.toInt ∧ 0 ≤ m.toInt) ∧ sp.toInt + m.toInt ≤ n ∧ dp.toInt + m.toInt ≤ n') (k : ∀ S', St Γ Φ S' → sEq S S' → (∀ d j, d ≠ b → aV S' d j = aV S d j) → (∀ d j, aO S' d j = aO S d j) → (∀ j, aV S' b j = va_cpy (aV S a) (aV S b) sp.toNatClampNeg dp.toNatClampNeg m.toNatClampNeg j) → P S') : cI S a sp b dp m P := by
  obtain ⟨hn, f, e, hf⟩ := h.a20 ha
  obtain ⟨hn', g, e', hg⟩ := h.a20 hb
  have z0 : ∀ x : Int32, 0 ≤ x.toInt → ¬ x < 0 := fun x hx z => by
    rw [Int32.lt_iff_toInt_lt] at z
    have : (0 : Int32).toInt = 0 := by decide
    omega
  have e1 := cl_eq h1.1.1
  have e2 := cl_eq h1.1.2.1
  have e3 := cl_eq h1.1.2.2
  refine ⟨n, n', f, g, e, e', ⟨z0 _ h1.1.1, z0 _ h1.1.2.1, z0 _ h1.1.2.2⟩, by omega, by omega, k _ (h.set hb (hl b _ hb hm) (cellOk_20 rfl ⟨hn', _, rfl, fun j hj => ?_⟩)) (fun b j => fv_hset_inl e') (fun d j hd => aV_hset_ne hd) (fun d j => ?_) (fun j => ?_)⟩
  · unfold va_cpy
    split
    · exact hf _ (by omega)
    · exact hg _ hj
  · by_cases c : d = b
    · subst c; rw [aO_int e', aO_int (hset_self _ _ _)]
    · exact aO_hset_ne c
  · rw [aV_of (hset_self _ _ _)]
    unfold va_cpy
    split
    · rw [aV_of e]
    · rw [aV_of e']
theorem St.a21 (h : St Γ Φ S) (ha : Γ a = some (21, id, n, z)) : arI n (0) (5) (S a) := (h.1 a _ ha).2.2.2.2.2.2.2.2.2.2.2.2.2.1 rfl
theorem T_aI_21 {P : Int32 → Prop} {i : Int32} (h : St Γ Φ S) (ha : Γ a = some (21, id, n, z)) (hi : 0 ≤ i.toInt ∧ i.toInt < n) (k : ∀ x, x = aV S a i.toNatClampNeg → (x.toInt = (aV S a i.toNatClampNeg).toInt ∧ 0 ≤ x.toInt ∧ x.toInt ≤ 5) → P x) : aI S a i P := by
  obtain ⟨hn, f, e, hf⟩ := h.a21 ha
  exact ⟨n, f, e, vin hi, k _ (aV_of e _).symm ⟨(congrArg Int32.toInt (aV_of e _)).symm, hf _ (cl_lt hi)⟩⟩
theorem T_sI_21 {P : hS → Prop} {i x : Int32} (h : St Γ Φ S) (hl : fre Γ Φ L) (ha : Γ a = some (21, id, n, z)) (hm : id ∈ L) (hi : 0 ≤ i.toInt ∧ i.toInt < n) (hx : 0 ≤ x.toInt ∧ x.toInt ≤ 5) (k : ∀ S', St Γ Φ S' → sEq S S' → (∀ b j, b ≠ a → aV S' b j = aV S b j) → (∀ b j, aO S' b j = aO S b j) → (∀ j, aV S' a j = if j = i.toNatClampNeg then x else aV S a j) → P S') : sI S a i x P := by
  obtain ⟨hn, f, e, hf⟩ := h.a21 ha
  refine ⟨n, f, e, vin hi, k _ (h.set ha (hl a _ ha hm) (cellOk_21 rfl ⟨hn, _, rfl, fun j hj => ?_⟩)) (fun b j => fv_hset_inl e) (fun b j hb => aV_hset_ne hb) (fun b j => ?_) (fun j => ?_)⟩
  · by_cases c : j = i.toNatClampNeg
    · subst c; rw [upd_self]; exact hx
    · rw [upd_ne _ _ c]; exact hf j hj
  · by_cases c : b = a
    · subst c; rw [aO_int e, aO_int (hset_self _ _ _)]
    · exact aO_hset_ne c
  · rw [aV_of (hset_self _ _ _), aV_of e]
    rfl
theorem T_aN_21 {P : Int32 → Prop} (h : St Γ Φ S) (ha : Γ a = some (21, id, n, z)) (k : ∀ x : Int32, x.toInt = (n : Int) → P x) : aN S a P := by
  obtain ⟨hn, f, e, hf⟩ := h.a21 ha
  exact ⟨_, _, e, by omega, k _ (nI_toInt (by omega))⟩
theorem T_cI_21 {P : hS → Prop} {b id' n' : Nat} {z' : Nat × (Nat → Nat)} {sp dp m : Int32} (h : St Γ Φ S) (ha : Γ a = some (21, id, n, z)) (hl : fre Γ Φ L) (hb : Γ b = some (21, id', n', z')) (hm : id' ∈ L) (h1 : (0 ≤ sp.toInt ∧ 0 ≤ dp.toInt ∧ 0 ≤ m.toInt) ∧ sp.toInt + m.toInt ≤ n ∧ dp.toInt + m.toInt ≤ n') (k : ∀ S', St Γ Φ S' → sEq S S' → (∀ d j, d ≠ b → aV S' d j = aV S d j) → (∀ d j, aO S' d j = aO S d j) → (∀ j, aV S' b j = va_cpy (aV S a) (aV S b) sp.toNatClampNeg dp.toNatClampNeg m.toNatClampNeg j) → P S') : cI S a sp b dp m P := by
  obtain ⟨hn, f, e, hf⟩ := h.a21 ha
  obtain ⟨hn', g, e', hg⟩ := h.a21 hb
  have z0 : ∀ x : Int32, 0 ≤ x.toInt → ¬ x < 0 := fun x hx z => by
    rw [Int32.lt_iff_toInt_lt] at z
    have : (0 : Int32).toInt = 0 := by decide
    omega
  have e1 := cl_eq h1.1.1
  have e2 := cl_eq h1.1.2.1
  have e3 := cl_eq h1.1.2.2
  refine ⟨n, n', f, g, e, e', ⟨z0 _ h1.1.1, z0 _ h1.1.2.1, z0 _ h1.1.2.2⟩, by omega, by omega, k _ (h.set hb (hl b _ hb hm) (cellOk_21 rfl ⟨hn', _, rfl, fun j hj => ?_⟩)) (fun b j => fv_hset_inl e') (fun d j hd => aV_hset_ne hd) (fun d j => ?_) (fun j => ?_)⟩
  · unfold va_cpy
    split
    · exact hf _ (by omega)
    · exact hg _ hj
  · by_cases c : d = b
    · subst c; rw [aO_int e', aO_int (hset_self _ _ _)]
    · exact aO_hset_ne c
  · rw [aV_of (hset_self _ _ _)]
    unfold va_cpy
    split
    · rw [aV_of e]
    · rw [aV_of e']
theorem St.a22 (h : St Γ Φ S) (ha : Γ a = some (22, id, n, z)) : arI n (0) (255) (S a) := (h.1 a _ ha).2.2.2.2.2.2.2.2.2.2.2.2.2.2.1 rfl
theorem T_aI_22 {P : Int32 → Prop} {i : Int32} (h : St Γ Φ S) (ha : Γ a = some (22, id, n, z)) (hi : 0 ≤ i.toInt ∧ i.toInt < n) (k : ∀ x, x = aV S a i.toNatClampNeg → (x.toInt = (aV S a i.toNatClampNeg).toInt ∧ 0 ≤ x.toInt ∧ x.toInt ≤ 255) → P x) : aI S a i P := by
  obtain ⟨hn, f, e, hf⟩ := h.a22 ha
  exact ⟨n, f, e, vin hi, k _ (aV_of e _).symm ⟨(congrArg Int32.toInt (aV_of e _)).symm, hf _ (cl_lt hi)⟩⟩
theorem T_sI_22 {P : hS → Prop} {i x : Int32} (h : St Γ Φ S) (hl : fre Γ Φ L) (ha : Γ a = some (22, id, n, z)) (hm : id ∈ L) (hi : 0 ≤ i.toInt ∧ i.toInt < n) (hx : 0 ≤ x.toInt ∧ x.toInt ≤ 255) (k : ∀ S', St Γ Φ S' → sEq S S' → (∀ b j, b ≠ a → aV S' b j = aV S b j) → (∀ b j, aO S' b j = aO S b j) → (∀ j, aV S' a j = if j = i.toNatClampNeg then x else aV S a j) → P S') : sI S a i x P := by
  obtain ⟨hn, f, e, hf⟩ := h.a22 ha
  refine ⟨n, f, e, vin hi, k _ (h.set ha (hl a _ ha hm) (cellOk_22 rfl ⟨hn, _, rfl, fun j hj => ?_⟩)) (fun b j => fv_hset_inl e) (fun b j hb => aV_hset_ne hb) (fun b j => ?_) (fun j => ?_)⟩
  · by_cases c : j = i.toNatClampNeg
    · subst c; rw [upd_self]; exact hx
    · rw [upd_ne _ _ c]; exact hf j hj
  · by_cases c : b = a
    · subst c; rw [aO_int e, aO_int (hset_self _ _ _)]
    · exact aO_hset_ne c
  · rw [aV_of (hset_self _ _ _), aV_of e]
    rfl
theorem T_aN_22 {P : Int32 → Prop} (h : St Γ Φ S) (ha : Γ a = some (22, id, n, z)) (k : ∀ x : Int32, x.toInt = (n : Int) → P x) : aN S a P := by
  obtain ⟨hn, f, e, hf⟩ := h.a22 ha
  exact ⟨_, _, e, by omega, k _ (nI_toInt (by omega))⟩
theorem T_cI_22 {P : hS → Prop} {b id' n' : Nat} {z' : Nat × (Nat → Nat)} {sp dp m : Int32} (h : St Γ Φ S) (ha : Γ a = some (22, id, n, z)) (hl : fre Γ Φ L) (hb : Γ b = some (22, id', n', z')) (hm : id' ∈ L) (h1 : (0 ≤ sp.toInt ∧ 0 ≤ dp.toInt ∧ 0 ≤ m.toInt) ∧ sp.toInt + m.toInt ≤ n ∧ dp.toInt + m.toInt ≤ n') (k : ∀ S', St Γ Φ S' → sEq S S' → (∀ d j, d ≠ b → aV S' d j = aV S d j) → (∀ d j, aO S' d j = aO S d j) → (∀ j, aV S' b j = va_cpy (aV S a) (aV S b) sp.toNatClampNeg dp.toNatClampNeg m.toNatClampNeg j) → P S') : cI S a sp b dp m P := by
  obtain ⟨hn, f, e, hf⟩ := h.a22 ha
  obtain ⟨hn', g, e', hg⟩ := h.a22 hb
  have z0 : ∀ x : Int32, 0 ≤ x.toInt → ¬ x < 0 := fun x hx z => by
    rw [Int32.lt_iff_toInt_lt] at z
    have : (0 : Int32).toInt = 0 := by decide
    omega
  have e1 := cl_eq h1.1.1
  have e2 := cl_eq h1.1.2.1
  have e3 := cl_eq h1.1.2.2
  refine ⟨n, n', f, g, e, e', ⟨z0 _ h1.1.1, z0 _ h1.1.2.1, z0 _ h1.1.2.2⟩, by omega, by omega, k _ (h.set hb (hl b _ hb hm) (cellOk_22 rfl ⟨hn', _, rfl, fun j hj => ?_⟩)) (fun b j => fv_hset_inl e') (fun d j hd => aV_hset_ne hd) (fun d j => ?_) (fun j => ?_)⟩
  · unfold va_cpy
    split
    · exact hf _ (by omega)
    · exact hg _ hj
  · by_cases c : d = b
    · subst c; rw [aO_int e', aO_int (hset_self _ _ _)]
    · exact aO_hset_ne c
  · rw [aV_of (hset_self _ _ _)]
    unfold va_cpy
    split
    · rw [aV_of e]
    · rw [aV_of e']
theorem St.a23 (h : St Γ Φ S) (ha : Γ a = some (23, id, n, z)) : arI n (0) (400) (S a) := (h.1 a _ ha).2.2.2.2.2.2.2.2.2.2.2.2.2.2.2.1 rfl
theorem T_aI_23 {P : Int32 → Prop} {i : Int32} (h : St Γ Φ S) (ha : Γ a = some (23, id, n, z)) (hi : 0 ≤ i.toInt ∧ i.toInt < n) (k : ∀ x, x = aV S a i.toNatClampNeg → (x.toInt = (aV S a i.toNatClampNeg).toInt ∧ 0 ≤ x.toInt ∧ x.toInt ≤ 400) → P x) : aI S a i P := by
  obtain ⟨hn, f, e, hf⟩ := h.a23 ha
  exact ⟨n, f, e, vin hi, k _ (aV_of e _).symm ⟨(congrArg Int32.toInt (aV_of e _)).symm, hf _ (cl_lt hi)⟩⟩
theorem T_sI_23 {P : hS → Prop} {i x : Int32} (h : St Γ Φ S) (hl : fre Γ Φ L) (ha : Γ a = some (23, id, n, z)) (hm : id ∈ L) (hi : 0 ≤ i.toInt ∧ i.toInt < n) (hx : 0 ≤ x.toInt ∧ x.toInt ≤ 400) (k : ∀ S', St Γ Φ S' → sEq S S' → (∀ b j, b ≠ a → aV S' b j = aV S b j) → (∀ b j, aO S' b j = aO S b j) → (∀ j, aV S' a j = if j = i.toNatClampNeg then x else aV S a j) → P S') : sI S a i x P := by
  obtain ⟨hn, f, e, hf⟩ := h.a23 ha
  refine ⟨n, f, e, vin hi, k _ (h.set ha (hl a _ ha hm) (cellOk_23 rfl ⟨hn, _, rfl, fun j hj => ?_⟩)) (fun b j => fv_hset_inl e) (fun b j hb => aV_hset_ne hb) (fun b j => ?_) (fun j => ?_)⟩
  · by_cases c : j = i.toNatClampNeg
    · subst c; rw [upd_self]; exact hx
    · rw [upd_ne _ _ c]; exact hf j hj
  · by_cases c : b = a
    · subst c; rw [aO_int e, aO_int (hset_self _ _ _)]
    · exact aO_hset_ne c
  · rw [aV_of (hset_self _ _ _), aV_of e]
    rfl
theorem T_aN_23 {P : Int32 → Prop} (h : St Γ Φ S) (ha : Γ a = some (23, id, n, z)) (k : ∀ x : Int32, x.toInt = (n : Int) → P x) : aN S a P := by
  obtain ⟨hn, f, e, hf⟩ := h.a23 ha
  exact ⟨_, _, e, by omega, k _ (nI_toInt (by omega))⟩
theorem T_cI_23 {P : hS → Prop} {b id' n' : Nat} {z' : Nat × (Nat → Nat)} {sp dp m : Int32} (h : St Γ Φ S) (ha : Γ a = some (23, id, n, z)) (hl : fre Γ Φ L) (hb : Γ b = some (23, id', n', z')) (hm : id' ∈ L) (h1 : (0 ≤ sp.toInt ∧ 0 ≤ dp.toInt ∧ 0 ≤ m.toInt) ∧ sp.toInt + m.toInt ≤ n ∧ dp.toInt + m.toInt ≤ n') (k : ∀ S', St Γ Φ S' → sEq S S' → (∀ d j, d ≠ b → aV S' d j = aV S d j) → (∀ d j, aO S' d j = aO S d j) → (∀ j, aV S' b j = va_cpy (aV S a) (aV S b) sp.toNatClampNeg dp.toNatClampNeg m.toNatClampNeg j) → P S') : cI S a sp b dp m P := by
  obtain ⟨hn, f, e, hf⟩ := h.a23 ha
  obtain ⟨hn', g, e', hg⟩ := h.a23 hb
  have z0 : ∀ x : Int32, 0 ≤ x.toInt → ¬ x < 0 := fun x hx z => by
    rw [Int32.lt_iff_toInt_lt] at z
    have : (0 : Int32).toInt = 0 := by decide
    omega
  have e1 := cl_eq h1.1.1
  have e2 := cl_eq h1.1.2.1
  have e3 := cl_eq h1.1.2.2
  refine ⟨n, n', f, g, e, e', ⟨z0 _ h1.1.1, z0 _ h1.1.2.1, z0 _ h1.1.2.2⟩, by omega, by omega, k _ (h.set hb (hl b _ hb hm) (cellOk_23 rfl ⟨hn', _, rfl, fun j hj => ?_⟩)) (fun b j => fv_hset_inl e') (fun d j hd => aV_hset_ne hd) (fun d j => ?_) (fun j => ?_)⟩
  · unfold va_cpy
    split
    · exact hf _ (by omega)
    · exact hg _ hj
  · by_cases c : d = b
    · subst c; rw [aO_int e', aO_int (hset_self _ _ _)]
    · exact aO_hset_ne c
  · rw [aV_of (hset_self _ _ _)]
    unfold va_cpy
    split
    · rw [aV_of e]
    · rw [aV_of e']
theorem St.a24 (h : St Γ Φ S) (ha : Γ a = some (24, id, n, z)) : arI n (0) (43007) (S a) := (h.1 a _ ha).2.2.2.2.2.2.2.2.2.2.2.2.2.2.2.2.1 rfl
theorem T_aI_24 {P : Int32 → Prop} {i : Int32} (h : St Γ Φ S) (ha : Γ a = some (24, id, n, z)) (hi : 0 ≤ i.toInt ∧ i.toInt < n) (k : ∀ x, x = aV S a i.toNatClampNeg → (x.toInt = (aV S a i.toNatClampNeg).toInt ∧ 0 ≤ x.toInt ∧ x.toInt ≤ 43007) → P x) : aI S a i P := by
  obtain ⟨hn, f, e, hf⟩ := h.a24 ha
  exact ⟨n, f, e, vin hi, k _ (aV_of e _).symm ⟨(congrArg Int32.toInt (aV_of e _)).symm, hf _ (cl_lt hi)⟩⟩
theorem T_sI_24 {P : hS → Prop} {i x : Int32} (h : St Γ Φ S) (hl : fre Γ Φ L) (ha : Γ a = some (24, id, n, z)) (hm : id ∈ L) (hi : 0 ≤ i.toInt ∧ i.toInt < n) (hx : 0 ≤ x.toInt ∧ x.toInt ≤ 43007) (k : ∀ S', St Γ Φ S' → sEq S S' → (∀ b j, b ≠ a → aV S' b j = aV S b j) → (∀ b j, aO S' b j = aO S b j) → (∀ j, aV S' a j = if j = i.toNatClampNeg then x else aV S a j) → P S') : sI S a i x P := by
  obtain ⟨hn, f, e, hf⟩ := h.a24 ha
  refine ⟨n, f, e, vin hi, k _ (h.set ha (hl a _ ha hm) (cellOk_24 rfl ⟨hn, _, rfl, fun j hj => ?_⟩)) (fun b j => fv_hset_inl e) (fun b j hb => aV_hset_ne hb) (fun b j => ?_) (fun j => ?_)⟩
  · by_cases c : j = i.toNatClampNeg
    · subst c; rw [upd_self]; exact hx
    · rw [upd_ne _ _ c]; exact hf j hj
  · by_cases c : b = a
    · subst c; rw [aO_int e, aO_int (hset_self _ _ _)]
    · exact aO_hset_ne c
  · rw [aV_of (hset_self _ _ _), aV_of e]
    rfl
theorem T_aN_24 {P : Int32 → Prop} (h : St Γ Φ S) (ha : Γ a = some (24, id, n, z)) (k : ∀ x : Int32, x.toInt = (n : Int) → P x) : aN S a P := by
  obtain ⟨hn, f, e, hf⟩ := h.a24 ha
  exact ⟨_, _, e, by omega, k _ (nI_toInt (by omega))⟩
theorem T_cI_24 {P : hS → Prop} {b id' n' : Nat} {z' : Nat × (Nat → Nat)} {sp dp m : Int32} (h : St Γ Φ S) (ha : Γ a = some (24, id, n, z)) (hl : fre Γ Φ L) (hb : Γ b = some (24, id', n', z')) (hm : id' ∈ L) (h1 : (0 ≤ sp.toInt ∧ 0 ≤ dp.toInt ∧ 0 ≤ m.toInt) ∧ sp.toInt + m.toInt ≤ n ∧ dp.toInt + m.toInt ≤ n') (k : ∀ S', St Γ Φ S' → sEq S S' → (∀ d j, d ≠ b → aV S' d j = aV S d j) → (∀ d j, aO S' d j = aO S d j) → (∀ j, aV S' b j = va_cpy (aV S a) (aV S b) sp.toNatClampNeg dp.toNatClampNeg m.toNatClampNeg j) → P S') : cI S a sp b dp m P := by
  obtain ⟨hn, f, e, hf⟩ := h.a24 ha
  obtain ⟨hn', g, e', hg⟩ := h.a24 hb
  have z0 : ∀ x : Int32, 0 ≤ x.toInt → ¬ x < 0 := fun x hx z => by
    rw [Int32.lt_iff_toInt_lt] at z
    have : (0 : Int32).toInt = 0 := by decide
    omega
  have e1 := cl_eq h1.1.1
  have e2 := cl_eq h1.1.2.1
  have e3 := cl_eq h1.1.2.2
  refine ⟨n, n', f, g, e, e', ⟨z0 _ h1.1.1, z0 _ h1.1.2.1, z0 _ h1.1.2.2⟩, by omega, by omega, k _ (h.set hb (hl b _ hb hm) (cellOk_24 rfl ⟨hn', _, rfl, fun j hj => ?_⟩)) (fun b j => fv_hset_inl e') (fun d j hd => aV_hset_ne hd) (fun d j => ?_) (fun j => ?_)⟩
  · unfold va_cpy
    split
    · exact hf _ (by omega)
    · exact hg _ hj
  · by_cases c : d = b
    · subst c; rw [aO_int e', aO_int (hset_self _ _ _)]
    · exact aO_hset_ne c
  · rw [aV_of (hset_self _ _ _)]
    unfold va_cpy
    split
    · rw [aV_of e]
    · rw [aV_of e']
theorem F_cI_20 {P : hS → Prop} {b id' n' : Nat} {z' : Nat × (Nat → Nat)} {sp dp m : Int32} (h : St Γ Φ S) (ha : Γ a = some (20, id, n, z)) (hp : Φ b = none) (hb : Γ b = some (20, id', n', z')) (h1 : (0 ≤ sp.toInt ∧ 0 ≤ dp.toInt ∧ 0 ≤ m.toInt) ∧ sp.toInt + m.toInt ≤ n ∧ dp.toInt + m.toInt ≤ n') (k : ∀ S', St Γ Φ S' → (∀ d, d ≠ b → S' d = S d) → (∀ j, aV S' b j = va_cpy (aV S a) (aV S b) sp.toNatClampNeg dp.toNatClampNeg m.toNatClampNeg j) → P S') : cI S a sp b dp m P := by
  obtain ⟨hn, f, e, hf⟩ := h.a20 ha
  obtain ⟨hn', g, e', hg⟩ := h.a20 hb
  have z0 : ∀ x : Int32, 0 ≤ x.toInt → ¬ x < 0 := fun x hx z => by
    rw [Int32.lt_iff_toInt_lt] at z
    have : (0 : Int32).toInt = 0 := by decide
    omega
  have e1 := cl_eq h1.1.1
  have e2 := cl_eq h1.1.2.1
  have e3 := cl_eq h1.1.2.2
  refine ⟨n, n', f, g, e, e', ⟨z0 _ h1.1.1, z0 _ h1.1.2.1, z0 _ h1.1.2.2⟩, by omega, by omega, k _ (h.set hb hp (cellOk_20 rfl ⟨hn', _, rfl, fun j hj => ?_⟩)) (fun d hd => hset_ne _ _ hd) (fun j => ?_)⟩
  · unfold va_cpy
    split
    · exact hf _ (by omega)
    · exact hg _ hj
  · rw [aV_of (hset_self _ _ _)]
    unfold va_cpy
    split
    · rw [aV_of e]
    · rw [aV_of e']
theorem F_cI_21 {P : hS → Prop} {b id' n' : Nat} {z' : Nat × (Nat → Nat)} {sp dp m : Int32} (h : St Γ Φ S) (ha : Γ a = some (21, id, n, z)) (hp : Φ b = none) (hb : Γ b = some (21, id', n', z')) (h1 : (0 ≤ sp.toInt ∧ 0 ≤ dp.toInt ∧ 0 ≤ m.toInt) ∧ sp.toInt + m.toInt ≤ n ∧ dp.toInt + m.toInt ≤ n') (k : ∀ S', St Γ Φ S' → (∀ d, d ≠ b → S' d = S d) → (∀ j, aV S' b j = va_cpy (aV S a) (aV S b) sp.toNatClampNeg dp.toNatClampNeg m.toNatClampNeg j) → P S') : cI S a sp b dp m P := by
  obtain ⟨hn, f, e, hf⟩ := h.a21 ha
  obtain ⟨hn', g, e', hg⟩ := h.a21 hb
  have z0 : ∀ x : Int32, 0 ≤ x.toInt → ¬ x < 0 := fun x hx z => by
    rw [Int32.lt_iff_toInt_lt] at z
    have : (0 : Int32).toInt = 0 := by decide
    omega
  have e1 := cl_eq h1.1.1
  have e2 := cl_eq h1.1.2.1
  have e3 := cl_eq h1.1.2.2
  refine ⟨n, n', f, g, e, e', ⟨z0 _ h1.1.1, z0 _ h1.1.2.1, z0 _ h1.1.2.2⟩, by omega, by omega, k _ (h.set hb hp (cellOk_21 rfl ⟨hn', _, rfl, fun j hj => ?_⟩)) (fun d hd => hset_ne _ _ hd) (fun j => ?_)⟩
  · unfold va_cpy
    split
    · exact hf _ (by omega)
    · exact hg _ hj
  · rw [aV_of (hset_self _ _ _)]
    unfold va_cpy
    split
    · rw [aV_of e]
    · rw [aV_of e']
theorem F_cI_22 {P : hS → Prop} {b id' n' : Nat} {z' : Nat × (Nat → Nat)} {sp dp m : Int32} (h : St Γ Φ S) (ha : Γ a = some (22, id, n, z)) (hp : Φ b = none) (hb : Γ b = some (22, id', n', z')) (h1 : (0 ≤ sp.toInt ∧ 0 ≤ dp.toInt ∧ 0 ≤ m.toInt) ∧ sp.toInt + m.toInt ≤ n ∧ dp.toInt + m.toInt ≤ n') (k : ∀ S', St Γ Φ S' → (∀ d, d ≠ b → S' d = S d) → (∀ j, aV S' b j = va_cpy (aV S a) (aV S b) sp.toNatClampNeg dp.toNatClampNeg m.toNatClampNeg j) → P S') : cI S a sp b dp m P := by
  obtain ⟨hn, f, e, hf⟩ := h.a22 ha
  obtain ⟨hn', g, e', hg⟩ := h.a22 hb
  have z0 : ∀ x : Int32, 0 ≤ x.toInt → ¬ x < 0 := fun x hx z => by
    rw [Int32.lt_iff_toInt_lt] at z
    have : (0 : Int32).toInt = 0 := by decide
    omega
  have e1 := cl_eq h1.1.1
  have e2 := cl_eq h1.1.2.1
  have e3 := cl_eq h1.1.2.2
  refine ⟨n, n', f, g, e, e', ⟨z0 _ h1.1.1, z0 _ h1.1.2.1, z0 _ h1.1.2.2⟩, by omega, by omega, k _ (h.set hb hp (cellOk_22 rfl ⟨hn', _, rfl, fun j hj => ?_⟩)) (fun d hd => hset_ne _ _ hd) (fun j => ?_)⟩
  · unfold va_cpy
    split
    · exact hf _ (by omega)
    · exact hg _ hj
  · rw [aV_of (hset_self _ _ _)]
    unfold va_cpy
    split
    · rw [aV_of e]
    · rw [aV_of e']
theorem F_cI_23 {P : hS → Prop} {b id' n' : Nat} {z' : Nat × (Nat → Nat)} {sp dp m : Int32} (h : St Γ Φ S) (ha : Γ a = some (23, id, n, z)) (hp : Φ b = none) (hb : Γ b = some (23, id', n', z')) (h1 : (0 ≤ sp.toInt ∧ 0 ≤ dp.toInt ∧ 0 ≤ m.toInt) ∧ sp.toInt + m.toInt ≤ n ∧ dp.toInt + m.toInt ≤ n') (k : ∀ S', St Γ Φ S' → (∀ d, d ≠ b → S' d = S d) → (∀ j, aV S' b j = va_cpy (aV S a) (aV S b) sp.toNatClampNeg dp.toNatClampNeg m.toNatClampNeg j) → P S') : cI S a sp b dp m P := by
  obtain ⟨hn, f, e, hf⟩ := h.a23 ha
  obtain ⟨hn', g, e', hg⟩ := h.a23 hb
  have z0 : ∀ x : Int32, 0 ≤ x.toInt → ¬ x < 0 := fun x hx z => by
    rw [Int32.lt_iff_toInt_lt] at z
    have : (0 : Int32).toInt = 0 := by decide
    omega
  have e1 := cl_eq h1.1.1
  have e2 := cl_eq h1.1.2.1
  have e3 := cl_eq h1.1.2.2
  refine ⟨n, n', f, g, e, e', ⟨z0 _ h1.1.1, z0 _ h1.1.2.1, z0 _ h1.1.2.2⟩, by omega, by omega, k _ (h.set hb hp (cellOk_23 rfl ⟨hn', _, rfl, fun j hj => ?_⟩)) (fun d hd => hset_ne _ _ hd) (fun j => ?_)⟩
  · unfold va_cpy
    split
    · exact hf _ (by omega)
    · exact hg _ hj
  · rw [aV_of (hset_self _ _ _)]
    unfold va_cpy
    split
    · rw [aV_of e]
    · rw [aV_of e']
theorem F_cI_24 {P : hS → Prop} {b id' n' : Nat} {z' : Nat × (Nat → Nat)} {sp dp m : Int32} (h : St Γ Φ S) (ha : Γ a = some (24, id, n, z)) (hp : Φ b = none) (hb : Γ b = some (24, id', n', z')) (h1 : (0 ≤ sp.toInt ∧ 0 ≤ dp.toInt ∧ 0 ≤ m.toInt) ∧ sp.toInt + m.toInt ≤ n ∧ dp.toInt + m.toInt ≤ n') (k : ∀ S', St Γ Φ S' → (∀ d, d ≠ b → S' d = S d) → (∀ j, aV S' b j = va_cpy (aV S a) (aV S b) sp.toNatClampNeg dp.toNatClampNeg m.toNatClampNeg j) → P S') : cI S a sp b dp m P := by
  obtain ⟨hn, f, e, hf⟩ := h.a24 ha
  obtain ⟨hn', g, e', hg⟩ := h.a24 hb
  have z0 : ∀ x : Int32, 0 ≤ x.toInt → ¬ x < 0 := fun x hx z => by
    rw [Int32.lt_iff_toInt_lt] at z
    have : (0 : Int32).toInt = 0 := by decide
    omega
  have e1 := cl_eq h1.1.1
  have e2 := cl_eq h1.1.2.1
  have e3 := cl_eq h1.1.2.2
  refine ⟨n, n', f, g, e, e', ⟨z0 _ h1.1.1, z0 _ h1.1.2.1, z0 _ h1.1.2.2⟩, by omega, by omega, k _ (h.set hb hp (cellOk_24 rfl ⟨hn', _, rfl, fun j hj => ?_⟩)) (fun d hd => hset_ne _ _ hd) (fun j => ?_)⟩
  · unfold va_cpy
    split
    · exact hf _ (by omega)
    · exact hg _ hj
  · rw [aV_of (hset_self _ _ _)]
    unfold va_cpy
    split
    · rw [aV_of e]
    · rw [aV_of e']
theorem St.a25 (h : St Γ Φ S) (ha : Γ a = some (25, id, n, z)) : arJ n (S a) := (h.1 a _ ha).2.2.2.2.2.2.2.2.2.2.2.2.2.2.2.2.2.1 rfl
theorem T_aJ {P : Int64 → Prop} {i : Int32} (h : St Γ Φ S) (ha : Γ a = some (25, id, n, z)) (hi : 0 ≤ i.toInt ∧ i.toInt < n) (k : ∀ x, P x) : aJ S a i P := by
  obtain ⟨hn, f, e⟩ := h.a25 ha
  exact ⟨n, f, e, vin hi, k _⟩
theorem T_sJ {P : hS → Prop} {i : Int32} {x : Int64} (h : St Γ Φ S) (hl : fre Γ Φ L) (ha : Γ a = some (25, id, n, z)) (hm : id ∈ L) (hi : 0 ≤ i.toInt ∧ i.toInt < n) (k : ∀ S', St Γ Φ S' → sEq S S' → P S') : sJ S a i x P := by
  obtain ⟨hn, f, e⟩ := h.a25 ha
  exact ⟨n, f, e, vin hi, k _ (h.set ha (hl a _ ha hm) (cellOk_25 rfl ⟨hn, _, rfl⟩)) (fun b j => fv_hset_inl e)⟩
theorem St.a26 (h : St Γ Φ S) (ha : Γ a = some (26, id, n, z)) : arR 4 n (fun j b => ∃ ρ, Γ b = some (8, 8 + 10000 * (2 + j), 2 + j, 0, ρ)) (S a) := (h.1 a _ ha).2.2.2.2.2.2.2.2.2.2.2.2.2.2.2.2.2.2.1 rfl
theorem T_aR_26 {P : Option Nat → Prop} {i : Int32} (h : St Γ Φ S) (ha : Γ a = some (26, id, n, z)) (hi : 0 ≤ i.toInt ∧ i.toInt < n) (k : ∀ x, x = aO S a i.toNatClampNeg → (∀ b, x = some b → ∃ ρ, Γ b = some (8, 8 + 10000 * (2 + i.toNatClampNeg), 2 + i.toNatClampNeg, 0, ρ)) → P x) : aR S 4 a i P := by
  obtain ⟨hn, f, e, hf⟩ := h.a26 ha
  exact ⟨n, f, e, vin hi, k _ (aO_of e _).symm (hf _ (cl_lt hi))⟩
theorem T_stR_26 {P : hS → Prop} {i : Int32} {x : Option Nat} (h : St Γ Φ S) (hl : fre Γ Φ L) (ha : Γ a = some (26, id, n, z)) (hm : id ∈ L) (hi : 0 ≤ i.toInt ∧ i.toInt < n) (hx : ∀ b, x = some b → ∃ ρ, Γ b = some (8, 8 + 10000 * (2 + i.toNatClampNeg), 2 + i.toNatClampNeg, 0, ρ)) (k : ∀ S', St Γ Φ S' → sEq S S' → (∀ b j, aV S' b j = aV S b j) → (∀ b j, b ≠ a → aO S' b j = aO S b j) → (∀ j, aO S' a j = if j = i.toNatClampNeg then x else aO S a j) → P S') : stR S 4 a i x 8 P := by
  obtain ⟨hn, f, e, hf⟩ := h.a26 ha
  refine ⟨fun b hb => ?_, n, f, e, vin hi, k _ (h.set ha (hl a _ ha hm) (cellOk_26 rfl ⟨hn, _, rfl, fun j hj => ?_⟩)) (fun b j => fv_hset_inl e) (fun b j => ?_) (fun b j hb => aO_hset_ne hb) (fun j => ?_)⟩
  · have hb := hx b hb
    obtain ⟨ρ, hb⟩ := hb
    have := h.c8 hb
    unfold cl8 at this
    obtain ⟨_, _, _, _, _, _, _, _, _, _, _, _, _, _, _, _, _, e, -⟩ := this
    exact ⟨_, e⟩
  · intro b hb
    unfold va_up at hb
    split at hb
    · rename_i ej
      subst ej; exact hx b hb
    · exact hf j hj b hb
  · by_cases c : b = a
    · subst c; rw [aV_ref e, aV_ref (hset_self _ _ _)]
    · exact aV_hset_ne c
  · rw [aO_of (hset_self _ _ _), aO_of e]
    rfl
theorem St.a27 (h : St Γ Φ S) (ha : Γ a = some (27, id, n, z)) : arR 3 n (fun j b => ∃ ρ, Γ b = some (2, 2 + 10000 * (10 + j), 10 + j, 0, ρ)) (S a) := (h.1 a _ ha).2.2.2.2.2.2.2.2.2.2.2.2.2.2.2.2.2.2.2.1 rfl
theorem T_aR_27 {P : Option Nat → Prop} {i : Int32} (h : St Γ Φ S) (ha : Γ a = some (27, id, n, z)) (hi : 0 ≤ i.toInt ∧ i.toInt < n) (k : ∀ x, x = aO S a i.toNatClampNeg → (∀ b, x = some b → ∃ ρ, Γ b = some (2, 2 + 10000 * (10 + i.toNatClampNeg), 10 + i.toNatClampNeg, 0, ρ)) → P x) : aR S 3 a i P := by
  obtain ⟨hn, f, e, hf⟩ := h.a27 ha
  exact ⟨n, f, e, vin hi, k _ (aO_of e _).symm (hf _ (cl_lt hi))⟩
theorem T_stR_27 {P : hS → Prop} {i : Int32} {x : Option Nat} (h : St Γ Φ S) (hl : fre Γ Φ L) (ha : Γ a = some (27, id, n, z)) (hm : id ∈ L) (hi : 0 ≤ i.toInt ∧ i.toInt < n) (hx : ∀ b, x = some b → ∃ ρ, Γ b = some (2, 2 + 10000 * (10 + i.toNatClampNeg), 10 + i.toNatClampNeg, 0, ρ)) (k : ∀ S', St Γ Φ S' → sEq S S' → (∀ b j, aV S' b j = aV S b j) → (∀ b j, b ≠ a → aO S' b j = aO S b j) → (∀ j, aO S' a j = if j = i.toNatClampNeg then x else aO S a j) → P S') : stR S 3 a i x 2 P := by
  obtain ⟨hn, f, e, hf⟩ := h.a27 ha
  refine ⟨fun b hb => ?_, n, f, e, vin hi, k _ (h.set ha (hl a _ ha hm) (cellOk_27 rfl ⟨hn, _, rfl, fun j hj => ?_⟩)) (fun b j => fv_hset_inl e) (fun b j => ?_) (fun b j hb => aO_hset_ne hb) (fun j => ?_)⟩
  · have hb := hx b hb
    obtain ⟨ρ, hb⟩ := hb
    have := h.c2 hb
    unfold cl2 at this
    obtain ⟨_, _, _, _, _, _, e, -⟩ := this
    exact ⟨_, e⟩
  · intro b hb
    unfold va_up at hb
    split at hb
    · rename_i ej
      subst ej; exact hx b hb
    · exact hf j hj b hb
  · by_cases c : b = a
    · subst c; rw [aV_ref e, aV_ref (hset_self _ _ _)]
    · exact aV_hset_ne c
  · rw [aO_of (hset_self _ _ _), aO_of e]
    rfl
theorem St.a28 (h : St Γ Φ S) (ha : Γ a = some (28, id, n, z)) : arR 5 n (fun j b => isTx Γ b) (S a) := (h.1 a _ ha).2.2.2.2.2.2.2.2.2.2.2.2.2.2.2.2.2.2.2.2.1 rfl
theorem T_aR_28 {P : Option Nat → Prop} {i : Int32} (h : St Γ Φ S) (ha : Γ a = some (28, id, n, z)) (hi : 0 ≤ i.toInt ∧ i.toInt < n) (k : ∀ x, x = aO S a i.toNatClampNeg → (∀ b, x = some b → isTx Γ b) → P x) : aR S 5 a i P := by
  obtain ⟨hn, f, e, hf⟩ := h.a28 ha
  exact ⟨n, f, e, vin hi, k _ (aO_of e _).symm (hf _ (cl_lt hi))⟩
theorem T_stR_28 {P : hS → Prop} {i : Int32} {x : Option Nat} (h : St Γ Φ S) (hl : fre Γ Φ L) (ha : Γ a = some (28, id, n, z)) (hm : id ∈ L) (hi : 0 ≤ i.toInt ∧ i.toInt < n) (hx : ∀ b, x = some b → isTx Γ b) (k : ∀ S', St Γ Φ S' → sEq S S' → (∀ b j, aV S' b j = aV S b j) → (∀ b j, b ≠ a → aO S' b j = aO S b j) → (∀ j, aO S' a j = if j = i.toNatClampNeg then x else aO S a j) → P S') : stR S 5 a i x 10 P := by
  obtain ⟨hn, f, e, hf⟩ := h.a28 ha
  refine ⟨fun b hb => ?_, n, f, e, vin hi, k _ (h.set ha (hl a _ ha hm) (cellOk_28 rfl ⟨hn, _, rfl, fun j hj => ?_⟩)) (fun b j => fv_hset_inl e) (fun b j => ?_) (fun b j hb => aO_hset_ne hb) (fun j => ?_)⟩
  · have hb := hx b hb
    obtain ⟨c, n, ρ, hb, -⟩ := hb
    have := h.c10 hb
    unfold cl10 at this
    obtain ⟨_, _, _, _, _, _, _, e, -⟩ := this
    exact ⟨_, e⟩
  · intro b hb
    unfold va_up at hb
    split at hb
    · rename_i ej
      subst ej; exact hx b hb
    · exact hf j hj b hb
  · by_cases c : b = a
    · subst c; rw [aV_ref e, aV_ref (hset_self _ _ _)]
    · exact aV_hset_ne c
  · rw [aO_of (hset_self _ _ _), aO_of e]
    rfl
theorem dQ_s {b : Nat} {P : Nat → Prop} (h : P b) : dQ (some b) P := ⟨b, rfl, h⟩
theorem T_some {x : Option Nat} {p P : Nat → Prop} (h : ∀ b, x = some b → p b) (k : ∀ b, x = some b → p b → P b) : ∀ b, x = some b → P b := fun b hb => k b hb (h b hb)
theorem T_someE {x : Option Nat} {p : (Nat → Nat) → Nat → Prop} {P : Nat → Prop} (h : ∀ b, x = some b → ∃ ρ, p ρ b) (k : ∀ b, x = some b → ∀ ρ, p ρ b → P b) : ∀ b, x = some b → P b := fun b hb => (h b hb).elim (fun ρ hρ => k b hb ρ hρ)
theorem T_tSt {l : List Nat} {i : Int32} {P : Int32 → Prop} (hi : 0 ≤ i.toInt ∧ i.toInt < l.length) (k : ∀ x, P x) : tSt l i P := ⟨vin hi, k _⟩
theorem T_y {e : Int32} {P : Int32 → Prop} (k : ∀ y : Int32, y = e → y.toInt = e.toInt → P y) : ∀ y : Int32, y = e → P y := fun y h => k y h (congrArg Int32.toInt h)
end AR
