/-! THE CLASS'S DEEDS, EXACTLY: A BELL IS RUNG, A RING IS SOLD -/
theorem frz_fre2 {Γ : kG} {Φ : kF} {S : hS} {L L' : List Nat} (h : fre Γ Φ L') (hs : ∀ x ∈ L', x ∈ L) : fre Γ (frz Γ Φ S L) L' := fun a τ ha hm => by
  rw [frz_in ha (hs _ hm)]
  exact h a τ ha hm
theorem wI_add {x y : Int32} {z w : Int} (hx : x.toInt = z) (hy : y.toInt = w) (hz : -100000 ≤ z ∧ z ≤ 100000) (hw : -100000 ≤ w ∧ w ≤ 100000) : x + y = wI (z + w) := wI_of (by rw [fb_addI (by omega) (by omega), hx, hy])
theorem wI_sub {x y : Int32} {z w : Int} (hx : x.toInt = z) (hy : y.toInt = w) (hz : -100000 ≤ z ∧ z ≤ 100000) (hw : -100000 ≤ w ∧ w ≤ 100000) : x - y = wI (z - w) := wI_of (by rw [fb_subI (by omega) (by omega), hx, hy])
theorem wI_min {x m : Int32} : (if m < x then m else x) = wI (min x.toInt m.toInt) := wI_of (by
  by_cases c : m < x
  · have d := c
    rw [Int32.lt_iff_toInt_lt] at d
    rw [if_pos c]
    omega
  · have d := c
    rw [Int32.lt_iff_toInt_lt] at d
    rw [if_neg c]
    omega)
/-- what a deed writes of a suburb, and of the asker -/
def dbNm (i : Nat) : List Nat := [101, 700, 2 + 10000 * i, 300 + 10000 * i, 301 + 10000 * i, 302 + 10000 * i, 303 + 10000 * i]
def deNm (i : Nat) : List Nat := lgNm ++ dbNm i
theorem dbNm_lg {i : Nat} (hi : i < 10) : 3 ∉ dbNm i ∧ 400 ∉ dbNm i ∧ 401 ∉ dbNm i ∧ ∀ j, j < 16 → ∀ x ∈ leN (10 + j), x ∉ dbNm i := by
  refine ⟨by simp [dbNm]; omega, by simp [dbNm]; omega, by simp [dbNm]; omega, fun j hj x hx => ?_⟩
  simp only [leN, dbNm, List.mem_cons, List.not_mem_nil, or_false] at hx ⊢
  omega
theorem lgNm_sub {i x : Nat} (h : x ∈ lgNm) : x ∈ deNm i := List.mem_append.mpr (Or.inl h)
theorem dbNm_sub {i x : Nat} (h : x ∈ dbNm i) : x ∈ deNm i := List.mem_append.mpr (Or.inr h)
theorem lgNm_i {i : Nat} (hi : i < 10) {y : Nat} (hy : y ≠ 3 ∧ y ≠ 400 ∧ y ≠ 401) (hj : ∀ j, j < 16 → y ≠ 2 + 10000 * (10 + j) ∧ y ≠ 300 + 10000 * (10 + j) ∧ y ≠ 301 + 10000 * (10 + j) ∧ y ≠ 302 + 10000 * (10 + j) ∧ y ≠ 303 + 10000 * (10 + j)) : y ∉ lgNm := lgNm_no (fun j j1 => by
  have := hj j j1
  simp only [leN, List.mem_cons, List.not_mem_nil, or_false]
  omega) hy
section DE
variable {Γ : kG} {Φ : kF} {S : hS} {a b e g i u : Nat} {ρ ρe ρg : Nat → Nat} {us : uL} {L : Nat → List pCl}
theorem lgN_k (h : St Γ Φ S) (hg : Γ g = some (3, 3, 0, 0, ρg)) : lgN S g = cN (aO S (ρg 0)) 16 := by
  unfold lgN
  rw [(P_3_0 h hg).1]
theorem lgJ.sm {Γ' : kG} {Ψ : kF} {S1 S2 : hS} {A : List Nat} {lg : Option Nat} {us : uL} (h : lgJ ρg Γ' S S1 lg us) (hk : ∀ g, lg = some g → Γ' g = some (3, 3, 0, 0, ρg)) (hs : St Γ' Ψ S1) (hs2 : St Γ' Ψ S2) (hm : sam Γ' A S1 S2) (hA : 3 ∉ A ∧ 400 ∉ A ∧ 401 ∉ A ∧ ∀ j, j < 16 → ∀ x ∈ leN (10 + j), x ∉ A) : lgJ ρg Γ' S S2 lg us := by
  intro g hg
  obtain ⟨n1, n2⟩ := h g hg
  have kg := hk g hg
  refine ⟨?_, n2.sm hs kg hm hA⟩
  have w := hm.at hs (P_3_0 hs kg).2 hA.2.1
  rw [lgN_k hs2 kg, cN_congr 16 (fun j _ => aO_cell w j), ← lgN_k hs kg]
  exact n1
theorem lgI.fz {lg : Option Nat} {Ψ : kF} (h : lgI ρg Γ Φ S u lg us) (hf : fre Γ Φ lgNm → fre Γ Ψ lgNm) : lgI ρg Γ Ψ S u lg us := fun g hg => by
  obtain ⟨h1, h2, h3, h4⟩ := h g hg
  exact ⟨h1, h2, lg_fre (hf (fre_lg h3)), h4⟩
theorem lwsS.gr {Γ' : kG} {n : Int} (h : lwsS Γ S ρ L n) (hg : gro Γ Φ Γ') : lwsS Γ' S ρ L n := fun j hj => by
  obtain ⟨d, c, m, ρd, e1, e2, e3⟩ := h j hj
  exact ⟨d, c, m, ρd, e1, hg.1 _ _ e2, e3⟩
/-- behind a note: all is asked as before -/
theorem askS.nt {Γ' : kG} {S' : hS} {ρa : Nat → Nat} (hi : i < 10) (h : askS Γ S a b i ρa ρ L) (hs : St Γ Φ S) (hg : gro Γ Φ Γ') (hm : sam Γ lgNm S S') : askS Γ' S' a b i ρa ρ L ∧ sV S' b ρ = sV S b ρ := by
  obtain ⟨h1, h2, h3, h4, h5⟩ := h
  have no : ∀ y, (y < 10000 ∧ y ≠ 3 ∧ y ≠ 400 ∧ y ≠ 401) ∨ (y % 10000 < 10000 ∧ y / 10000 = i ∧ y ≠ 3 ∧ y ≠ 400 ∧ y ≠ 401) → y ∉ lgNm := fun y hy => lgNm_i hi (by omega) (fun j hj => by omega)
  have e : sV S' b ρ = sV S b ρ := sV_sam hs h2 hm ⟨no _ (by omega), no _ (by omega), no _ (by omega), no _ (by omega), no _ (by omega), no _ (by omega), no _ (by omega), no _ (by omega), no _ (by omega), no _ (by omega), no _ (by omega), no _ (by omega), no _ (by omega), no _ (by omega)⟩
  refine ⟨⟨hg.1 _ _ h1, hg.1 _ _ h2, by rw [e]; exact h3, ?_, by rw [e]; exact h5⟩, e⟩
  rw [e]
  exact (h4.sm hs h2 hm ⟨no _ (by omega), no _ (by omega), no _ (by omega), no _ (by omega), no _ (by omega), no _ (by omega)⟩).gr hg
/-- a deed: a note, then what writes the suburb alone -/
theorem kx_deed {q : hS → Prop} {lg : Option Nat} {kd : Nat} {t : Int32} (h : St Γ Φ S) (hf : fre Γ Φ (dbNm i)) (hb : Γ b = some (8, 8 + 10000 * i, i, 0, ρ)) (hi : i < 10) (hl : lgI ρg Γ Φ S u lg us) (kd3 : kd ≤ 3) (et : t = nI kd) (k : ∀ Γ' Ψ S1, gro Γ Φ Γ' → St Γ' Ψ S1 → fre Γ' Ψ (dbNm i) → (∀ S2, St Γ' Ψ S2 → St Γ' Φ S2 ∧ lgJ ρg Γ' S S2 lg (pushU us (kd, sV S b ρ)) ∧ sam Γ (deNm i) S S2) → (∀ {ρa : Nat → Nat} {a : Nat}, askS Γ S a b i ρa ρ L → askS Γ' S1 a b i ρa ρ L) → sV S1 b ρ = sV S b ρ → q S1) : w_X1_note q S u lg t (ρ 0) := by
  have hst := frz_St (L := deNm i) h
  have hfr : fre Γ (frz Γ Φ S (deNm i)) (dbNm i) := frz_fre2 hf (fun _ x => dbNm_sub x)
  have hl0 : lgI ρg Γ (frz Γ Φ S (deNm i)) S u lg us := hl.fz (fun z => frz_fre2 z (fun _ x => lgNm_sub x))
  have back : ∀ {Γ' : kG} {S2 : hS}, St Γ' (frz Γ Φ S (deNm i)) S2 → St Γ' Φ S2 ∧ sam Γ (deNm i) S S2 := fun h' => frz_un h h'
  have bg : ∀ {Γ' : kG}, gro Γ (frz Γ Φ S (deNm i)) Γ' → gro Γ Φ Γ' := fun z => frz_gro h z
  generalize frz Γ Φ S (deNm i) = Ψ0 at hst hfr hl0 back bg
  refine kx_X1_note hst hb hi hl0 kd3 et (fun Γ' S1 g1 h1 j1 m1 => ?_)
  have hf1 : fre Γ' (frz Γ' Ψ0 S1 (dbNm i)) (dbNm i) := frz_fre (hfr.gr g1) (fun _ x => x)
  have kg : ∀ g, lg = some g → Γ' g = some (3, 3, 0, 0, ρg) := fun g hg => g1.1 _ _ (hl g hg).1
  refine k Γ' (frz Γ' Ψ0 S1 (dbNm i)) S1 (bg g1) (frz_St h1) hf1 (fun S2 h2 => ?_) (fun hA => (askS.nt hi hA hst g1 m1).1) ?_
  · obtain ⟨h3, m3⟩ := frz_un h1 h2
    obtain ⟨h4, m4⟩ := back h3
    exact ⟨h4, j1.sm kg h1 h3 m3 (dbNm_lg hi), m4⟩
  · have no : ∀ y, (y < 10000 ∧ y ≠ 3 ∧ y ≠ 400 ∧ y ≠ 401) ∨ (y % 10000 < 10000 ∧ y / 10000 = i ∧ y ≠ 3 ∧ y ≠ 400 ∧ y ≠ 401) → y ∉ lgNm := fun y hy => lgNm_i hi (by omega) (fun j hj => by omega)
    exact sV_sam hst hb m1 ⟨no _ (by omega), no _ (by omega), no _ (by omega), no _ (by omega), no _ (by omega), no _ (by omega), no _ (by omega), no _ (by omega), no _ (by omega), no _ (by omega), no _ (by omega), no _ (by omega), no _ (by omega), no _ (by omega)⟩
end DE
