/-! BOTH SIDE BY SIDE, EXACTLY: the class at Tc, the reference at Tr -/
def HV (S : hS) (x o : Nat) (M : mS) (rc : Nat) (Tc : aS) (rr : Nat) (Tr : aS) : Prop := ∃ (Γ : kG) (ad : Nat → Nat) (ρ : Nat → Nat), mD o ad ∧ mOk M M ∧ ov S o ad M = S ∧ (∀ a τ, Γ a = some τ → cellOk Γ τ (S a)) ∧ (∀ a τ, Γ a = some τ → a ≠ o ∧ ∀ k ∈ mIx, a ≠ ad k) ∧ CR Γ S x ρ rc Tc ∧ RR M rr Tr ∧ aB Tr
theorem idH {Γ : kG} {Φ : kF} : ∀ a τ, Γ a = some τ → (∃ τ', Γ a = some τ') ∨ Φ a = none := fun _ τ h => Or.inl ⟨τ, h⟩
section HVS
variable {S : hS} {x o : Nat} {M : mS} {rc rr : Nat} {Tc Tr T : aS}
theorem CR.abd {Γ : kG} {ρ : Nat → Nat} (h : CR Γ S x ρ rc Tc) : aB Tc := by
  obtain ⟨hx, h1, h2, h3, h4, h5, h6, h7, h8, h9⟩ := h
  refine ⟨h1.2.2.1, fun k hk t ht => ?_, h9⟩
  obtain ⟨b, ρk, e1, e2⟩ := (h2 k hk).2 t ht
  exact e2.2.2.1
/-- the class's cells are as they were -/
def smc (Γ : kG) (S S' : hS) : Prop := ∀ a τ, Γ a = some τ → S' a = S a
theorem sV_smc {Γ : kG} {Φ : kF} {S' : hS} {b i : Nat} {ρ : Nat → Nat} (h : St Γ Φ S) (hb : Γ b = some (8, 8 + 10000 * i, i, 0, ρ)) (hs : smc Γ S S') : sV S' b ρ = sV S b ρ := by
  obtain ⟨kg, kr, ku, kw, km, kp, kb, kh, ka, kn, ke, kc, kd⟩ := sK h hb
  exact sV_congr (fun k => fI_cell (hs _ _ hb) k) (fun k => fI_cell (hs _ _ kg) k) (fun j => aV_cell (hs _ _ kr) j) (fun j => aV_cell (hs _ _ ku) j) (fun j => aV_cell (hs _ _ kw) j) (fun j => aV_cell (hs _ _ km) j) (fun j => aV_cell (hs _ _ kp) j) (fun j => aV_cell (hs _ _ kb) j) (fun j => aV_cell (hs _ _ kh) j) (fun j => aV_cell (hs _ _ ka) j) (fun j => aV_cell (hs _ _ kn) j) (fun j => aV_cell (hs _ _ ke) j) (fun j => aV_cell (hs _ _ kc) j) (fun j => aV_cell (hs _ _ kd) j)
theorem lwsS.smc {Γ : kG} {Φ : kF} {S' : hS} {b i : Nat} {ρ : Nat → Nat} {L : Nat → List pCl} {n : Int} (h : lwsS Γ S ρ L n) (hs : St Γ Φ S) (hb : Γ b = some (8, 8 + 10000 * i, i, 0, ρ)) (hm : smc Γ S S') : lwsS Γ S' ρ L n := by
  intro j hj
  obtain ⟨d, c, m, ρd, e1, e2, e3⟩ := h j hj
  refine ⟨d, c, m, ρd, by rw [aO_cell (hm _ _ (P_8_15 hs hb).2)]; exact e1, e2, ?_⟩
  exact TXT_congr e3 (fun j => fI_cell (hm _ _ e2) j) (funext fun j => aV_cell (hm _ _ (P_10_3 hs e2).2) j) (funext fun j => aV_cell (hm _ _ (P_10_4 hs e2).2) j) (funext fun j => aV_cell (hm _ _ (P_10_5 hs e2).2) j) (funext fun j => aV_cell (hm _ _ (P_10_6 hs e2).2) j)
theorem subR.smc {Γ : kG} {Φ : kF} {S' : hS} {b i : Nat} {ρ : Nat → Nat} {t : sW} (h : subR Γ S b i ρ t) (hs : St Γ Φ S) (hm : smc Γ S S') : subR Γ S' b i ρ t := by
  obtain ⟨h1, h2, h3, h4, h5⟩ := h
  exact ⟨h1, (sV_smc hs h1 hm).trans h2, h3, lwsS.smc h4 hs h1 hm, h5⟩
theorem leV_smc {Γ : kG} {Φ : kF} {S' : hS} {d i : Nat} {β : Nat → Nat} (h : St Γ Φ S) (hd : Γ d = some (2, 2 + 10000 * i, i, 0, β)) (hm : smc Γ S S') : leV S' d β = leV S d β := by
  obtain ⟨k0', k1', k2', k3'⟩ := leK h hd
  funext j
  unfold leV
  rw [fI_cell (hm _ _ hd), fI_cell (hm _ _ hd), aV_cell (hm _ _ k0'), aV_cell (hm _ _ k1'), aV_cell (hm _ _ k2'), aV_cell (hm _ _ k3')]
theorem lgS.smc {Γ : kG} {Φ : kF} {S' : hS} {g : Nat} {ρg : Nat → Nat} {us : uL} (h : lgS Γ S g ρg us) (hs : St Γ Φ S) (hg : Γ g = some (3, 3, 0, 0, ρg)) (hm : smc Γ S S') : lgS Γ S' g ρg us := by
  obtain ⟨nx, h1, h2, h3, h4, h5⟩ := h
  have wg := hm _ _ hg
  have w0 := hm _ _ (P_3_0 hs hg).2
  have w1 := hm _ _ (P_3_1 hs hg).2
  refine ⟨nx, h1, h2, by rw [fI_cell wg]; exact h3, by rw [fI_cell wg]; exact h4, fun k hk => ?_⟩
  obtain ⟨e1, e2, d, β, e3, e4, e5⟩ := h5 k hk
  refine ⟨by rw [aV_cell w1]; exact e1, e2, d, β, by rw [aO_cell w0]; exact e3, e4, fun j hj => ?_⟩
  rw [leV_smc hs e4 hm]
  exact e5 j hj
/-- where the class's cells are as they were, the class is at T -/
theorem CR.cells {Γ : kG} {ρ : Nat → Nat} {S' : hS} (h : CR Γ S x ρ rc T) (hs : ∀ a τ, Γ a = some τ → cellOk Γ τ (S a)) (hm : smc Γ S S') : CR Γ S' x ρ rc T := by
  have s0 : St Γ (fun _ => none) S := ⟨hs, fun a e ha => by cases ha⟩
  obtain ⟨hx, h1, h2, h3, h4, h5, h6, h7, h8⟩ := h
  have wx := hm _ _ hx
  have wi := hm _ _ (P_11_2 s0 hx).2
  have wt := hm _ _ (P_11_4 s0 hx).2
  have wb := hm _ _ (P_9_0 s0 (P_11_4 s0 hx).2).2
  refine ⟨hx, subR.smc h1 s0 hm, fun k hk => ⟨fun z => by rw [aO_cell wi]; exact (h2 k hk).1 z, fun t ht => ?_⟩, lgS.smc h3 s0 (P_11_3 s0 hx).2 hm, ⟨by rw [fI_cell wt]; exact h4.1, h4.2.1, fun i hi => by rw [aV_cell wb]; exact h4.2.2.1 i hi, h4.2.2.2⟩, fun k hk => by rw [fI_cell wx]; exact h5 k hk, fun j hj => by rw [aV_cell (hm _ _ (P_11_16 s0 hx).2)]; exact h6 j hj, fun j hj => by rw [aV_cell (hm _ _ (P_11_10 s0 hx).2)]; exact h7 j hj, h8⟩
  obtain ⟨b, ρk, y1, y2⟩ := (h2 k hk).2 t ht
  exact ⟨b, ρk, by rw [aO_cell wi]; exact y1, subR.smc y2 s0 hm⟩
theorem HV.abd (h : HV S x o M rc Tc rr Tr) : aB Tc := by
  obtain ⟨Γ, ad, ρ, hd, hM, hS, h1, h2, hC, hR, hA⟩ := h
  exact CR.abd hC
theorem HV.abT (h : HV S x o M rc Tc rr Tr) : aB Tr := by
  obtain ⟨Γ, ad, ρ, hd, hM, hS, h1, h2, hC, hR, hA⟩ := h
  exact hA
theorem HV.okl (h : HV S x o M rc Tc rr Tr) : ∀ j : Nat, (j : Int) < iR Tc.1.1 3 → okL (Tc.1.2 j) := by
  obtain ⟨Γ, ad, ρ, hd, hM, hS, h1, h2, hC, hR, hA⟩ := h
  exact hC.2.1.2.2.2.2
theorem HV.ref (h : HV S x o M rc Tc rr Tr) : ∃ ad, mD o ad ∧ mOk M M ∧ ov S o ad M = S ∧ RR M rr Tr ∧ aB Tr ∧ ∀ N rr' Tr', mOk N N → RR N rr' Tr' → aB Tr' → HV (ov S o ad N) x o N rc Tc rr' Tr' := by
  obtain ⟨Γ, ad, ρ, hd, hM, hS, h1, h2, hC, hR, hA⟩ := h
  have st : St Γ (fun _ => none) S := ⟨h1, fun a e ha => by cases ha⟩
  refine ⟨ad, hd, hM, hS, hR, hA, fun N rr' Tr' hN hR' hA' => ⟨Γ, ad, ρ, hd, hN, ov_eq ov_o (fun k hk => ov_a hd hk), fun a τ ha => ?_, h2, hC.cells h1 (fun a τ ha => ov_out (h2 a τ ha).1 (h2 a τ ha).2), hR', hA'⟩⟩
  rw [ov_out (h2 a τ ha).1 (h2 a τ ha).2]
  exact h1 a τ ha
theorem HV.clx (h : HV S x o M rc Tc rr Tr) (A : List Nat) : ∃ (Γ : kG) (Φ : kF) (ρ : Nat → Nat), St Γ Φ S ∧ fre Γ Φ A ∧ CR Γ S x ρ rc Tc ∧ ∀ Γ' S' rc' Tc', (∀ a τ, Γ' a = some τ → (∃ τ', Γ a = some τ') ∨ Φ a = none) → St Γ' Φ S' → (sam Γ A S S' → CR Γ' S' x ρ rc' Tc') → HV S' x o M rc' Tc' rr Tr := by
  obtain ⟨Γ, ad, ρ, hd, hM, hS, h1, h2, hC, hR, hA⟩ := h
  have so : S o = some (.inr (12, mFs ad M)) := by rw [← hS]; exact ov_o
  have sa : ∀ k ∈ mIx, S (ad k) = some (mC M k) := fun k hk => by
    have := ov_a (S := S) (M := M) hd hk
    rw [hS] at this; exact this
  have st : St Γ (fun _ => none) S := ⟨h1, fun a e ha => by cases ha⟩
  have go : Γ o = none := by
    cases e : Γ o with
    | none => rfl
    | some τ => exact absurd rfl (h2 o τ e).1
  have ga : ∀ k ∈ mIx, Γ (ad k) = none := fun k hk => by
    cases e : Γ (ad k) with
    | none => rfl
    | some τ => exact absurd rfl ((h2 (ad k) τ e).2 k hk)
  have fo : frz Γ (fun _ => none) S A o = S o := frz_out (fun τ e => by rw [go] at e; cases e)
  have fa : ∀ k ∈ mIx, frz Γ (fun _ => none) S A (ad k) = S (ad k) := fun k hk => frz_out (fun τ e => by rw [ga k hk] at e; cases e)
  refine ⟨Γ, frz Γ (fun _ => none) S A, ρ, frz_St st, frz_fre (L := A) (fun _ _ _ _ => rfl) (fun _ x => x), hC, fun Γ' S' rc' Tc' hg hs hT => ?_⟩
  obtain ⟨-, hsam⟩ := frz_un st hs
  have so' : S' o = some (.inr (12, mFs ad M)) := hs.2 o _ (fo.trans so)
  have sa' : ∀ k ∈ mIx, S' (ad k) = some (mC M k) := fun k hk => hs.2 _ _ ((fa k hk).trans (sa k hk))
  refine ⟨Γ', ad, ρ, hd, hM, ov_eq so' sa', hs.1, fun a τ ha => ⟨fun e => ?_, fun k hk e => ?_⟩, hT hsam, hR, hA⟩
  · subst e
    rcases hg _ _ ha with ⟨τ', c⟩ | c
    · rw [go] at c; cases c
    · rw [fo, so] at c; cases c
  · subst e
    rcases hg _ _ ha with ⟨τ', c⟩ | c
    · rw [ga k hk] at c; cases c
    · rw [fa k hk, sa k hk] at c; cases c
end HVS
