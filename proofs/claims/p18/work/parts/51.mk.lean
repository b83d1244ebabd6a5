/-! LAYER 2, the class: what is made -/
/-- more cells have kinds: none that is kept -/
def gro (Γ : kG) (Φ : kF) (Γ' : kG) : Prop := (∀ a τ, Γ a = some τ → Γ' a = some τ) ∧ ∀ a τ, Γ' a = some τ → Γ a = some τ ∨ Φ a = none
theorem gro_rf {Γ : kG} {Φ : kF} : gro Γ Φ Γ := ⟨fun _ _ h => h, fun _ _ h => Or.inl h⟩
theorem gro.tr {Γ Γ' Γ2 : kG} {Φ : kF} (h : gro Γ Φ Γ') (h' : gro Γ' Φ Γ2) : gro Γ Φ Γ2 := ⟨fun a τ ha => h'.1 a τ (h.1 a τ ha), fun a τ ha => by
  rcases h'.2 a τ ha with c | c
  · exact h.2 a τ c
  · exact Or.inr c⟩
theorem fre.gr {Γ Γ' : kG} {Φ : kF} {L : List Nat} (h : fre Γ Φ L) (g : gro Γ Φ Γ') : fre Γ' Φ L := fun a τ ha hm => by
  rcases g.2 a τ ha with c | c
  · exact h a τ c hm
  · exact c
/-- some cells kept too -/
def fzk (Φ : kF) (S : hS) (l : List Nat) : kF := fun b => if b ∈ l then S b else Φ b
theorem St_fz {Γ : kG} {Φ : kF} {S : hS} (h : St Γ Φ S) (l : List Nat) : St Γ (fzk Φ S l) S := ⟨h.1, fun a e ha => by
  unfold fzk at ha
  split at ha
  · exact ha
  · exact h.2 a e ha⟩
theorem St_unfz {Γ Γ' : kG} {Φ : kF} {S S' : hS} {l : List Nat} (h0 : St Γ Φ S) (h : St Γ' (fzk Φ S l) S') : St Γ' Φ S' := ⟨h.1, fun a e ha => by
  refine h.2 a e ?_
  unfold fzk
  split
  · exact h0.2 a e ha
  · exact ha⟩
theorem fz_eq {Γ' : kG} {Φ : kF} {S S' : hS} {l : List Nat} (h : St Γ' (fzk Φ S l) S') {b : Nat} {e : hE} (hb : b ∈ l) (he : S b = some e) : S' b = S b := by
  rw [he]
  refine h.2 b e ?_
  unfold fzk
  rw [if_pos hb]
  exact he
theorem fre_fz {Γ : kG} {Φ : kF} {S : hS} {L l : List Nat} (h : fre Γ Φ L) (hl : ∀ b ∈ l, ∀ τ, Γ b = some τ → τ.2.1 ∉ L) : fre Γ (fzk Φ S l) L := fun a τ ha hm => by
  unfold fzk
  split
  · rename_i c
    exact absurd hm (hl a c τ ha)
  · exact h a τ ha hm
theorem gro_unfz {Γ Γ' : kG} {Φ : kF} {S : hS} {l : List Nat} (hl : ∀ b ∈ l, S b ≠ none) (g : gro Γ (fzk Φ S l) Γ') : gro Γ Φ Γ' := ⟨g.1, fun a τ ha => by
  rcases g.2 a τ ha with c | c
  · exact Or.inl c
  · unfold fzk at c
    split at c
    · rename_i m
      exact absurd c (hl a m)
    · exact Or.inr c⟩
theorem cl0_mono {Γ Γ' : kG} {τ : kT} {e : Option hE} (hg : ∀ a τ, Γ a = some τ → Γ' a = some τ) (h : cl0 Γ τ e) : cl0 Γ' τ e := by
  obtain ⟨b0, b1, e, hc⟩ := h
  exact ⟨b0, b1, e, ⟨hc.1.1, hg _ _ hc.1.2⟩, ⟨hc.2.1, hg _ _ hc.2.2⟩⟩
theorem cl1_mono {Γ Γ' : kG} {τ : kT} {e : Option hE} (hg : ∀ a τ, Γ a = some τ → Γ' a = some τ) (h : cl1 Γ τ e) : cl1 Γ' τ e := by
  obtain ⟨b0, b1, b2, b3, b4, b5, e, hc⟩ := h
  exact ⟨b0, b1, b2, b3, b4, b5, e, ⟨hc.1.1, hg _ _ hc.1.2⟩, ⟨hc.2.1.1, hg _ _ hc.2.1.2⟩, ⟨hc.2.2.1, hg _ _ hc.2.2.2⟩⟩
theorem cl2_mono {Γ Γ' : kG} {τ : kT} {e : Option hE} (hg : ∀ a τ, Γ a = some τ → Γ' a = some τ) (h : cl2 Γ τ e) : cl2 Γ' τ e := by
  obtain ⟨b0, b1, b2, b3, b4, b5, e, hc⟩ := h
  exact ⟨b0, b1, b2, b3, b4, b5, e, ⟨hc.1.1, hg _ _ hc.1.2⟩, ⟨hc.2.1.1, hg _ _ hc.2.1.2⟩, ⟨hc.2.2.1.1, hg _ _ hc.2.2.1.2⟩, ⟨hc.2.2.2.1, hg _ _ hc.2.2.2.2⟩⟩
theorem cl3_mono {Γ Γ' : kG} {τ : kT} {e : Option hE} (hg : ∀ a τ, Γ a = some τ → Γ' a = some τ) (h : cl3 Γ τ e) : cl3 Γ' τ e := by
  obtain ⟨b0, b1, b2, b3, e, hc⟩ := h
  exact ⟨b0, b1, b2, b3, e, ⟨hc.1.1, hg _ _ hc.1.2⟩, ⟨hc.2.1.1, hg _ _ hc.2.1.2⟩, hc.2.2⟩
theorem cl4_mono {Γ Γ' : kG} {τ : kT} {e : Option hE} (hg : ∀ a τ, Γ a = some τ → Γ' a = some τ) (h : cl4 Γ τ e) : cl4 Γ' τ e := by
  obtain ⟨b0, b1, b2, b3, b4, b5, b6, b7, b8, b9, b10, e, hc⟩ := h
  exact ⟨b0, b1, b2, b3, b4, b5, b6, b7, b8, b9, b10, e, ⟨hc.1.1, hg _ _ hc.1.2⟩, ⟨hc.2.1.1, hg _ _ hc.2.1.2⟩, hc.2.2.1, ⟨hc.2.2.2.1.1, hg _ _ hc.2.2.2.1.2⟩, ⟨hc.2.2.2.2.1.1, hg _ _ hc.2.2.2.2.1.2⟩, ⟨hc.2.2.2.2.2.1.1, hg _ _ hc.2.2.2.2.2.1.2⟩, ⟨hc.2.2.2.2.2.2.1.1, hg _ _ hc.2.2.2.2.2.2.1.2⟩, ⟨hc.2.2.2.2.2.2.2.1.1, hg _ _ hc.2.2.2.2.2.2.2.1.2⟩, hc.2.2.2.2.2.2.2.2⟩
theorem cl5_mono {Γ Γ' : kG} {τ : kT} {e : Option hE} (hg : ∀ a τ, Γ a = some τ → Γ' a = some τ) (h : cl5 Γ τ e) : cl5 Γ' τ e := by
  obtain ⟨b0, b1, b2, b3, e, hc⟩ := h
  exact ⟨b0, b1, b2, b3, e, ⟨hc.1.1, hg _ _ hc.1.2⟩, ⟨hc.2.1, hg _ _ hc.2.2⟩⟩
theorem cl6_mono {Γ Γ' : kG} {τ : kT} {e : Option hE} (hg : ∀ a τ, Γ a = some τ → Γ' a = some τ) (h : cl6 Γ τ e) : cl6 Γ' τ e := by
  obtain ⟨b0, e, hc⟩ := h
  exact ⟨b0, e, ⟨hc.1, hg _ _ hc.2⟩⟩
theorem cl7_mono {Γ Γ' : kG} {τ : kT} {e : Option hE} (hg : ∀ a τ, Γ a = some τ → Γ' a = some τ) (h : cl7 Γ τ e) : cl7 Γ' τ e := by
  obtain ⟨b0, b1, b2, b3, b4, e, hc⟩ := h
  exact ⟨b0, b1, b2, b3, b4, e, ⟨hc.1.1, hg _ _ hc.1.2⟩, ⟨hc.2.1.1, hg _ _ hc.2.1.2⟩, ⟨hc.2.2.1.1, hg _ _ hc.2.2.1.2⟩, ⟨hc.2.2.2.1.1, hg _ _ hc.2.2.2.1.2⟩, ⟨hc.2.2.2.2.1, hg _ _ hc.2.2.2.2.2⟩⟩
theorem cl8_mono {Γ Γ' : kG} {τ : kT} {e : Option hE} (hg : ∀ a τ, Γ a = some τ → Γ' a = some τ) (h : cl8 Γ τ e) : cl8 Γ' τ e := by
  obtain ⟨b0, b1, b2, b3, b4, b5, b6, b7, b8, b9, b10, b11, b12, b13, b14, b15, b16, e, hc⟩ := h
  exact ⟨b0, b1, b2, b3, b4, b5, b6, b7, b8, b9, b10, b11, b12, b13, b14, b15, b16, e, ⟨hc.1.1, hg _ _ hc.1.2⟩, hc.2.1, ⟨hc.2.2.1.1, hg _ _ hc.2.2.1.2⟩, ⟨hc.2.2.2.1.1, hg _ _ hc.2.2.2.1.2⟩, hc.2.2.2.2.1, ⟨hc.2.2.2.2.2.1.1, hg _ _ hc.2.2.2.2.2.1.2⟩, ⟨hc.2.2.2.2.2.2.1.1, hg _ _ hc.2.2.2.2.2.2.1.2⟩, ⟨hc.2.2.2.2.2.2.2.1.1, hg _ _ hc.2.2.2.2.2.2.2.1.2⟩, ⟨hc.2.2.2.2.2.2.2.2.1.1, hg _ _ hc.2.2.2.2.2.2.2.2.1.2⟩, hc.2.2.2.2.2.2.2.2.2.1, ⟨hc.2.2.2.2.2.2.2.2.2.2.1.1, hg _ _ hc.2.2.2.2.2.2.2.2.2.2.1.2⟩, ⟨hc.2.2.2.2.2.2.2.2.2.2.2.1.1, hg _ _ hc.2.2.2.2.2.2.2.2.2.2.2.1.2⟩, hc.2.2.2.2.2.2.2.2.2.2.2.2.1, ⟨hc.2.2.2.2.2.2.2.2.2.2.2.2.2.1, hg _ _ hc.2.2.2.2.2.2.2.2.2.2.2.2.2.2⟩⟩
theorem cl9_mono {Γ Γ' : kG} {τ : kT} {e : Option hE} (hg : ∀ a τ, Γ a = some τ → Γ' a = some τ) (h : cl9 Γ τ e) : cl9 Γ' τ e := by
  obtain ⟨b0, b1, b2, b3, b4, b5, e, hc⟩ := h
  exact ⟨b0, b1, b2, b3, b4, b5, e, ⟨hc.1.1, hg _ _ hc.1.2⟩, hc.2.1, hc.2.2.1, hc.2.2.2.1, hc.2.2.2.2⟩
theorem cl10_mono {Γ Γ' : kG} {τ : kT} {e : Option hE} (hg : ∀ a τ, Γ a = some τ → Γ' a = some τ) (h : cl10 Γ τ e) : cl10 Γ' τ e := by
  obtain ⟨b0, b1, b2, b3, b4, b5, b6, e, hc⟩ := h
  exact ⟨b0, b1, b2, b3, b4, b5, b6, e, hc.1, hc.2.1, hc.2.2.1, ⟨hc.2.2.2.1.1, hg _ _ hc.2.2.2.1.2⟩, ⟨hc.2.2.2.2.1.1, hg _ _ hc.2.2.2.2.1.2⟩, ⟨hc.2.2.2.2.2.1.1, hg _ _ hc.2.2.2.2.2.1.2⟩, ⟨hc.2.2.2.2.2.2.1.1, hg _ _ hc.2.2.2.2.2.2.1.2⟩, hc.2.2.2.2.2.2.2.1, hc.2.2.2.2.2.2.2.2⟩
theorem cl11_mono {Γ Γ' : kG} {τ : kT} {e : Option hE} (hg : ∀ a τ, Γ a = some τ → Γ' a = some τ) (h : cl11 Γ τ e) : cl11 Γ' τ e := by
  obtain ⟨b0, b1, b2, b3, b4, b5, b6, b7, b8, b9, b10, b11, b12, b13, b14, b15, b16, b17, e, hc⟩ := h
  exact ⟨b0, b1, b2, b3, b4, b5, b6, b7, b8, b9, b10, b11, b12, b13, b14, b15, b16, b17, e, ⟨hc.1.1, hg _ _ hc.1.2⟩, ⟨hc.2.1.1, hg _ _ hc.2.1.2⟩, ⟨hc.2.2.1.1, hg _ _ hc.2.2.1.2⟩, ⟨hc.2.2.2.1.1, hg _ _ hc.2.2.2.1.2⟩, ⟨hc.2.2.2.2.1.1, hg _ _ hc.2.2.2.2.1.2⟩, ⟨hc.2.2.2.2.2.1.1, hg _ _ hc.2.2.2.2.2.1.2⟩, ⟨hc.2.2.2.2.2.2.1.1, hg _ _ hc.2.2.2.2.2.2.1.2⟩, ⟨hc.2.2.2.2.2.2.2.1.1, hg _ _ hc.2.2.2.2.2.2.2.1.2⟩, ⟨hc.2.2.2.2.2.2.2.2.1.1, hg _ _ hc.2.2.2.2.2.2.2.2.1.2⟩, ⟨hc.2.2.2.2.2.2.2.2.2.1.1, hg _ _ hc.2.2.2.2.2.2.2.2.2.1.2⟩, ⟨hc.2.2.2.2.2.2.2.2.2.2.1.1, hg _ _ hc.2.2.2.2.2.2.2.2.2.2.1.2⟩, hc.2.2.2.2.2.2.2.2.2.2.2.1, hc.2.2.2.2.2.2.2.2.2.2.2.2.1, ⟨hc.2.2.2.2.2.2.2.2.2.2.2.2.2.1.1, hg _ _ hc.2.2.2.2.2.2.2.2.2.2.2.2.2.1.2⟩, hc.2.2.2.2.2.2.2.2.2.2.2.2.2.2.1, hc.2.2.2.2.2.2.2.2.2.2.2.2.2.2.2⟩
theorem isTx_mono {Γ Γ' : kG} {b : Nat} (hg : ∀ a τ, Γ a = some τ → Γ' a = some τ) (h : isTx Γ b) : isTx Γ' b := by
  obtain ⟨c, n, ρ, h1, h2⟩ := h
  exact ⟨c, n, ρ, hg _ _ h1, h2⟩
theorem arR_mono {kd n : Nat} {p p' : Nat → Nat → Prop} {e : Option hE} (hp : ∀ j b, p j b → p' j b) (h : arR kd n p e) : arR kd n p' e := by
  obtain ⟨hn, f, e, hf⟩ := h
  exact ⟨hn, f, e, fun j hj b hb => hp j b (hf j hj b hb)⟩
theorem cellOk_mono {Γ Γ' : kG} {τ : kT} {e : Option hE} (hg : ∀ a τ, Γ a = some τ → Γ' a = some τ) (h : cellOk Γ τ e) : cellOk Γ' τ e :=
  ⟨fun z => cl0_mono hg (h.1 z), fun z => cl1_mono hg (h.2.1 z), fun z => cl2_mono hg (h.2.2.1 z), fun z => cl3_mono hg (h.2.2.2.1 z), fun z => cl4_mono hg (h.2.2.2.2.1 z), fun z => cl5_mono hg (h.2.2.2.2.2.1 z), fun z => cl6_mono hg (h.2.2.2.2.2.2.1 z), fun z => cl7_mono hg (h.2.2.2.2.2.2.2.1 z), fun z => cl8_mono hg (h.2.2.2.2.2.2.2.2.1 z), fun z => cl9_mono hg (h.2.2.2.2.2.2.2.2.2.1 z), fun z => cl10_mono hg (h.2.2.2.2.2.2.2.2.2.2.1 z), fun z => cl11_mono hg (h.2.2.2.2.2.2.2.2.2.2.2.1 z), h.2.2.2.2.2.2.2.2.2.2.2.2.1, h.2.2.2.2.2.2.2.2.2.2.2.2.2.1, h.2.2.2.2.2.2.2.2.2.2.2.2.2.2.1, h.2.2.2.2.2.2.2.2.2.2.2.2.2.2.2.1, h.2.2.2.2.2.2.2.2.2.2.2.2.2.2.2.2.1, h.2.2.2.2.2.2.2.2.2.2.2.2.2.2.2.2.2.1, fun z => arR_mono (fun _ b hb => hb.elim (fun ρ hρ => ⟨ρ, hg _ _ hρ⟩)) (h.2.2.2.2.2.2.2.2.2.2.2.2.2.2.2.2.2.2.1 z), fun z => arR_mono (fun _ b hb => hb.elim (fun ρ hρ => ⟨ρ, hg _ _ hρ⟩)) (h.2.2.2.2.2.2.2.2.2.2.2.2.2.2.2.2.2.2.2.1 z), fun z => arR_mono (fun _ b hb => isTx_mono hg hb) (h.2.2.2.2.2.2.2.2.2.2.2.2.2.2.2.2.2.2.2.2.1 z), h.2.2.2.2.2.2.2.2.2.2.2.2.2.2.2.2.2.2.2.2.2⟩
theorem cl0_re {Γ Γ' : kG} {τ : kT} {e : Option hE} (hg : ∀ a (τ : kT), τ.1 ≠ 11 → Γ a = some τ → Γ' a = some τ) (h : cl0 Γ τ e) : cl0 Γ' τ e := by
  obtain ⟨b0, b1, e, hc⟩ := h
  exact ⟨b0, b1, e, ⟨hc.1.1, hg _ _ (show (6 : Nat) ≠ 11 from by decide) hc.1.2⟩, ⟨hc.2.1, hg _ _ (show (20 : Nat) ≠ 11 from by decide) hc.2.2⟩⟩
theorem cl1_re {Γ Γ' : kG} {τ : kT} {e : Option hE} (hg : ∀ a (τ : kT), τ.1 ≠ 11 → Γ a = some τ → Γ' a = some τ) (h : cl1 Γ τ e) : cl1 Γ' τ e := by
  obtain ⟨b0, b1, b2, b3, b4, b5, e, hc⟩ := h
  exact ⟨b0, b1, b2, b3, b4, b5, e, ⟨hc.1.1, hg _ _ (show (0 : Nat) ≠ 11 from by decide) hc.1.2⟩, ⟨hc.2.1.1, hg _ _ (show (6 : Nat) ≠ 11 from by decide) hc.2.1.2⟩, ⟨hc.2.2.1, hg _ _ (show (20 : Nat) ≠ 11 from by decide) hc.2.2.2⟩⟩
theorem cl2_re {Γ Γ' : kG} {τ : kT} {e : Option hE} (hg : ∀ a (τ : kT), τ.1 ≠ 11 → Γ a = some τ → Γ' a = some τ) (h : cl2 Γ τ e) : cl2 Γ' τ e := by
  obtain ⟨b0, b1, b2, b3, b4, b5, e, hc⟩ := h
  exact ⟨b0, b1, b2, b3, b4, b5, e, ⟨hc.1.1, hg _ _ (show (20 : Nat) ≠ 11 from by decide) hc.1.2⟩, ⟨hc.2.1.1, hg _ _ (show (20 : Nat) ≠ 11 from by decide) hc.2.1.2⟩, ⟨hc.2.2.1.1, hg _ _ (show (20 : Nat) ≠ 11 from by decide) hc.2.2.1.2⟩, ⟨hc.2.2.2.1, hg _ _ (show (20 : Nat) ≠ 11 from by decide) hc.2.2.2.2⟩⟩
theorem cl3_re {Γ Γ' : kG} {τ : kT} {e : Option hE} (hg : ∀ a (τ : kT), τ.1 ≠ 11 → Γ a = some τ → Γ' a = some τ) (h : cl3 Γ τ e) : cl3 Γ' τ e := by
  obtain ⟨b0, b1, b2, b3, e, hc⟩ := h
  exact ⟨b0, b1, b2, b3, e, ⟨hc.1.1, hg _ _ (show (27 : Nat) ≠ 11 from by decide) hc.1.2⟩, ⟨hc.2.1.1, hg _ _ (show (20 : Nat) ≠ 11 from by decide) hc.2.1.2⟩, hc.2.2⟩
theorem cl4_re {Γ Γ' : kG} {τ : kT} {e : Option hE} (hg : ∀ a (τ : kT), τ.1 ≠ 11 → Γ a = some τ → Γ' a = some τ) (h : cl4 Γ τ e) : cl4 Γ' τ e := by
  obtain ⟨b0, b1, b2, b3, b4, b5, b6, b7, b8, b9, b10, e, hc⟩ := h
  exact ⟨b0, b1, b2, b3, b4, b5, b6, b7, b8, b9, b10, e, ⟨hc.1.1, hg _ _ (show (20 : Nat) ≠ 11 from by decide) hc.1.2⟩, ⟨hc.2.1.1, hg _ _ (show (20 : Nat) ≠ 11 from by decide) hc.2.1.2⟩, hc.2.2.1, ⟨hc.2.2.2.1.1, hg _ _ (show (20 : Nat) ≠ 11 from by decide) hc.2.2.2.1.2⟩, ⟨hc.2.2.2.2.1.1, hg _ _ (show (20 : Nat) ≠ 11 from by decide) hc.2.2.2.2.1.2⟩, ⟨hc.2.2.2.2.2.1.1, hg _ _ (show (20 : Nat) ≠ 11 from by decide) hc.2.2.2.2.2.1.2⟩, ⟨hc.2.2.2.2.2.2.1.1, hg _ _ (show (20 : Nat) ≠ 11 from by decide) hc.2.2.2.2.2.2.1.2⟩, ⟨hc.2.2.2.2.2.2.2.1.1, hg _ _ (show (20 : Nat) ≠ 11 from by decide) hc.2.2.2.2.2.2.2.1.2⟩, hc.2.2.2.2.2.2.2.2⟩
theorem cl5_re {Γ Γ' : kG} {τ : kT} {e : Option hE} (hg : ∀ a (τ : kT), τ.1 ≠ 11 → Γ a = some τ → Γ' a = some τ) (h : cl5 Γ τ e) : cl5 Γ' τ e := by
  obtain ⟨b0, b1, b2, b3, e, hc⟩ := h
  exact ⟨b0, b1, b2, b3, e, ⟨hc.1.1, hg _ _ (show (10 : Nat) ≠ 11 from by decide) hc.1.2⟩, ⟨hc.2.1, hg _ _ (show (9 : Nat) ≠ 11 from by decide) hc.2.2⟩⟩
theorem cl6_re {Γ Γ' : kG} {τ : kT} {e : Option hE} (hg : ∀ a (τ : kT), τ.1 ≠ 11 → Γ a = some τ → Γ' a = some τ) (h : cl6 Γ τ e) : cl6 Γ' τ e := by
  obtain ⟨b0, e, hc⟩ := h
  exact ⟨b0, e, ⟨hc.1, hg _ _ (show (20 : Nat) ≠ 11 from by decide) hc.2⟩⟩
theorem cl7_re {Γ Γ' : kG} {τ : kT} {e : Option hE} (hg : ∀ a (τ : kT), τ.1 ≠ 11 → Γ a = some τ → Γ' a = some τ) (h : cl7 Γ τ e) : cl7 Γ' τ e := by
  obtain ⟨b0, b1, b2, b3, b4, e, hc⟩ := h
  exact ⟨b0, b1, b2, b3, b4, e, ⟨hc.1.1, hg _ _ (show (20 : Nat) ≠ 11 from by decide) hc.1.2⟩, ⟨hc.2.1.1, hg _ _ (show (20 : Nat) ≠ 11 from by decide) hc.2.1.2⟩, ⟨hc.2.2.1.1, hg _ _ (show (20 : Nat) ≠ 11 from by decide) hc.2.2.1.2⟩, ⟨hc.2.2.2.1.1, hg _ _ (show (20 : Nat) ≠ 11 from by decide) hc.2.2.2.1.2⟩, ⟨hc.2.2.2.2.1, hg _ _ (show (25 : Nat) ≠ 11 from by decide) hc.2.2.2.2.2⟩⟩
theorem cl8_re {Γ Γ' : kG} {τ : kT} {e : Option hE} (hg : ∀ a (τ : kT), τ.1 ≠ 11 → Γ a = some τ → Γ' a = some τ) (h : cl8 Γ τ e) : cl8 Γ' τ e := by
  obtain ⟨b0, b1, b2, b3, b4, b5, b6, b7, b8, b9, b10, b11, b12, b13, b14, b15, b16, e, hc⟩ := h
  exact ⟨b0, b1, b2, b3, b4, b5, b6, b7, b8, b9, b10, b11, b12, b13, b14, b15, b16, e, ⟨hc.1.1, hg _ _ (show (2 : Nat) ≠ 11 from by decide) hc.1.2⟩, hc.2.1, ⟨hc.2.2.1.1, hg _ _ (show (20 : Nat) ≠ 11 from by decide) hc.2.2.1.2⟩, ⟨hc.2.2.2.1.1, hg _ _ (show (20 : Nat) ≠ 11 from by decide) hc.2.2.2.1.2⟩, hc.2.2.2.2.1, ⟨hc.2.2.2.2.2.1.1, hg _ _ (show (20 : Nat) ≠ 11 from by decide) hc.2.2.2.2.2.1.2⟩, ⟨hc.2.2.2.2.2.2.1.1, hg _ _ (show (20 : Nat) ≠ 11 from by decide) hc.2.2.2.2.2.2.1.2⟩, ⟨hc.2.2.2.2.2.2.2.1.1, hg _ _ (show (20 : Nat) ≠ 11 from by decide) hc.2.2.2.2.2.2.2.1.2⟩, ⟨hc.2.2.2.2.2.2.2.2.1.1, hg _ _ (show (20 : Nat) ≠ 11 from by decide) hc.2.2.2.2.2.2.2.2.1.2⟩, hc.2.2.2.2.2.2.2.2.2.1, ⟨hc.2.2.2.2.2.2.2.2.2.2.1.1, hg _ _ (show (21 : Nat) ≠ 11 from by decide) hc.2.2.2.2.2.2.2.2.2.2.1.2⟩, ⟨hc.2.2.2.2.2.2.2.2.2.2.2.1.1, hg _ _ (show (20 : Nat) ≠ 11 from by decide) hc.2.2.2.2.2.2.2.2.2.2.2.1.2⟩, hc.2.2.2.2.2.2.2.2.2.2.2.2.1, ⟨hc.2.2.2.2.2.2.2.2.2.2.2.2.2.1, hg _ _ (show (28 : Nat) ≠ 11 from by decide) hc.2.2.2.2.2.2.2.2.2.2.2.2.2.2⟩⟩
theorem cl9_re {Γ Γ' : kG} {τ : kT} {e : Option hE} (hg : ∀ a (τ : kT), τ.1 ≠ 11 → Γ a = some τ → Γ' a = some τ) (h : cl9 Γ τ e) : cl9 Γ' τ e := by
  obtain ⟨b0, b1, b2, b3, b4, b5, e, hc⟩ := h
  exact ⟨b0, b1, b2, b3, b4, b5, e, ⟨hc.1.1, hg _ _ (show (22 : Nat) ≠ 11 from by decide) hc.1.2⟩, hc.2.1, hc.2.2.1, hc.2.2.2.1, hc.2.2.2.2⟩
theorem cl10_re {Γ Γ' : kG} {τ : kT} {e : Option hE} (hg : ∀ a (τ : kT), τ.1 ≠ 11 → Γ a = some τ → Γ' a = some τ) (h : cl10 Γ τ e) : cl10 Γ' τ e := by
  obtain ⟨b0, b1, b2, b3, b4, b5, b6, e, hc⟩ := h
  exact ⟨b0, b1, b2, b3, b4, b5, b6, e, hc.1, hc.2.1, hc.2.2.1, ⟨hc.2.2.2.1.1, hg _ _ (show (20 : Nat) ≠ 11 from by decide) hc.2.2.2.1.2⟩, ⟨hc.2.2.2.2.1.1, hg _ _ (show (20 : Nat) ≠ 11 from by decide) hc.2.2.2.2.1.2⟩, ⟨hc.2.2.2.2.2.1.1, hg _ _ (show (23 : Nat) ≠ 11 from by decide) hc.2.2.2.2.2.1.2⟩, ⟨hc.2.2.2.2.2.2.1.1, hg _ _ (show (24 : Nat) ≠ 11 from by decide) hc.2.2.2.2.2.2.1.2⟩, hc.2.2.2.2.2.2.2.1, hc.2.2.2.2.2.2.2.2⟩
theorem cl11_re {Γ Γ' : kG} {τ : kT} {e : Option hE} (hg : ∀ a (τ : kT), τ.1 ≠ 11 → Γ a = some τ → Γ' a = some τ) (h : cl11 Γ τ e) : cl11 Γ' τ e := by
  obtain ⟨b0, b1, b2, b3, b4, b5, b6, b7, b8, b9, b10, b11, b12, b13, b14, b15, b16, b17, e, hc⟩ := h
  exact ⟨b0, b1, b2, b3, b4, b5, b6, b7, b8, b9, b10, b11, b12, b13, b14, b15, b16, b17, e, ⟨hc.1.1, hg _ _ (show (8 : Nat) ≠ 11 from by decide) hc.1.2⟩, ⟨hc.2.1.1, hg _ _ (show (8 : Nat) ≠ 11 from by decide) hc.2.1.2⟩, ⟨hc.2.2.1.1, hg _ _ (show (26 : Nat) ≠ 11 from by decide) hc.2.2.1.2⟩, ⟨hc.2.2.2.1.1, hg _ _ (show (3 : Nat) ≠ 11 from by decide) hc.2.2.2.1.2⟩, ⟨hc.2.2.2.2.1.1, hg _ _ (show (9 : Nat) ≠ 11 from by decide) hc.2.2.2.2.1.2⟩, ⟨hc.2.2.2.2.2.1.1, hg _ _ (show (5 : Nat) ≠ 11 from by decide) hc.2.2.2.2.2.1.2⟩, ⟨hc.2.2.2.2.2.2.1.1, hg _ _ (show (0 : Nat) ≠ 11 from by decide) hc.2.2.2.2.2.2.1.2⟩, ⟨hc.2.2.2.2.2.2.2.1.1, hg _ _ (show (1 : Nat) ≠ 11 from by decide) hc.2.2.2.2.2.2.2.1.2⟩, ⟨hc.2.2.2.2.2.2.2.2.1.1, hg _ _ (show (4 : Nat) ≠ 11 from by decide) hc.2.2.2.2.2.2.2.2.1.2⟩, ⟨hc.2.2.2.2.2.2.2.2.2.1.1, hg _ _ (show (7 : Nat) ≠ 11 from by decide) hc.2.2.2.2.2.2.2.2.2.1.2⟩, ⟨hc.2.2.2.2.2.2.2.2.2.2.1.1, hg _ _ (show (20 : Nat) ≠ 11 from by decide) hc.2.2.2.2.2.2.2.2.2.2.1.2⟩, hc.2.2.2.2.2.2.2.2.2.2.2.1, hc.2.2.2.2.2.2.2.2.2.2.2.2.1, ⟨hc.2.2.2.2.2.2.2.2.2.2.2.2.2.1.1, hg _ _ (show (20 : Nat) ≠ 11 from by decide) hc.2.2.2.2.2.2.2.2.2.2.2.2.2.1.2⟩, hc.2.2.2.2.2.2.2.2.2.2.2.2.2.2.1, hc.2.2.2.2.2.2.2.2.2.2.2.2.2.2.2⟩
theorem isTx_re {Γ Γ' : kG} {b : Nat} (hg : ∀ a (τ : kT), τ.1 ≠ 11 → Γ a = some τ → Γ' a = some τ) (h : isTx Γ b) : isTx Γ' b := by
  obtain ⟨c, n, ρ, h1, h2⟩ := h
  exact ⟨c, n, ρ, hg _ _ (show (10 : Nat) ≠ 11 from by decide) h1, h2⟩
theorem cellOk_re {Γ Γ' : kG} {τ : kT} {e : Option hE} (hg : ∀ a (τ : kT), τ.1 ≠ 11 → Γ a = some τ → Γ' a = some τ) (h : cellOk Γ τ e) : cellOk Γ' τ e :=
  ⟨fun z => cl0_re hg (h.1 z), fun z => cl1_re hg (h.2.1 z), fun z => cl2_re hg (h.2.2.1 z), fun z => cl3_re hg (h.2.2.2.1 z), fun z => cl4_re hg (h.2.2.2.2.1 z), fun z => cl5_re hg (h.2.2.2.2.2.1 z), fun z => cl6_re hg (h.2.2.2.2.2.2.1 z), fun z => cl7_re hg (h.2.2.2.2.2.2.2.1 z), fun z => cl8_re hg (h.2.2.2.2.2.2.2.2.1 z), fun z => cl9_re hg (h.2.2.2.2.2.2.2.2.2.1 z), fun z => cl10_re hg (h.2.2.2.2.2.2.2.2.2.2.1 z), fun z => cl11_re hg (h.2.2.2.2.2.2.2.2.2.2.2.1 z), h.2.2.2.2.2.2.2.2.2.2.2.2.1, h.2.2.2.2.2.2.2.2.2.2.2.2.2.1, h.2.2.2.2.2.2.2.2.2.2.2.2.2.2.1, h.2.2.2.2.2.2.2.2.2.2.2.2.2.2.2.1, h.2.2.2.2.2.2.2.2.2.2.2.2.2.2.2.2.1, h.2.2.2.2.2.2.2.2.2.2.2.2.2.2.2.2.2.1, fun z => arR_mono (fun _ b hb => hb.elim (fun ρ hρ => ⟨ρ, hg _ _ (show (8 : Nat) ≠ 11 from by decide) hρ⟩)) (h.2.2.2.2.2.2.2.2.2.2.2.2.2.2.2.2.2.2.1 z), fun z => arR_mono (fun _ b hb => hb.elim (fun ρ hρ => ⟨ρ, hg _ _ (show (2 : Nat) ≠ 11 from by decide) hρ⟩)) (h.2.2.2.2.2.2.2.2.2.2.2.2.2.2.2.2.2.2.2.1 z), fun z => arR_mono (fun _ b hb => isTx_re hg hb) (h.2.2.2.2.2.2.2.2.2.2.2.2.2.2.2.2.2.2.2.2.1 z), h.2.2.2.2.2.2.2.2.2.2.2.2.2.2.2.2.2.2.2.2.2⟩
theorem cellOk_some {Γ : kG} {τ : kT} (h : cellOk Γ τ none) : False := by
  have hl := h.2.2.2.2.2.2.2.2.2.2.2.2.2.2.2.2.2.2.2.2.2
  have : τ.1 = 0 ∨ τ.1 = 1 ∨ τ.1 = 2 ∨ τ.1 = 3 ∨ τ.1 = 4 ∨ τ.1 = 5 ∨ τ.1 = 6 ∨ τ.1 = 7 ∨ τ.1 = 8 ∨ τ.1 = 9 ∨ τ.1 = 10 ∨ τ.1 = 11 ∨ τ.1 = 20 ∨ τ.1 = 21 ∨ τ.1 = 22 ∨ τ.1 = 23 ∨ τ.1 = 24 ∨ τ.1 = 25 ∨ τ.1 = 26 ∨ τ.1 = 27 ∨ τ.1 = 28 := by omega
  rcases this with z | z | z | z | z | z | z | z | z | z | z | z | z | z | z | z | z | z | z | z | z
  · obtain ⟨_, _, e, -⟩ := h.1 z
    cases e
  · obtain ⟨_, _, _, _, _, _, e, -⟩ := h.2.1 z
    cases e
  · obtain ⟨_, _, _, _, _, _, e, -⟩ := h.2.2.1 z
    cases e
  · obtain ⟨_, _, _, _, e, -⟩ := h.2.2.2.1 z
    cases e
  · obtain ⟨_, _, _, _, _, _, _, _, _, _, _, e, -⟩ := h.2.2.2.2.1 z
    cases e
  · obtain ⟨_, _, _, _, e, -⟩ := h.2.2.2.2.2.1 z
    cases e
  · obtain ⟨_, e, -⟩ := h.2.2.2.2.2.2.1 z
    cases e
  · obtain ⟨_, _, _, _, _, e, -⟩ := h.2.2.2.2.2.2.2.1 z
    cases e
  · obtain ⟨_, _, _, _, _, _, _, _, _, _, _, _, _, _, _, _, _, e, -⟩ := h.2.2.2.2.2.2.2.2.1 z
    cases e
  · obtain ⟨_, _, _, _, _, _, e, -⟩ := h.2.2.2.2.2.2.2.2.2.1 z
    cases e
  · obtain ⟨_, _, _, _, _, _, _, e, -⟩ := h.2.2.2.2.2.2.2.2.2.2.1 z
    cases e
  · obtain ⟨_, _, _, _, _, _, _, _, _, _, _, _, _, _, _, _, _, _, e, -⟩ := h.2.2.2.2.2.2.2.2.2.2.2.1 z
    cases e
  · obtain ⟨-, f, e, -⟩ := h.2.2.2.2.2.2.2.2.2.2.2.2.1 z
    cases e
  · obtain ⟨-, f, e, -⟩ := h.2.2.2.2.2.2.2.2.2.2.2.2.2.1 z
    cases e
  · obtain ⟨-, f, e, -⟩ := h.2.2.2.2.2.2.2.2.2.2.2.2.2.2.1 z
    cases e
  · obtain ⟨-, f, e, -⟩ := h.2.2.2.2.2.2.2.2.2.2.2.2.2.2.2.1 z
    cases e
  · obtain ⟨-, f, e, -⟩ := h.2.2.2.2.2.2.2.2.2.2.2.2.2.2.2.2.1 z
    cases e
  · obtain ⟨-, f, e⟩ := h.2.2.2.2.2.2.2.2.2.2.2.2.2.2.2.2.2.1 z
    cases e
  · obtain ⟨-, f, e, -⟩ := h.2.2.2.2.2.2.2.2.2.2.2.2.2.2.2.2.2.2.1 z
    cases e
  · obtain ⟨-, f, e, -⟩ := h.2.2.2.2.2.2.2.2.2.2.2.2.2.2.2.2.2.2.2.1 z
    cases e
  · obtain ⟨-, f, e, -⟩ := h.2.2.2.2.2.2.2.2.2.2.2.2.2.2.2.2.2.2.2.2.1 z
    cases e
section MK
variable {Γ : kG} {Φ : kF} {S : hS} {o ci : Nat} {fs : List Value}
theorem kset_in {Γ : kG} {q : Nat} {τ : kT} : kset Γ q τ q = some τ := if_pos rfl
theorem kset_le {Γ : kG} {q : Nat} {τ : kT} (hq : Γ q = none) : ∀ a τ', Γ a = some τ' → kset Γ q τ a = some τ' := by
  intro a τ' ha
  unfold kset
  rw [if_neg (fun e => by rw [e, hq] at ha; cases ha)]
  exact ha
theorem St.nG (h : St Γ Φ S) {q : Nat} (hq : S q = none) : Γ q = none ∧ Φ q = none := by
  constructor
  · cases e : Γ q with
    | none => rfl
    | some τ => have := h.1 q τ e; rw [hq] at this; exact (cellOk_some this).elim
  · cases e : Φ q with
    | none => rfl
    | some x => have := h.2 q x e; rw [hq] at this; cases this
theorem gro_set {q : Nat} {τ : kT} (hq : Γ q = none) (hp : Φ q = none) : gro Γ Φ (kset Γ q τ) := ⟨kset_le hq, fun a τ' ha => by
  unfold kset at ha
  split at ha
  · rename_i e
    rw [e]; exact Or.inr hp
  · exact Or.inl ha⟩
/-- a cell that is there and has no kind yet gets one -/
theorem St.kind (h : St Γ Φ S) {q : Nat} {τ : kT} {e : hE} (hq : Γ q = none) (he : S q = some e) (hc : cellOk (kset Γ q τ) τ (some e)) : St (kset Γ q τ) Φ S := by
  refine ⟨fun a τ' ha => ?_, h.2⟩
  by_cases c : a = q
  · subst c
    rw [kset_in] at ha
    cases ha
    rw [he]; exact hc
  · unfold kset at ha
    rw [if_neg c] at ha
    exact cellOk_mono (kset_le hq) (h.1 a τ' ha)
/-- an untold cell changed -/
theorem St.un (h : St Γ Φ S) {q : Nat} {e : hE} (hq : Γ q = none) (hp : Φ q = none) : St Γ Φ (hset S q e) := by
  refine ⟨fun a τ ha => ?_, fun a x hx => ?_⟩
  · rw [hset_ne _ _ (fun c => by rw [c, hq] at ha; cases ha)]; exact h.1 a τ ha
  · rw [hset_ne _ _ (fun c => by rw [c, hp] at hx; cases hx)]; exact h.2 a x hx
/-- cells whose contents are known -/
def Hl (Γ : kG) (S : hS) (L : List (Nat × hE)) : Prop := ∀ x ∈ L, S x.1 = some x.2 ∧ Γ x.1 ≠ none
/-- an object that is being made; L: what is known beside it -/
def Nw (Γ : kG) (Φ : kF) (S : hS) (o ci : Nat) (fs : List Value) (L : List (Nat × hE)) : Prop := St Γ Φ S ∧ Γ o = none ∧ Φ o = none ∧ S o = some (.inr (ci, fs)) ∧ Hl Γ S L
theorem Hl.un {L : List (Nat × hE)} (h : Hl Γ S L) {q : Nat} {e : hE} (hq : Γ q = none) : Hl Γ (hset S q e) L := fun x hx => by
  obtain ⟨a, b⟩ := h x hx
  rw [hset_ne _ _ (fun c => b (by rw [c]; exact hq))]
  exact ⟨a, b⟩
theorem Hl.gr {L : List (Nat × hE)} {Γ' : kG} (h : Hl Γ S L) (g : gro Γ Φ Γ') : Hl Γ' S L := fun x hx => by
  obtain ⟨a, b⟩ := h x hx
  refine ⟨a, fun c => b ?_⟩
  cases e : Γ x.1 with
  | none => rfl
  | some τ => rw [g.1 _ _ e] at c; cases c
variable {L : List (Nat × hE)}
theorem N_pP {P : hS → Prop} {k x : Nat} (h : Nw Γ Φ S o ci fs L) (hk : k < fs.length) (k' : ∀ S', Nw Γ Φ S' o ci (fs.set k (.ref x)) L → P S') : pP S o ci k x P :=
  ⟨fs, h.2.2.2.1, hk, k' _ ⟨h.1.un h.2.1 h.2.2.1, h.2.1, h.2.2.1, hset_self _ _ _, h.2.2.2.2.un h.2.1⟩⟩
theorem N_pI {P : hS → Prop} {k : Nat} {x : Int32} (h : Nw Γ Φ S o ci fs L) (hk : k < fs.length) (k' : ∀ S', Nw Γ Φ S' o ci (fs.set k (.int x)) L → P S') : pI S o ci k x P :=
  ⟨fs, h.2.2.2.1, hk, k' _ ⟨h.1.un h.2.1 h.2.2.1, h.2.1, h.2.2.1, hset_self _ _ _, h.2.2.2.2.un h.2.1⟩⟩
theorem N_gI {P : Int32 → Prop} {k : Nat} {x : Int32} (h : Nw Γ Φ S o ci fs L) (hk : fs[k]? = some (.int x)) (k' : P x) : gI S o ci k P := ⟨fs, x, h.2.2.2.1, hk, k'⟩
theorem N_gP {P : Nat → Prop} {k : Nat} {x : Nat} (h : Nw Γ Φ S o ci fs L) (hk : fs[k]? = some (.ref x)) (k' : P x) : gP S o ci k P := ⟨fs, x, h.2.2.2.1, hk, k'⟩
theorem N_cell {q : Nat} {τ : kT} {e : hE} (h : Nw Γ Φ S o ci fs L) (hq : S q = none) (he : ∀ Γ', cellOk Γ' τ (some e)) : gro Γ Φ (kset Γ q τ) ∧ kset Γ q τ q = some τ ∧ Φ q = none ∧ Nw (kset Γ q τ) Φ (hset S q e) o ci fs ((q, e) :: L) := by
  obtain ⟨g1, g2⟩ := h.1.nG hq
  have hoq : o ≠ q := fun e => by have := h.2.2.2.1; rw [e, hq] at this; cases this
  refine ⟨gro_set g1 g2, kset_in, g2, (h.1.un g1 g2).kind g1 (hset_self _ _ _) (he _), ?_, h.2.2.1, ?_, fun x hx => ?_⟩
  · unfold kset; rw [if_neg hoq]; exact h.2.1
  · rw [hset_ne _ _ hoq]; exact h.2.2.2.1
  · rcases List.mem_cons.mp hx with rfl | hx
    · exact ⟨hset_self _ _ _, by rw [kset_in]; exact fun z => by cases z⟩
    · exact ((h.2.2.2.2.un g1).gr (gro_set g1 g2)) x hx
theorem N_mkI {P : hS → Nat → Prop} {m : Int32} {n cap : Nat} (τ : kT) (h : Nw Γ Φ S o ci fs L) (hm : m.toInt = n) (hn : n ≤ cap) (he : ∀ Γ', cellOk Γ' τ (some (.inl (0, n, .inl (fun _ => 0))))) (k : ∀ Γ' S' x, gro Γ Φ Γ' → Γ' x = some τ → Φ x = none → Nw Γ' Φ S' o ci fs ((x, (.inl (0, n, .inl (fun _ => 0)))) :: L) → P S' x) : mkI S m cap P := by
  have e : m.toNatClampNeg = n := by
    have := cl_eq (i := m) (by omega)
    omega
  refine ⟨fun z => ?_, by rw [e]; exact hn, fun q hq => ?_⟩
  · rw [Int32.lt_iff_toInt_lt] at z
    have : (0 : Int32).toInt = 0 := by decide
    omega
  · rw [e]
    obtain ⟨g1, g2, g3, g4⟩ := N_cell (e := (.inl (0, n, .inl (fun _ => 0)))) h hq he
    exact k _ _ q g1 g2 g3 g4
theorem N_mkJ {P : hS → Nat → Prop} {m : Int32} {n cap : Nat} (τ : kT) (h : Nw Γ Φ S o ci fs L) (hm : m.toInt = n) (hn : n ≤ cap) (he : ∀ Γ', cellOk Γ' τ (some (.inl (1, n, .inr (.inl (fun _ => 0)))))) (k : ∀ Γ' S' x, gro Γ Φ Γ' → Γ' x = some τ → Φ x = none → Nw Γ' Φ S' o ci fs ((x, (.inl (1, n, .inr (.inl (fun _ => 0))))) :: L) → P S' x) : mkJ S m cap P := by
  have e : m.toNatClampNeg = n := by
    have := cl_eq (i := m) (by omega)
    omega
  refine ⟨fun z => ?_, by rw [e]; exact hn, fun q hq => ?_⟩
  · rw [Int32.lt_iff_toInt_lt] at z
    have : (0 : Int32).toInt = 0 := by decide
    omega
  · rw [e]
    obtain ⟨g1, g2, g3, g4⟩ := N_cell (e := (.inl (1, n, .inr (.inl (fun _ => 0))))) h hq he
    exact k _ _ q g1 g2 g3 g4
theorem N_mkR {P : hS → Nat → Prop} {m : Int32} {kd n cap : Nat} (τ : kT) (h : Nw Γ Φ S o ci fs L) (hm : m.toInt = n) (hn : n ≤ cap) (he : ∀ Γ', cellOk Γ' τ (some (.inl (kd, n, .inr (.inr (.inr (.inr (fun _ => none)))))))) (k : ∀ Γ' S' x, gro Γ Φ Γ' → Γ' x = some τ → Φ x = none → Nw Γ' Φ S' o ci fs ((x, (.inl (kd, n, .inr (.inr (.inr (.inr (fun _ => none))))))) :: L) → P S' x) : mkR S kd m cap P := by
  have e : m.toNatClampNeg = n := by
    have := cl_eq (i := m) (by omega)
    omega
  refine ⟨fun z => ?_, by rw [e]; exact hn, fun q hq => ?_⟩
  · rw [Int32.lt_iff_toInt_lt] at z
    have : (0 : Int32).toInt = 0 := by decide
    omega
  · rw [e]
    obtain ⟨g1, g2, g3, g4⟩ := N_cell (e := (.inl (kd, n, .inr (.inr (.inr (.inr (fun _ => none))))))) h hq he
    exact k _ _ q g1 g2 g3 g4
theorem N_done (h : Nw Γ Φ S o ci fs L) (τ : kT) (he : cellOk (kset Γ o τ) τ (some (.inr (ci, fs)))) : gro Γ Φ (kset Γ o τ) ∧ kset Γ o τ o = some τ ∧ St (kset Γ o τ) Φ S ∧ Hl (kset Γ o τ) S ((o, .inr (ci, fs)) :: L) := ⟨gro_set h.2.1 h.2.2.1, kset_in, h.1.kind h.2.1 h.2.2.2.1 he, fun x hx => by
  rcases List.mem_cons.mp hx with rfl | hx
  · exact ⟨h.2.2.2.1, by rw [kset_in]; exact fun z => by cases z⟩
  · exact (h.2.2.2.2.gr (gro_set (Φ := Φ) h.2.1 h.2.2.1)) x hx⟩
theorem St_nO {P : hS → Nat → Prop} {ci' : Nat} {fs' : List Value} (h : St Γ Φ S) (k : ∀ q S1, Nw Γ Φ S1 q ci' fs' [] → (∀ b, S b ≠ none → S1 b = S b) → P S1 q) : nO S ci' fs' P := by
  intro q hq
  obtain ⟨g1, g2⟩ := h.nG hq
  exact k q _ ⟨h.un g1 g2, g1, g2, hset_self _ _ _, fun x hx => by cases hx⟩ (fun b hb => hset_ne _ _ (fun e => hb (e ▸ hq)))
theorem N_nO {P : hS → Nat → Prop} {ci' : Nat} {fs' : List Value} (h : Nw Γ Φ S o ci fs L) (k : ∀ q S1, Nw Γ (fzk Φ S [o]) S1 q ci' fs' L → (∀ Γ' S' L', gro Γ (fzk Φ S [o]) Γ' → St Γ' (fzk Φ S [o]) S' → Hl Γ' S' L' → Nw Γ' Φ S' o ci fs L' ∧ gro Γ Φ Γ') → P S1 q) : nO S ci' fs' P := by
  intro q hq
  obtain ⟨g1, g2⟩ := (St_fz h.1 [o]).nG hq
  refine k q _ ⟨(St_fz h.1 [o]).un g1 g2, g1, g2, hset_self _ _ _, h.2.2.2.2.un g1⟩ (fun Γ' S' L' hg hS hL => ?_)
  have ho : S o ≠ none := by rw [h.2.2.2.1]; exact fun z => by cases z
  refine ⟨⟨St_unfz h.1 hS, ?_, h.2.2.1, ?_, hL⟩, gro_unfz (fun b hb => by simp at hb; rw [hb]; exact ho) hg⟩
  · cases e : Γ' o with
    | none => rfl
    | some τ =>
      rcases hg.2 o τ e with c | c
      · rw [h.2.1] at c; cases c
      · unfold fzk at c
        rw [if_pos (by simp)] at c
        exact absurd c ho
  · rw [fz_eq (b := o) hS (by simp) h.2.2.2.1]; exact h.2.2.2.1
theorem R_g {a rs rs' : Nat} {ρ : Nat → Nat} (ha : Γ a = some (11, 11, 0, rs, ρ)) : ∀ b (τ : kT), τ.1 ≠ 11 → Γ b = some τ → kset Γ a (11, 11, 0, rs', ρ) b = some τ := fun b τ ht hb => by
  unfold kset
  rw [if_neg (fun e => by rw [e, ha] at hb; cases hb; exact ht rfl)]
  exact hb
theorem R_fre {a rs rs' : Nat} {ρ : Nat → Nat} {L : List Nat} (ha : Γ a = some (11, 11, 0, rs, ρ)) (hf : fre Γ Φ L) : fre (kset Γ a (11, 11, 0, rs', ρ)) Φ L := fun b τ hb hm => by
  by_cases c : b = a
  · subst c
    rw [kset_in] at hb
    cases hb
    exact hf b _ ha hm
  · unfold kset at hb
    rw [if_neg c] at hb
    exact hf b τ hb hm
theorem R_pI_11_15 {P : hS → Prop} {x : Int32} {a rs rs' : Nat} {ρ : Nat → Nat} {L : List Nat} (h : St Γ Φ S) (hf : fre Γ Φ L) (ha : Γ a = some (11, 11, 0, rs, ρ)) (hm : 11 ∈ L) (hx : x = nI rs') (k : ∀ S₁, St (kset Γ a (11, 11, 0, rs', ρ)) Φ S₁ → sEqx S S₁ a 15 → aEq S S₁ → P S₁) : pI S a 11 15 x P := by
  obtain ⟨b0, b1, b2, b3, b4, b5, b6, b7, b8, b9, b10, b11, b12, b13, b14, b15, b16, b17, e, hc⟩ := cl11_re (R_g (rs' := rs') ha) (h.c11 ha)
  refine ⟨_, e, by simp only [List.length_cons, List.length_nil]; omega, k _ ⟨fun b τ hb => ?_, fun b e' hb => ?_⟩ (fun b j hn => ?_) (aEq_hset e)⟩
  · by_cases c : b = a
    · subst c
      rw [kset_in] at hb
      cases hb
      rw [hset_self]
      exact cellOk_11 rfl ⟨b0, b1, b2, b3, b4, b5, b6, b7, b8, b9, b10, b11, b12, b13, b14, x, b16, b17, rfl, hc.1, hc.2.1, hc.2.2.1, hc.2.2.2.1, hc.2.2.2.2.1, hc.2.2.2.2.2.1, hc.2.2.2.2.2.2.1, hc.2.2.2.2.2.2.2.1, hc.2.2.2.2.2.2.2.2.1, hc.2.2.2.2.2.2.2.2.2.1, hc.2.2.2.2.2.2.2.2.2.2.1, hc.2.2.2.2.2.2.2.2.2.2.2.1, hc.2.2.2.2.2.2.2.2.2.2.2.2.1, hc.2.2.2.2.2.2.2.2.2.2.2.2.2.1, hx, hc.2.2.2.2.2.2.2.2.2.2.2.2.2.2.2⟩
    · unfold kset at hb
      rw [if_neg c] at hb
      rw [hset_ne _ _ c]
      exact cellOk_re (R_g ha) (h.1 b τ hb)
  · rw [hset_ne _ _ (fun c => by rw [c, hf a _ ha hm] at hb; cases hb)]
    exact h.2 b e' hb
  · by_cases e1 : b = a
    · subst e1
      unfold fv
      rw [hset_self, e]
      show (List.set _ _ _).getD j _ = List.getD _ j _
      rw [List.getD_eq_getElem?_getD, List.getD_eq_getElem?_getD, List.getElem?_set_ne (fun z => hn ⟨rfl, z.symm⟩)]
    · exact fv_hset_ne e1
theorem zc_I {tg id n : Nat} {z : Nat × (Nat → Nat)} {Γ : kG} (ht : tg = 20 ∨ tg = 21 ∨ tg = 22 ∨ tg = 23 ∨ tg = 24) (hn : n ≤ 1000) : cellOk Γ (tg, id, n, z) (some (.inl (0, n, .inl (fun _ => 0)))) := by
  have z0 : (0 : Int32).toInt = 0 := by decide
  rcases ht with rfl | rfl | rfl | rfl | rfl
  · exact cellOk_20 rfl ⟨hn, _, rfl, fun j _ => by rw [z0]; omega⟩
  · exact cellOk_21 rfl ⟨hn, _, rfl, fun j _ => by rw [z0]; omega⟩
  · exact cellOk_22 rfl ⟨hn, _, rfl, fun j _ => by rw [z0]; omega⟩
  · exact cellOk_23 rfl ⟨hn, _, rfl, fun j _ => by rw [z0]; omega⟩
  · exact cellOk_24 rfl ⟨hn, _, rfl, fun j _ => by rw [z0]; omega⟩
theorem zc_J {id n : Nat} {z : Nat × (Nat → Nat)} {Γ : kG} (hn : n ≤ 1000) : cellOk Γ (25, id, n, z) (some (.inl (1, n, .inr (.inl (fun _ => 0))))) := cellOk_25 rfl ⟨hn, _, rfl⟩
theorem zc_R26 {id n : Nat} {z : Nat × (Nat → Nat)} {Γ : kG} (hn : n ≤ 1000) : cellOk Γ (26, id, n, z) (some (.inl (4, n, .inr (.inr (.inr (.inr (fun _ => none))))))) := cellOk_26 rfl ⟨hn, _, rfl, fun j _ b hb => by cases hb⟩
theorem zc_R27 {id n : Nat} {z : Nat × (Nat → Nat)} {Γ : kG} (hn : n ≤ 1000) : cellOk Γ (27, id, n, z) (some (.inl (3, n, .inr (.inr (.inr (.inr (fun _ => none))))))) := cellOk_27 rfl ⟨hn, _, rfl, fun j _ b hb => by cases hb⟩
theorem zc_R28 {id n : Nat} {z : Nat × (Nat → Nat)} {Γ : kG} (hn : n ≤ 1000) : cellOk Γ (28, id, n, z) (some (.inl (5, n, .inr (.inr (.inr (.inr (fun _ => none))))))) := cellOk_28 rfl ⟨hn, _, rfl, fun j _ b hb => by cases hb⟩
end MK
section INI
variable {Γ : kG} {Φ : kF} {S : hS} {o : Nat}
def in6 (ρ : Nat → Nat) (o : Nat) (L : List (Nat × hE)) : List (Nat × hE) := (o, .inr (6, [.ref (ρ 0)])) :: ((ρ 0, .inl (0, 52, .inl (fun _ => 0))) :: L)
theorem ki_X6 {q : hS → Prop} {L : List (Nat × hE)} (h : Nw Γ Φ S o 6 FX6_0 L) (k : ∀ Γ' S' ρ, gro Γ Φ Γ' → Γ' o = some (6, 6, 0, 0, ρ) → St Γ' Φ S' → Hl Γ' S' (in6 ρ o L) → q S') : w_X6_init q S o := by
  unfold w_X6_init
  refine N_mkI (n := 52) (20, 700, 52, 0, k0) h (by decide) (by decide) (fun _ => zc_I (by decide) (by decide)) (fun Γ1 S1 o7 g1 t1 _ h1 => ?_)
  refine N_pP h1 (by simp only [FX6_0, List.length_cons, List.length_nil]; omega) (fun S' hh => ?_)
  simp only [FX6_0, List.set] at hh
  replace h1 := hh
  clear hh
  obtain ⟨ρ, eρ⟩ : ∃ ρ, ρ = mkb (fun k => ([o7] : List Nat).getD k 0) (fun k => k0) := ⟨_, rfl⟩
  have b0 : ρ 0 = o7 := by rw [eρ]; rfl
  obtain ⟨ga, ta, ha, hl⟩ := N_done h1 (6, 6, 0, 0, ρ) (cellOk_6 rfl ⟨o7, rfl, ⟨b0.symm, kset_le h1.2.1 _ _ t1⟩⟩)
  have e2 : in6 ρ o L = (o, .inr (6, [.ref o7])) :: ((o7, .inl (0, 52, .inl (fun _ => 0))) :: L) := by simp only [in6, b0]
  rw [← e2] at hl
  exact k _ _ ρ ((gro_rf.tr g1).tr ga) ta ha hl
def in0 (ρ : Nat → Nat) (o : Nat) (L : List (Nat × hE)) : List (Nat × hE) := (o, .inr (0, [.ref (ρ 0), .ref (ρ 1)])) :: ((ρ 1, .inl (0, 9, .inl (fun _ => 0))) :: (in6 (bk 0 ρ) (ρ 0) L))
theorem ki_X0 {q : hS → Prop} {L : List (Nat × hE)} (h : Nw Γ Φ S o 0 FX0_0 L) (k : ∀ Γ' S' ρ, gro Γ Φ Γ' → Γ' o = some (0, 0, 0, 0, ρ) → St Γ' Φ S' → Hl Γ' S' (in0 ρ o L) → q S') : w_X0_init q S o := by
  unfold w_X0_init
  refine N_nO h (fun o5 S1a hA1 fin1 => ?_)
  refine ki_X6 hA1 (fun Γ1 S1 ρ1 gA1 t1 hB1 hL1 => ?_)
  obtain ⟨h1, g1⟩ := fin1 _ _ _ gA1 hB1 hL1
  refine N_pP h1 (by simp only [FX0_0, List.length_cons, List.length_nil]; omega) (fun S' hh => ?_)
  simp only [FX0_0, List.set] at hh
  replace h1 := hh
  clear hh
  refine N_mkI (n := 9) (20, 101, 9, 0, k0) h1 (by decide) (by decide) (fun _ => zc_I (by decide) (by decide)) (fun Γ2 S2 o18 g2 t2 _ h2 => ?_)
  refine N_pP h2 (by simp only [FX0_0, List.length_cons, List.length_nil]; omega) (fun S' hh => ?_)
  simp only [FX0_0, List.set] at hh
  replace h2 := hh
  clear hh
  obtain ⟨ρ, eρ⟩ : ∃ ρ, ρ = mkb (fun k => ([o5, o18] : List Nat).getD k 0) (fun k => if k = 0 then ρ1 else k0) := ⟨_, rfl⟩
  have b0 : ρ 0 = o5 := by rw [eρ]; rfl
  have c0 : bk 0 ρ = ρ1 := by rw [eρ]; exact bk_mkb (by decide)
  have b1 : ρ 1 = o18 := by rw [eρ]; rfl
  obtain ⟨ga, ta, ha, hl⟩ := N_done h2 (0, 0, 0, 0, ρ) (cellOk_0 rfl ⟨o5, o18, rfl, ⟨b0.symm, (by dsimp only; rw [c0]; exact kset_le h2.2.1 _ _ (g2.1 _ _ t1))⟩, ⟨b1.symm, kset_le h2.2.1 _ _ t2⟩⟩)
  have e2 : in0 ρ o L = (o, .inr (0, [.ref o5, .ref o18])) :: ((o18, .inl (0, 9, .inl (fun _ => 0))) :: (in6 ρ1 o5 L)) := by simp only [in0, b0, c0, b1]
  rw [← e2] at hl
  exact k _ _ ρ (((gro_rf.tr g1).tr g2).tr ga) ta ha hl
def in2 (ρ : Nat → Nat) (o : Nat) (L : List (Nat × hE)) : List (Nat × hE) := (o, .inr (2, [.ref (ρ 0), .ref (ρ 1), .ref (ρ 2), .ref (ρ 3), .int 0, .int 0])) :: ((ρ 3, .inl (0, 8, .inl (fun _ => 0))) :: ((ρ 2, .inl (0, 6, .inl (fun _ => 0))) :: ((ρ 1, .inl (0, 48, .inl (fun _ => 0))) :: ((ρ 0, .inl (0, 48, .inl (fun _ => 0))) :: L))))
theorem ki_X2 {q : hS → Prop} (i : Nat) {L : List (Nat × hE)} (h : Nw Γ Φ S o 2 FX2_0 L) (k : ∀ Γ' S' ρ, gro Γ Φ Γ' → Γ' o = some (2, 2 + 10000 * i, i, 0, ρ) → St Γ' Φ S' → Hl Γ' S' (in2 ρ o L) → q S') : w_X2_init q S o := by
  unfold w_X2_init
  refine N_mkI (n := 48) (20, 300 + 10000 * i, 48, 0, k0) h (by decide) (by decide) (fun _ => zc_I (by decide) (by decide)) (fun Γ1 S1 o7 g1 t1 _ h1 => ?_)
  refine N_pP h1 (by simp only [FX2_0, List.length_cons, List.length_nil]; omega) (fun S' hh => ?_)
  simp only [FX2_0, List.set] at hh
  replace h1 := hh
  clear hh
  refine N_mkI (n := 48) (20, 301 + 10000 * i, 48, 0, k0) h1 (by decide) (by decide) (fun _ => zc_I (by decide) (by decide)) (fun Γ2 S2 o15 g2 t2 _ h2 => ?_)
  refine N_pP h2 (by simp only [FX2_0, List.length_cons, List.length_nil]; omega) (fun S' hh => ?_)
  simp only [FX2_0, List.set] at hh
  replace h2 := hh
  clear hh
  refine N_mkI (n := 6) (20, 302 + 10000 * i, 6, 0, k0) h2 (by decide) (by decide) (fun _ => zc_I (by decide) (by decide)) (fun Γ3 S3 o23 g3 t3 _ h3 => ?_)
  refine N_pP h3 (by simp only [FX2_0, List.length_cons, List.length_nil]; omega) (fun S' hh => ?_)
  simp only [FX2_0, List.set] at hh
  replace h3 := hh
  clear hh
  refine N_mkI (n := 8) (20, 303 + 10000 * i, 8, 0, k0) h3 (by decide) (by decide) (fun _ => zc_I (by decide) (by decide)) (fun Γ4 S4 o31 g4 t4 _ h4 => ?_)
  refine N_pP h4 (by simp only [FX2_0, List.length_cons, List.length_nil]; omega) (fun S' hh => ?_)
  simp only [FX2_0, List.set] at hh
  replace h4 := hh
  clear hh
  refine N_pI h4 (by simp only [FX2_0, List.length_cons, List.length_nil]; omega) (fun S' hh => ?_)
  simp only [FX2_0, List.set] at hh
  replace h4 := hh
  clear hh
  refine N_pI h4 (by simp only [FX2_0, List.length_cons, List.length_nil]; omega) (fun S' hh => ?_)
  simp only [FX2_0, List.set] at hh
  replace h4 := hh
  clear hh
  obtain ⟨ρ, eρ⟩ : ∃ ρ, ρ = mkb (fun k => ([o7, o15, o23, o31, 0, 0] : List Nat).getD k 0) (fun k => k0) := ⟨_, rfl⟩
  have b0 : ρ 0 = o7 := by rw [eρ]; rfl
  have b1 : ρ 1 = o15 := by rw [eρ]; rfl
  have b2 : ρ 2 = o23 := by rw [eρ]; rfl
  have b3 : ρ 3 = o31 := by rw [eρ]; rfl
  obtain ⟨ga, ta, ha, hl⟩ := N_done h4 (2, 2 + 10000 * i, i, 0, ρ) (cellOk_2 rfl ⟨o7, o15, o23, o31, 0, 0, rfl, ⟨b0.symm, kset_le h4.2.1 _ _ (g4.1 _ _ (g3.1 _ _ (g2.1 _ _ t1)))⟩, ⟨b1.symm, kset_le h4.2.1 _ _ (g4.1 _ _ (g3.1 _ _ t2))⟩, ⟨b2.symm, kset_le h4.2.1 _ _ (g4.1 _ _ t3)⟩, ⟨b3.symm, kset_le h4.2.1 _ _ t4⟩⟩)
  have e2 : in2 ρ o L = (o, .inr (2, [.ref o7, .ref o15, .ref o23, .ref o31, .int 0, .int 0])) :: ((o31, .inl (0, 8, .inl (fun _ => 0))) :: ((o23, .inl (0, 6, .inl (fun _ => 0))) :: ((o15, .inl (0, 48, .inl (fun _ => 0))) :: ((o7, .inl (0, 48, .inl (fun _ => 0))) :: L)))) := by simp only [in2, b0, b1, b2, b3]
  rw [← e2] at hl
  exact k _ _ ρ (((((gro_rf.tr g1).tr g2).tr g3).tr g4).tr ga) ta ha hl
def in1 (ρ : Nat → Nat) (o : Nat) (L : List (Nat × hE)) : List (Nat × hE) := (o, .inr (1, [.ref (ρ 0), .ref (ρ 1), .ref (ρ 2), .int (-1), .int 0, .int 0])) :: ((ρ 2, .inl (0, 26, .inl (fun _ => 0))) :: (in6 (bk 1 ρ) (ρ 1) L))
theorem ki_X1 {q : hS → Prop} {v1 : Nat} {L : List (Nat × hE)} (h : Nw Γ Φ S o 1 FX1_0 L) {ρv : Nat → Nat} (hv : Γ v1 = some (0, 0, 0, 0, ρv)) (k : ∀ Γ' S' ρ, gro Γ Φ Γ' → Γ' o = some (1, 1, 0, 0, ρ) → St Γ' Φ S' → Hl Γ' S' (in1 ρ o L) → ρ 0 = v1 → q S') : w_X1_init q S o v1 := by
  unfold w_X1_init
  refine N_nO h (fun o5 S1a hA1 fin1 => ?_)
  refine ki_X6 hA1 (fun Γ1 S1 ρ1 gA1 t1 hB1 hL1 => ?_)
  obtain ⟨h1, g1⟩ := fin1 _ _ _ gA1 hB1 hL1
  refine N_pP h1 (by simp only [FX1_0, List.length_cons, List.length_nil]; omega) (fun S' hh => ?_)
  simp only [FX1_0, List.set] at hh
  replace h1 := hh
  clear hh
  refine N_mkI (n := 26) (20, 202, 26, 0, k0) h1 (by decide) (by decide) (fun _ => zc_I (by decide) (by decide)) (fun Γ2 S2 o18 g2 t2 _ h2 => ?_)
  refine N_pP h2 (by simp only [FX1_0, List.length_cons, List.length_nil]; omega) (fun S' hh => ?_)
  simp only [FX1_0, List.set] at hh
  replace h2 := hh
  clear hh
  refine N_pI h2 (by simp only [FX1_0, List.length_cons, List.length_nil]; omega) (fun S' hh => ?_)
  simp only [FX1_0, List.set] at hh
  replace h2 := hh
  clear hh
  refine N_pI h2 (by simp only [FX1_0, List.length_cons, List.length_nil]; omega) (fun S' hh => ?_)
  simp only [FX1_0, List.set] at hh
  replace h2 := hh
  clear hh
  refine N_pI h2 (by simp only [FX1_0, List.length_cons, List.length_nil]; omega) (fun S' hh => ?_)
  simp only [FX1_0, List.set] at hh
  replace h2 := hh
  clear hh
  refine N_pP h2 (by simp only [FX1_0, List.length_cons, List.length_nil]; omega) (fun S' hh => ?_)
  simp only [FX1_0, List.set] at hh
  replace h2 := hh
  clear hh
  obtain ⟨ρ, eρ⟩ : ∃ ρ, ρ = mkb (fun k => ([v1, o5, o18, 0, 0, 0] : List Nat).getD k 0) (fun k => if k = 0 then ρv else if k = 1 then ρ1 else k0) := ⟨_, rfl⟩
  have b0 : ρ 0 = v1 := by rw [eρ]; rfl
  have c0 : bk 0 ρ = ρv := by rw [eρ]; exact bk_mkb (by decide)
  have b1 : ρ 1 = o5 := by rw [eρ]; rfl
  have c1 : bk 1 ρ = ρ1 := by rw [eρ]; exact bk_mkb (by decide)
  have b2 : ρ 2 = o18 := by rw [eρ]; rfl
  obtain ⟨ga, ta, ha, hl⟩ := N_done h2 (1, 1, 0, 0, ρ) (cellOk_1 rfl ⟨v1, o5, o18, (-1), 0, 0, rfl, ⟨b0.symm, (by dsimp only; rw [c0]; exact kset_le h2.2.1 _ _ (g2.1 _ _ (g1.1 _ _ hv)))⟩, ⟨b1.symm, (by dsimp only; rw [c1]; exact kset_le h2.2.1 _ _ (g2.1 _ _ t1))⟩, ⟨b2.symm, kset_le h2.2.1 _ _ t2⟩⟩)
  have e2 : in1 ρ o L = (o, .inr (1, [.ref v1, .ref o5, .ref o18, .int (-1), .int 0, .int 0])) :: ((o18, .inl (0, 26, .inl (fun _ => 0))) :: (in6 ρ1 o5 L)) := by simp only [in1, b0, c0, b1, c1, b2]
  rw [← e2] at hl
  exact k _ _ ρ (((gro_rf.tr g1).tr g2).tr ga) ta ha hl b0
def in3 (ρ : Nat → Nat) (o : Nat) (L : List (Nat × hE)) : List (Nat × hE) := (o, .inr (3, [.ref (ρ 0), .ref (ρ 1), .int 0, .int 0])) :: ((ρ 1, .inl (0, 16, .inl (fun _ => 0))) :: ((ρ 0, .inl (3, 16, .inr (.inr (.inr (.inr (fun _ => none)))))) :: L))
theorem ki_X3 {q : hS → Prop} {L : List (Nat × hE)} (h : Nw Γ Φ S o 3 FX3_0 L) (k : ∀ Γ' S' ρ, gro Γ Φ Γ' → Γ' o = some (3, 3, 0, 0, ρ) → St Γ' Φ S' → Hl Γ' S' (in3 ρ o L) → q S') : w_X3_init q S o := by
  unfold w_X3_init
  refine N_mkR (n := 16) (27, 400, 16, 0, k0) h (by decide) (by decide) (fun _ => zc_R27 (by decide)) (fun Γ1 S1 o7 g1 t1 _ h1 => ?_)
  refine N_pP h1 (by simp only [FX3_0, List.length_cons, List.length_nil]; omega) (fun S' hh => ?_)
  simp only [FX3_0, List.set] at hh
  replace h1 := hh
  clear hh
  refine N_mkI (n := 16) (20, 401, 16, 0, k0) h1 (by decide) (by decide) (fun _ => zc_I (by decide) (by decide)) (fun Γ2 S2 o16 g2 t2 _ h2 => ?_)
  refine N_pP h2 (by simp only [FX3_0, List.length_cons, List.length_nil]; omega) (fun S' hh => ?_)
  simp only [FX3_0, List.set] at hh
  replace h2 := hh
  clear hh
  refine N_pI h2 (by simp only [FX3_0, List.length_cons, List.length_nil]; omega) (fun S' hh => ?_)
  simp only [FX3_0, List.set] at hh
  replace h2 := hh
  clear hh
  refine N_pI h2 (by simp only [FX3_0, List.length_cons, List.length_nil]; omega) (fun S' hh => ?_)
  simp only [FX3_0, List.set] at hh
  replace h2 := hh
  clear hh
  obtain ⟨ρ, eρ⟩ : ∃ ρ, ρ = mkb (fun k => ([o7, o16, 0, 0] : List Nat).getD k 0) (fun k => k0) := ⟨_, rfl⟩
  have b0 : ρ 0 = o7 := by rw [eρ]; rfl
  have b1 : ρ 1 = o16 := by rw [eρ]; rfl
  obtain ⟨ga, ta, ha, hl⟩ := N_done h2 (3, 3, 0, 0, ρ) (cellOk_3 rfl ⟨o7, o16, 0, 0, rfl, ⟨b0.symm, kset_le h2.2.1 _ _ (g2.1 _ _ t1)⟩, ⟨b1.symm, kset_le h2.2.1 _ _ t2⟩, (by decide)⟩)
  have e2 : in3 ρ o L = (o, .inr (3, [.ref o7, .ref o16, .int 0, .int 0])) :: ((o16, .inl (0, 16, .inl (fun _ => 0))) :: ((o7, .inl (3, 16, .inr (.inr (.inr (.inr (fun _ => none)))))) :: L)) := by simp only [in3, b0, b1]
  rw [← e2] at hl
  exact k _ _ ρ (((gro_rf.tr g1).tr g2).tr ga) ta ha hl
def in4 (ρ : Nat → Nat) (o : Nat) (L : List (Nat × hE)) : List (Nat × hE) := (o, .inr (4, [.ref (ρ 0), .int 0, .int 0, .ref (ρ 3), .int 0, .ref (ρ 5), .ref (ρ 6), .ref (ρ 7), .ref (ρ 8), .ref (ρ 9), .int 0])) :: ((ρ 9, .inl (0, 8, .inl (fun _ => 0))) :: ((ρ 8, .inl (0, 8, .inl (fun _ => 0))) :: ((ρ 7, .inl (0, 64, .inl (fun _ => 0))) :: ((ρ 6, .inl (0, 8, .inl (fun _ => 0))) :: ((ρ 5, .inl (0, 256, .inl (fun _ => 0))) :: ((ρ 3, .inl (0, 6, .inl (fun _ => 0))) :: ((ρ 0, .inl (0, 6, .inl (fun _ => 0))) :: L)))))))
theorem ki_X4 {q : hS → Prop} {L : List (Nat × hE)} (h : Nw Γ Φ S o 4 FX4_0 L) (k : ∀ Γ' S' ρ, gro Γ Φ Γ' → Γ' o = some (4, 4, 0, 0, ρ) → St Γ' Φ S' → Hl Γ' S' (in4 ρ o L) → q S') : w_X4_init q S o := by
  unfold w_X4_init
  refine N_mkI (n := 6) (20, 500, 6, 0, k0) h (by decide) (by decide) (fun _ => zc_I (by decide) (by decide)) (fun Γ1 S1 o7 g1 t1 _ h1 => ?_)
  refine N_pP h1 (by simp only [FX4_0, List.length_cons, List.length_nil]; omega) (fun S' hh => ?_)
  simp only [FX4_0, List.set] at hh
  replace h1 := hh
  clear hh
  refine N_pI h1 (by simp only [FX4_0, List.length_cons, List.length_nil]; omega) (fun S' hh => ?_)
  simp only [FX4_0, List.set] at hh
  replace h1 := hh
  clear hh
  refine N_pI h1 (by simp only [FX4_0, List.length_cons, List.length_nil]; omega) (fun S' hh => ?_)
  simp only [FX4_0, List.set] at hh
  replace h1 := hh
  clear hh
  refine N_mkI (n := 6) (20, 503, 6, 0, k0) h1 (by decide) (by decide) (fun _ => zc_I (by decide) (by decide)) (fun Γ2 S2 o25 g2 t2 _ h2 => ?_)
  refine N_pP h2 (by simp only [FX4_0, List.length_cons, List.length_nil]; omega) (fun S' hh => ?_)
  simp only [FX4_0, List.set] at hh
  replace h2 := hh
  clear hh
  refine N_pI h2 (by simp only [FX4_0, List.length_cons, List.length_nil]; omega) (fun S' hh => ?_)
  simp only [FX4_0, List.set] at hh
  replace h2 := hh
  clear hh
  refine N_mkI (n := 256) (20, 505, 256, 0, k0) h2 (by decide) (by decide) (fun _ => zc_I (by decide) (by decide)) (fun Γ3 S3 o39 g3 t3 _ h3 => ?_)
  refine N_pP h3 (by simp only [FX4_0, List.length_cons, List.length_nil]; omega) (fun S' hh => ?_)
  simp only [FX4_0, List.set] at hh
  replace h3 := hh
  clear hh
  refine N_mkI (n := 8) (20, 506, 8, 0, k0) h3 (by decide) (by decide) (fun _ => zc_I (by decide) (by decide)) (fun Γ4 S4 o47 g4 t4 _ h4 => ?_)
  refine N_pP h4 (by simp only [FX4_0, List.length_cons, List.length_nil]; omega) (fun S' hh => ?_)
  simp only [FX4_0, List.set] at hh
  replace h4 := hh
  clear hh
  refine N_mkI (n := 64) (20, 507, 64, 0, k0) h4 (by decide) (by decide) (fun _ => zc_I (by decide) (by decide)) (fun Γ5 S5 o55 g5 t5 _ h5 => ?_)
  refine N_pP h5 (by simp only [FX4_0, List.length_cons, List.length_nil]; omega) (fun S' hh => ?_)
  simp only [FX4_0, List.set] at hh
  replace h5 := hh
  clear hh
  refine N_mkI (n := 8) (20, 508, 8, 0, k0) h5 (by decide) (by decide) (fun _ => zc_I (by decide) (by decide)) (fun Γ6 S6 o63 g6 t6 _ h6 => ?_)
  refine N_pP h6 (by simp only [FX4_0, List.length_cons, List.length_nil]; omega) (fun S' hh => ?_)
  simp only [FX4_0, List.set] at hh
  replace h6 := hh
  clear hh
  refine N_mkI (n := 8) (20, 509, 8, 0, k0) h6 (by decide) (by decide) (fun _ => zc_I (by decide) (by decide)) (fun Γ7 S7 o71 g7 t7 _ h7 => ?_)
  refine N_pP h7 (by simp only [FX4_0, List.length_cons, List.length_nil]; omega) (fun S' hh => ?_)
  simp only [FX4_0, List.set] at hh
  replace h7 := hh
  clear hh
  refine N_pI h7 (by simp only [FX4_0, List.length_cons, List.length_nil]; omega) (fun S' hh => ?_)
  simp only [FX4_0, List.set] at hh
  replace h7 := hh
  clear hh
  obtain ⟨ρ, eρ⟩ : ∃ ρ, ρ = mkb (fun k => ([o7, 0, 0, o25, 0, o39, o47, o55, o63, o71, 0] : List Nat).getD k 0) (fun k => k0) := ⟨_, rfl⟩
  have b0 : ρ 0 = o7 := by rw [eρ]; rfl
  have b3 : ρ 3 = o25 := by rw [eρ]; rfl
  have b5 : ρ 5 = o39 := by rw [eρ]; rfl
  have b6 : ρ 6 = o47 := by rw [eρ]; rfl
  have b7 : ρ 7 = o55 := by rw [eρ]; rfl
  have b8 : ρ 8 = o63 := by rw [eρ]; rfl
  have b9 : ρ 9 = o71 := by rw [eρ]; rfl
  obtain ⟨ga, ta, ha, hl⟩ := N_done h7 (4, 4, 0, 0, ρ) (cellOk_4 rfl ⟨o7, 0, 0, o25, 0, o39, o47, o55, o63, o71, 0, rfl, ⟨b0.symm, kset_le h7.2.1 _ _ (g7.1 _ _ (g6.1 _ _ (g5.1 _ _ (g4.1 _ _ (g3.1 _ _ (g2.1 _ _ t1))))))⟩, ⟨b3.symm, kset_le h7.2.1 _ _ (g7.1 _ _ (g6.1 _ _ (g5.1 _ _ (g4.1 _ _ (g3.1 _ _ t2)))))⟩, (by decide), ⟨b5.symm, kset_le h7.2.1 _ _ (g7.1 _ _ (g6.1 _ _ (g5.1 _ _ (g4.1 _ _ t3))))⟩, ⟨b6.symm, kset_le h7.2.1 _ _ (g7.1 _ _ (g6.1 _ _ (g5.1 _ _ t4)))⟩, ⟨b7.symm, kset_le h7.2.1 _ _ (g7.1 _ _ (g6.1 _ _ t5))⟩, ⟨b8.symm, kset_le h7.2.1 _ _ (g7.1 _ _ t6)⟩, ⟨b9.symm, kset_le h7.2.1 _ _ t7⟩, (by decide)⟩)
  have e2 : in4 ρ o L = (o, .inr (4, [.ref o7, .int 0, .int 0, .ref o25, .int 0, .ref o39, .ref o47, .ref o55, .ref o63, .ref o71, .int 0])) :: ((o71, .inl (0, 8, .inl (fun _ => 0))) :: ((o63, .inl (0, 8, .inl (fun _ => 0))) :: ((o55, .inl (0, 64, .inl (fun _ => 0))) :: ((o47, .inl (0, 8, .inl (fun _ => 0))) :: ((o39, .inl (0, 256, .inl (fun _ => 0))) :: ((o25, .inl (0, 6, .inl (fun _ => 0))) :: ((o7, .inl (0, 6, .inl (fun _ => 0))) :: L))))))) := by simp only [in4, b0, b3, b5, b6, b7, b8, b9]
  rw [← e2] at hl
  exact k _ _ ρ ((((((((gro_rf.tr g1).tr g2).tr g3).tr g4).tr g5).tr g6).tr g7).tr ga) ta ha hl
def in10 (ρ : Nat → Nat) (o : Nat) (L : List (Nat × hE)) : List (Nat × hE) := (o, .inr (10, [.int 0, .int 0, .int 0, .ref (ρ 3), .ref (ρ 4), .ref (ρ 5), .ref (ρ 6)])) :: ((ρ 6, .inl (0, 400, .inl (fun _ => 0))) :: ((ρ 5, .inl (0, 60, .inl (fun _ => 0))) :: ((ρ 4, .inl (0, 12, .inl (fun _ => 0))) :: ((ρ 3, .inl (0, 12, .inl (fun _ => 0))) :: L))))
theorem ki_X10 {q : hS → Prop} {L : List (Nat × hE)} (h : Nw Γ Φ S o 10 FX10_0 L) (k : ∀ Γ' S' ρ, gro Γ Φ Γ' → Γ' o = some (10, 10, 12, 400, ρ) → St Γ' Φ S' → Hl Γ' S' (in10 ρ o L) → q S') : w_X10_init q S o := by
  unfold w_X10_init
  refine N_pI h (by simp only [FX10_0, List.length_cons, List.length_nil]; omega) (fun S' hh => ?_)
  simp only [FX10_0, List.set] at hh
  replace h := hh
  clear hh
  refine N_pI h (by simp only [FX10_0, List.length_cons, List.length_nil]; omega) (fun S' hh => ?_)
  simp only [FX10_0, List.set] at hh
  replace h := hh
  clear hh
  refine N_pI h (by simp only [FX10_0, List.length_cons, List.length_nil]; omega) (fun S' hh => ?_)
  simp only [FX10_0, List.set] at hh
  replace h := hh
  clear hh
  refine N_mkI (n := 12) (20, 10 + 1093, 12, 0, k0) h (by decide) (by decide) (fun _ => zc_I (by decide) (by decide)) (fun Γ1 S1 o22 g1 t1 _ h1 => ?_)
  refine N_pP h1 (by simp only [FX10_0, List.length_cons, List.length_nil]; omega) (fun S' hh => ?_)
  simp only [FX10_0, List.set] at hh
  replace h1 := hh
  clear hh
  refine N_mkI (n := 12) (20, 10 + 1094, 12, 0, k0) h1 (by decide) (by decide) (fun _ => zc_I (by decide) (by decide)) (fun Γ2 S2 o30 g2 t2 _ h2 => ?_)
  refine N_pP h2 (by simp only [FX10_0, List.length_cons, List.length_nil]; omega) (fun S' hh => ?_)
  simp only [FX10_0, List.set] at hh
  replace h2 := hh
  clear hh
  refine N_mkI (n := 60) (23, 10 + 1095, 60, 0, k0) h2 (by decide) (by decide) (fun _ => zc_I (by decide) (by decide)) (fun Γ3 S3 o38 g3 t3 _ h3 => ?_)
  refine N_pP h3 (by simp only [FX10_0, List.length_cons, List.length_nil]; omega) (fun S' hh => ?_)
  simp only [FX10_0, List.set] at hh
  replace h3 := hh
  clear hh
  refine N_mkI (n := 400) (24, 10 + 1096, 400, 0, k0) h3 (by decide) (by decide) (fun _ => zc_I (by decide) (by decide)) (fun Γ4 S4 o47 g4 t4 _ h4 => ?_)
  refine N_pP h4 (by simp only [FX10_0, List.length_cons, List.length_nil]; omega) (fun S' hh => ?_)
  simp only [FX10_0, List.set] at hh
  replace h4 := hh
  clear hh
  obtain ⟨ρ, eρ⟩ : ∃ ρ, ρ = mkb (fun k => ([0, 0, 0, o22, o30, o38, o47] : List Nat).getD k 0) (fun k => k0) := ⟨_, rfl⟩
  have b3 : ρ 3 = o22 := by rw [eρ]; rfl
  have b4 : ρ 4 = o30 := by rw [eρ]; rfl
  have b5 : ρ 5 = o38 := by rw [eρ]; rfl
  have b6 : ρ 6 = o47 := by rw [eρ]; rfl
  obtain ⟨ga, ta, ha, hl⟩ := N_done h4 (10, 10, 12, 400, ρ) (cellOk_10 rfl ⟨0, 0, 0, o22, o30, o38, o47, rfl, (by (try dsimp only); decide), (by (try dsimp only); decide), (by (try dsimp only); decide), ⟨b3.symm, kset_le h4.2.1 _ _ (g4.1 _ _ (g3.1 _ _ (g2.1 _ _ t1)))⟩, ⟨b4.symm, kset_le h4.2.1 _ _ (g4.1 _ _ (g3.1 _ _ t2))⟩, ⟨b5.symm, kset_le h4.2.1 _ _ (g4.1 _ _ t3)⟩, ⟨b6.symm, kset_le h4.2.1 _ _ t4⟩, (by (try dsimp only); decide), (by (try dsimp only); decide)⟩)
  have e2 : in10 ρ o L = (o, .inr (10, [.int 0, .int 0, .int 0, .ref o22, .ref o30, .ref o38, .ref o47])) :: ((o47, .inl (0, 400, .inl (fun _ => 0))) :: ((o38, .inl (0, 60, .inl (fun _ => 0))) :: ((o30, .inl (0, 12, .inl (fun _ => 0))) :: ((o22, .inl (0, 12, .inl (fun _ => 0))) :: L)))) := by simp only [in10, b3, b4, b5, b6]
  rw [← e2] at hl
  exact k _ _ ρ (((((gro_rf.tr g1).tr g2).tr g3).tr g4).tr ga) ta ha hl
def in9 (ρ : Nat → Nat) (o : Nat) (L : List (Nat × hE)) : List (Nat × hE) := (o, .inr (9, [.ref (ρ 0), .int 0, .int 0, .int 0, .int 0, .int 0])) :: ((ρ 0, .inl (0, 400, .inl (fun _ => 0))) :: L)
theorem ki_X9 {q : hS → Prop} {L : List (Nat × hE)} (h : Nw Γ Φ S o 9 FX9_0 L) (k : ∀ Γ' S' ρ, gro Γ Φ Γ' → Γ' o = some (9, 9, 0, 0, ρ) → St Γ' Φ S' → Hl Γ' S' (in9 ρ o L) → q S') : w_X9_init q S o := by
  unfold w_X9_init
  refine N_mkI (n := 400) (22, 1000, 400, 0, k0) h (by decide) (by decide) (fun _ => zc_I (by decide) (by decide)) (fun Γ1 S1 o8 g1 t1 _ h1 => ?_)
  refine N_pP h1 (by simp only [FX9_0, List.length_cons, List.length_nil]; omega) (fun S' hh => ?_)
  simp only [FX9_0, List.set] at hh
  replace h1 := hh
  clear hh
  refine N_pI h1 (by simp only [FX9_0, List.length_cons, List.length_nil]; omega) (fun S' hh => ?_)
  simp only [FX9_0, List.set] at hh
  replace h1 := hh
  clear hh
  refine N_pI h1 (by simp only [FX9_0, List.length_cons, List.length_nil]; omega) (fun S' hh => ?_)
  simp only [FX9_0, List.set] at hh
  replace h1 := hh
  clear hh
  refine N_pI h1 (by simp only [FX9_0, List.length_cons, List.length_nil]; omega) (fun S' hh => ?_)
  simp only [FX9_0, List.set] at hh
  replace h1 := hh
  clear hh
  refine N_pI h1 (by simp only [FX9_0, List.length_cons, List.length_nil]; omega) (fun S' hh => ?_)
  simp only [FX9_0, List.set] at hh
  replace h1 := hh
  clear hh
  refine N_pI h1 (by simp only [FX9_0, List.length_cons, List.length_nil]; omega) (fun S' hh => ?_)
  simp only [FX9_0, List.set] at hh
  replace h1 := hh
  clear hh
  obtain ⟨ρ, eρ⟩ : ∃ ρ, ρ = mkb (fun k => ([o8, 0, 0, 0, 0, 0] : List Nat).getD k 0) (fun k => k0) := ⟨_, rfl⟩
  have b0 : ρ 0 = o8 := by rw [eρ]; rfl
  obtain ⟨ga, ta, ha, hl⟩ := N_done h1 (9, 9, 0, 0, ρ) (cellOk_9 rfl ⟨o8, 0, 0, 0, 0, 0, rfl, ⟨b0.symm, kset_le h1.2.1 _ _ t1⟩, (by decide), (by decide), (by decide), (by decide)⟩)
  have e2 : in9 ρ o L = (o, .inr (9, [.ref o8, .int 0, .int 0, .int 0, .int 0, .int 0])) :: ((o8, .inl (0, 400, .inl (fun _ => 0))) :: L) := by simp only [in9, b0]
  rw [← e2] at hl
  exact k _ _ ρ ((gro_rf.tr g1).tr ga) ta ha hl
def in5 (ρ : Nat → Nat) (o : Nat) (L : List (Nat × hE)) : List (Nat × hE) := (o, .inr (5, [.ref (ρ 0), .ref (ρ 1), .int 1, .int 0])) :: (in10 (bk 0 ρ) (ρ 0) L)
theorem ki_X5 {q : hS → Prop} {v1 : Nat} {L : List (Nat × hE)} (h : Nw Γ Φ S o 5 FX5_0 L) {ρv : Nat → Nat} (hv : Γ v1 = some (9, 9, 0, 0, ρv)) (k : ∀ Γ' S' ρ, gro Γ Φ Γ' → Γ' o = some (5, 5, 0, 0, ρ) → St Γ' Φ S' → Hl Γ' S' (in5 ρ o L) → ρ 1 = v1 → q S') : w_X5_init q S o v1 := by
  unfold w_X5_init
  refine N_nO h (fun o5 S1a hA1 fin1 => ?_)
  refine ki_X10 hA1 (fun Γ1 S1 ρ1 gA1 t1 hB1 hL1 => ?_)
  obtain ⟨h1, g1⟩ := fin1 _ _ _ gA1 hB1 hL1
  refine N_pP h1 (by simp only [FX5_0, List.length_cons, List.length_nil]; omega) (fun S' hh => ?_)
  simp only [FX5_0, List.set] at hh
  replace h1 := hh
  clear hh
  refine ⟨by decide, ?_⟩
  refine N_pI h1 (by simp only [FX5_0, List.length_cons, List.length_nil]; omega) (fun S' hh => ?_)
  simp only [FX5_0, List.set] at hh
  replace h1 := hh
  clear hh
  refine N_pI h1 (by simp only [FX5_0, List.length_cons, List.length_nil]; omega) (fun S' hh => ?_)
  simp only [FX5_0, List.set] at hh
  replace h1 := hh
  clear hh
  refine N_pP h1 (by simp only [FX5_0, List.length_cons, List.length_nil]; omega) (fun S' hh => ?_)
  simp only [FX5_0, List.set] at hh
  replace h1 := hh
  clear hh
  obtain ⟨ρ, eρ⟩ : ∃ ρ, ρ = mkb (fun k => ([o5, v1, 0, 0] : List Nat).getD k 0) (fun k => if k = 0 then ρ1 else if k = 1 then ρv else k0) := ⟨_, rfl⟩
  have b0 : ρ 0 = o5 := by rw [eρ]; rfl
  have c0 : bk 0 ρ = ρ1 := by rw [eρ]; exact bk_mkb (by decide)
  have b1 : ρ 1 = v1 := by rw [eρ]; rfl
  have c1 : bk 1 ρ = ρv := by rw [eρ]; exact bk_mkb (by decide)
  obtain ⟨ga, ta, ha, hl⟩ := N_done h1 (5, 5, 0, 0, ρ) (cellOk_5 rfl ⟨o5, v1, 1, 0, rfl, ⟨b0.symm, (by dsimp only; rw [c0]; exact kset_le h1.2.1 _ _ t1)⟩, ⟨b1.symm, (by dsimp only; rw [c1]; exact kset_le h1.2.1 _ _ (g1.1 _ _ hv))⟩⟩)
  have e2 : in5 ρ o L = (o, .inr (5, [.ref o5, .ref v1, .int 1, .int 0])) :: (in10 ρ1 o5 L) := by simp only [in5, b0, c0, b1, c1]
  rw [← e2] at hl
  exact k _ _ ρ ((gro_rf.tr g1).tr ga) ta ha hl b1
def in7 (ρ : Nat → Nat) (o : Nat) (L : List (Nat × hE)) : List (Nat × hE) := (o, .inr (7, [.ref (ρ 0), .ref (ρ 1), .ref (ρ 2), .ref (ρ 3), .ref (ρ 4)])) :: ((ρ 4, .inl (1, 21, .inr (.inl (fun _ => 0)))) :: ((ρ 3, .inl (0, 189, .inl (fun _ => 0))) :: ((ρ 2, .inl (0, 8, .inl (fun _ => 0))) :: ((ρ 1, .inl (0, 8, .inl (fun _ => 0))) :: ((ρ 0, .inl (0, 8, .inl (fun _ => 0))) :: L)))))
theorem ki_X7 {q : hS → Prop} {L : List (Nat × hE)} (h : Nw Γ Φ S o 7 FX7_0 L) (k : ∀ Γ' S' ρ, gro Γ Φ Γ' → Γ' o = some (7, 7, 0, 0, ρ) → St Γ' Φ S' → Hl Γ' S' (in7 ρ o L) → q S') : w_X7_init q S o := by
  unfold w_X7_init
  refine N_mkI (n := 8) (20, 800, 8, 0, k0) h (by decide) (by decide) (fun _ => zc_I (by decide) (by decide)) (fun Γ1 S1 o7 g1 t1 _ h1 => ?_)
  refine N_pP h1 (by simp only [FX7_0, List.length_cons, List.length_nil]; omega) (fun S' hh => ?_)
  simp only [FX7_0, List.set] at hh
  replace h1 := hh
  clear hh
  refine N_mkI (n := 8) (20, 801, 8, 0, k0) h1 (by decide) (by decide) (fun _ => zc_I (by decide) (by decide)) (fun Γ2 S2 o15 g2 t2 _ h2 => ?_)
  refine N_pP h2 (by simp only [FX7_0, List.length_cons, List.length_nil]; omega) (fun S' hh => ?_)
  simp only [FX7_0, List.set] at hh
  replace h2 := hh
  clear hh
  refine N_mkI (n := 8) (20, 802, 8, 0, k0) h2 (by decide) (by decide) (fun _ => zc_I (by decide) (by decide)) (fun Γ3 S3 o23 g3 t3 _ h3 => ?_)
  refine N_pP h3 (by simp only [FX7_0, List.length_cons, List.length_nil]; omega) (fun S' hh => ?_)
  simp only [FX7_0, List.set] at hh
  replace h3 := hh
  clear hh
  refine N_mkI (n := 189) (20, 803, 189, 0, k0) h3 (by decide) (by decide) (fun _ => zc_I (by decide) (by decide)) (fun Γ4 S4 o32 g4 t4 _ h4 => ?_)
  refine N_pP h4 (by simp only [FX7_0, List.length_cons, List.length_nil]; omega) (fun S' hh => ?_)
  simp only [FX7_0, List.set] at hh
  replace h4 := hh
  clear hh
  refine N_mkJ (n := 21) (25, 804, 21, 0, k0) h4 (by decide) (by decide) (fun _ => zc_J (by decide)) (fun Γ5 S5 o40 g5 t5 _ h5 => ?_)
  refine N_pP h5 (by simp only [FX7_0, List.length_cons, List.length_nil]; omega) (fun S' hh => ?_)
  simp only [FX7_0, List.set] at hh
  replace h5 := hh
  clear hh
  obtain ⟨ρ, eρ⟩ : ∃ ρ, ρ = mkb (fun k => ([o7, o15, o23, o32, o40] : List Nat).getD k 0) (fun k => k0) := ⟨_, rfl⟩
  have b0 : ρ 0 = o7 := by rw [eρ]; rfl
  have b1 : ρ 1 = o15 := by rw [eρ]; rfl
  have b2 : ρ 2 = o23 := by rw [eρ]; rfl
  have b3 : ρ 3 = o32 := by rw [eρ]; rfl
  have b4 : ρ 4 = o40 := by rw [eρ]; rfl
  obtain ⟨ga, ta, ha, hl⟩ := N_done h5 (7, 7, 0, 0, ρ) (cellOk_7 rfl ⟨o7, o15, o23, o32, o40, rfl, ⟨b0.symm, kset_le h5.2.1 _ _ (g5.1 _ _ (g4.1 _ _ (g3.1 _ _ (g2.1 _ _ t1))))⟩, ⟨b1.symm, kset_le h5.2.1 _ _ (g5.1 _ _ (g4.1 _ _ (g3.1 _ _ t2)))⟩, ⟨b2.symm, kset_le h5.2.1 _ _ (g5.1 _ _ (g4.1 _ _ t3))⟩, ⟨b3.symm, kset_le h5.2.1 _ _ (g5.1 _ _ t4)⟩, ⟨b4.symm, kset_le h5.2.1 _ _ t5⟩⟩)
  have e2 : in7 ρ o L = (o, .inr (7, [.ref o7, .ref o15, .ref o23, .ref o32, .ref o40])) :: ((o40, .inl (1, 21, .inr (.inl (fun _ => 0)))) :: ((o32, .inl (0, 189, .inl (fun _ => 0))) :: ((o23, .inl (0, 8, .inl (fun _ => 0))) :: ((o15, .inl (0, 8, .inl (fun _ => 0))) :: ((o7, .inl (0, 8, .inl (fun _ => 0))) :: L))))) := by simp only [in7, b0, b1, b2, b3, b4]
  rw [← e2] at hl
  exact k _ _ ρ ((((((gro_rf.tr g1).tr g2).tr g3).tr g4).tr g5).tr ga) ta ha hl
def in8 (ρ : Nat → Nat) (o : Nat) (L : List (Nat × hE)) : List (Nat × hE) := (o, .inr (8, [.ref (ρ 0), .int 0, .ref (ρ 2), .ref (ρ 3), .int 0, .ref (ρ 5), .ref (ρ 6), .ref (ρ 7), .ref (ρ 8), .int 0, .ref (ρ 10), .ref (ρ 11), .int 3, .int 0, .int 0, .ref (ρ 15), .int (-1)])) :: ((ρ 15, .inl (5, 6, .inr (.inr (.inr (.inr (fun _ => none)))))) :: ((ρ 11, .inl (0, 6, .inl (fun _ => 0))) :: ((ρ 10, .inl (0, 6, .inl (fun _ => 0))) :: ((ρ 8, .inl (0, 8, .inl (fun _ => 0))) :: ((ρ 7, .inl (0, 8, .inl (fun _ => 0))) :: ((ρ 6, .inl (0, 8, .inl (fun _ => 0))) :: ((ρ 5, .inl (0, 8, .inl (fun _ => 0))) :: ((ρ 3, .inl (0, 6, .inl (fun _ => 0))) :: ((ρ 2, .inl (0, 6, .inl (fun _ => 0))) :: (in2 (bk 0 ρ) (ρ 0) L))))))))))
theorem ki_X8 {q : hS → Prop} (i : Nat) {L : List (Nat × hE)} (h : Nw Γ Φ S o 8 FX8_0 L) (k : ∀ Γ' S' ρ, gro Γ Φ Γ' → Γ' o = some (8, 8 + 10000 * i, i, 0, ρ) → St Γ' Φ S' → Hl Γ' S' (in8 ρ o L) → q S') : w_X8_init q S o := by
  unfold w_X8_init
  refine N_nO h (fun o5 S1a hA1 fin1 => ?_)
  refine ki_X2 i hA1 (fun Γ1 S1 ρ1 gA1 t1 hB1 hL1 => ?_)
  obtain ⟨h1, g1⟩ := fin1 _ _ _ gA1 hB1 hL1
  refine N_pP h1 (by simp only [FX8_0, List.length_cons, List.length_nil]; omega) (fun S' hh => ?_)
  simp only [FX8_0, List.set] at hh
  replace h1 := hh
  clear hh
  refine N_pI h1 (by simp only [FX8_0, List.length_cons, List.length_nil]; omega) (fun S' hh => ?_)
  simp only [FX8_0, List.set] at hh
  replace h1 := hh
  clear hh
  refine N_mkI (n := 6) (20, 902 + 10000 * i, 6, 0, k0) h1 (by decide) (by decide) (fun _ => zc_I (by decide) (by decide)) (fun Γ2 S2 o23 g2 t2 _ h2 => ?_)
  refine N_pP h2 (by simp only [FX8_0, List.length_cons, List.length_nil]; omega) (fun S' hh => ?_)
  simp only [FX8_0, List.set] at hh
  replace h2 := hh
  clear hh
  refine N_mkI (n := 6) (20, 903 + 10000 * i, 6, 0, k0) h2 (by decide) (by decide) (fun _ => zc_I (by decide) (by decide)) (fun Γ3 S3 o31 g3 t3 _ h3 => ?_)
  refine N_pP h3 (by simp only [FX8_0, List.length_cons, List.length_nil]; omega) (fun S' hh => ?_)
  simp only [FX8_0, List.set] at hh
  replace h3 := hh
  clear hh
  refine N_pI h3 (by simp only [FX8_0, List.length_cons, List.length_nil]; omega) (fun S' hh => ?_)
  simp only [FX8_0, List.set] at hh
  replace h3 := hh
  clear hh
  refine N_mkI (n := 8) (20, 905 + 10000 * i, 8, 0, k0) h3 (by decide) (by decide) (fun _ => zc_I (by decide) (by decide)) (fun Γ4 S4 o44 g4 t4 _ h4 => ?_)
  refine N_pP h4 (by simp only [FX8_0, List.length_cons, List.length_nil]; omega) (fun S' hh => ?_)
  simp only [FX8_0, List.set] at hh
  replace h4 := hh
  clear hh
  refine N_mkI (n := 8) (20, 906 + 10000 * i, 8, 0, k0) h4 (by decide) (by decide) (fun _ => zc_I (by decide) (by decide)) (fun Γ5 S5 o52 g5 t5 _ h5 => ?_)
  refine N_pP h5 (by simp only [FX8_0, List.length_cons, List.length_nil]; omega) (fun S' hh => ?_)
  simp only [FX8_0, List.set] at hh
  replace h5 := hh
  clear hh
  refine N_mkI (n := 8) (20, 907 + 10000 * i, 8, 0, k0) h5 (by decide) (by decide) (fun _ => zc_I (by decide) (by decide)) (fun Γ6 S6 o60 g6 t6 _ h6 => ?_)
  refine N_pP h6 (by simp only [FX8_0, List.length_cons, List.length_nil]; omega) (fun S' hh => ?_)
  simp only [FX8_0, List.set] at hh
  replace h6 := hh
  clear hh
  refine N_mkI (n := 8) (20, 908 + 10000 * i, 8, 0, k0) h6 (by decide) (by decide) (fun _ => zc_I (by decide) (by decide)) (fun Γ7 S7 o68 g7 t7 _ h7 => ?_)
  refine N_pP h7 (by simp only [FX8_0, List.length_cons, List.length_nil]; omega) (fun S' hh => ?_)
  simp only [FX8_0, List.set] at hh
  replace h7 := hh
  clear hh
  refine N_pI h7 (by simp only [FX8_0, List.length_cons, List.length_nil]; omega) (fun S' hh => ?_)
  simp only [FX8_0, List.set] at hh
  replace h7 := hh
  clear hh
  refine N_mkI (n := 6) (21, 910 + 10000 * i, 6, 0, k0) h7 (by decide) (by decide) (fun _ => zc_I (by decide) (by decide)) (fun Γ8 S8 o81 g8 t8 _ h8 => ?_)
  refine N_pP h8 (by simp only [FX8_0, List.length_cons, List.length_nil]; omega) (fun S' hh => ?_)
  simp only [FX8_0, List.set] at hh
  replace h8 := hh
  clear hh
  refine N_mkI (n := 6) (20, 911 + 10000 * i, 6, 0, k0) h8 (by decide) (by decide) (fun _ => zc_I (by decide) (by decide)) (fun Γ9 S9 o89 g9 t9 _ h9 => ?_)
  refine N_pP h9 (by simp only [FX8_0, List.length_cons, List.length_nil]; omega) (fun S' hh => ?_)
  simp only [FX8_0, List.set] at hh
  replace h9 := hh
  clear hh
  refine N_pI h9 (by simp only [FX8_0, List.length_cons, List.length_nil]; omega) (fun S' hh => ?_)
  simp only [FX8_0, List.set] at hh
  replace h9 := hh
  clear hh
  refine N_pI h9 (by simp only [FX8_0, List.length_cons, List.length_nil]; omega) (fun S' hh => ?_)
  simp only [FX8_0, List.set] at hh
  replace h9 := hh
  clear hh
  refine N_pI h9 (by simp only [FX8_0, List.length_cons, List.length_nil]; omega) (fun S' hh => ?_)
  simp only [FX8_0, List.set] at hh
  replace h9 := hh
  clear hh
  refine N_mkR (n := 6) (28, 915 + 10000 * i, 6, 0, k0) h9 (by decide) (by decide) (fun _ => zc_R28 (by decide)) (fun Γ10 S10 o112 g10 t10 _ h10 => ?_)
  refine N_pP h10 (by simp only [FX8_0, List.length_cons, List.length_nil]; omega) (fun S' hh => ?_)
  simp only [FX8_0, List.set] at hh
  replace h10 := hh
  clear hh
  refine N_pI h10 (by simp only [FX8_0, List.length_cons, List.length_nil]; omega) (fun S' hh => ?_)
  simp only [FX8_0, List.set] at hh
  replace h10 := hh
  clear hh
  obtain ⟨ρ, eρ⟩ : ∃ ρ, ρ = mkb (fun k => ([o5, 0, o23, o31, 0, o44, o52, o60, o68, 0, o81, o89, 0, 0, 0, o112, 0] : List Nat).getD k 0) (fun k => if k = 0 then ρ1 else k0) := ⟨_, rfl⟩
  have b0 : ρ 0 = o5 := by rw [eρ]; rfl
  have c0 : bk 0 ρ = ρ1 := by rw [eρ]; exact bk_mkb (by decide)
  have b2 : ρ 2 = o23 := by rw [eρ]; rfl
  have b3 : ρ 3 = o31 := by rw [eρ]; rfl
  have b5 : ρ 5 = o44 := by rw [eρ]; rfl
  have b6 : ρ 6 = o52 := by rw [eρ]; rfl
  have b7 : ρ 7 = o60 := by rw [eρ]; rfl
  have b8 : ρ 8 = o68 := by rw [eρ]; rfl
  have b10 : ρ 10 = o81 := by rw [eρ]; rfl
  have b11 : ρ 11 = o89 := by rw [eρ]; rfl
  have b15 : ρ 15 = o112 := by rw [eρ]; rfl
  obtain ⟨ga, ta, ha, hl⟩ := N_done h10 (8, 8 + 10000 * i, i, 0, ρ) (cellOk_8 rfl ⟨o5, 0, o23, o31, 0, o44, o52, o60, o68, 0, o81, o89, 3, 0, 0, o112, (-1), rfl, ⟨b0.symm, (by dsimp only; rw [c0]; exact kset_le h10.2.1 _ _ (g10.1 _ _ (g9.1 _ _ (g8.1 _ _ (g7.1 _ _ (g6.1 _ _ (g5.1 _ _ (g4.1 _ _ (g3.1 _ _ (g2.1 _ _ t1))))))))))⟩, (by decide), ⟨b2.symm, kset_le h10.2.1 _ _ (g10.1 _ _ (g9.1 _ _ (g8.1 _ _ (g7.1 _ _ (g6.1 _ _ (g5.1 _ _ (g4.1 _ _ (g3.1 _ _ t2))))))))⟩, ⟨b3.symm, kset_le h10.2.1 _ _ (g10.1 _ _ (g9.1 _ _ (g8.1 _ _ (g7.1 _ _ (g6.1 _ _ (g5.1 _ _ (g4.1 _ _ t3)))))))⟩, (by decide), ⟨b5.symm, kset_le h10.2.1 _ _ (g10.1 _ _ (g9.1 _ _ (g8.1 _ _ (g7.1 _ _ (g6.1 _ _ (g5.1 _ _ t4))))))⟩, ⟨b6.symm, kset_le h10.2.1 _ _ (g10.1 _ _ (g9.1 _ _ (g8.1 _ _ (g7.1 _ _ (g6.1 _ _ t5)))))⟩, ⟨b7.symm, kset_le h10.2.1 _ _ (g10.1 _ _ (g9.1 _ _ (g8.1 _ _ (g7.1 _ _ t6))))⟩, ⟨b8.symm, kset_le h10.2.1 _ _ (g10.1 _ _ (g9.1 _ _ (g8.1 _ _ t7)))⟩, (by decide), ⟨b10.symm, kset_le h10.2.1 _ _ (g10.1 _ _ (g9.1 _ _ t8))⟩, ⟨b11.symm, kset_le h10.2.1 _ _ (g10.1 _ _ t9)⟩, (by decide), ⟨b15.symm, kset_le h10.2.1 _ _ t10⟩⟩)
  have e2 : in8 ρ o L = (o, .inr (8, [.ref o5, .int 0, .ref o23, .ref o31, .int 0, .ref o44, .ref o52, .ref o60, .ref o68, .int 0, .ref o81, .ref o89, .int 3, .int 0, .int 0, .ref o112, .int (-1)])) :: ((o112, .inl (5, 6, .inr (.inr (.inr (.inr (fun _ => none)))))) :: ((o89, .inl (0, 6, .inl (fun _ => 0))) :: ((o81, .inl (0, 6, .inl (fun _ => 0))) :: ((o68, .inl (0, 8, .inl (fun _ => 0))) :: ((o60, .inl (0, 8, .inl (fun _ => 0))) :: ((o52, .inl (0, 8, .inl (fun _ => 0))) :: ((o44, .inl (0, 8, .inl (fun _ => 0))) :: ((o31, .inl (0, 6, .inl (fun _ => 0))) :: ((o23, .inl (0, 6, .inl (fun _ => 0))) :: (in2 ρ1 o5 L)))))))))) := by simp only [in8, b0, c0, b2, b3, b5, b6, b7, b8, b10, b11, b15]
  rw [← e2] at hl
  exact k _ _ ρ (((((((((((gro_rf.tr g1).tr g2).tr g3).tr g4).tr g5).tr g6).tr g7).tr g8).tr g9).tr g10).tr ga) ta ha hl
def in11 (ρ : Nat → Nat) (o : Nat) (L : List (Nat × hE)) : List (Nat × hE) := (o, .inr (11, [.ref (ρ 0), .ref (ρ 1), .ref (ρ 2), .ref (ρ 3), .ref (ρ 4), .ref (ρ 5), .ref (ρ 6), .ref (ρ 7), .ref (ρ 8), .ref (ρ 9), .ref (ρ 10), .int 0, .int 0, .int (-1), .int (-1), .int 0, .ref (ρ 16), .int 0])) :: ((ρ 16, .inl (0, 7, .inl (fun _ => 0))) :: ((ρ 10, .inl (0, 48, .inl (fun _ => 0))) :: (in7 (bk 9 ρ) (ρ 9) (in4 (bk 8 ρ) (ρ 8) (in1 (bk 7 ρ) (ρ 7) (in0 (bk 6 ρ) (ρ 6) (in5 (bk 5 ρ) (ρ 5) (in9 (bk 4 ρ) (ρ 4) (in3 (bk 3 ρ) (ρ 3) ((ρ 2, .inl (4, 2, .inr (.inr (.inr (.inr (fun _ => none)))))) :: (in8 (bk 1 ρ) (ρ 1) (in8 (bk 0 ρ) (ρ 0) L))))))))))))
theorem ki_X11 {q : hS → Prop} {L : List (Nat × hE)} (h : Nw Γ Φ S o 11 FX11_0 L) (k : ∀ Γ' S' ρ, gro Γ Φ Γ' → Γ' o = some (11, 11, 0, 0, ρ) → St Γ' Φ S' → Hl Γ' S' (in11 ρ o L) → q S') : w_X11_init q S o := by
  unfold w_X11_init
  refine N_nO h (fun o5 S1a hA1 fin1 => ?_)
  refine ki_X8 0 hA1 (fun Γ1 S1 ρ1 gA1 t1 hB1 hL1 => ?_)
  obtain ⟨h1, g1⟩ := fin1 _ _ _ gA1 hB1 hL1
  refine N_pP h1 (by simp only [FX11_0, List.length_cons, List.length_nil]; omega) (fun S' hh => ?_)
  simp only [FX11_0, List.set] at hh
  replace h1 := hh
  clear hh
  refine N_nO h1 (fun o16 S2a hA2 fin2 => ?_)
  refine ki_X8 1 hA2 (fun Γ2 S2 ρ2 gA2 t2 hB2 hL2 => ?_)
  obtain ⟨h2, g2⟩ := fin2 _ _ _ gA2 hB2 hL2
  refine N_pP h2 (by simp only [FX11_0, List.length_cons, List.length_nil]; omega) (fun S' hh => ?_)
  simp only [FX11_0, List.set] at hh
  replace h2 := hh
  clear hh
  refine N_mkR (n := 2) (26, 1202, 2, 0, k0) h2 (by decide) (by decide) (fun _ => zc_R26 (by decide)) (fun Γ3 S3 o28 g3 t3 _ h3 => ?_)
  refine N_pP h3 (by simp only [FX11_0, List.length_cons, List.length_nil]; omega) (fun S' hh => ?_)
  simp only [FX11_0, List.set] at hh
  replace h3 := hh
  clear hh
  refine N_nO h3 (fun o35 S4a hA4 fin4 => ?_)
  refine ki_X3 hA4 (fun Γ4 S4 ρ4 gA4 t4 hB4 hL4 => ?_)
  obtain ⟨h4, g4⟩ := fin4 _ _ _ gA4 hB4 hL4
  refine N_pP h4 (by simp only [FX11_0, List.length_cons, List.length_nil]; omega) (fun S' hh => ?_)
  simp only [FX11_0, List.set] at hh
  replace h4 := hh
  clear hh
  refine N_nO h4 (fun o46 S5a hA5 fin5 => ?_)
  refine ki_X9 hA5 (fun Γ5 S5 ρ5 gA5 t5 hB5 hL5 => ?_)
  obtain ⟨h5, g5⟩ := fin5 _ _ _ gA5 hB5 hL5
  refine N_pP h5 (by simp only [FX11_0, List.length_cons, List.length_nil]; omega) (fun S' hh => ?_)
  simp only [FX11_0, List.set] at hh
  replace h5 := hh
  clear hh
  refine N_nO h5 (fun o57 S6a hA6 fin6 => ?_)
  refine ⟨_, o46, (fz_eq (b := o) hA6.1 (by simp) h5.2.2.2.1).trans h5.2.2.2.1, rfl, ?_⟩
  refine ki_X5 hA6 t5 (fun Γ6 S6 ρ6 gA6 t6 hB6 hL6 x6 => ?_)
  obtain ⟨h6, g6⟩ := fin6 _ _ _ gA6 hB6 hL6
  refine N_pP h6 (by simp only [FX11_0, List.length_cons, List.length_nil]; omega) (fun S' hh => ?_)
  simp only [FX11_0, List.set] at hh
  replace h6 := hh
  clear hh
  refine N_nO h6 (fun o72 S7a hA7 fin7 => ?_)
  refine ki_X0 hA7 (fun Γ7 S7 ρ7 gA7 t7 hB7 hL7 => ?_)
  obtain ⟨h7, g7⟩ := fin7 _ _ _ gA7 hB7 hL7
  refine N_pP h7 (by simp only [FX11_0, List.length_cons, List.length_nil]; omega) (fun S' hh => ?_)
  simp only [FX11_0, List.set] at hh
  replace h7 := hh
  clear hh
  refine N_nO h7 (fun o83 S8a hA8 fin8 => ?_)
  refine ⟨_, o72, (fz_eq (b := o) hA8.1 (by simp) h7.2.2.2.1).trans h7.2.2.2.1, rfl, ?_⟩
  refine ki_X1 hA8 t7 (fun Γ8 S8 ρ8 gA8 t8 hB8 hL8 x8 => ?_)
  obtain ⟨h8, g8⟩ := fin8 _ _ _ gA8 hB8 hL8
  refine N_pP h8 (by simp only [FX11_0, List.length_cons, List.length_nil]; omega) (fun S' hh => ?_)
  simp only [FX11_0, List.set] at hh
  replace h8 := hh
  clear hh
  refine N_nO h8 (fun o98 S9a hA9 fin9 => ?_)
  refine ki_X4 hA9 (fun Γ9 S9 ρ9 gA9 t9 hB9 hL9 => ?_)
  obtain ⟨h9, g9⟩ := fin9 _ _ _ gA9 hB9 hL9
  refine N_pP h9 (by simp only [FX11_0, List.length_cons, List.length_nil]; omega) (fun S' hh => ?_)
  simp only [FX11_0, List.set] at hh
  replace h9 := hh
  clear hh
  refine N_nO h9 (fun o109 S10a hA10 fin10 => ?_)
  refine ki_X7 hA10 (fun Γ10 S10 ρ10 gA10 t10 hB10 hL10 => ?_)
  obtain ⟨h10, g10⟩ := fin10 _ _ _ gA10 hB10 hL10
  refine N_pP h10 (by simp only [FX11_0, List.length_cons, List.length_nil]; omega) (fun S' hh => ?_)
  simp only [FX11_0, List.set] at hh
  replace h10 := hh
  clear hh
  refine N_mkI (n := 48) (20, 1210, 48, 0, k0) h10 (by decide) (by decide) (fun _ => zc_I (by decide) (by decide)) (fun Γ11 S11 o122 g11 t11 _ h11 => ?_)
  refine N_pP h11 (by simp only [FX11_0, List.length_cons, List.length_nil]; omega) (fun S' hh => ?_)
  simp only [FX11_0, List.set] at hh
  replace h11 := hh
  clear hh
  refine N_pI h11 (by simp only [FX11_0, List.length_cons, List.length_nil]; omega) (fun S' hh => ?_)
  simp only [FX11_0, List.set] at hh
  replace h11 := hh
  clear hh
  refine N_pI h11 (by simp only [FX11_0, List.length_cons, List.length_nil]; omega) (fun S' hh => ?_)
  simp only [FX11_0, List.set] at hh
  replace h11 := hh
  clear hh
  refine N_pI h11 (by simp only [FX11_0, List.length_cons, List.length_nil]; omega) (fun S' hh => ?_)
  simp only [FX11_0, List.set] at hh
  replace h11 := hh
  clear hh
  refine N_pI h11 (by simp only [FX11_0, List.length_cons, List.length_nil]; omega) (fun S' hh => ?_)
  simp only [FX11_0, List.set] at hh
  replace h11 := hh
  clear hh
  refine N_pI h11 (by simp only [FX11_0, List.length_cons, List.length_nil]; omega) (fun S' hh => ?_)
  simp only [FX11_0, List.set] at hh
  replace h11 := hh
  clear hh
  refine N_mkI (n := 7) (20, 1216, 7, 0, k0) h11 (by decide) (by decide) (fun _ => zc_I (by decide) (by decide)) (fun Γ12 S12 o155 g12 t12 _ h12 => ?_)
  refine N_pP h12 (by simp only [FX11_0, List.length_cons, List.length_nil]; omega) (fun S' hh => ?_)
  simp only [FX11_0, List.set] at hh
  replace h12 := hh
  clear hh
  refine N_pI h12 (by simp only [FX11_0, List.length_cons, List.length_nil]; omega) (fun S' hh => ?_)
  simp only [FX11_0, List.set] at hh
  replace h12 := hh
  clear hh
  obtain ⟨ρ, eρ⟩ : ∃ ρ, ρ = mkb (fun k => ([o5, o16, o28, o35, o46, o57, o72, o83, o98, o109, o122, 0, 0, 0, 0, 0, o155, 0] : List Nat).getD k 0) (fun k => if k = 0 then ρ1 else if k = 1 then ρ2 else if k = 3 then ρ4 else if k = 4 then ρ5 else if k = 5 then ρ6 else if k = 6 then ρ7 else if k = 7 then ρ8 else if k = 8 then ρ9 else if k = 9 then ρ10 else k0) := ⟨_, rfl⟩
  have b0 : ρ 0 = o5 := by rw [eρ]; rfl
  have c0 : bk 0 ρ = ρ1 := by rw [eρ]; exact bk_mkb (by decide)
  have b1 : ρ 1 = o16 := by rw [eρ]; rfl
  have c1 : bk 1 ρ = ρ2 := by rw [eρ]; exact bk_mkb (by decide)
  have b2 : ρ 2 = o28 := by rw [eρ]; rfl
  have b3 : ρ 3 = o35 := by rw [eρ]; rfl
  have c3 : bk 3 ρ = ρ4 := by rw [eρ]; exact bk_mkb (by decide)
  have b4 : ρ 4 = o46 := by rw [eρ]; rfl
  have c4 : bk 4 ρ = ρ5 := by rw [eρ]; exact bk_mkb (by decide)
  have b5 : ρ 5 = o57 := by rw [eρ]; rfl
  have c5 : bk 5 ρ = ρ6 := by rw [eρ]; exact bk_mkb (by decide)
  have b6 : ρ 6 = o72 := by rw [eρ]; rfl
  have c6 : bk 6 ρ = ρ7 := by rw [eρ]; exact bk_mkb (by decide)
  have b7 : ρ 7 = o83 := by rw [eρ]; rfl
  have c7 : bk 7 ρ = ρ8 := by rw [eρ]; exact bk_mkb (by decide)
  have b8 : ρ 8 = o98 := by rw [eρ]; rfl
  have c8 : bk 8 ρ = ρ9 := by rw [eρ]; exact bk_mkb (by decide)
  have b9 : ρ 9 = o109 := by rw [eρ]; rfl
  have c9 : bk 9 ρ = ρ10 := by rw [eρ]; exact bk_mkb (by decide)
  have b10 : ρ 10 = o122 := by rw [eρ]; rfl
  have b16 : ρ 16 = o155 := by rw [eρ]; rfl
  obtain ⟨ga, ta, ha, hl⟩ := N_done h12 (11, 11, 0, 0, ρ) (cellOk_11 rfl ⟨o5, o16, o28, o35, o46, o57, o72, o83, o98, o109, o122, 0, 0, (-1), (-1), 0, o155, 0, rfl, ⟨b0.symm, (by dsimp only; rw [c0]; exact kset_le h12.2.1 _ _ (g12.1 _ _ (g11.1 _ _ (g10.1 _ _ (g9.1 _ _ (g8.1 _ _ (g7.1 _ _ (g6.1 _ _ (g5.1 _ _ (g4.1 _ _ (g3.1 _ _ (g2.1 _ _ t1))))))))))))⟩, ⟨b1.symm, (by dsimp only; rw [c1]; exact kset_le h12.2.1 _ _ (g12.1 _ _ (g11.1 _ _ (g10.1 _ _ (g9.1 _ _ (g8.1 _ _ (g7.1 _ _ (g6.1 _ _ (g5.1 _ _ (g4.1 _ _ (g3.1 _ _ t2)))))))))))⟩, ⟨b2.symm, kset_le h12.2.1 _ _ (g12.1 _ _ (g11.1 _ _ (g10.1 _ _ (g9.1 _ _ (g8.1 _ _ (g7.1 _ _ (g6.1 _ _ (g5.1 _ _ (g4.1 _ _ t3)))))))))⟩, ⟨b3.symm, (by dsimp only; rw [c3]; exact kset_le h12.2.1 _ _ (g12.1 _ _ (g11.1 _ _ (g10.1 _ _ (g9.1 _ _ (g8.1 _ _ (g7.1 _ _ (g6.1 _ _ (g5.1 _ _ t4)))))))))⟩, ⟨b4.symm, (by dsimp only; rw [c4]; exact kset_le h12.2.1 _ _ (g12.1 _ _ (g11.1 _ _ (g10.1 _ _ (g9.1 _ _ (g8.1 _ _ (g7.1 _ _ (g6.1 _ _ t5))))))))⟩, ⟨b5.symm, (by dsimp only; rw [c5]; exact kset_le h12.2.1 _ _ (g12.1 _ _ (g11.1 _ _ (g10.1 _ _ (g9.1 _ _ (g8.1 _ _ (g7.1 _ _ t6)))))))⟩, ⟨b6.symm, (by dsimp only; rw [c6]; exact kset_le h12.2.1 _ _ (g12.1 _ _ (g11.1 _ _ (g10.1 _ _ (g9.1 _ _ (g8.1 _ _ t7))))))⟩, ⟨b7.symm, (by dsimp only; rw [c7]; exact kset_le h12.2.1 _ _ (g12.1 _ _ (g11.1 _ _ (g10.1 _ _ (g9.1 _ _ t8)))))⟩, ⟨b8.symm, (by dsimp only; rw [c8]; exact kset_le h12.2.1 _ _ (g12.1 _ _ (g11.1 _ _ (g10.1 _ _ t9))))⟩, ⟨b9.symm, (by dsimp only; rw [c9]; exact kset_le h12.2.1 _ _ (g12.1 _ _ (g11.1 _ _ t10)))⟩, ⟨b10.symm, kset_le h12.2.1 _ _ (g12.1 _ _ t11)⟩, (by decide), (by decide), ⟨b16.symm, kset_le h12.2.1 _ _ t12⟩, rfl, (by dsimp only; rw [c5, b4]; exact x6)⟩)
  have e2 : in11 ρ o L = (o, .inr (11, [.ref o5, .ref o16, .ref o28, .ref o35, .ref o46, .ref o57, .ref o72, .ref o83, .ref o98, .ref o109, .ref o122, .int 0, .int 0, .int (-1), .int (-1), .int 0, .ref o155, .int 0])) :: ((o155, .inl (0, 7, .inl (fun _ => 0))) :: ((o122, .inl (0, 48, .inl (fun _ => 0))) :: (in7 ρ10 o109 (in4 ρ9 o98 (in1 ρ8 o83 (in0 ρ7 o72 (in5 ρ6 o57 (in9 ρ5 o46 (in3 ρ4 o35 ((o28, .inl (4, 2, .inr (.inr (.inr (.inr (fun _ => none)))))) :: (in8 ρ2 o16 (in8 ρ1 o5 L)))))))))))) := by simp only [in11, b0, c0, b1, c1, b2, b3, c3, b4, c4, b5, c5, b6, c6, b7, c7, b8, c8, b9, c9, b10, b16]
  rw [← e2] at hl
  exact k _ _ ρ (((((((((((((gro_rf.tr g1).tr g2).tr g3).tr g4).tr g5).tr g6).tr g7).tr g8).tr g9).tr g10).tr g11).tr g12).tr ga) ta ha hl
end INI
