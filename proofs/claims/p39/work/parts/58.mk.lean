/-! LAYER 2, the class: what is made -/
/-- more cells have kinds: none that is kept -/
def gro (Γ : kG) (Φ : kF) (Γ' : kG) : Prop := (∀ a τ, Γ a = some τ → Γ' a = some τ) ∧ ∀ a τ, Γ' a = some τ → Γ a = some τ ∨ Φ a = none
theorem gro_rf {Γ : kG} {Φ : kF} : gro Γ Φ Γ := ⟨fun _ _ h => h, fun _ _ h => Or.inl h⟩
theorem gro.tr {Γ Γ' Γ2 : kG} {Φ : kF} (h : gro Γ Φ Γ') (h' : gro Γ' Φ Γ2) : gro Γ Φ Γ2 := ⟨fun a τ ha => h'.1 a τ (h.1 a τ ha), fun a τ ha => by
  rcases h'.2 a τ ha with c | c
  · exact h.2 a τ c
  · exact Or.inr c⟩
theorem fre.gr {Γ Γ' : kG} {Φ : kF} {L : List Nat} (h : fre Γ Φ L) (g : gro Γ Φ Γ') : fre Γ' Φ L := fun a τ ha hm => by
  rcases g.2 a τ ha with c | c
  · exact h a τ c hm
  · exact c
/-- some cells kept too -/
def fzk (Φ : kF) (S : hS) (l : List Nat) : kF := fun b => if b ∈ l then S b else Φ b
theorem St_fz {Γ : kG} {Φ : kF} {S : hS} (h : St Γ Φ S) (l : List Nat) : St Γ (fzk Φ S l) S := ⟨h.1, fun a e ha => by
  unfold fzk at ha
  split at ha
  · exact ha
  · exact h.2 a e ha⟩
theorem St_unfz {Γ Γ' : kG} {Φ : kF} {S S' : hS} {l : List Nat} (h0 : St Γ Φ S) (h : St Γ' (fzk Φ S l) S') : St Γ' Φ S' := ⟨h.1, fun a e ha => by
  refine h.2 a e ?_
  unfold fzk
  split
  · exact h0.2 a e ha
  · exact ha⟩
theorem fz_eq {Γ' : kG} {Φ : kF} {S S' : hS} {l : List Nat} (h : St Γ' (fzk Φ S l) S') {b : Nat} {e : hE} (hb : b ∈ l) (he : S b = some e) : S' b = S b := by
  rw [he]
  refine h.2 b e ?_
  unfold fzk
  rw [if_pos hb]
  exact he
theorem fre_fz {Γ : kG} {Φ : kF} {S : hS} {L l : List Nat} (h : fre Γ Φ L) (hl : ∀ b ∈ l, ∀ τ, Γ b = some τ → τ.2.1 ∉ L) : fre Γ (fzk Φ S l) L := fun a τ ha hm => by
  unfold fzk
  split
  · rename_i c
    exact absurd hm (hl a c τ ha)
  · exact h a τ ha hm
theorem gro_unfz {Γ Γ' : kG} {Φ : kF} {S : hS} {l : List Nat} (hl : ∀ b ∈ l, S b ≠ none) (g : gro Γ (fzk Φ S l) Γ') : gro Γ Φ Γ' := ⟨g.1, fun a τ ha => by
  rcases g.2 a τ ha with c | c
  · exact Or.inl c
  · unfold fzk at c
    split at c
    · rename_i m
      exact absurd c (hl a m)
    · exact Or.inr c⟩
theorem cl0_mono {Γ Γ' : kG} {τ : kT} {e : Option hE} (hg : ∀ a τ, Γ a = some τ → Γ' a = some τ) (h : cl0 Γ τ e) : cl0 Γ' τ e := by
  obtain ⟨b0, b1, e, hc⟩ := h
  exact ⟨b0, b1, e, hg _ _ hc.1, hg _ _ hc.2⟩
theorem cl1_mono {Γ Γ' : kG} {τ : kT} {e : Option hE} (hg : ∀ a τ, Γ a = some τ → Γ' a = some τ) (h : cl1 Γ τ e) : cl1 Γ' τ e := by
  obtain ⟨b0, b1, b2, b3, b4, b5, e, hc⟩ := h
  exact ⟨b0, b1, b2, b3, b4, b5, e, hg _ _ hc.1, hg _ _ hc.2.1, hg _ _ hc.2.2⟩
theorem cl2_mono {Γ Γ' : kG} {τ : kT} {e : Option hE} (hg : ∀ a τ, Γ a = some τ → Γ' a = some τ) (h : cl2 Γ τ e) : cl2 Γ' τ e := by
  obtain ⟨b0, b1, b2, b3, b4, b5, e, hc⟩ := h
  exact ⟨b0, b1, b2, b3, b4, b5, e, hg _ _ hc.1, hg _ _ hc.2.1, hg _ _ hc.2.2.1, hg _ _ hc.2.2.2⟩
theorem cl3_mono {Γ Γ' : kG} {τ : kT} {e : Option hE} (hg : ∀ a τ, Γ a = some τ → Γ' a = some τ) (h : cl3 Γ τ e) : cl3 Γ' τ e := by
  obtain ⟨b0, b1, b2, b3, e, hc⟩ := h
  exact ⟨b0, b1, b2, b3, e, hg _ _ hc.1, hg _ _ hc.2.1, hc.2.2⟩
theorem cl4_mono {Γ Γ' : kG} {τ : kT} {e : Option hE} (hg : ∀ a τ, Γ a = some τ → Γ' a = some τ) (h : cl4 Γ τ e) : cl4 Γ' τ e := by
  obtain ⟨b0, b1, b2, b3, b4, b5, b6, b7, b8, b9, b10, e, hc⟩ := h
  exact ⟨b0, b1, b2, b3, b4, b5, b6, b7, b8, b9, b10, e, hg _ _ hc.1, hg _ _ hc.2.1, hc.2.2.1, hg _ _ hc.2.2.2.1, hg _ _ hc.2.2.2.2.1, hg _ _ hc.2.2.2.2.2.1, hg _ _ hc.2.2.2.2.2.2.1, hg _ _ hc.2.2.2.2.2.2.2.1, hc.2.2.2.2.2.2.2.2⟩
theorem cl5_mono {Γ Γ' : kG} {τ : kT} {e : Option hE} (hg : ∀ a τ, Γ a = some τ → Γ' a = some τ) (h : cl5 Γ τ e) : cl5 Γ' τ e := by
  obtain ⟨b0, b1, b2, b3, e, hc⟩ := h
  exact ⟨b0, b1, b2, b3, e, hg _ _ hc.1, hg _ _ hc.2⟩
theorem cl6_mono {Γ Γ' : kG} {τ : kT} {e : Option hE} (hg : ∀ a τ, Γ a = some τ → Γ' a = some τ) (h : cl6 Γ τ e) : cl6 Γ' τ e := by
  obtain ⟨b0, e, hc⟩ := h
  exact ⟨b0, e, hg _ _ hc⟩
theorem cl7_mono {Γ Γ' : kG} {τ : kT} {e : Option hE} (hg : ∀ a τ, Γ a = some τ → Γ' a = some τ) (h : cl7 Γ τ e) : cl7 Γ' τ e := by
  obtain ⟨b0, b1, b2, b3, b4, e, hc⟩ := h
  exact ⟨b0, b1, b2, b3, b4, e, hg _ _ hc.1, hg _ _ hc.2.1, hg _ _ hc.2.2.1, hg _ _ hc.2.2.2.1, hg _ _ hc.2.2.2.2⟩
theorem cl8_mono {Γ Γ' : kG} {τ : kT} {e : Option hE} (hg : ∀ a τ, Γ a = some τ → Γ' a = some τ) (h : cl8 Γ τ e) : cl8 Γ' τ e := by
  obtain ⟨b0, b1, b2, b3, b4, b5, b6, b7, b8, b9, b10, b11, b12, b13, b14, b15, b16, e, hc⟩ := h
  exact ⟨b0, b1, b2, b3, b4, b5, b6, b7, b8, b9, b10, b11, b12, b13, b14, b15, b16, e, hg _ _ hc.1, hc.2.1, hg _ _ hc.2.2.1, hg _ _ hc.2.2.2.1, hc.2.2.2.2.1, hg _ _ hc.2.2.2.2.2.1, hg _ _ hc.2.2.2.2.2.2.1, hg _ _ hc.2.2.2.2.2.2.2.1, hg _ _ hc.2.2.2.2.2.2.2.2.1, hc.2.2.2.2.2.2.2.2.2.1, hg _ _ hc.2.2.2.2.2.2.2.2.2.2.1, hg _ _ hc.2.2.2.2.2.2.2.2.2.2.2.1, hc.2.2.2.2.2.2.2.2.2.2.2.2.1, hg _ _ hc.2.2.2.2.2.2.2.2.2.2.2.2.2⟩
theorem cl9_mono {Γ Γ' : kG} {τ : kT} {e : Option hE} (hg : ∀ a τ, Γ a = some τ → Γ' a = some τ) (h : cl9 Γ τ e) : cl9 Γ' τ e := by
  obtain ⟨b0, b1, b2, b3, b4, b5, e, hc⟩ := h
  exact ⟨b0, b1, b2, b3, b4, b5, e, hg _ _ hc.1, hc.2.1, hc.2.2.1, hc.2.2.2.1, hc.2.2.2.2⟩
theorem cl10_mono {Γ Γ' : kG} {τ : kT} {e : Option hE} (hg : ∀ a τ, Γ a = some τ → Γ' a = some τ) (h : cl10 Γ τ e) : cl10 Γ' τ e := by
  obtain ⟨b0, b1, b2, b3, b4, b5, b6, e, hc⟩ := h
  exact ⟨b0, b1, b2, b3, b4, b5, b6, e, hc.1, hc.2.1, hc.2.2.1, hg _ _ hc.2.2.2.1, hg _ _ hc.2.2.2.2.1, hg _ _ hc.2.2.2.2.2.1, hg _ _ hc.2.2.2.2.2.2.1, hc.2.2.2.2.2.2.2.1, hc.2.2.2.2.2.2.2.2⟩
theorem cl11_mono {Γ Γ' : kG} {τ : kT} {e : Option hE} (hg : ∀ a τ, Γ a = some τ → Γ' a = some τ) (h : cl11 Γ τ e) : cl11 Γ' τ e := by
  obtain ⟨b0, b1, b2, b3, b4, b5, b6, b7, b8, b9, b10, b11, b12, b13, b14, b15, b16, b17, e, hc⟩ := h
  exact ⟨b0, b1, b2, b3, b4, b5, b6, b7, b8, b9, b10, b11, b12, b13, b14, b15, b16, b17, e, hg _ _ hc.1, hg _ _ hc.2.1, hg _ _ hc.2.2.1, hg _ _ hc.2.2.2.1, hg _ _ hc.2.2.2.2.1, hg _ _ hc.2.2.2.2.2.1, hg _ _ hc.2.2.2.2.2.2.1, hg _ _ hc.2.2.2.2.2.2.2.1, hg _ _ hc.2.2.2.2.2.2.2.2.1, hg _ _ hc.2.2.2.2.2.2.2.2.2.1, hg _ _ hc.2.2.2.2.2.2.2.2.2.2.1, hc.2.2.2.2.2.2.2.2.2.2.2.1, hc.2.2.2.2.2.2.2.2.2.2.2.2.1, hg _ _ hc.2.2.2.2.2.2.2.2.2.2.2.2.2⟩
theorem isTx_mono {Γ Γ' : kG} {b : Nat} (hg : ∀ a τ, Γ a = some τ → Γ' a = some τ) (h : isTx Γ b) : isTx Γ' b := by
  obtain ⟨c, n, h1, h2⟩ := h
  exact ⟨c, n, hg _ _ h1, h2⟩
theorem arR_mono {kd n : Nat} {p p' : Nat → Prop} {e : Option hE} (hp : ∀ b, p b → p' b) (h : arR kd n p e) : arR kd n p' e := by
  obtain ⟨hn, f, e, hf⟩ := h
  exact ⟨hn, f, e, fun j hj b hb => hp b (hf j hj b hb)⟩
theorem cellOk_mono {Γ Γ' : kG} {τ : kT} {e : Option hE} (hg : ∀ a τ, Γ a = some τ → Γ' a = some τ) (h : cellOk Γ τ e) : cellOk Γ' τ e :=
  ⟨fun z => cl0_mono hg (h.1 z), fun z => cl1_mono hg (h.2.1 z), fun z => cl2_mono hg (h.2.2.1 z), fun z => cl3_mono hg (h.2.2.2.1 z), fun z => cl4_mono hg (h.2.2.2.2.1 z), fun z => cl5_mono hg (h.2.2.2.2.2.1 z), fun z => cl6_mono hg (h.2.2.2.2.2.2.1 z), fun z => cl7_mono hg (h.2.2.2.2.2.2.2.1 z), fun z => cl8_mono hg (h.2.2.2.2.2.2.2.2.1 z), fun z => cl9_mono hg (h.2.2.2.2.2.2.2.2.2.1 z), fun z => cl10_mono hg (h.2.2.2.2.2.2.2.2.2.2.1 z), fun z => cl11_mono hg (h.2.2.2.2.2.2.2.2.2.2.2.1 z), h.2.2.2.2.2.2.2.2.2.2.2.2.1, h.2.2.2.2.2.2.2.2.2.2.2.2.2.1, h.2.2.2.2.2.2.2.2.2.2.2.2.2.2.1, h.2.2.2.2.2.2.2.2.2.2.2.2.2.2.2.1, h.2.2.2.2.2.2.2.2.2.2.2.2.2.2.2.2.1, h.2.2.2.2.2.2.2.2.2.2.2.2.2.2.2.2.2.1, fun z => arR_mono (fun b hb => hg _ _ hb) (h.2.2.2.2.2.2.2.2.2.2.2.2.2.2.2.2.2.2.1 z), fun z => arR_mono (fun b hb => hg _ _ hb) (h.2.2.2.2.2.2.2.2.2.2.2.2.2.2.2.2.2.2.2.1 z), fun z => arR_mono (fun b hb => isTx_mono hg hb) (h.2.2.2.2.2.2.2.2.2.2.2.2.2.2.2.2.2.2.2.2.1 z), h.2.2.2.2.2.2.2.2.2.2.2.2.2.2.2.2.2.2.2.2.2⟩
theorem cellOk_some {Γ : kG} {τ : kT} (h : cellOk Γ τ none) : False := by
  have hl := h.2.2.2.2.2.2.2.2.2.2.2.2.2.2.2.2.2.2.2.2.2
  have : τ.1 = 0 ∨ τ.1 = 1 ∨ τ.1 = 2 ∨ τ.1 = 3 ∨ τ.1 = 4 ∨ τ.1 = 5 ∨ τ.1 = 6 ∨ τ.1 = 7 ∨ τ.1 = 8 ∨ τ.1 = 9 ∨ τ.1 = 10 ∨ τ.1 = 11 ∨ τ.1 = 20 ∨ τ.1 = 21 ∨ τ.1 = 22 ∨ τ.1 = 23 ∨ τ.1 = 24 ∨ τ.1 = 25 ∨ τ.1 = 26 ∨ τ.1 = 27 ∨ τ.1 = 28 := by omega
  rcases this with z | z | z | z | z | z | z | z | z | z | z | z | z | z | z | z | z | z | z | z | z
  · obtain ⟨_, _, e, -⟩ := h.1 z
    cases e
  · obtain ⟨_, _, _, _, _, _, e, -⟩ := h.2.1 z
    cases e
  · obtain ⟨_, _, _, _, _, _, e, -⟩ := h.2.2.1 z
    cases e
  · obtain ⟨_, _, _, _, e, -⟩ := h.2.2.2.1 z
    cases e
  · obtain ⟨_, _, _, _, _, _, _, _, _, _, _, e, -⟩ := h.2.2.2.2.1 z
    cases e
  · obtain ⟨_, _, _, _, e, -⟩ := h.2.2.2.2.2.1 z
    cases e
  · obtain ⟨_, e, -⟩ := h.2.2.2.2.2.2.1 z
    cases e
  · obtain ⟨_, _, _, _, _, e, -⟩ := h.2.2.2.2.2.2.2.1 z
    cases e
  · obtain ⟨_, _, _, _, _, _, _, _, _, _, _, _, _, _, _, _, _, e, -⟩ := h.2.2.2.2.2.2.2.2.1 z
    cases e
  · obtain ⟨_, _, _, _, _, _, e, -⟩ := h.2.2.2.2.2.2.2.2.2.1 z
    cases e
  · obtain ⟨_, _, _, _, _, _, _, e, -⟩ := h.2.2.2.2.2.2.2.2.2.2.1 z
    cases e
  · obtain ⟨_, _, _, _, _, _, _, _, _, _, _, _, _, _, _, _, _, _, e, -⟩ := h.2.2.2.2.2.2.2.2.2.2.2.1 z
    cases e
  · obtain ⟨-, f, e, -⟩ := h.2.2.2.2.2.2.2.2.2.2.2.2.1 z
    cases e
  · obtain ⟨-, f, e, -⟩ := h.2.2.2.2.2.2.2.2.2.2.2.2.2.1 z
    cases e
  · obtain ⟨-, f, e, -⟩ := h.2.2.2.2.2.2.2.2.2.2.2.2.2.2.1 z
    cases e
  · obtain ⟨-, f, e, -⟩ := h.2.2.2.2.2.2.2.2.2.2.2.2.2.2.2.1 z
    cases e
  · obtain ⟨-, f, e, -⟩ := h.2.2.2.2.2.2.2.2.2.2.2.2.2.2.2.2.1 z
    cases e
  · obtain ⟨-, f, e⟩ := h.2.2.2.2.2.2.2.2.2.2.2.2.2.2.2.2.2.1 z
    cases e
  · obtain ⟨-, f, e, -⟩ := h.2.2.2.2.2.2.2.2.2.2.2.2.2.2.2.2.2.2.1 z
    cases e
  · obtain ⟨-, f, e, -⟩ := h.2.2.2.2.2.2.2.2.2.2.2.2.2.2.2.2.2.2.2.1 z
    cases e
  · obtain ⟨-, f, e, -⟩ := h.2.2.2.2.2.2.2.2.2.2.2.2.2.2.2.2.2.2.2.2.1 z
    cases e
section MK
variable {Γ : kG} {Φ : kF} {S : hS} {o ci : Nat} {fs : List Value}
theorem kset_in {Γ : kG} {q : Nat} {τ : kT} : kset Γ q τ q = some τ := if_pos rfl
theorem kset_le {Γ : kG} {q : Nat} {τ : kT} (hq : Γ q = none) : ∀ a τ', Γ a = some τ' → kset Γ q τ a = some τ' := by
  intro a τ' ha
  unfold kset
  rw [if_neg (fun e => by rw [e, hq] at ha; cases ha)]
  exact ha
theorem St.nG (h : St Γ Φ S) {q : Nat} (hq : S q = none) : Γ q = none ∧ Φ q = none := by
  constructor
  · cases e : Γ q with
    | none => rfl
    | some τ => have := h.1 q τ e; rw [hq] at this; exact (cellOk_some this).elim
  · cases e : Φ q with
    | none => rfl
    | some x => have := h.2 q x e; rw [hq] at this; cases this
theorem gro_set {q : Nat} {τ : kT} (hq : Γ q = none) (hp : Φ q = none) : gro Γ Φ (kset Γ q τ) := ⟨kset_le hq, fun a τ' ha => by
  unfold kset at ha
  split at ha
  · rename_i e
    rw [e]; exact Or.inr hp
  · exact Or.inl ha⟩
/-- a cell that is there and has no kind yet gets one -/
theorem St.kind (h : St Γ Φ S) {q : Nat} {τ : kT} {e : hE} (hq : Γ q = none) (he : S q = some e) (hc : cellOk (kset Γ q τ) τ (some e)) : St (kset Γ q τ) Φ S := by
  refine ⟨fun a τ' ha => ?_, h.2⟩
  by_cases c : a = q
  · subst c
    rw [kset_in] at ha
    cases ha
    rw [he]; exact hc
  · unfold kset at ha
    rw [if_neg c] at ha
    exact cellOk_mono (kset_le hq) (h.1 a τ' ha)
/-- an untold cell changed -/
theorem St.un (h : St Γ Φ S) {q : Nat} {e : hE} (hq : Γ q = none) (hp : Φ q = none) : St Γ Φ (hset S q e) := by
  refine ⟨fun a τ ha => ?_, fun a x hx => ?_⟩
  · rw [hset_ne _ _ (fun c => by rw [c, hq] at ha; cases ha)]; exact h.1 a τ ha
  · rw [hset_ne _ _ (fun c => by rw [c, hp] at hx; cases hx)]; exact h.2 a x hx
/-- an object that is being made -/
def Nw (Γ : kG) (Φ : kF) (S : hS) (o ci : Nat) (fs : List Value) : Prop := St Γ Φ S ∧ Γ o = none ∧ Φ o = none ∧ S o = some (.inr (ci, fs))
theorem N_pP {P : hS → Prop} {k x : Nat} (h : Nw Γ Φ S o ci fs) (hk : k < fs.length) (k' : ∀ S', Nw Γ Φ S' o ci (fs.set k (.ref x)) → P S') : pP S o ci k x P :=
  ⟨fs, h.2.2.2, hk, k' _ ⟨h.1.un h.2.1 h.2.2.1, h.2.1, h.2.2.1, hset_self _ _ _⟩⟩
theorem N_pI {P : hS → Prop} {k : Nat} {x : Int32} (h : Nw Γ Φ S o ci fs) (hk : k < fs.length) (k' : ∀ S', Nw Γ Φ S' o ci (fs.set k (.int x)) → P S') : pI S o ci k x P :=
  ⟨fs, h.2.2.2, hk, k' _ ⟨h.1.un h.2.1 h.2.2.1, h.2.1, h.2.2.1, hset_self _ _ _⟩⟩
theorem N_gI {P : Int32 → Prop} {k : Nat} {x : Int32} (h : Nw Γ Φ S o ci fs) (hk : fs[k]? = some (.int x)) (k' : P x) : gI S o ci k P := ⟨fs, x, h.2.2.2, hk, k'⟩
theorem N_gP {P : Nat → Prop} {k : Nat} {x : Nat} (h : Nw Γ Φ S o ci fs) (hk : fs[k]? = some (.ref x)) (k' : P x) : gP S o ci k P := ⟨fs, x, h.2.2.2, hk, k'⟩
theorem N_cell {q : Nat} {τ : kT} {e : hE} (h : Nw Γ Φ S o ci fs) (hq : S q = none) (he : ∀ Γ', cellOk Γ' τ (some e)) : gro Γ Φ (kset Γ q τ) ∧ kset Γ q τ q = some τ ∧ Nw (kset Γ q τ) Φ (hset S q e) o ci fs := by
  obtain ⟨g1, g2⟩ := h.1.nG hq
  have hoq : o ≠ q := fun e => by have := h.2.2.2; rw [e, hq] at this; cases this
  refine ⟨gro_set g1 g2, kset_in, (h.1.un g1 g2).kind g1 (hset_self _ _ _) (he _), ?_, h.2.2.1, ?_⟩
  · unfold kset; rw [if_neg hoq]; exact h.2.1
  · rw [hset_ne _ _ hoq]; exact h.2.2.2
theorem N_mkI {P : hS → Nat → Prop} {m : Int32} {n cap : Nat} (τ : kT) (h : Nw Γ Φ S o ci fs) (hm : m.toInt = n) (hn : n ≤ cap) (he : ∀ Γ', cellOk Γ' τ (some (.inl (0, n, .inl (fun _ => 0))))) (k : ∀ Γ' S' x, gro Γ Φ Γ' → Γ' x = some τ → Nw Γ' Φ S' o ci fs → P S' x) : mkI S m cap P := by
  have e : m.toNatClampNeg = n := by
    have := cl_eq (i := m) (by omega)
    omega
  refine ⟨fun z => ?_, by rw [e]; exact hn, fun q hq => ?_⟩
  · rw [Int32.lt_iff_toInt_lt] at z
    have : (0 : Int32).toInt = 0 := by decide
    omega
  · rw [e]
    obtain ⟨g1, g2, g3⟩ := N_cell (e := .inl (0, n, .inl (fun _ => 0))) h hq he
    exact k _ _ q g1 g2 g3
theorem N_mkJ {P : hS → Nat → Prop} {m : Int32} {n cap : Nat} (τ : kT) (h : Nw Γ Φ S o ci fs) (hm : m.toInt = n) (hn : n ≤ cap) (he : ∀ Γ', cellOk Γ' τ (some (.inl (1, n, .inr (.inl (fun _ => 0)))))) (k : ∀ Γ' S' x, gro Γ Φ Γ' → Γ' x = some τ → Nw Γ' Φ S' o ci fs → P S' x) : mkJ S m cap P := by
  have e : m.toNatClampNeg = n := by
    have := cl_eq (i := m) (by omega)
    omega
  refine ⟨fun z => ?_, by rw [e]; exact hn, fun q hq => ?_⟩
  · rw [Int32.lt_iff_toInt_lt] at z
    have : (0 : Int32).toInt = 0 := by decide
    omega
  · rw [e]
    obtain ⟨g1, g2, g3⟩ := N_cell (e := .inl (1, n, .inr (.inl (fun _ => 0)))) h hq he
    exact k _ _ q g1 g2 g3
theorem N_mkR {P : hS → Nat → Prop} {m : Int32} {kd n cap : Nat} (τ : kT) (h : Nw Γ Φ S o ci fs) (hm : m.toInt = n) (hn : n ≤ cap) (he : ∀ Γ', cellOk Γ' τ (some (.inl (kd, n, .inr (.inr (.inr (.inr (fun _ => none)))))))) (k : ∀ Γ' S' x, gro Γ Φ Γ' → Γ' x = some τ → Nw Γ' Φ S' o ci fs → P S' x) : mkR S kd m cap P := by
  have e : m.toNatClampNeg = n := by
    have := cl_eq (i := m) (by omega)
    omega
  refine ⟨fun z => ?_, by rw [e]; exact hn, fun q hq => ?_⟩
  · rw [Int32.lt_iff_toInt_lt] at z
    have : (0 : Int32).toInt = 0 := by decide
    omega
  · rw [e]
    obtain ⟨g1, g2, g3⟩ := N_cell (e := .inl (kd, n, .inr (.inr (.inr (.inr (fun _ => none)))))) h hq he
    exact k _ _ q g1 g2 g3
theorem N_done (h : Nw Γ Φ S o ci fs) (τ : kT) (he : cellOk (kset Γ o τ) τ (some (.inr (ci, fs)))) : gro Γ Φ (kset Γ o τ) ∧ kset Γ o τ o = some τ ∧ St (kset Γ o τ) Φ S := ⟨gro_set h.2.1 h.2.2.1, kset_in, h.1.kind h.2.1 h.2.2.2 he⟩
theorem St_nO {P : hS → Nat → Prop} {ci' : Nat} {fs' : List Value} (h : St Γ Φ S) (k : ∀ q S1, Nw Γ Φ S1 q ci' fs' → (∀ b, S b ≠ none → S1 b = S b) → P S1 q) : nO S ci' fs' P := by
  intro q hq
  obtain ⟨g1, g2⟩ := h.nG hq
  exact k q _ ⟨h.un g1 g2, g1, g2, hset_self _ _ _⟩ (fun b hb => hset_ne _ _ (fun e => hb (e ▸ hq)))
theorem N_nO {P : hS → Nat → Prop} {ci' : Nat} {fs' : List Value} (h : Nw Γ Φ S o ci fs) (k : ∀ q S1, Nw Γ (fzk Φ S [o]) S1 q ci' fs' → (∀ Γ' S', gro Γ (fzk Φ S [o]) Γ' → St Γ' (fzk Φ S [o]) S' → Nw Γ' Φ S' o ci fs ∧ gro Γ Φ Γ') → P S1 q) : nO S ci' fs' P := by
  refine St_nO (St_fz h.1 [o]) (fun q S1 hN hb => k q S1 hN (fun Γ' S' hg hS => ?_))
  have ho : S o ≠ none := by rw [h.2.2.2]; exact fun z => by cases z
  refine ⟨⟨St_unfz h.1 hS, ?_, h.2.2.1, ?_⟩, gro_unfz (fun b hb => by simp at hb; rw [hb]; exact ho) hg⟩
  · cases e : Γ' o with
    | none => rfl
    | some τ =>
      rcases hg.2 o τ e with c | c
      · rw [h.2.1] at c; cases c
      · unfold fzk at c
        rw [if_pos (by simp)] at c
        exact absurd c ho
  · rw [fz_eq (b := o) hS (by simp) h.2.2.2]; exact h.2.2.2
theorem zc_I {tg id n z : Nat} {Γ : kG} (ht : tg = 20 ∨ tg = 21 ∨ tg = 22 ∨ tg = 23 ∨ tg = 24) (hn : n ≤ 1000) : cellOk Γ (tg, id, n, z) (some (.inl (0, n, .inl (fun _ => 0)))) := by
  have z0 : (0 : Int32).toInt = 0 := by decide
  rcases ht with rfl | rfl | rfl | rfl | rfl
  · exact cellOk_20 rfl ⟨hn, _, rfl, fun j _ => by rw [z0]; omega⟩
  · exact cellOk_21 rfl ⟨hn, _, rfl, fun j _ => by rw [z0]; omega⟩
  · exact cellOk_22 rfl ⟨hn, _, rfl, fun j _ => by rw [z0]; omega⟩
  · exact cellOk_23 rfl ⟨hn, _, rfl, fun j _ => by rw [z0]; omega⟩
  · exact cellOk_24 rfl ⟨hn, _, rfl, fun j _ => by rw [z0]; omega⟩
theorem zc_J {id n z : Nat} {Γ : kG} (hn : n ≤ 1000) : cellOk Γ (25, id, n, z) (some (.inl (1, n, .inr (.inl (fun _ => 0))))) := cellOk_25 rfl ⟨hn, _, rfl⟩
theorem zc_R26 {id n z : Nat} {Γ : kG} (hn : n ≤ 1000) : cellOk Γ (26, id, n, z) (some (.inl (4, n, .inr (.inr (.inr (.inr (fun _ => none))))))) := cellOk_26 rfl ⟨hn, _, rfl, fun j _ b hb => by cases hb⟩
theorem zc_R27 {id n z : Nat} {Γ : kG} (hn : n ≤ 1000) : cellOk Γ (27, id, n, z) (some (.inl (3, n, .inr (.inr (.inr (.inr (fun _ => none))))))) := cellOk_27 rfl ⟨hn, _, rfl, fun j _ b hb => by cases hb⟩
theorem zc_R28 {id n z : Nat} {Γ : kG} (hn : n ≤ 1000) : cellOk Γ (28, id, n, z) (some (.inl (5, n, .inr (.inr (.inr (.inr (fun _ => none))))))) := cellOk_28 rfl ⟨hn, _, rfl, fun j _ b hb => by cases hb⟩
end MK
section INI
variable {Γ : kG} {Φ : kF} {S : hS} {o : Nat}
theorem ki_X6 {q : hS → Prop} (h : Nw Γ Φ S o 6 FX6_0) (k : ∀ Γ' S', gro Γ Φ Γ' → Γ' o = some (6, 6, 0, 0) → St Γ' Φ S' → q S') : w_X6_init q S o := by
  unfold w_X6_init
  refine N_mkI (n := 52) (20, 700, 52, 0) h (by decide) (by decide) (fun _ => zc_I (by decide) (by decide)) (fun Γ1 S1 o7 g1 t1 h1 => ?_)
  refine N_pP h1 (by simp only [FX6_0, List.length_cons, List.length_nil]; omega) (fun S' hh => ?_)
  simp only [FX6_0, List.set] at hh
  replace h1 := hh
  clear hh
  obtain ⟨ga, ta, ha⟩ := N_done h1 (6, 6, 0, 0) (cellOk_6 rfl ⟨o7, rfl, (kset_le h1.2.1 _ _ t1)⟩)
  exact k _ _ ((gro_rf.tr g1).tr ga) ta ha
theorem ki_X0 {q : hS → Prop} (h : Nw Γ Φ S o 0 FX0_0) (k : ∀ Γ' S', gro Γ Φ Γ' → Γ' o = some (0, 0, 0, 0) → St Γ' Φ S' → q S') : w_X0_init q S o := by
  unfold w_X0_init
  refine N_nO h (fun o5 S1a hA1 fin1 => ?_)
  refine ki_X6 hA1 (fun Γ1 S1 gA1 t1 hB1 => ?_)
  obtain ⟨h1, g1⟩ := fin1 _ _ gA1 hB1
  refine N_pP h1 (by simp only [FX0_0, List.length_cons, List.length_nil]; omega) (fun S' hh => ?_)
  simp only [FX0_0, List.set] at hh
  replace h1 := hh
  clear hh
  refine N_mkI (n := 9) (20, 101, 9, 0) h1 (by decide) (by decide) (fun _ => zc_I (by decide) (by decide)) (fun Γ2 S2 o18 g2 t2 h2 => ?_)
  refine N_pP h2 (by simp only [FX0_0, List.length_cons, List.length_nil]; omega) (fun S' hh => ?_)
  simp only [FX0_0, List.set] at hh
  replace h2 := hh
  clear hh
  obtain ⟨ga, ta, ha⟩ := N_done h2 (0, 0, 0, 0) (cellOk_0 rfl ⟨o5, o18, rfl, (kset_le h2.2.1 _ _ (g2.1 _ _ t1)), (kset_le h2.2.1 _ _ t2)⟩)
  exact k _ _ (((gro_rf.tr g1).tr g2).tr ga) ta ha
theorem ki_X2 {q : hS → Prop} (i : Nat) (h : Nw Γ Φ S o 2 FX2_0) (k : ∀ Γ' S', gro Γ Φ Γ' → Γ' o = some (2, 2 + 10000 * i, i, 0) → St Γ' Φ S' → q S') : w_X2_init q S o := by
  unfold w_X2_init
  refine N_mkI (n := 48) (20, 300 + 10000 * i, 48, 0) h (by decide) (by decide) (fun _ => zc_I (by decide) (by decide)) (fun Γ1 S1 o7 g1 t1 h1 => ?_)
  refine N_pP h1 (by simp only [FX2_0, List.length_cons, List.length_nil]; omega) (fun S' hh => ?_)
  simp only [FX2_0, List.set] at hh
  replace h1 := hh
  clear hh
  refine N_mkI (n := 48) (20, 301 + 10000 * i, 48, 0) h1 (by decide) (by decide) (fun _ => zc_I (by decide) (by decide)) (fun Γ2 S2 o15 g2 t2 h2 => ?_)
  refine N_pP h2 (by simp only [FX2_0, List.length_cons, List.length_nil]; omega) (fun S' hh => ?_)
  simp only [FX2_0, List.set] at hh
  replace h2 := hh
  clear hh
  refine N_mkI (n := 6) (20, 302 + 10000 * i, 6, 0) h2 (by decide) (by decide) (fun _ => zc_I (by decide) (by decide)) (fun Γ3 S3 o23 g3 t3 h3 => ?_)
  refine N_pP h3 (by simp only [FX2_0, List.length_cons, List.length_nil]; omega) (fun S' hh => ?_)
  simp only [FX2_0, List.set] at hh
  replace h3 := hh
  clear hh
  refine N_mkI (n := 8) (20, 303 + 10000 * i, 8, 0) h3 (by decide) (by decide) (fun _ => zc_I (by decide) (by decide)) (fun Γ4 S4 o31 g4 t4 h4 => ?_)
  refine N_pP h4 (by simp only [FX2_0, List.length_cons, List.length_nil]; omega) (fun S' hh => ?_)
  simp only [FX2_0, List.set] at hh
  replace h4 := hh
  clear hh
  refine N_pI h4 (by simp only [FX2_0, List.length_cons, List.length_nil]; omega) (fun S' hh => ?_)
  simp only [FX2_0, List.set] at hh
  replace h4 := hh
  clear hh
  refine N_pI h4 (by simp only [FX2_0, List.length_cons, List.length_nil]; omega) (fun S' hh => ?_)
  simp only [FX2_0, List.set] at hh
  replace h4 := hh
  clear hh
  obtain ⟨ga, ta, ha⟩ := N_done h4 (2, 2 + 10000 * i, i, 0) (cellOk_2 rfl ⟨o7, o15, o23, o31, 0, 0, rfl, (kset_le h4.2.1 _ _ (g4.1 _ _ (g3.1 _ _ (g2.1 _ _ t1)))), (kset_le h4.2.1 _ _ (g4.1 _ _ (g3.1 _ _ t2))), (kset_le h4.2.1 _ _ (g4.1 _ _ t3)), (kset_le h4.2.1 _ _ t4)⟩)
  exact k _ _ (((((gro_rf.tr g1).tr g2).tr g3).tr g4).tr ga) ta ha
theorem ki_X1 {q : hS → Prop} {v1 : Nat} (h : Nw Γ Φ S o 1 FX1_0) (hv : Γ v1 = some (0, 0, 0, 0)) (k : ∀ Γ' S', gro Γ Φ Γ' → Γ' o = some (1, 1, 0, 0) → St Γ' Φ S' → q S') : w_X1_init q S o v1 := by
  unfold w_X1_init
  refine N_nO h (fun o5 S1a hA1 fin1 => ?_)
  refine ki_X6 hA1 (fun Γ1 S1 gA1 t1 hB1 => ?_)
  obtain ⟨h1, g1⟩ := fin1 _ _ gA1 hB1
  refine N_pP h1 (by simp only [FX1_0, List.length_cons, List.length_nil]; omega) (fun S' hh => ?_)
  simp only [FX1_0, List.set] at hh
  replace h1 := hh
  clear hh
  refine N_mkI (n := 26) (20, 202, 26, 0) h1 (by decide) (by decide) (fun _ => zc_I (by decide) (by decide)) (fun Γ2 S2 o18 g2 t2 h2 => ?_)
  refine N_pP h2 (by simp only [FX1_0, List.length_cons, List.length_nil]; omega) (fun S' hh => ?_)
  simp only [FX1_0, List.set] at hh
  replace h2 := hh
  clear hh
  refine N_pI h2 (by simp only [FX1_0, List.length_cons, List.length_nil]; omega) (fun S' hh => ?_)
  simp only [FX1_0, List.set] at hh
  replace h2 := hh
  clear hh
  refine N_pI h2 (by simp only [FX1_0, List.length_cons, List.length_nil]; omega) (fun S' hh => ?_)
  simp only [FX1_0, List.set] at hh
  replace h2 := hh
  clear hh
  refine N_pI h2 (by simp only [FX1_0, List.length_cons, List.length_nil]; omega) (fun S' hh => ?_)
  simp only [FX1_0, List.set] at hh
  replace h2 := hh
  clear hh
  refine N_pP h2 (by simp only [FX1_0, List.length_cons, List.length_nil]; omega) (fun S' hh => ?_)
  simp only [FX1_0, List.set] at hh
  replace h2 := hh
  clear hh
  obtain ⟨ga, ta, ha⟩ := N_done h2 (1, 1, 0, 0) (cellOk_1 rfl ⟨v1, o5, o18, (-1), 0, 0, rfl, (kset_le h2.2.1 _ _ (g2.1 _ _ (g1.1 _ _ hv))), (kset_le h2.2.1 _ _ (g2.1 _ _ t1)), (kset_le h2.2.1 _ _ t2)⟩)
  exact k _ _ (((gro_rf.tr g1).tr g2).tr ga) ta ha
theorem ki_X3 {q : hS → Prop} (h : Nw Γ Φ S o 3 FX3_0) (k : ∀ Γ' S', gro Γ Φ Γ' → Γ' o = some (3, 3, 0, 0) → St Γ' Φ S' → q S') : w_X3_init q S o := by
  unfold w_X3_init
  refine N_mkR (n := 16) (27, 400, 16, 0) h (by decide) (by decide) (fun _ => zc_R27 (by decide)) (fun Γ1 S1 o7 g1 t1 h1 => ?_)
  refine N_pP h1 (by simp only [FX3_0, List.length_cons, List.length_nil]; omega) (fun S' hh => ?_)
  simp only [FX3_0, List.set] at hh
  replace h1 := hh
  clear hh
  refine N_mkI (n := 16) (20, 401, 16, 0) h1 (by decide) (by decide) (fun _ => zc_I (by decide) (by decide)) (fun Γ2 S2 o16 g2 t2 h2 => ?_)
  refine N_pP h2 (by simp only [FX3_0, List.length_cons, List.length_nil]; omega) (fun S' hh => ?_)
  simp only [FX3_0, List.set] at hh
  replace h2 := hh
  clear hh
  refine N_pI h2 (by simp only [FX3_0, List.length_cons, List.length_nil]; omega) (fun S' hh => ?_)
  simp only [FX3_0, List.set] at hh
  replace h2 := hh
  clear hh
  refine N_pI h2 (by simp only [FX3_0, List.length_cons, List.length_nil]; omega) (fun S' hh => ?_)
  simp only [FX3_0, List.set] at hh
  replace h2 := hh
  clear hh
  obtain ⟨ga, ta, ha⟩ := N_done h2 (3, 3, 0, 0) (cellOk_3 rfl ⟨o7, o16, 0, 0, rfl, (kset_le h2.2.1 _ _ (g2.1 _ _ t1)), (kset_le h2.2.1 _ _ t2), (by decide)⟩)
  exact k _ _ (((gro_rf.tr g1).tr g2).tr ga) ta ha
theorem ki_X4 {q : hS → Prop} (h : Nw Γ Φ S o 4 FX4_0) (k : ∀ Γ' S', gro Γ Φ Γ' → Γ' o = some (4, 4, 0, 0) → St Γ' Φ S' → q S') : w_X4_init q S o := by
  unfold w_X4_init
  refine N_mkI (n := 6) (20, 500, 6, 0) h (by decide) (by decide) (fun _ => zc_I (by decide) (by decide)) (fun Γ1 S1 o7 g1 t1 h1 => ?_)
  refine N_pP h1 (by simp only [FX4_0, List.length_cons, List.length_nil]; omega) (fun S' hh => ?_)
  simp only [FX4_0, List.set] at hh
  replace h1 := hh
  clear hh
  refine N_pI h1 (by simp only [FX4_0, List.length_cons, List.length_nil]; omega) (fun S' hh => ?_)
  simp only [FX4_0, List.set] at hh
  replace h1 := hh
  clear hh
  refine N_pI h1 (by simp only [FX4_0, List.length_cons, List.length_nil]; omega) (fun S' hh => ?_)
  simp only [FX4_0, List.set] at hh
  replace h1 := hh
  clear hh
  refine N_mkI (n := 6) (20, 503, 6, 0) h1 (by decide) (by decide) (fun _ => zc_I (by decide) (by decide)) (fun Γ2 S2 o25 g2 t2 h2 => ?_)
  refine N_pP h2 (by simp only [FX4_0, List.length_cons, List.length_nil]; omega) (fun S' hh => ?_)
  simp only [FX4_0, List.set] at hh
  replace h2 := hh
  clear hh
  refine N_pI h2 (by simp only [FX4_0, List.length_cons, List.length_nil]; omega) (fun S' hh => ?_)
  simp only [FX4_0, List.set] at hh
  replace h2 := hh
  clear hh
  refine N_mkI (n := 256) (20, 505, 256, 0) h2 (by decide) (by decide) (fun _ => zc_I (by decide) (by decide)) (fun Γ3 S3 o39 g3 t3 h3 => ?_)
  refine N_pP h3 (by simp only [FX4_0, List.length_cons, List.length_nil]; omega) (fun S' hh => ?_)
  simp only [FX4_0, List.set] at hh
  replace h3 := hh
  clear hh
  refine N_mkI (n := 8) (20, 506, 8, 0) h3 (by decide) (by decide) (fun _ => zc_I (by decide) (by decide)) (fun Γ4 S4 o47 g4 t4 h4 => ?_)
  refine N_pP h4 (by simp only [FX4_0, List.length_cons, List.length_nil]; omega) (fun S' hh => ?_)
  simp only [FX4_0, List.set] at hh
  replace h4 := hh
  clear hh
  refine N_mkI (n := 64) (20, 507, 64, 0) h4 (by decide) (by decide) (fun _ => zc_I (by decide) (by decide)) (fun Γ5 S5 o55 g5 t5 h5 => ?_)
  refine N_pP h5 (by simp only [FX4_0, List.length_cons, List.length_nil]; omega) (fun S' hh => ?_)
  simp only [FX4_0, List.set] at hh
  replace h5 := hh
  clear hh
  refine N_mkI (n := 8) (20, 508, 8, 0) h5 (by decide) (by decide) (fun _ => zc_I (by decide) (by decide)) (fun Γ6 S6 o63 g6 t6 h6 => ?_)
  refine N_pP h6 (by simp only [FX4_0, List.length_cons, List.length_nil]; omega) (fun S' hh => ?_)
  simp only [FX4_0, List.set] at hh
  replace h6 := hh
  clear hh
  refine N_mkI (n := 8) (20, 509, 8, 0) h6 (by decide) (by decide) (fun _ => zc_I (by decide) (by decide)) (fun Γ7 S7 o71 g7 t7 h7 => ?_)
  refine N_pP h7 (by simp only [FX4_0, List.length_cons, List.length_nil]; omega) (fun S' hh => ?_)
  simp only [FX4_0, List.set] at hh
  replace h7 := hh
  clear hh
  refine N_pI h7 (by simp only [FX4_0, List.length_cons, List.length_nil]; omega) (fun S' hh => ?_)
  simp only [FX4_0, List.set] at hh
  replace h7 := hh
  clear hh
  obtain ⟨ga, ta, ha⟩ := N_done h7 (4, 4, 0, 0) (cellOk_4 rfl ⟨o7, 0, 0, o25, 0, o39, o47, o55, o63, o71, 0, rfl, (kset_le h7.2.1 _ _ (g7.1 _ _ (g6.1 _ _ (g5.1 _ _ (g4.1 _ _ (g3.1 _ _ (g2.1 _ _ t1))))))), (kset_le h7.2.1 _ _ (g7.1 _ _ (g6.1 _ _ (g5.1 _ _ (g4.1 _ _ (g3.1 _ _ t2)))))), (by decide), (kset_le h7.2.1 _ _ (g7.1 _ _ (g6.1 _ _ (g5.1 _ _ (g4.1 _ _ t3))))), (kset_le h7.2.1 _ _ (g7.1 _ _ (g6.1 _ _ (g5.1 _ _ t4)))), (kset_le h7.2.1 _ _ (g7.1 _ _ (g6.1 _ _ t5))), (kset_le h7.2.1 _ _ (g7.1 _ _ t6)), (kset_le h7.2.1 _ _ t7), (by decide)⟩)
  exact k _ _ ((((((((gro_rf.tr g1).tr g2).tr g3).tr g4).tr g5).tr g6).tr g7).tr ga) ta ha
theorem ki_X10 {q : hS → Prop} (h : Nw Γ Φ S o 10 FX10_0) (k : ∀ Γ' S', gro Γ Φ Γ' → Γ' o = some (10, 10, 12, 400) → St Γ' Φ S' → q S') : w_X10_init q S o := by
  unfold w_X10_init
  refine N_pI h (by simp only [FX10_0, List.length_cons, List.length_nil]; omega) (fun S' hh => ?_)
  simp only [FX10_0, List.set] at hh
  replace h := hh
  clear hh
  refine N_pI h (by simp only [FX10_0, List.length_cons, List.length_nil]; omega) (fun S' hh => ?_)
  simp only [FX10_0, List.set] at hh
  replace h := hh
  clear hh
  refine N_pI h (by simp only [FX10_0, List.length_cons, List.length_nil]; omega) (fun S' hh => ?_)
  simp only [FX10_0, List.set] at hh
  replace h := hh
  clear hh
  refine N_mkI (n := 12) (20, 1103, 12, 0) h (by decide) (by decide) (fun _ => zc_I (by decide) (by decide)) (fun Γ1 S1 o22 g1 t1 h1 => ?_)
  refine N_pP h1 (by simp only [FX10_0, List.length_cons, List.length_nil]; omega) (fun S' hh => ?_)
  simp only [FX10_0, List.set] at hh
  replace h1 := hh
  clear hh
  refine N_mkI (n := 12) (20, 1104, 12, 0) h1 (by decide) (by decide) (fun _ => zc_I (by decide) (by decide)) (fun Γ2 S2 o30 g2 t2 h2 => ?_)
  refine N_pP h2 (by simp only [FX10_0, List.length_cons, List.length_nil]; omega) (fun S' hh => ?_)
  simp only [FX10_0, List.set] at hh
  replace h2 := hh
  clear hh
  refine N_mkI (n := 60) (23, 1105, 60, 0) h2 (by decide) (by decide) (fun _ => zc_I (by decide) (by decide)) (fun Γ3 S3 o38 g3 t3 h3 => ?_)
  refine N_pP h3 (by simp only [FX10_0, List.length_cons, List.length_nil]; omega) (fun S' hh => ?_)
  simp only [FX10_0, List.set] at hh
  replace h3 := hh
  clear hh
  refine N_mkI (n := 400) (24, 1106, 400, 0) h3 (by decide) (by decide) (fun _ => zc_I (by decide) (by decide)) (fun Γ4 S4 o47 g4 t4 h4 => ?_)
  refine N_pP h4 (by simp only [FX10_0, List.length_cons, List.length_nil]; omega) (fun S' hh => ?_)
  simp only [FX10_0, List.set] at hh
  replace h4 := hh
  clear hh
  obtain ⟨ga, ta, ha⟩ := N_done h4 (10, 10, 12, 400) (cellOk_10 rfl ⟨0, 0, 0, o22, o30, o38, o47, rfl, (by decide), (by decide), (by decide), (kset_le h4.2.1 _ _ (g4.1 _ _ (g3.1 _ _ (g2.1 _ _ t1)))), (kset_le h4.2.1 _ _ (g4.1 _ _ (g3.1 _ _ t2))), (kset_le h4.2.1 _ _ (g4.1 _ _ t3)), (kset_le h4.2.1 _ _ t4), (by decide), (by decide)⟩)
  exact k _ _ (((((gro_rf.tr g1).tr g2).tr g3).tr g4).tr ga) ta ha
theorem ki_X9 {q : hS → Prop} (h : Nw Γ Φ S o 9 FX9_0) (k : ∀ Γ' S', gro Γ Φ Γ' → Γ' o = some (9, 9, 0, 0) → St Γ' Φ S' → q S') : w_X9_init q S o := by
  unfold w_X9_init
  refine N_mkI (n := 400) (22, 1000, 400, 0) h (by decide) (by decide) (fun _ => zc_I (by decide) (by decide)) (fun Γ1 S1 o8 g1 t1 h1 => ?_)
  refine N_pP h1 (by simp only [FX9_0, List.length_cons, List.length_nil]; omega) (fun S' hh => ?_)
  simp only [FX9_0, List.set] at hh
  replace h1 := hh
  clear hh
  refine N_pI h1 (by simp only [FX9_0, List.length_cons, List.length_nil]; omega) (fun S' hh => ?_)
  simp only [FX9_0, List.set] at hh
  replace h1 := hh
  clear hh
  refine N_pI h1 (by simp only [FX9_0, List.length_cons, List.length_nil]; omega) (fun S' hh => ?_)
  simp only [FX9_0, List.set] at hh
  replace h1 := hh
  clear hh
  refine N_pI h1 (by simp only [FX9_0, List.length_cons, List.length_nil]; omega) (fun S' hh => ?_)
  simp only [FX9_0, List.set] at hh
  replace h1 := hh
  clear hh
  refine N_pI h1 (by simp only [FX9_0, List.length_cons, List.length_nil]; omega) (fun S' hh => ?_)
  simp only [FX9_0, List.set] at hh
  replace h1 := hh
  clear hh
  refine N_pI h1 (by simp only [FX9_0, List.length_cons, List.length_nil]; omega) (fun S' hh => ?_)
  simp only [FX9_0, List.set] at hh
  replace h1 := hh
  clear hh
  obtain ⟨ga, ta, ha⟩ := N_done h1 (9, 9, 0, 0) (cellOk_9 rfl ⟨o8, 0, 0, 0, 0, 0, rfl, (kset_le h1.2.1 _ _ t1), (by decide), (by decide), (by decide), (by decide)⟩)
  exact k _ _ ((gro_rf.tr g1).tr ga) ta ha
theorem ki_X5 {q : hS → Prop} {v1 : Nat} (h : Nw Γ Φ S o 5 FX5_0) (hv : Γ v1 = some (9, 9, 0, 0)) (k : ∀ Γ' S', gro Γ Φ Γ' → Γ' o = some (5, 5, 0, 0) → St Γ' Φ S' → q S') : w_X5_init q S o v1 := by
  unfold w_X5_init
  refine N_nO h (fun o5 S1a hA1 fin1 => ?_)
  refine ki_X10 hA1 (fun Γ1 S1 gA1 t1 hB1 => ?_)
  obtain ⟨h1, g1⟩ := fin1 _ _ gA1 hB1
  refine N_pP h1 (by simp only [FX5_0, List.length_cons, List.length_nil]; omega) (fun S' hh => ?_)
  simp only [FX5_0, List.set] at hh
  replace h1 := hh
  clear hh
  refine ⟨by decide, ?_⟩
  refine N_pI h1 (by simp only [FX5_0, List.length_cons, List.length_nil]; omega) (fun S' hh => ?_)
  simp only [FX5_0, List.set] at hh
  replace h1 := hh
  clear hh
  refine N_pI h1 (by simp only [FX5_0, List.length_cons, List.length_nil]; omega) (fun S' hh => ?_)
  simp only [FX5_0, List.set] at hh
  replace h1 := hh
  clear hh
  refine N_pP h1 (by simp only [FX5_0, List.length_cons, List.length_nil]; omega) (fun S' hh => ?_)
  simp only [FX5_0, List.set] at hh
  replace h1 := hh
  clear hh
  obtain ⟨ga, ta, ha⟩ := N_done h1 (5, 5, 0, 0) (cellOk_5 rfl ⟨o5, v1, 1, 0, rfl, (kset_le h1.2.1 _ _ t1), (kset_le h1.2.1 _ _ (g1.1 _ _ hv))⟩)
  exact k _ _ ((gro_rf.tr g1).tr ga) ta ha
theorem ki_X7 {q : hS → Prop} (h : Nw Γ Φ S o 7 FX7_0) (k : ∀ Γ' S', gro Γ Φ Γ' → Γ' o = some (7, 7, 0, 0) → St Γ' Φ S' → q S') : w_X7_init q S o := by
  unfold w_X7_init
  refine N_mkI (n := 8) (20, 800, 8, 0) h (by decide) (by decide) (fun _ => zc_I (by decide) (by decide)) (fun Γ1 S1 o7 g1 t1 h1 => ?_)
  refine N_pP h1 (by simp only [FX7_0, List.length_cons, List.length_nil]; omega) (fun S' hh => ?_)
  simp only [FX7_0, List.set] at hh
  replace h1 := hh
  clear hh
  refine N_mkI (n := 8) (20, 801, 8, 0) h1 (by decide) (by decide) (fun _ => zc_I (by decide) (by decide)) (fun Γ2 S2 o15 g2 t2 h2 => ?_)
  refine N_pP h2 (by simp only [FX7_0, List.length_cons, List.length_nil]; omega) (fun S' hh => ?_)
  simp only [FX7_0, List.set] at hh
  replace h2 := hh
  clear hh
  refine N_mkI (n := 8) (20, 802, 8, 0) h2 (by decide) (by decide) (fun _ => zc_I (by decide) (by decide)) (fun Γ3 S3 o23 g3 t3 h3 => ?_)
  refine N_pP h3 (by simp only [FX7_0, List.length_cons, List.length_nil]; omega) (fun S' hh => ?_)
  simp only [FX7_0, List.set] at hh
  replace h3 := hh
  clear hh
  refine N_mkI (n := 189) (20, 803, 189, 0) h3 (by decide) (by decide) (fun _ => zc_I (by decide) (by decide)) (fun Γ4 S4 o32 g4 t4 h4 => ?_)
  refine N_pP h4 (by simp only [FX7_0, List.length_cons, List.length_nil]; omega) (fun S' hh => ?_)
  simp only [FX7_0, List.set] at hh
  replace h4 := hh
  clear hh
  refine N_mkJ (n := 21) (25, 804, 21, 0) h4 (by decide) (by decide) (fun _ => zc_J (by decide)) (fun Γ5 S5 o40 g5 t5 h5 => ?_)
  refine N_pP h5 (by simp only [FX7_0, List.length_cons, List.length_nil]; omega) (fun S' hh => ?_)
  simp only [FX7_0, List.set] at hh
  replace h5 := hh
  clear hh
  obtain ⟨ga, ta, ha⟩ := N_done h5 (7, 7, 0, 0) (cellOk_7 rfl ⟨o7, o15, o23, o32, o40, rfl, (kset_le h5.2.1 _ _ (g5.1 _ _ (g4.1 _ _ (g3.1 _ _ (g2.1 _ _ t1))))), (kset_le h5.2.1 _ _ (g5.1 _ _ (g4.1 _ _ (g3.1 _ _ t2)))), (kset_le h5.2.1 _ _ (g5.1 _ _ (g4.1 _ _ t3))), (kset_le h5.2.1 _ _ (g5.1 _ _ t4)), (kset_le h5.2.1 _ _ t5)⟩)
  exact k _ _ ((((((gro_rf.tr g1).tr g2).tr g3).tr g4).tr g5).tr ga) ta ha
theorem ki_X8 {q : hS → Prop} (i : Nat) (h : Nw Γ Φ S o 8 FX8_0) (k : ∀ Γ' S', gro Γ Φ Γ' → Γ' o = some (8, 8 + 10000 * i, i, 0) → St Γ' Φ S' → q S') : w_X8_init q S o := by
  unfold w_X8_init
  refine N_nO h (fun o5 S1a hA1 fin1 => ?_)
  refine ki_X2 i hA1 (fun Γ1 S1 gA1 t1 hB1 => ?_)
  obtain ⟨h1, g1⟩ := fin1 _ _ gA1 hB1
  refine N_pP h1 (by simp only [FX8_0, List.length_cons, List.length_nil]; omega) (fun S' hh => ?_)
  simp only [FX8_0, List.set] at hh
  replace h1 := hh
  clear hh
  refine N_pI h1 (by simp only [FX8_0, List.length_cons, List.length_nil]; omega) (fun S' hh => ?_)
  simp only [FX8_0, List.set] at hh
  replace h1 := hh
  clear hh
  refine N_mkI (n := 6) (20, 902 + 10000 * i, 6, 0) h1 (by decide) (by decide) (fun _ => zc_I (by decide) (by decide)) (fun Γ2 S2 o23 g2 t2 h2 => ?_)
  refine N_pP h2 (by simp only [FX8_0, List.length_cons, List.length_nil]; omega) (fun S' hh => ?_)
  simp only [FX8_0, List.set] at hh
  replace h2 := hh
  clear hh
  refine N_mkI (n := 6) (20, 903 + 10000 * i, 6, 0) h2 (by decide) (by decide) (fun _ => zc_I (by decide) (by decide)) (fun Γ3 S3 o31 g3 t3 h3 => ?_)
  refine N_pP h3 (by simp only [FX8_0, List.length_cons, List.length_nil]; omega) (fun S' hh => ?_)
  simp only [FX8_0, List.set] at hh
  replace h3 := hh
  clear hh
  refine N_pI h3 (by simp only [FX8_0, List.length_cons, List.length_nil]; omega) (fun S' hh => ?_)
  simp only [FX8_0, List.set] at hh
  replace h3 := hh
  clear hh
  refine N_mkI (n := 8) (20, 905 + 10000 * i, 8, 0) h3 (by decide) (by decide) (fun _ => zc_I (by decide) (by decide)) (fun Γ4 S4 o44 g4 t4 h4 => ?_)
  refine N_pP h4 (by simp only [FX8_0, List.length_cons, List.length_nil]; omega) (fun S' hh => ?_)
  simp only [FX8_0, List.set] at hh
  replace h4 := hh
  clear hh
  refine N_mkI (n := 8) (20, 906 + 10000 * i, 8, 0) h4 (by decide) (by decide) (fun _ => zc_I (by decide) (by decide)) (fun Γ5 S5 o52 g5 t5 h5 => ?_)
  refine N_pP h5 (by simp only [FX8_0, List.length_cons, List.length_nil]; omega) (fun S' hh => ?_)
  simp only [FX8_0, List.set] at hh
  replace h5 := hh
  clear hh
  refine N_mkI (n := 8) (20, 907 + 10000 * i, 8, 0) h5 (by decide) (by decide) (fun _ => zc_I (by decide) (by decide)) (fun Γ6 S6 o60 g6 t6 h6 => ?_)
  refine N_pP h6 (by simp only [FX8_0, List.length_cons, List.length_nil]; omega) (fun S' hh => ?_)
  simp only [FX8_0, List.set] at hh
  replace h6 := hh
  clear hh
  refine N_mkI (n := 8) (20, 908 + 10000 * i, 8, 0) h6 (by decide) (by decide) (fun _ => zc_I (by decide) (by decide)) (fun Γ7 S7 o68 g7 t7 h7 => ?_)
  refine N_pP h7 (by simp only [FX8_0, List.length_cons, List.length_nil]; omega) (fun S' hh => ?_)
  simp only [FX8_0, List.set] at hh
  replace h7 := hh
  clear hh
  refine N_pI h7 (by simp only [FX8_0, List.length_cons, List.length_nil]; omega) (fun S' hh => ?_)
  simp only [FX8_0, List.set] at hh
  replace h7 := hh
  clear hh
  refine N_mkI (n := 6) (21, 910 + 10000 * i, 6, 0) h7 (by decide) (by decide) (fun _ => zc_I (by decide) (by decide)) (fun Γ8 S8 o81 g8 t8 h8 => ?_)
  refine N_pP h8 (by simp only [FX8_0, List.length_cons, List.length_nil]; omega) (fun S' hh => ?_)
  simp only [FX8_0, List.set] at hh
  replace h8 := hh
  clear hh
  refine N_mkI (n := 6) (20, 911 + 10000 * i, 6, 0) h8 (by decide) (by decide) (fun _ => zc_I (by decide) (by decide)) (fun Γ9 S9 o89 g9 t9 h9 => ?_)
  refine N_pP h9 (by simp only [FX8_0, List.length_cons, List.length_nil]; omega) (fun S' hh => ?_)
  simp only [FX8_0, List.set] at hh
  replace h9 := hh
  clear hh
  refine N_pI h9 (by simp only [FX8_0, List.length_cons, List.length_nil]; omega) (fun S' hh => ?_)
  simp only [FX8_0, List.set] at hh
  replace h9 := hh
  clear hh
  refine N_pI h9 (by simp only [FX8_0, List.length_cons, List.length_nil]; omega) (fun S' hh => ?_)
  simp only [FX8_0, List.set] at hh
  replace h9 := hh
  clear hh
  refine N_pI h9 (by simp only [FX8_0, List.length_cons, List.length_nil]; omega) (fun S' hh => ?_)
  simp only [FX8_0, List.set] at hh
  replace h9 := hh
  clear hh
  refine N_mkR (n := 6) (28, 915 + 10000 * i, 6, 0) h9 (by decide) (by decide) (fun _ => zc_R28 (by decide)) (fun Γ10 S10 o112 g10 t10 h10 => ?_)
  refine N_pP h10 (by simp only [FX8_0, List.length_cons, List.length_nil]; omega) (fun S' hh => ?_)
  simp only [FX8_0, List.set] at hh
  replace h10 := hh
  clear hh
  refine N_pI h10 (by simp only [FX8_0, List.length_cons, List.length_nil]; omega) (fun S' hh => ?_)
  simp only [FX8_0, List.set] at hh
  replace h10 := hh
  clear hh
  obtain ⟨ga, ta, ha⟩ := N_done h10 (8, 8 + 10000 * i, i, 0) (cellOk_8 rfl ⟨o5, 0, o23, o31, 0, o44, o52, o60, o68, 0, o81, o89, 3, 0, 0, o112, (-1), rfl, (kset_le h10.2.1 _ _ (g10.1 _ _ (g9.1 _ _ (g8.1 _ _ (g7.1 _ _ (g6.1 _ _ (g5.1 _ _ (g4.1 _ _ (g3.1 _ _ (g2.1 _ _ t1)))))))))), (by decide), (kset_le h10.2.1 _ _ (g10.1 _ _ (g9.1 _ _ (g8.1 _ _ (g7.1 _ _ (g6.1 _ _ (g5.1 _ _ (g4.1 _ _ (g3.1 _ _ t2))))))))), (kset_le h10.2.1 _ _ (g10.1 _ _ (g9.1 _ _ (g8.1 _ _ (g7.1 _ _ (g6.1 _ _ (g5.1 _ _ (g4.1 _ _ t3)))))))), (by decide), (kset_le h10.2.1 _ _ (g10.1 _ _ (g9.1 _ _ (g8.1 _ _ (g7.1 _ _ (g6.1 _ _ (g5.1 _ _ t4))))))), (kset_le h10.2.1 _ _ (g10.1 _ _ (g9.1 _ _ (g8.1 _ _ (g7.1 _ _ (g6.1 _ _ t5)))))), (kset_le h10.2.1 _ _ (g10.1 _ _ (g9.1 _ _ (g8.1 _ _ (g7.1 _ _ t6))))), (kset_le h10.2.1 _ _ (g10.1 _ _ (g9.1 _ _ (g8.1 _ _ t7)))), (by decide), (kset_le h10.2.1 _ _ (g10.1 _ _ (g9.1 _ _ t8))), (kset_le h10.2.1 _ _ (g10.1 _ _ t9)), (by decide), (kset_le h10.2.1 _ _ t10)⟩)
  exact k _ _ (((((((((((gro_rf.tr g1).tr g2).tr g3).tr g4).tr g5).tr g6).tr g7).tr g8).tr g9).tr g10).tr ga) ta ha
theorem ki_X11 {q : hS → Prop} (h : Nw Γ Φ S o 11 FX11_0) (k : ∀ Γ' S', gro Γ Φ Γ' → Γ' o = some (11, 11, 0, 0) → St Γ' Φ S' → q S') : w_X11_init q S o := by
  unfold w_X11_init
  refine N_nO h (fun o5 S1a hA1 fin1 => ?_)
  refine ki_X8 0 hA1 (fun Γ1 S1 gA1 t1 hB1 => ?_)
  obtain ⟨h1, g1⟩ := fin1 _ _ gA1 hB1
  refine N_pP h1 (by simp only [FX11_0, List.length_cons, List.length_nil]; omega) (fun S' hh => ?_)
  simp only [FX11_0, List.set] at hh
  replace h1 := hh
  clear hh
  refine N_nO h1 (fun o16 S2a hA2 fin2 => ?_)
  refine ki_X8 1 hA2 (fun Γ2 S2 gA2 t2 hB2 => ?_)
  obtain ⟨h2, g2⟩ := fin2 _ _ gA2 hB2
  refine N_pP h2 (by simp only [FX11_0, List.length_cons, List.length_nil]; omega) (fun S' hh => ?_)
  simp only [FX11_0, List.set] at hh
  replace h2 := hh
  clear hh
  refine N_mkR (n := 2) (26, 1202, 2, 0) h2 (by decide) (by decide) (fun _ => zc_R26 (by decide)) (fun Γ3 S3 o28 g3 t3 h3 => ?_)
  refine N_pP h3 (by simp only [FX11_0, List.length_cons, List.length_nil]; omega) (fun S' hh => ?_)
  simp only [FX11_0, List.set] at hh
  replace h3 := hh
  clear hh
  refine N_nO h3 (fun o35 S4a hA4 fin4 => ?_)
  refine ki_X3 hA4 (fun Γ4 S4 gA4 t4 hB4 => ?_)
  obtain ⟨h4, g4⟩ := fin4 _ _ gA4 hB4
  refine N_pP h4 (by simp only [FX11_0, List.length_cons, List.length_nil]; omega) (fun S' hh => ?_)
  simp only [FX11_0, List.set] at hh
  replace h4 := hh
  clear hh
  refine N_nO h4 (fun o46 S5a hA5 fin5 => ?_)
  refine ki_X9 hA5 (fun Γ5 S5 gA5 t5 hB5 => ?_)
  obtain ⟨h5, g5⟩ := fin5 _ _ gA5 hB5
  refine N_pP h5 (by simp only [FX11_0, List.length_cons, List.length_nil]; omega) (fun S' hh => ?_)
  simp only [FX11_0, List.set] at hh
  replace h5 := hh
  clear hh
  refine N_nO h5 (fun o57 S6a hA6 fin6 => ?_)
  refine ⟨_, o46, (fz_eq (b := o) hA6.1 (by simp) h5.2.2.2).trans h5.2.2.2, rfl, ?_⟩
  refine ki_X5 hA6 t5 (fun Γ6 S6 gA6 t6 hB6 => ?_)
  obtain ⟨h6, g6⟩ := fin6 _ _ gA6 hB6
  refine N_pP h6 (by simp only [FX11_0, List.length_cons, List.length_nil]; omega) (fun S' hh => ?_)
  simp only [FX11_0, List.set] at hh
  replace h6 := hh
  clear hh
  refine N_nO h6 (fun o72 S7a hA7 fin7 => ?_)
  refine ki_X0 hA7 (fun Γ7 S7 gA7 t7 hB7 => ?_)
  obtain ⟨h7, g7⟩ := fin7 _ _ gA7 hB7
  refine N_pP h7 (by simp only [FX11_0, List.length_cons, List.length_nil]; omega) (fun S' hh => ?_)
  simp only [FX11_0, List.set] at hh
  replace h7 := hh
  clear hh
  refine N_nO h7 (fun o83 S8a hA8 fin8 => ?_)
  refine ⟨_, o72, (fz_eq (b := o) hA8.1 (by simp) h7.2.2.2).trans h7.2.2.2, rfl, ?_⟩
  refine ki_X1 hA8 t7 (fun Γ8 S8 gA8 t8 hB8 => ?_)
  obtain ⟨h8, g8⟩ := fin8 _ _ gA8 hB8
  refine N_pP h8 (by simp only [FX11_0, List.length_cons, List.length_nil]; omega) (fun S' hh => ?_)
  simp only [FX11_0, List.set] at hh
  replace h8 := hh
  clear hh
  refine N_nO h8 (fun o98 S9a hA9 fin9 => ?_)
  refine ki_X4 hA9 (fun Γ9 S9 gA9 t9 hB9 => ?_)
  obtain ⟨h9, g9⟩ := fin9 _ _ gA9 hB9
  refine N_pP h9 (by simp only [FX11_0, List.length_cons, List.length_nil]; omega) (fun S' hh => ?_)
  simp only [FX11_0, List.set] at hh
  replace h9 := hh
  clear hh
  refine N_nO h9 (fun o109 S10a hA10 fin10 => ?_)
  refine ki_X7 hA10 (fun Γ10 S10 gA10 t10 hB10 => ?_)
  obtain ⟨h10, g10⟩ := fin10 _ _ gA10 hB10
  refine N_pP h10 (by simp only [FX11_0, List.length_cons, List.length_nil]; omega) (fun S' hh => ?_)
  simp only [FX11_0, List.set] at hh
  replace h10 := hh
  clear hh
  refine N_mkI (n := 48) (20, 1210, 48, 0) h10 (by decide) (by decide) (fun _ => zc_I (by decide) (by decide)) (fun Γ11 S11 o122 g11 t11 h11 => ?_)
  refine N_pP h11 (by simp only [FX11_0, List.length_cons, List.length_nil]; omega) (fun S' hh => ?_)
  simp only [FX11_0, List.set] at hh
  replace h11 := hh
  clear hh
  refine N_pI h11 (by simp only [FX11_0, List.length_cons, List.length_nil]; omega) (fun S' hh => ?_)
  simp only [FX11_0, List.set] at hh
  replace h11 := hh
  clear hh
  refine N_pI h11 (by simp only [FX11_0, List.length_cons, List.length_nil]; omega) (fun S' hh => ?_)
  simp only [FX11_0, List.set] at hh
  replace h11 := hh
  clear hh
  refine N_pI h11 (by simp only [FX11_0, List.length_cons, List.length_nil]; omega) (fun S' hh => ?_)
  simp only [FX11_0, List.set] at hh
  replace h11 := hh
  clear hh
  refine N_pI h11 (by simp only [FX11_0, List.length_cons, List.length_nil]; omega) (fun S' hh => ?_)
  simp only [FX11_0, List.set] at hh
  replace h11 := hh
  clear hh
  refine N_pI h11 (by simp only [FX11_0, List.length_cons, List.length_nil]; omega) (fun S' hh => ?_)
  simp only [FX11_0, List.set] at hh
  replace h11 := hh
  clear hh
  refine N_mkI (n := 7) (20, 1216, 7, 0) h11 (by decide) (by decide) (fun _ => zc_I (by decide) (by decide)) (fun Γ12 S12 o155 g12 t12 h12 => ?_)
  refine N_pP h12 (by simp only [FX11_0, List.length_cons, List.length_nil]; omega) (fun S' hh => ?_)
  simp only [FX11_0, List.set] at hh
  replace h12 := hh
  clear hh
  refine N_pI h12 (by simp only [FX11_0, List.length_cons, List.length_nil]; omega) (fun S' hh => ?_)
  simp only [FX11_0, List.set] at hh
  replace h12 := hh
  clear hh
  obtain ⟨ga, ta, ha⟩ := N_done h12 (11, 11, 0, 0) (cellOk_11 rfl ⟨o5, o16, o28, o35, o46, o57, o72, o83, o98, o109, o122, 0, 0, (-1), (-1), 0, o155, 0, rfl, (kset_le h12.2.1 _ _ (g12.1 _ _ (g11.1 _ _ (g10.1 _ _ (g9.1 _ _ (g8.1 _ _ (g7.1 _ _ (g6.1 _ _ (g5.1 _ _ (g4.1 _ _ (g3.1 _ _ (g2.1 _ _ t1)))))))))))), (kset_le h12.2.1 _ _ (g12.1 _ _ (g11.1 _ _ (g10.1 _ _ (g9.1 _ _ (g8.1 _ _ (g7.1 _ _ (g6.1 _ _ (g5.1 _ _ (g4.1 _ _ (g3.1 _ _ t2))))))))))), (kset_le h12.2.1 _ _ (g12.1 _ _ (g11.1 _ _ (g10.1 _ _ (g9.1 _ _ (g8.1 _ _ (g7.1 _ _ (g6.1 _ _ (g5.1 _ _ (g4.1 _ _ t3)))))))))), (kset_le h12.2.1 _ _ (g12.1 _ _ (g11.1 _ _ (g10.1 _ _ (g9.1 _ _ (g8.1 _ _ (g7.1 _ _ (g6.1 _ _ (g5.1 _ _ t4))))))))), (kset_le h12.2.1 _ _ (g12.1 _ _ (g11.1 _ _ (g10.1 _ _ (g9.1 _ _ (g8.1 _ _ (g7.1 _ _ (g6.1 _ _ t5)))))))), (kset_le h12.2.1 _ _ (g12.1 _ _ (g11.1 _ _ (g10.1 _ _ (g9.1 _ _ (g8.1 _ _ (g7.1 _ _ t6))))))), (kset_le h12.2.1 _ _ (g12.1 _ _ (g11.1 _ _ (g10.1 _ _ (g9.1 _ _ (g8.1 _ _ t7)))))), (kset_le h12.2.1 _ _ (g12.1 _ _ (g11.1 _ _ (g10.1 _ _ (g9.1 _ _ t8))))), (kset_le h12.2.1 _ _ (g12.1 _ _ (g11.1 _ _ (g10.1 _ _ t9)))), (kset_le h12.2.1 _ _ (g12.1 _ _ (g11.1 _ _ t10))), (kset_le h12.2.1 _ _ (g12.1 _ _ t11)), (by decide), (by decide), (kset_le h12.2.1 _ _ t12)⟩)
  exact k _ _ (((((((((((((gro_rf.tr g1).tr g2).tr g3).tr g4).tr g5).tr g6).tr g7).tr g8).tr g9).tr g10).tr g11).tr g12).tr ga) ta ha
end INI
