/-! LAYER 2: the reference as it is made; both objects side by side -/
/-- the reference under way: its object, its rows (field, address, contents); the class's cells as they are -/
def RI (Γ : kG) (S₀ S : hS) (o : Nat) (fs : List Value) (L : List (Nat × Nat × hE)) : Prop := (∀ a τ, Γ a = some τ → cellOk Γ τ (S a) ∧ S a = S₀ a) ∧ Γ o = none ∧ S o = some (.inr (12, fs)) ∧ (∀ x ∈ L, S x.2.1 = some x.2.2 ∧ Γ x.2.1 = none ∧ x.2.1 ≠ o) ∧ ∀ x ∈ L, ∀ y ∈ L, x.2.1 = y.2.1 → x.1 = y.1
section RIN
variable {Γ : kG} {S₀ S : hS} {o : Nat} {fs : List Value} {L : List (Nat × Nat × hE)}
theorem RI.seto (h : RI Γ S₀ S o fs L) (gs : List Value) : RI Γ S₀ (hset S o (.inr (12, gs))) o gs L := by
  obtain ⟨h1, h2, h3, h4, h5⟩ := h
  refine ⟨fun a τ ha => ?_, h2, hset_self _ _ _, fun x hx => ?_, h5⟩
  · rw [hset_ne _ _ (fun e => by rw [e, h2] at ha; cases ha)]; exact h1 a τ ha
  · obtain ⟨a1, a2, a3⟩ := h4 x hx
    rw [hset_ne _ _ a3]; exact ⟨a1, a2, a3⟩
theorem R_pP {P : hS → Prop} {k x : Nat} (h : RI Γ S₀ S o fs L) (hk : k < fs.length) (k' : ∀ S', RI Γ S₀ S' o (fs.set k (.ref x)) L → P S') : pP S o 12 k x P := ⟨fs, h.2.2.1, hk, k' _ (h.seto _)⟩
theorem R_pI {P : hS → Prop} {k : Nat} {x : Int32} (h : RI Γ S₀ S o fs L) (hk : k < fs.length) (k' : ∀ S', RI Γ S₀ S' o (fs.set k (.int x)) L → P S') : pI S o 12 k x P := ⟨fs, h.2.2.1, hk, k' _ (h.seto _)⟩
theorem RI.new (h : RI Γ S₀ S o fs L) (k : Nat) {q : Nat} (hq : S q = none) (e : hE) : RI Γ S₀ (hset S q e) o fs ((k, q, e) :: L) := by
  obtain ⟨h1, h2, h3, h4, h5⟩ := h
  have gq : Γ q = none := by
    cases c : Γ q with
    | none => rfl
    | some τ => have := h1 q τ c; rw [hq] at this; exact (cellOk_some this.1).elim
  have oq : o ≠ q := fun e => by rw [e, hq] at h3; cases h3
  have lq : ∀ x ∈ L, x.2.1 ≠ q := fun x hx e => by have := (h4 x hx).1; rw [e, hq] at this; cases this
  refine ⟨fun a τ ha => ?_, h2, by rw [hset_ne _ _ oq]; exact h3, fun x hx => ?_, fun x hx y hy e => ?_⟩
  · rw [hset_ne _ _ (fun e => by rw [e, gq] at ha; cases ha)]; exact h1 a τ ha
  · rcases List.mem_cons.mp hx with rfl | hx
    · exact ⟨hset_self _ _ _, gq, fun e => oq e.symm⟩
    · obtain ⟨a1, a2, a3⟩ := h4 x hx
      rw [hset_ne _ _ (lq x hx)]; exact ⟨a1, a2, a3⟩
  · rcases List.mem_cons.mp hx with rfl | hx <;> rcases List.mem_cons.mp hy with rfl | hy
    · rfl
    · exact absurd e.symm (lq y hy)
    · exact absurd e (lq x hx)
    · exact h5 x hx y hy e
theorem i32pos {m : Int32} {n : Nat} (hm : m.toInt = n) : ¬ m < 0 ∧ m.toNatClampNeg = n := by
  have := cl_eq (i := m) (by omega)
  refine ⟨fun z => ?_, by omega⟩
  rw [Int32.lt_iff_toInt_lt] at z
  have : (0 : Int32).toInt = 0 := by decide
  omega
theorem R_mkI {P : hS → Nat → Prop} {m : Int32} {n cap : Nat} (k : Nat) (h : RI Γ S₀ S o fs L) (hm : m.toInt = n) (hn : n ≤ cap) (k' : ∀ S' q, RI Γ S₀ S' o fs ((k, q, .inl (0, n, .inl (fun _ => 0))) :: L) → P S' q) : mkI S m cap P := by
  obtain ⟨a, e⟩ := i32pos hm
  refine ⟨a, by omega, fun q hq => ?_⟩
  rw [e]
  exact k' _ q (h.new k hq _)
theorem R_mkZ {P : hS → Nat → Prop} {m : Int32} {n cap : Nat} (k : Nat) (h : RI Γ S₀ S o fs L) (hm : m.toInt = n) (hn : n ≤ cap) (k' : ∀ S' q, RI Γ S₀ S' o fs ((k, q, .inl (2, n, .inl (fun _ => 0))) :: L) → P S' q) : mkZ S m cap P := by
  obtain ⟨a, e⟩ := i32pos hm
  refine ⟨a, by omega, fun q hq => ?_⟩
  rw [e]
  exact k' _ q (h.new k hq _)
theorem R_mkJ {P : hS → Nat → Prop} {m : Int32} {n cap : Nat} (k : Nat) (h : RI Γ S₀ S o fs L) (hm : m.toInt = n) (hn : n ≤ cap) (k' : ∀ S' q, RI Γ S₀ S' o fs ((k, q, .inl (1, n, .inr (.inl (fun _ => 0)))) :: L) → P S' q) : mkJ S m cap P := by
  obtain ⟨a, e⟩ := i32pos hm
  refine ⟨a, by omega, fun q hq => ?_⟩
  rw [e]
  exact k' _ q (h.new k hq _)
/-- the row made last, one place of it -/
theorem R_sJ {P : hS → Prop} {k a n : Nat} {f : Nat → Int64} {i : Int32} {x : Int64} (h : RI Γ S₀ S o fs ((k, a, .inl (1, n, .inr (.inl f))) :: L)) (hi : vp_in i n) (hL : ∀ y ∈ L, y.1 ≠ k) (k' : ∀ S' g, RI Γ S₀ S' o fs ((k, a, .inl (1, n, .inr (.inl g))) :: L) → P S') : sJ S a i x P := by
  obtain ⟨h1, h2, h3, h4, h5⟩ := h
  obtain ⟨a1, a2, a3⟩ := h4 _ List.mem_cons_self
  refine ⟨n, f, a1, hi, k' _ (vp_updL f i.toNatClampNeg x) ⟨fun b τ hb => ?_, h2, by rw [hset_ne _ _ (fun e => a3 e.symm)]; exact h3, fun y hy => ?_, fun y hy z hz e => ?_⟩⟩
  · rw [hset_ne _ _ (fun e => by rw [e, a2] at hb; cases hb)]; exact h1 b τ hb
  · rcases List.mem_cons.mp hy with rfl | hy
    · exact ⟨hset_self _ _ _, a2, a3⟩
    · obtain ⟨b1, b2, b3⟩ := h4 y (List.mem_cons_of_mem _ hy)
      rw [hset_ne _ _ (fun e => hL y hy (h5 y (List.mem_cons_of_mem _ hy) _ List.mem_cons_self e))]
      exact ⟨b1, b2, b3⟩
  · rcases List.mem_cons.mp hy with rfl | hy <;> rcases List.mem_cons.mp hz with rfl | hz
    · rfl
    · exact h5 _ List.mem_cons_self z (List.mem_cons_of_mem _ hz) e
    · exact h5 y (List.mem_cons_of_mem _ hy) (k, a, .inl (1, n, .inr (.inl f))) List.mem_cons_self e
    · exact h5 y (List.mem_cons_of_mem _ hy) z (List.mem_cons_of_mem _ hz) e
/-- what is followed of the class, by its book ρ, is as T has it -/
def TK (Γ : kG) (S : hS) (ρ : Nat → Nat) (rs : Nat) (T : mS) : Prop := eqT (sV S (ρ 0) (bk 0 ρ)) (T.2.2.1 3) ∧ (∀ k, k < 2 → (aO S (ρ 2) k = none ↔ T.2.2.1 5 k = 0)) ∧ (∀ k b, k < 2 → aO S (ρ 2) k = some b → ∃ ρk, Γ b = some (8, 8 + 10000 * (2 + k), 2 + k, 0, ρk) ∧ eqT (sV S b ρk) (fun j => T.2.2.1 4 (5585 * k + j))) ∧ fI S (ρ 4) 1 = T.1 13 ∧ (∀ j, j < 400 → aV S (bk 4 ρ 0) j = T.2.2.1 12 j) ∧ nI rs = T.1 11
/-- both objects side by side: x the class's, o the reference's; the reference is at M, the class's followed parts at T -/
def IV (S : hS) (x o : Nat) (M T : mS) : Prop := ∃ (Γ : kG) (ad : Nat → Nat) (ρ : Nat → Nat) (rs : Nat), mD o ad ∧ mOk M M ∧ ov S o ad M = S ∧ (∀ a τ, Γ a = some τ → cellOk Γ τ (S a)) ∧ (∀ a τ, Γ a = some τ → a ≠ o ∧ ∀ k ∈ mIx, a ≠ ad k) ∧ Γ x = some (11, 11, 0, rs, ρ) ∧ TK Γ S ρ rs T
/-- the names of what is followed -/
def BL : List Nat := [8, 908, 1202, 20008, 20908, 30008, 30908, 9, 1000]
theorem ov_eq {ad : Nat → Nat} {M : mS} (h1 : S o = some (.inr (12, mFs ad M))) (h2 : ∀ k ∈ mIx, S (ad k) = some (mC M k)) : ov S o ad M = S := by
  funext a
  unfold ov
  split
  · rename_i e; rw [e, h1]
  · cases c : mIx.find? (fun k => ad k == a) with
    | none => rfl
    | some k =>
      have e1 := List.find?_some c
      have e2 := List.mem_of_find?_eq_some c
      have e3 : ad k = a := by simpa using e1
      show some (mC M k) = S a
      rw [← e3, h2 k e2]
theorem sV_tk {S S' : hS} {b : Nat} {ρ : Nat → Nat} (h1 : S' b = S b) (h2 : S' (ρ 8) = S (ρ 8)) : eqT (sV S' b ρ) (sV S b ρ) := by
  intro j hj
  by_cases c : j ≤ 2
  · have : j = 0 ∨ j = 1 ∨ j = 2 := by omega
    rcases this with rfl | rfl | rfl
    · exact fI_cell h1 1
    · exact fI_cell h1 4
    · exact fI_cell h1 9
  · unfold rTk at hj
    rw [show j = 162 + (j - 162) by omega, ← sV_e (S := S') (b := b) (ρ := ρ) (by omega), ← sV_e (S := S) (b := b) (ρ := ρ) (by omega)]
    exact aV_cell h2 _
/-- what is followed hangs on its own cells alone -/
theorem TK.cells {Γ Γ' : kG} {Φ : kF} {S S' : hS} {x rs : Nat} {ρ : Nat → Nat} {T : mS} (h : TK Γ S ρ rs T) (hs : St Γ Φ S) (hx : Γ x = some (11, 11, 0, rs, ρ)) (hg : ∀ a τ, τ.2.1 ≠ 11 → Γ a = some τ → Γ' a = some τ) (hc : ∀ a τ, Γ a = some τ → τ.2.1 ∈ BL → S' a = S a) : TK Γ' S' ρ rs T := by
  obtain ⟨h1, h2, h3, h4, h5, h6⟩ := h
  have hb := (P_11_0 hs hx).2
  have ht := (P_11_4 hs hx).2
  have ci := hc _ _ (P_11_2 hs hx).2 (by simp [BL])
  refine ⟨(sV_tk (hc _ _ hb (by simp [BL])) (hc _ _ (P_8_8 hs hb).2 (by simp [BL]))).tr h1, fun k hk => ?_, fun k b hk hb2 => ?_, ?_, fun j hj => ?_, h6⟩
  · rw [aO_cell ci]; exact h2 k hk
  · rw [aO_cell ci] at hb2
    obtain ⟨ρk, kb, e⟩ := h3 k b hk hb2
    have k01 : k = 0 ∨ k = 1 := by omega
    refine ⟨ρk, hg _ _ (by dsimp only; omega) kb, (sV_tk (hc _ _ kb ?_) (hc _ _ (P_8_8 hs kb).2 ?_)).tr e⟩
    · rcases k01 with rfl | rfl <;> simp [BL]
    · rcases k01 with rfl | rfl <;> simp [BL]
  · rw [fI_cell (hc _ _ ht (by simp [BL]))]; exact h4
  · rw [aV_cell (hc _ _ (P_9_0 hs ht).2 (by simp [BL]))]; exact h5 j hj
/-- the same followed -/
theorem TK.to {Γ : kG} {S : hS} {ρ : Nat → Nat} {rs : Nat} {T N : mS} (h : TK Γ S ρ rs T) (hN : mOk T N) : TK Γ S ρ rs N := by
  obtain ⟨h1, h2, h3, h4, h5, h6⟩ := h
  obtain ⟨n1, -, -, -, -, -, -, -, -, -, -, n4, n5, n12, n13, n11⟩ := hN
  have r := n1.2.2.2.2.2.2.2.2.2
  refine ⟨fun j hj => (h1 j hj).trans (r j hj).symm, fun k hk => by rw [n5]; exact h2 k hk, fun k b hk hb => ?_, by rw [n13]; exact h4, fun j hj => by rw [n12]; exact h5 j hj, by rw [n11]; exact h6⟩
  obtain ⟨ρk, kb, e⟩ := h3 k b hk hb
  exact ⟨ρk, kb, by rw [n4]; exact e⟩
section SIDE
variable {x : Nat} {M T : mS}
theorem IV.ref (h : IV S x o M T) : ∃ ad, mD o ad ∧ mOk M M ∧ ov S o ad M = S ∧ ∀ N, mOk T N → IV (ov S o ad N) x o N N := by
  obtain ⟨Γ, ad, ρ, rs, hd, hM, hS, h1, h2, h3, h4⟩ := h
  refine ⟨ad, hd, hM, hS, fun N hN => ⟨Γ, ad, ρ, rs, hd, mOk_self hN, ov_eq ov_o (fun k hk => ov_a hd hk), fun a τ ha => ?_, h2, h3, (h4.cells (Φ := fun _ => none) ⟨h1, fun a e ha => by cases ha⟩ h3 (fun _ _ _ h => h) (fun a τ ha _ => ov_out (h2 a τ ha).1 (h2 a τ ha).2)).to hN⟩⟩
  rw [ov_out (h2 a τ ha).1 (h2 a τ ha).2]
  exact h1 a τ ha
/-- a call of the class's that writes under the names A alone -/
theorem IV.clx (h : IV S x o M T) (A : List Nat) : ∃ (Γ : kG) (Φ : kF) (ρ : Nat → Nat) (rs : Nat), St Γ Φ S ∧ fre Γ Φ A ∧ Γ x = some (11, 11, 0, rs, ρ) ∧ TK Γ S ρ rs T ∧ ∀ Γ' S' rs' T', (∀ a τ, Γ' a = some τ → (∃ τ', Γ a = some τ') ∨ Φ a = none) → St Γ' Φ S' → Γ' x = some (11, 11, 0, rs', ρ) → (sam Γ A S S' → TK Γ' S' ρ rs' T') → IV S' x o M T' := by
  obtain ⟨Γ, ad, ρ, rs, hd, hM, hS, h1, h2, h3, h4⟩ := h
  have so : S o = some (.inr (12, mFs ad M)) := by rw [← hS]; exact ov_o
  have sa : ∀ k ∈ mIx, S (ad k) = some (mC M k) := fun k hk => by
    have := ov_a (S := S) (M := M) hd hk
    rw [hS] at this; exact this
  have st : St Γ (fun _ => none) S := ⟨h1, fun a e ha => by cases ha⟩
  have go : Γ o = none := by
    cases e : Γ o with
    | none => rfl
    | some τ => exact absurd rfl (h2 o τ e).1
  have ga : ∀ k ∈ mIx, Γ (ad k) = none := fun k hk => by
    cases e : Γ (ad k) with
    | none => rfl
    | some τ => exact absurd rfl ((h2 (ad k) τ e).2 k hk)
  have fo : frz Γ (fun _ => none) S A o = S o := frz_out (fun τ e => by rw [go] at e; cases e)
  have fa : ∀ k ∈ mIx, frz Γ (fun _ => none) S A (ad k) = S (ad k) := fun k hk => frz_out (fun τ e => by rw [ga k hk] at e; cases e)
  refine ⟨Γ, frz Γ (fun _ => none) S A, ρ, rs, frz_St st, frz_fre (L := A) (fun _ _ _ _ => rfl) (fun _ x => x), h3, h4, fun Γ' S' rs' T' hg hs hx hT => ?_⟩
  obtain ⟨-, hsam⟩ := frz_un st hs
  have so' : S' o = some (.inr (12, mFs ad M)) := hs.2 o _ (fo.trans so)
  have sa' : ∀ k ∈ mIx, S' (ad k) = some (mC M k) := fun k hk => hs.2 _ _ ((fa k hk).trans (sa k hk))
  refine ⟨Γ', ad, ρ, rs', hd, hM, ov_eq so' sa', hs.1, fun a τ ha => ⟨fun e => ?_, fun k hk e => ?_⟩, hx, hT hsam⟩
  · subst e
    rcases hg _ _ ha with ⟨τ', c⟩ | c
    · rw [go] at c; cases c
    · rw [fo, so] at c; cases c
  · subst e
    rcases hg _ _ ha with ⟨τ', c⟩ | c
    · rw [ga k hk] at c; cases c
    · rw [fa k hk, sa k hk] at c; cases c
theorem gro_or {Γ Γ' : kG} {Φ : kF} (hg : gro Γ Φ Γ') : ∀ a τ, Γ' a = some τ → (∃ τ', Γ a = some τ') ∨ Φ a = none := fun a τ ha => (hg.2 a τ ha).elim (fun c => Or.inl ⟨τ, c⟩) Or.inr
/-- and nothing that is followed -/
theorem IV.cls (h : IV S x o M T) (A : List Nat) (hA : ∀ n ∈ BL, n ∉ A) : ∃ (Γ : kG) (Φ : kF) (ρ : Nat → Nat) (rs : Nat), St Γ Φ S ∧ fre Γ Φ A ∧ Γ x = some (11, 11, 0, rs, ρ) ∧ ∀ Γ' S', gro Γ Φ Γ' → St Γ' Φ S' → IV S' x o M T := by
  obtain ⟨Γ, Φ, ρ, rs, hs, hf, hx, hT, hgo⟩ := h.clx A
  exact ⟨Γ, Φ, ρ, rs, hs, hf, hx, fun Γ' S' hg h' => hgo Γ' S' rs T (gro_or hg) h' (hg.1 _ _ hx) (fun hsam => hT.cells hs hx (fun a τ _ ha => hg.1 a τ ha) (fun a τ ha hn => hsam.at hs ha (hA _ hn)))⟩
end SIDE

/-- as the constructor leaves it, ahead of its last two writes -/
def mZ (gs : Nat → Nat → Int64) : mS := (fun k => if k = 18 ∨ k = 55 ∨ k = 59 ∨ k = 60 then -1 else 0, fun _ => 0, fun _ _ => 0, gs)
theorem mZ_ok {gs : Nat → Nat → Int64} {f : Nat → Int32} (h0 : ∀ i, i ≠ 4 → i ≠ 6 → f i = 0) (h4 : f 4 = -1) : mOk (mA (mZ gs) 3 f) (mA (mZ gs) 3 f) := by
  have z : ∀ a b : Int, a ≤ 0 → 0 ≤ b → rg (0 : Int32) a b := fun a b ha hb => by unfold rg; rw [show (0 : Int32).toInt = 0 by decide]; exact ⟨ha, hb⟩
  have z1 : rg (-1 : Int32) (-1) 8 := ⟨by decide, by decide⟩
  have z2 : rg (-1 : Int32) (-1) 6 := ⟨by decide, by decide⟩
  refine ⟨?_, fun k hk hne => absurd rfl hne, fun k hk => z _ _ (by omega) (by omega), fun k hk => z _ _ (by omega) (by omega), fun k hk => z _ _ (by omega) (by omega), fun k hk => z _ _ (by omega) (by omega), z _ _ (by omega) (by omega), z _ _ (by omega) (by omega), rfl, z1, z2, rfl, rfl, rfl, rfl, rfl⟩
  have e3 : (mA (mZ gs) 3 f).2.2.1 3 = f := by rw [mA_3, if_pos rfl]
  rw [e3]
  unfold rowOk
  rw [h0 0 (by omega) (by omega), h0 1 (by omega) (by omega), h0 2 (by omega) (by omega), h0 3 (by omega) (by omega), h0 5 (by omega) (by omega), h4]
  refine ⟨z _ _ (by omega) (by omega), z _ _ (by omega) (by omega), z _ _ (by omega) (by omega), z _ _ (by omega) (by omega), ⟨by decide, by decide⟩, z _ _ (by omega) (by omega), fun k hk => ?_, fun k hk => ?_, fun i hi => ?_, fun _ _ => rfl⟩
  · rw [h0 _ (by omega) (by omega)]; exact z _ _ (by omega) (by omega)
  · rw [h0 _ (by omega) (by omega)]; exact z _ _ (by omega) (by omega)
  · rw [show (0 : Int32).toInt = 0 by decide] at hi; omega
theorem R_ov {ad : Nat → Nat} {M : mS} (h : RI Γ S₀ S o fs L) (hfs : fs = mFs ad M) (hL : ∀ k ∈ mIx, (k, ad k, mC M k) ∈ L) : mD o ad ∧ ov S o ad M = S ∧ ∀ a τ, Γ a = some τ → a ≠ o ∧ ∀ k ∈ mIx, a ≠ ad k := by
  obtain ⟨h1, h2, h3, h4, h5⟩ := h
  refine ⟨⟨fun k hk => (h4 _ (hL k hk)).2.2, fun j hj k hk e => h5 _ (hL j hj) _ (hL k hk) e⟩, ov_eq (by rw [h3, hfs]) (fun k hk => (h4 _ (hL k hk)).1), fun a τ ha => ⟨fun e => (by rw [e, h2] at ha; cases ha), fun k hk e => ?_⟩⟩
  have := (h4 _ (hL k hk)).2.1
  rw [e] at ha
  exact absurd (this.symm.trans ha) (by simp)
set_option maxHeartbeats 4000000 in
theorem ri_X12 {q : hS → Prop} {x : Nat} {ρ : Nat → Nat} (h : RI Γ S₀ S o FX12_0 []) (h0 : St Γ (fun _ => none) S₀) (hx : Γ x = some (11, 11, 0, 0, ρ)) (hT : ∀ T : mS, (∀ i, i ≠ 4 → i ≠ 6 → T.2.2.1 3 i = 0) → (∀ i, T.2.2.1 5 i = 0) → (∀ i, T.2.2.1 12 i = 0) → T.1 13 = 0 → T.1 11 = 0 → TK Γ S₀ ρ 0 T) (hk : ∀ S' M, IV S' x o M M → q S') : w_X12_init q S o := by
  unfold w_X12_init
  refine R_mkI (n := 7) 2 h (by decide) (by decide) (fun S1 o7 h1 => ?_)
  refine R_pP h1 (by simp only [FX12_0, List.length_cons, List.length_nil]; omega) (fun S2 h2 => ?_)
  simp only [FX12_0, List.set] at h2
  refine R_mkI (n := 5585) 3 h2 (by decide) (by decide) (fun S3 o16 h3 => ?_)
  refine R_pP h3 (by simp only [FX12_0, List.length_cons, List.length_nil]; omega) (fun S4 h4 => ?_)
  simp only [FX12_0, List.set] at h4
  refine R_mkI (n := 11170) 4 h4 (by decide) (by decide) (fun S5 o25 h5 => ?_)
  refine R_pP h5 (by simp only [FX12_0, List.length_cons, List.length_nil]; omega) (fun S6 h6 => ?_)
  simp only [FX12_0, List.set] at h6
  refine R_mkZ (n := 2) 5 h6 (by decide) (by decide) (fun S7 o32 h7 => ?_)
  refine R_pP h7 (by simp only [FX12_0, List.length_cons, List.length_nil]; omega) (fun S8 h8 => ?_)
  simp only [FX12_0, List.set] at h8
  refine R_mkI (n := 2178) 6 h8 (by decide) (by decide) (fun S9 o41 h9 => ?_)
  refine R_pP h9 (by simp only [FX12_0, List.length_cons, List.length_nil]; omega) (fun S10 h10 => ?_)
  simp only [FX12_0, List.set] at h10
  refine R_mkI (n := 16) 7 h10 (by decide) (by decide) (fun S11 o49 h11 => ?_)
  refine R_pP h11 (by simp only [FX12_0, List.length_cons, List.length_nil]; omega) (fun S12 h12 => ?_)
  simp only [FX12_0, List.set] at h12
  refine R_mkI (n := 1936) 9 h12 (by decide) (by decide) (fun S13 o58 h13 => ?_)
  refine R_pP h13 (by simp only [FX12_0, List.length_cons, List.length_nil]; omega) (fun S14 h14 => ?_)
  simp only [FX12_0, List.set] at h14
  refine R_mkI (n := 16) 10 h14 (by decide) (by decide) (fun S15 o66 h15 => ?_)
  refine R_pP h15 (by simp only [FX12_0, List.length_cons, List.length_nil]; omega) (fun S16 h16 => ?_)
  simp only [FX12_0, List.set] at h16
  refine R_mkI (n := 400) 12 h16 (by decide) (by decide) (fun S17 o75 h17 => ?_)
  refine R_pP h17 (by simp only [FX12_0, List.length_cons, List.length_nil]; omega) (fun S18 h18 => ?_)
  simp only [FX12_0, List.set] at h18
  refine R_pI h18 (by simp only [FX12_0, List.length_cons, List.length_nil]; omega) (fun S19 h19 => ?_)
  simp only [FX12_0, List.set] at h19
  refine R_mkI (n := 96) 22 h19 (by decide) (by decide) (fun S20 o88 h20 => ?_)
  refine R_pP h20 (by simp only [FX12_0, List.length_cons, List.length_nil]; omega) (fun S21 h21 => ?_)
  simp only [FX12_0, List.set] at h21
  refine R_mkI (n := 400) 24 h21 (by decide) (by decide) (fun S22 o97 h22 => ?_)
  refine R_pP h22 (by simp only [FX12_0, List.length_cons, List.length_nil]; omega) (fun S23 h23 => ?_)
  simp only [FX12_0, List.set] at h23
  refine R_mkI (n := 400) 25 h23 (by decide) (by decide) (fun S24 o106 h24 => ?_)
  refine R_pP h24 (by simp only [FX12_0, List.length_cons, List.length_nil]; omega) (fun S25 h25 => ?_)
  simp only [FX12_0, List.set] at h25
  refine R_mkI (n := 400) 27 h25 (by decide) (by decide) (fun S26 o115 h26 => ?_)
  refine R_pP h26 (by simp only [FX12_0, List.length_cons, List.length_nil]; omega) (fun S27 h27 => ?_)
  simp only [FX12_0, List.set] at h27
  refine R_mkI (n := 400) 28 h27 (by decide) (by decide) (fun S28 o124 h28 => ?_)
  refine R_pP h28 (by simp only [FX12_0, List.length_cons, List.length_nil]; omega) (fun S29 h29 => ?_)
  simp only [FX12_0, List.set] at h29
  refine R_mkJ (n := 9) 31 h29 (by decide) (by decide) (fun S30 o132 h30 => ?_)
  refine R_sJ h30 (vp_in_iff.mpr (by decide)) (by simp) (fun S31 g31 h31 => ?_)
  refine R_sJ h31 (vp_in_iff.mpr (by decide)) (by simp) (fun S32 g32 h32 => ?_)
  refine R_sJ h32 (vp_in_iff.mpr (by decide)) (by simp) (fun S33 g33 h33 => ?_)
  refine R_sJ h33 (vp_in_iff.mpr (by decide)) (by simp) (fun S34 g34 h34 => ?_)
  refine R_sJ h34 (vp_in_iff.mpr (by decide)) (by simp) (fun S35 g35 h35 => ?_)
  refine R_sJ h35 (vp_in_iff.mpr (by decide)) (by simp) (fun S36 g36 h36 => ?_)
  refine R_sJ h36 (vp_in_iff.mpr (by decide)) (by simp) (fun S37 g37 h37 => ?_)
  refine R_sJ h37 (vp_in_iff.mpr (by decide)) (by simp) (fun S38 g38 h38 => ?_)
  refine R_sJ h38 (vp_in_iff.mpr (by decide)) (by simp) (fun S39 g39 h39 => ?_)
  refine R_pP h39 (by simp only [FX12_0, List.length_cons, List.length_nil]; omega) (fun S40 h40 => ?_)
  simp only [FX12_0, List.set] at h40
  refine R_mkJ (n := 7) 32 h40 (by decide) (by decide) (fun S41 o197 h41 => ?_)
  refine R_sJ h41 (vp_in_iff.mpr (by decide)) (by simp) (fun S42 g42 h42 => ?_)
  refine R_sJ h42 (vp_in_iff.mpr (by decide)) (by simp) (fun S43 g43 h43 => ?_)
  refine R_sJ h43 (vp_in_iff.mpr (by decide)) (by simp) (fun S44 g44 h44 => ?_)
  refine R_sJ h44 (vp_in_iff.mpr (by decide)) (by simp) (fun S45 g45 h45 => ?_)
  refine R_sJ h45 (vp_in_iff.mpr (by decide)) (by simp) (fun S46 g46 h46 => ?_)
  refine R_sJ h46 (vp_in_iff.mpr (by decide)) (by simp) (fun S47 g47 h47 => ?_)
  refine R_sJ h47 (vp_in_iff.mpr (by decide)) (by simp) (fun S48 g48 h48 => ?_)
  refine R_pP h48 (by simp only [FX12_0, List.length_cons, List.length_nil]; omega) (fun S49 h49 => ?_)
  simp only [FX12_0, List.set] at h49
  refine R_mkJ (n := 5) 33 h49 (by decide) (by decide) (fun S50 o247 h50 => ?_)
  refine R_sJ h50 (vp_in_iff.mpr (by decide)) (by simp) (fun S51 g51 h51 => ?_)
  refine R_sJ h51 (vp_in_iff.mpr (by decide)) (by simp) (fun S52 g52 h52 => ?_)
  refine R_sJ h52 (vp_in_iff.mpr (by decide)) (by simp) (fun S53 g53 h53 => ?_)
  refine R_sJ h53 (vp_in_iff.mpr (by decide)) (by simp) (fun S54 g54 h54 => ?_)
  refine R_sJ h54 (vp_in_iff.mpr (by decide)) (by simp) (fun S55 g55 h55 => ?_)
  refine R_pP h55 (by simp only [FX12_0, List.length_cons, List.length_nil]; omega) (fun S56 h56 => ?_)
  simp only [FX12_0, List.set] at h56
  refine R_mkJ (n := 13) 35 h56 (by decide) (by decide) (fun S57 o285 h57 => ?_)
  refine R_pP h57 (by simp only [FX12_0, List.length_cons, List.length_nil]; omega) (fun S58 h58 => ?_)
  simp only [FX12_0, List.set] at h58
  refine R_mkJ (n := 13) 36 h58 (by decide) (by decide) (fun S59 o293 h59 => ?_)
  refine R_pP h59 (by simp only [FX12_0, List.length_cons, List.length_nil]; omega) (fun S60 h60 => ?_)
  simp only [FX12_0, List.set] at h60
  refine R_mkJ (n := 400) 37 h60 (by decide) (by decide) (fun S61 o302 h61 => ?_)
  refine R_pP h61 (by simp only [FX12_0, List.length_cons, List.length_nil]; omega) (fun S62 h62 => ?_)
  simp only [FX12_0, List.set] at h62
  refine R_mkI (n := 7) 41 h62 (by decide) (by decide) (fun S63 o310 h63 => ?_)
  refine R_pP h63 (by simp only [FX12_0, List.length_cons, List.length_nil]; omega) (fun S64 h64 => ?_)
  simp only [FX12_0, List.set] at h64
  refine R_mkI (n := 7) 42 h64 (by decide) (by decide) (fun S65 o318 h65 => ?_)
  refine R_pP h65 (by simp only [FX12_0, List.length_cons, List.length_nil]; omega) (fun S66 h66 => ?_)
  simp only [FX12_0, List.set] at h66
  refine R_mkI (n := 6) 43 h66 (by decide) (by decide) (fun S67 o326 h67 => ?_)
  refine R_pP h67 (by simp only [FX12_0, List.length_cons, List.length_nil]; omega) (fun S68 h68 => ?_)
  simp only [FX12_0, List.set] at h68
  refine R_mkI (n := 9) 45 h68 (by decide) (by decide) (fun S69 o334 h69 => ?_)
  refine R_pP h69 (by simp only [FX12_0, List.length_cons, List.length_nil]; omega) (fun S70 h70 => ?_)
  simp only [FX12_0, List.set] at h70
  refine R_mkI (n := 8) 46 h70 (by decide) (by decide) (fun S71 o342 h71 => ?_)
  refine R_pP h71 (by simp only [FX12_0, List.length_cons, List.length_nil]; omega) (fun S72 h72 => ?_)
  simp only [FX12_0, List.set] at h72
  refine R_mkI (n := 8) 47 h72 (by decide) (by decide) (fun S73 o350 h73 => ?_)
  refine R_pP h73 (by simp only [FX12_0, List.length_cons, List.length_nil]; omega) (fun S74 h74 => ?_)
  simp only [FX12_0, List.set] at h74
  refine R_mkI (n := 189) 48 h74 (by decide) (by decide) (fun S75 o359 h75 => ?_)
  refine R_pP h75 (by simp only [FX12_0, List.length_cons, List.length_nil]; omega) (fun S76 h76 => ?_)
  simp only [FX12_0, List.set] at h76
  refine R_mkI (n := 8) 49 h76 (by decide) (by decide) (fun S77 o367 h77 => ?_)
  refine R_pP h77 (by simp only [FX12_0, List.length_cons, List.length_nil]; omega) (fun S78 h78 => ?_)
  simp only [FX12_0, List.set] at h78
  refine R_mkJ (n := 22) 50 h78 (by decide) (by decide) (fun S79 o375 h79 => ?_)
  refine R_pP h79 (by simp only [FX12_0, List.length_cons, List.length_nil]; omega) (fun S80 h80 => ?_)
  simp only [FX12_0, List.set] at h80
  refine R_mkJ (n := 4) 51 h80 (by decide) (by decide) (fun S81 o382 h81 => ?_)
  refine R_sJ h81 (vp_in_iff.mpr (by decide)) (by simp) (fun S82 g82 h82 => ?_)
  refine R_sJ h82 (vp_in_iff.mpr (by decide)) (by simp) (fun S83 g83 h83 => ?_)
  refine R_sJ h83 (vp_in_iff.mpr (by decide)) (by simp) (fun S84 g84 h84 => ?_)
  refine R_sJ h84 (vp_in_iff.mpr (by decide)) (by simp) (fun S85 g85 h85 => ?_)
  refine R_pP h85 (by simp only [FX12_0, List.length_cons, List.length_nil]; omega) (fun S86 h86 => ?_)
  simp only [FX12_0, List.set] at h86
  refine R_mkI (n := 120) 52 h86 (by decide) (by decide) (fun S87 o414 h87 => ?_)
  refine R_pP h87 (by simp only [FX12_0, List.length_cons, List.length_nil]; omega) (fun S88 h88 => ?_)
  simp only [FX12_0, List.set] at h88
  refine R_pI h88 (by simp only [FX12_0, List.length_cons, List.length_nil]; omega) (fun S89 h89 => ?_)
  simp only [FX12_0, List.set] at h89
  refine R_mkI (n := 48) 58 h89 (by decide) (by decide) (fun S90 o427 h90 => ?_)
  refine R_pP h90 (by simp only [FX12_0, List.length_cons, List.length_nil]; omega) (fun S91 h91 => ?_)
  simp only [FX12_0, List.set] at h91
  refine R_pI h91 (by simp only [FX12_0, List.length_cons, List.length_nil]; omega) (fun S92 h92 => ?_)
  simp only [FX12_0, List.set] at h92
  refine R_pI h92 (by simp only [FX12_0, List.length_cons, List.length_nil]; omega) (fun S93 h93 => ?_)
  simp only [FX12_0, List.set] at h93
  obtain ⟨ad, gs, hd, hS, hap⟩ : ∃ (ad : Nat → Nat) (gs : Nat → Nat → Int64), mD o ad ∧ ov S93 o ad (mZ gs) = S93 ∧ ∀ a τ, Γ a = some τ → a ≠ o ∧ ∀ k ∈ mIx, a ≠ ad k := by
    refine ⟨fun k => match k with | 2 => o7 | 3 => o16 | 4 => o25 | 5 => o32 | 6 => o41 | 7 => o49 | 9 => o58 | 10 => o66 | 12 => o75 | 22 => o88 | 24 => o97 | 25 => o106 | 27 => o115 | 28 => o124 | 31 => o132 | 32 => o197 | 33 => o247 | 35 => o285 | 36 => o293 | 37 => o302 | 41 => o310 | 42 => o318 | 43 => o326 | 45 => o334 | 46 => o342 | 47 => o350 | 48 => o359 | 49 => o367 | 50 => o375 | 51 => o382 | 52 => o414 | 58 => o427 | _ => 0, fun k => match k with | 31 => g39 | 32 => g48 | 33 => g55 | 51 => g85 | _ => fun _ => 0, R_ov h93 rfl ?_⟩
    intro k hk
    simp only [mIx, List.mem_cons, List.not_mem_nil, or_false] at hk
    rcases hk with rfl | rfl | rfl | rfl | rfl | rfl | rfl | rfl | rfl | rfl | rfl | rfl | rfl | rfl | rfl | rfl | rfl | rfl | rfl | rfl | rfl | rfl | rfl | rfl | rfl | rfl | rfl | rfl | rfl | rfl | rfl | rfl
    · exact List.mem_of_getElem? (i := 31) rfl
    · exact List.mem_of_getElem? (i := 30) rfl
    · exact List.mem_of_getElem? (i := 29) rfl
    · exact List.mem_of_getElem? (i := 28) rfl
    · exact List.mem_of_getElem? (i := 27) rfl
    · exact List.mem_of_getElem? (i := 26) rfl
    · exact List.mem_of_getElem? (i := 25) rfl
    · exact List.mem_of_getElem? (i := 24) rfl
    · exact List.mem_of_getElem? (i := 23) rfl
    · exact List.mem_of_getElem? (i := 22) rfl
    · exact List.mem_of_getElem? (i := 21) rfl
    · exact List.mem_of_getElem? (i := 20) rfl
    · exact List.mem_of_getElem? (i := 19) rfl
    · exact List.mem_of_getElem? (i := 18) rfl
    · exact List.mem_of_getElem? (i := 17) rfl
    · exact List.mem_of_getElem? (i := 16) rfl
    · exact List.mem_of_getElem? (i := 15) rfl
    · exact List.mem_of_getElem? (i := 14) rfl
    · exact List.mem_of_getElem? (i := 13) rfl
    · exact List.mem_of_getElem? (i := 12) rfl
    · exact List.mem_of_getElem? (i := 11) rfl
    · exact List.mem_of_getElem? (i := 10) rfl
    · exact List.mem_of_getElem? (i := 9) rfl
    · exact List.mem_of_getElem? (i := 8) rfl
    · exact List.mem_of_getElem? (i := 7) rfl
    · exact List.mem_of_getElem? (i := 6) rfl
    · exact List.mem_of_getElem? (i := 5) rfl
    · exact List.mem_of_getElem? (i := 4) rfl
    · exact List.mem_of_getElem? (i := 3) rfl
    · exact List.mem_of_getElem? (i := 2) rfl
    · exact List.mem_of_getElem? (i := 1) rfl
    · exact List.mem_of_getElem? (i := 0) rfl
  have hty := h93.1
  rw [← hS]
  simp (disch := decide) only [oi_gI, oi_gJ, oi_gP, oi_pI, oi_pZ, oi_pJ, oi_oK, oi_aI hd, oi_aZ hd, oi_aJ hd, oi_sI hd, oi_sZ hd, oi_sJ hd, mI_1, mI_2, mJ_1, mJ_2, mJ_3, mA_1, mA_2, mA_3, mA_4, mL_1, mL_2, mL_3, mL_4, mK, Nat.reduceEqDiff, if_true, if_false, ite_true, ite_false, true_and, Nat.reduceLT, reduceIte, reduceCtorEq, cl_0, cl_1, cl_2, cl_3, cl_4, cl_5, cl_6, cl_7, cl_8, cl_9, cl_10, cl_11, cl_12, cl_13, cl_14, cl_15, vl_0_5585, vl_1_5585, vl_2_5585, vl_3_5585, vl_4_5585, vl_5_5585, vl_6_5585, vl_0_7, vl_1_7, vl_2_7, vl_3_7, vl_4_7, vl_5_7, vl_6_7, mA_mA]
  have hf : ∀ i, i ≠ 4 → i ≠ 6 → upd (upd ((mZ gs).2.2.1 3) 4 (-1)) 6 3 i = 0 := fun i i1 i2 => by
    rw [upd_ne _ _ i2, upd_ne _ _ i1]
    rfl
  refine hk _ (mA (mZ gs) 3 (upd (upd ((mZ gs).2.2.1 3) 4 (-1)) 6 3)) ⟨Γ, ad, ρ, 0, hd, mZ_ok (gs := gs) hf ?_, ov_eq ov_o (fun k hk => ov_a hd hk), fun a τ ha => ?_, hap, hx, (hT _ (fun i i1 i2 => ?_) (fun _ => rfl) (fun _ => rfl) rfl rfl).cells h0 hx (fun _ _ _ h => h) (fun a τ ha _ => ?_)⟩
  · rw [upd_ne _ _ (by omega), upd_self]
  · rw [ov_out (hap a τ ha).1 (hap a τ ha).2]; exact (hty a τ ha).1
  · rw [mA_3, if_pos rfl]; exact hf i i1 i2
  · rw [ov_out (hap a τ ha).1 (hap a τ ha).2]; exact (hty a τ ha).2
end RIN
