/-! LAYER 2: the reference as it is made; both objects side by side -/
/-- the reference under way: its object, its rows (field, address, contents); the class's cells as they are -/
def RI (Γ : kG) (S : hS) (o : Nat) (fs : List Value) (L : List (Nat × Nat × hE)) : Prop := (∀ a τ, Γ a = some τ → cellOk Γ τ (S a)) ∧ Γ o = none ∧ S o = some (.inr (12, fs)) ∧ (∀ x ∈ L, S x.2.1 = some x.2.2 ∧ Γ x.2.1 = none ∧ x.2.1 ≠ o) ∧ ∀ x ∈ L, ∀ y ∈ L, x.2.1 = y.2.1 → x.1 = y.1
section RIN
variable {Γ : kG} {S : hS} {o : Nat} {fs : List Value} {L : List (Nat × Nat × hE)}
theorem RI.seto (h : RI Γ S o fs L) (gs : List Value) : RI Γ (hset S o (.inr (12, gs))) o gs L := by
  obtain ⟨h1, h2, h3, h4, h5⟩ := h
  refine ⟨fun a τ ha => ?_, h2, hset_self _ _ _, fun x hx => ?_, h5⟩
  · rw [hset_ne _ _ (fun e => by rw [e, h2] at ha; cases ha)]; exact h1 a τ ha
  · obtain ⟨a1, a2, a3⟩ := h4 x hx
    rw [hset_ne _ _ a3]; exact ⟨a1, a2, a3⟩
theorem R_pP {P : hS → Prop} {k x : Nat} (h : RI Γ S o fs L) (hk : k < fs.length) (k' : ∀ S', RI Γ S' o (fs.set k (.ref x)) L → P S') : pP S o 12 k x P := ⟨fs, h.2.2.1, hk, k' _ (h.seto _)⟩
theorem R_pI {P : hS → Prop} {k : Nat} {x : Int32} (h : RI Γ S o fs L) (hk : k < fs.length) (k' : ∀ S', RI Γ S' o (fs.set k (.int x)) L → P S') : pI S o 12 k x P := ⟨fs, h.2.2.1, hk, k' _ (h.seto _)⟩
theorem RI.new (h : RI Γ S o fs L) (k : Nat) {q : Nat} (hq : S q = none) (e : hE) : RI Γ (hset S q e) o fs ((k, q, e) :: L) := by
  obtain ⟨h1, h2, h3, h4, h5⟩ := h
  have gq : Γ q = none := by
    cases c : Γ q with
    | none => rfl
    | some τ => have := h1 q τ c; rw [hq] at this; exact (cellOk_some this).elim
  have oq : o ≠ q := fun e => by rw [e, hq] at h3; cases h3
  have lq : ∀ x ∈ L, x.2.1 ≠ q := fun x hx e => by have := (h4 x hx).1; rw [e, hq] at this; cases this
  refine ⟨fun a τ ha => ?_, h2, by rw [hset_ne _ _ oq]; exact h3, fun x hx => ?_, fun x hx y hy e => ?_⟩
  · rw [hset_ne _ _ (fun e => by rw [e, gq] at ha; cases ha)]; exact h1 a τ ha
  · rcases List.mem_cons.mp hx with rfl | hx
    · exact ⟨hset_self _ _ _, gq, fun e => oq e.symm⟩
    · obtain ⟨a1, a2, a3⟩ := h4 x hx
      rw [hset_ne _ _ (lq x hx)]; exact ⟨a1, a2, a3⟩
  · rcases List.mem_cons.mp hx with rfl | hx <;> rcases List.mem_cons.mp hy with rfl | hy
    · rfl
    · exact absurd e.symm (lq y hy)
    · exact absurd e (lq x hx)
    · exact h5 x hx y hy e
theorem i32pos {m : Int32} {n : Nat} (hm : m.toInt = n) : ¬ m < 0 ∧ m.toNatClampNeg = n := by
  have := cl_eq (i := m) (by omega)
  refine ⟨fun z => ?_, by omega⟩
  rw [Int32.lt_iff_toInt_lt] at z
  have : (0 : Int32).toInt = 0 := by decide
  omega
theorem R_mkI {P : hS → Nat → Prop} {m : Int32} {n cap : Nat} (k : Nat) (h : RI Γ S o fs L) (hm : m.toInt = n) (hn : n ≤ cap) (k' : ∀ S' q, RI Γ S' o fs ((k, q, .inl (0, n, .inl (fun _ => 0))) :: L) → P S' q) : mkI S m cap P := by
  obtain ⟨a, e⟩ := i32pos hm
  refine ⟨a, by omega, fun q hq => ?_⟩
  rw [e]
  exact k' _ q (h.new k hq _)
theorem R_mkZ {P : hS → Nat → Prop} {m : Int32} {n cap : Nat} (k : Nat) (h : RI Γ S o fs L) (hm : m.toInt = n) (hn : n ≤ cap) (k' : ∀ S' q, RI Γ S' o fs ((k, q, .inl (2, n, .inl (fun _ => 0))) :: L) → P S' q) : mkZ S m cap P := by
  obtain ⟨a, e⟩ := i32pos hm
  refine ⟨a, by omega, fun q hq => ?_⟩
  rw [e]
  exact k' _ q (h.new k hq _)
theorem R_mkJ {P : hS → Nat → Prop} {m : Int32} {n cap : Nat} (k : Nat) (h : RI Γ S o fs L) (hm : m.toInt = n) (hn : n ≤ cap) (k' : ∀ S' q, RI Γ S' o fs ((k, q, .inl (1, n, .inr (.inl (fun _ => 0)))) :: L) → P S' q) : mkJ S m cap P := by
  obtain ⟨a, e⟩ := i32pos hm
  refine ⟨a, by omega, fun q hq => ?_⟩
  rw [e]
  exact k' _ q (h.new k hq _)
/-- the row made last, one place of it -/
theorem R_sJ {P : hS → Prop} {k a n : Nat} {f : Nat → Int64} {i : Int32} {x : Int64} (h : RI Γ S o fs ((k, a, .inl (1, n, .inr (.inl f))) :: L)) (hi : vp_in i n) (hL : ∀ y ∈ L, y.1 ≠ k) (k' : ∀ S' g, RI Γ S' o fs ((k, a, .inl (1, n, .inr (.inl g))) :: L) → P S') : sJ S a i x P := by
  obtain ⟨h1, h2, h3, h4, h5⟩ := h
  obtain ⟨a1, a2, a3⟩ := h4 _ List.mem_cons_self
  refine ⟨n, f, a1, hi, k' _ (vp_updL f i.toNatClampNeg x) ⟨fun b τ hb => ?_, h2, by rw [hset_ne _ _ (fun e => a3 e.symm)]; exact h3, fun y hy => ?_, fun y hy z hz e => ?_⟩⟩
  · rw [hset_ne _ _ (fun e => by rw [e, a2] at hb; cases hb)]; exact h1 b τ hb
  · rcases List.mem_cons.mp hy with rfl | hy
    · exact ⟨hset_self _ _ _, a2, a3⟩
    · obtain ⟨b1, b2, b3⟩ := h4 y (List.mem_cons_of_mem _ hy)
      rw [hset_ne _ _ (fun e => hL y hy (h5 y (List.mem_cons_of_mem _ hy) _ List.mem_cons_self e))]
      exact ⟨b1, b2, b3⟩
  · rcases List.mem_cons.mp hy with rfl | hy <;> rcases List.mem_cons.mp hz with rfl | hz
    · rfl
    · exact h5 _ List.mem_cons_self z (List.mem_cons_of_mem _ hz) e
    · exact h5 y (List.mem_cons_of_mem _ hy) (k, a, .inl (1, n, .inr (.inl f))) List.mem_cons_self e
    · exact h5 y (List.mem_cons_of_mem _ hy) z (List.mem_cons_of_mem _ hz) e
/-- both objects side by side: x the class's, o the reference's -/
def Inv (S : hS) (x o : Nat) : Prop := ∃ (Γ : kG) (ad : Nat → Nat) (M : mS), mD o ad ∧ mOk M ∧ ov S o ad M = S ∧ (∀ a τ, Γ a = some τ → cellOk Γ τ (S a)) ∧ (∀ a τ, Γ a = some τ → a ≠ o ∧ ∀ k ∈ mIx, a ≠ ad k) ∧ Γ x = some (11, 11, 0, 0)
theorem ov_eq {ad : Nat → Nat} {M : mS} (h1 : S o = some (.inr (12, mFs ad M))) (h2 : ∀ k ∈ mIx, S (ad k) = some (mC M k)) : ov S o ad M = S := by
  funext a
  unfold ov
  split
  · rename_i e; rw [e, h1]
  · cases c : mIx.find? (fun k => ad k == a) with
    | none => rfl
    | some k =>
      have e1 := List.find?_some c
      have e2 := List.mem_of_find?_eq_some c
      have e3 : ad k = a := by simpa using e1
      show some (mC M k) = S a
      rw [← e3, h2 k e2]
theorem Inv.ref {x : Nat} (h : Inv S x o) : ∃ (ad : Nat → Nat) (M : mS), mD o ad ∧ mOk M ∧ ov S o ad M = S ∧ ∀ N, mOk N → Inv (ov S o ad N) x o := by
  obtain ⟨Γ, ad, M, hd, hM, hS, h1, h2, h3⟩ := h
  refine ⟨ad, M, hd, hM, hS, fun N hN => ⟨Γ, ad, N, hd, hN, ov_eq ov_o (fun k hk => ov_a hd hk), fun a τ ha => ?_, h2, h3⟩⟩
  rw [ov_out (h2 a τ ha).1 (h2 a τ ha).2]
  exact h1 a τ ha
theorem Inv.cls {x : Nat} (h : Inv S x o) : ∃ (Γ : kG) (Φ : kF), St Γ Φ S ∧ (∀ L, fre Γ Φ L) ∧ Γ x = some (11, 11, 0, 0) ∧ ∀ Γ' S', gro Γ Φ Γ' → St Γ' Φ S' → Inv S' x o := by
  obtain ⟨Γ, ad, M, hd, hM, hS, h1, h2, h3⟩ := h
  have so : S o = some (.inr (12, mFs ad M)) := by rw [← hS]; exact ov_o
  have sa : ∀ k ∈ mIx, S (ad k) = some (mC M k) := fun k hk => by
    have := ov_a (S := S) (M := M) hd hk
    rw [hS] at this; exact this
  have fz : ∀ a τ, Γ a = some τ → fzk (fun _ => none) S (o :: mIx.map ad) a = none := fun a τ ha => by
    unfold fzk
    rw [if_neg]
    intro hm
    rcases List.mem_cons.mp hm with e | e
    · exact (h2 a τ ha).1 e
    · obtain ⟨k, hk, e⟩ := List.mem_map.mp e
      exact (h2 a τ ha).2 k hk e.symm
  refine ⟨Γ, fzk (fun _ => none) S (o :: mIx.map ad), St_fz ⟨h1, fun a e ha => by cases ha⟩ _, fun L a τ ha _ => fz a τ ha, h3, fun Γ' S' hg hs => ?_⟩
  have so' : S' o = some (.inr (12, mFs ad M)) := (fz_eq (b := o) hs List.mem_cons_self so).trans so
  have sa' : ∀ k ∈ mIx, S' (ad k) = some (mC M k) := fun k hk => (fz_eq (b := ad k) hs (List.mem_cons_of_mem _ (List.mem_map.mpr ⟨k, hk, rfl⟩)) (sa k hk)).trans (sa k hk)
  refine ⟨Γ', ad, M, hd, hM, ov_eq so' sa', hs.1, fun a τ ha => ?_, hg.1 _ _ h3⟩
  have hz : fzk (fun _ => none) S (o :: mIx.map ad) a = none := by
    rcases hg.2 a τ ha with c | c
    · exact fz a τ c
    · exact c
  refine ⟨fun e => ?_, fun k hk e => ?_⟩
  · rw [e] at hz
    unfold fzk at hz
    rw [if_pos List.mem_cons_self, so] at hz
    cases hz
  · rw [e] at hz
    unfold fzk at hz
    rw [if_pos (List.mem_cons_of_mem _ (List.mem_map.mpr ⟨k, hk, rfl⟩)), sa k hk] at hz
    cases hz

/-- as the constructor leaves it, ahead of its last two writes -/
def mZ (gs : Nat → Nat → Int64) : mS := (fun k => if k = 18 ∨ k = 55 ∨ k = 59 ∨ k = 60 then -1 else 0, fun _ => 0, fun _ _ => 0, gs)
theorem mZ_ok {gs : Nat → Nat → Int64} {f : Nat → Int32} (h0 : ∀ i, i ≠ 4 → i ≠ 6 → f i = 0) (h4 : f 4 = -1) : mOk (mA (mZ gs) 3 f) := by
  have z : ∀ a b : Int, a ≤ 0 → 0 ≤ b → rg (0 : Int32) a b := fun a b ha hb => by unfold rg; rw [show (0 : Int32).toInt = 0 by decide]; exact ⟨ha, hb⟩
  have z1 : rg (-1 : Int32) (-1) 8 := ⟨by decide, by decide⟩
  have z2 : rg (-1 : Int32) (-1) 6 := ⟨by decide, by decide⟩
  refine ⟨?_, fun k hk hne => absurd rfl hne, fun k hk => z _ _ (by omega) (by omega), fun k hk => z _ _ (by omega) (by omega), fun k hk => z _ _ (by omega) (by omega), fun k hk => z _ _ (by omega) (by omega), z _ _ (by omega) (by omega), z _ _ (by omega) (by omega), rfl, z1, z2⟩
  have e3 : (mA (mZ gs) 3 f).2.2.1 3 = f := by rw [mA_3, if_pos rfl]
  rw [e3]
  unfold rowOk
  rw [h0 0 (by omega) (by omega), h0 1 (by omega) (by omega), h0 2 (by omega) (by omega), h0 3 (by omega) (by omega), h0 5 (by omega) (by omega), h4]
  refine ⟨z _ _ (by omega) (by omega), z _ _ (by omega) (by omega), z _ _ (by omega) (by omega), z _ _ (by omega) (by omega), ⟨by decide, by decide⟩, z _ _ (by omega) (by omega), fun k hk => ?_, fun k hk => ?_, fun i hi => ?_⟩
  · rw [h0 _ (by omega) (by omega)]; exact z _ _ (by omega) (by omega)
  · rw [h0 _ (by omega) (by omega)]; exact z _ _ (by omega) (by omega)
  · rw [show (0 : Int32).toInt = 0 by decide] at hi; omega
theorem R_ov {ad : Nat → Nat} {M : mS} (h : RI Γ S o fs L) (hfs : fs = mFs ad M) (hL : ∀ k ∈ mIx, (k, ad k, mC M k) ∈ L) : mD o ad ∧ ov S o ad M = S ∧ ∀ a τ, Γ a = some τ → a ≠ o ∧ ∀ k ∈ mIx, a ≠ ad k := by
  obtain ⟨h1, h2, h3, h4, h5⟩ := h
  refine ⟨⟨fun k hk => (h4 _ (hL k hk)).2.2, fun j hj k hk e => h5 _ (hL j hj) _ (hL k hk) e⟩, ov_eq (by rw [h3, hfs]) (fun k hk => (h4 _ (hL k hk)).1), fun a τ ha => ⟨fun e => (by rw [e, h2] at ha; cases ha), fun k hk e => ?_⟩⟩
  have := (h4 _ (hL k hk)).2.1
  rw [e] at ha
  exact absurd (this.symm.trans ha) (by simp)
set_option maxHeartbeats 4000000 in
theorem ri_X12 {q : hS → Prop} {x : Nat} (h : RI Γ S o FX12_0 []) (hx : Γ x = some (11, 11, 0, 0)) (k : ∀ S', Inv S' x o → q S') : w_X12_init q S o := by
  unfold w_X12_init
  refine R_mkI (n := 7) 2 h (by decide) (by decide) (fun S1 o7 h1 => ?_)
  refine R_pP h1 (by simp only [FX12_0, List.length_cons, List.length_nil]; omega) (fun S2 h2 => ?_)
  simp only [FX12_0, List.set] at h2
  refine R_mkI (n := 5585) 3 h2 (by decide) (by decide) (fun S3 o16 h3 => ?_)
  refine R_pP h3 (by simp only [FX12_0, List.length_cons, List.length_nil]; omega) (fun S4 h4 => ?_)
  simp only [FX12_0, List.set] at h4
  refine R_mkI (n := 11170) 4 h4 (by decide) (by decide) (fun S5 o25 h5 => ?_)
  refine R_pP h5 (by simp only [FX12_0, List.length_cons, List.length_nil]; omega) (fun S6 h6 => ?_)
  simp only [FX12_0, List.set] at h6
  refine R_mkZ (n := 2) 5 h6 (by decide) (by decide) (fun S7 o32 h7 => ?_)
  refine R_pP h7 (by simp only [FX12_0, List.length_cons, List.length_nil]; omega) (fun S8 h8 => ?_)
  simp only [FX12_0, List.set] at h8
  refine R_mkI (n := 2178) 6 h8 (by decide) (by decide) (fun S9 o41 h9 => ?_)
  refine R_pP h9 (by simp only [FX12_0, List.length_cons, List.length_nil]; omega) (fun S10 h10 => ?_)
  simp only [FX12_0, List.set] at h10
  refine R_mkI (n := 16) 7 h10 (by decide) (by decide) (fun S11 o49 h11 => ?_)
  refine R_pP h11 (by simp only [FX12_0, List.length_cons, List.length_nil]; omega) (fun S12 h12 => ?_)
  simp only [FX12_0, List.set] at h12
  refine R_mkI (n := 1936) 9 h12 (by decide) (by decide) (fun S13 o58 h13 => ?_)
  refine R_pP h13 (by simp only [FX12_0, List.length_cons, List.length_nil]; omega) (fun S14 h14 => ?_)
  simp only [FX12_0, List.set] at h14
  refine R_mkI (n := 16) 10 h14 (by decide) (by decide) (fun S15 o66 h15 => ?_)
  refine R_pP h15 (by simp only [FX12_0, List.length_cons, List.length_nil]; omega) (fun S16 h16 => ?_)
  simp only [FX12_0, List.set] at h16
  refine R_mkI (n := 400) 12 h16 (by decide) (by decide) (fun S17 o75 h17 => ?_)
  refine R_pP h17 (by simp only [FX12_0, List.length_cons, List.length_nil]; omega) (fun S18 h18 => ?_)
  simp only [FX12_0, List.set] at h18
  refine R_pI h18 (by simp only [FX12_0, List.length_cons, List.length_nil]; omega) (fun S19 h19 => ?_)
  simp only [FX12_0, List.set] at h19
  refine R_mkI (n := 96) 22 h19 (by decide) (by decide) (fun S20 o88 h20 => ?_)
  refine R_pP h20 (by simp only [FX12_0, List.length_cons, List.length_nil]; omega) (fun S21 h21 => ?_)
  simp only [FX12_0, List.set] at h21
  refine R_mkI (n := 400) 24 h21 (by decide) (by decide) (fun S22 o97 h22 => ?_)
  refine R_pP h22 (by simp only [FX12_0, List.length_cons, List.length_nil]; omega) (fun S23 h23 => ?_)
  simp only [FX12_0, List.set] at h23
  refine R_mkI (n := 400) 25 h23 (by decide) (by decide) (fun S24 o106 h24 => ?_)
  refine R_pP h24 (by simp only [FX12_0, List.length_cons, List.length_nil]; omega) (fun S25 h25 => ?_)
  simp only [FX12_0, List.set] at h25
  refine R_mkI (n := 400) 27 h25 (by decide) (by decide) (fun S26 o115 h26 => ?_)
  refine R_pP h26 (by simp only [FX12_0, List.length_cons, List.length_nil]; omega) (fun S27 h27 => ?_)
  simp only [FX12_0, List.set] at h27
  refine R_mkI (n := 400) 28 h27 (by decide) (by decide) (fun S28 o124 h28 => ?_)
  refine R_pP h28 (by simp only [FX12_0, List.length_cons, List.length_nil]; omega) (fun S29 h29 => ?_)
  simp only [FX12_0, List.set] at h29
  refine R_mkJ (n := 9) 31 h29 (by decide) (by decide) (fun S30 o132 h30 => ?_)
  refine R_sJ h30 (vp_in_iff.mpr (by decide)) (by simp) (fun S31 g31 h31 => ?_)
  refine R_sJ h31 (vp_in_iff.mpr (by decide)) (by simp) (fun S32 g32 h32 => ?_)
  refine R_sJ h32 (vp_in_iff.mpr (by decide)) (by simp) (fun S33 g33 h33 => ?_)
  refine R_sJ h33 (vp_in_iff.mpr (by decide)) (by simp) (fun S34 g34 h34 => ?_)
  refine R_sJ h34 (vp_in_iff.mpr (by decide)) (by simp) (fun S35 g35 h35 => ?_)
  refine R_sJ h35 (vp_in_iff.mpr (by decide)) (by simp) (fun S36 g36 h36 => ?_)
  refine R_sJ h36 (vp_in_iff.mpr (by decide)) (by simp) (fun S37 g37 h37 => ?_)
  refine R_sJ h37 (vp_in_iff.mpr (by decide)) (by simp) (fun S38 g38 h38 => ?_)
  refine R_sJ h38 (vp_in_iff.mpr (by decide)) (by simp) (fun S39 g39 h39 => ?_)
  refine R_pP h39 (by simp only [FX12_0, List.length_cons, List.length_nil]; omega) (fun S40 h40 => ?_)
  simp only [FX12_0, List.set] at h40
  refine R_mkJ (n := 7) 32 h40 (by decide) (by decide) (fun S41 o197 h41 => ?_)
  refine R_sJ h41 (vp_in_iff.mpr (by decide)) (by simp) (fun S42 g42 h42 => ?_)
  refine R_sJ h42 (vp_in_iff.mpr (by decide)) (by simp) (fun S43 g43 h43 => ?_)
  refine R_sJ h43 (vp_in_iff.mpr (by decide)) (by simp) (fun S44 g44 h44 => ?_)
  refine R_sJ h44 (vp_in_iff.mpr (by decide)) (by simp) (fun S45 g45 h45 => ?_)
  refine R_sJ h45 (vp_in_iff.mpr (by decide)) (by simp) (fun S46 g46 h46 => ?_)
  refine R_sJ h46 (vp_in_iff.mpr (by decide)) (by simp) (fun S47 g47 h47 => ?_)
  refine R_sJ h47 (vp_in_iff.mpr (by decide)) (by simp) (fun S48 g48 h48 => ?_)
  refine R_pP h48 (by simp only [FX12_0, List.length_cons, List.length_nil]; omega) (fun S49 h49 => ?_)
  simp only [FX12_0, List.set] at h49
  refine R_mkJ (n := 5) 33 h49 (by decide) (by decide) (fun S50 o247 h50 => ?_)
  refine R_sJ h50 (vp_in_iff.mpr (by decide)) (by simp) (fun S51 g51 h51 => ?_)
  refine R_sJ h51 (vp_in_iff.mpr (by decide)) (by simp) (fun S52 g52 h52 => ?_)
  refine R_sJ h52 (vp_in_iff.mpr (by decide)) (by simp) (fun S53 g53 h53 => ?_)
  refine R_sJ h53 (vp_in_iff.mpr (by decide)) (by simp) (fun S54 g54 h54 => ?_)
  refine R_sJ h54 (vp_in_iff.mpr (by decide)) (by simp) (fun S55 g55 h55 => ?_)
  refine R_pP h55 (by simp only [FX12_0, List.length_cons, List.length_nil]; omega) (fun S56 h56 => ?_)
  simp only [FX12_0, List.set] at h56
  refine R_mkJ (n := 13) 35 h56 (by decide) (by decide) (fun S57 o285 h57 => ?_)
  refine R_pP h57 (by simp only [FX12_0, List.length_cons, List.length_nil]; omega) (fun S58 h58 => ?_)
  simp only [FX12_0, List.set] at h58
  refine R_mkJ (n := 13) 36 h58 (by decide) (by decide) (fun S59 o293 h59 => ?_)
  refine R_pP h59 (by simp only [FX12_0, List.length_cons, List.length_nil]; omega) (fun S60 h60 => ?_)
  simp only [FX12_0, List.set] at h60
  refine R_mkJ (n := 400) 37 h60 (by decide) (by decide) (fun S61 o302 h61 => ?_)
  refine R_pP h61 (by simp only [FX12_0, List.length_cons, List.length_nil]; omega) (fun S62 h62 => ?_)
  simp only [FX12_0, List.set] at h62
  refine R_mkI (n := 7) 41 h62 (by decide) (by decide) (fun S63 o310 h63 => ?_)
  refine R_pP h63 (by simp only [FX12_0, List.length_cons, List.length_nil]; omega) (fun S64 h64 => ?_)
  simp only [FX12_0, List.set] at h64
  refine R_mkI (n := 7) 42 h64 (by decide) (by decide) (fun S65 o318 h65 => ?_)
  refine R_pP h65 (by simp only [FX12_0, List.length_cons, List.length_nil]; omega) (fun S66 h66 => ?_)
  simp only [FX12_0, List.set] at h66
  refine R_mkI (n := 6) 43 h66 (by decide) (by decide) (fun S67 o326 h67 => ?_)
  refine R_pP h67 (by simp only [FX12_0, List.length_cons, List.length_nil]; omega) (fun S68 h68 => ?_)
  simp only [FX12_0, List.set] at h68
  refine R_mkI (n := 9) 45 h68 (by decide) (by decide) (fun S69 o334 h69 => ?_)
  refine R_pP h69 (by simp only [FX12_0, List.length_cons, List.length_nil]; omega) (fun S70 h70 => ?_)
  simp only [FX12_0, List.set] at h70
  refine R_mkI (n := 8) 46 h70 (by decide) (by decide) (fun S71 o342 h71 => ?_)
  refine R_pP h71 (by simp only [FX12_0, List.length_cons, List.length_nil]; omega) (fun S72 h72 => ?_)
  simp only [FX12_0, List.set] at h72
  refine R_mkI (n := 8) 47 h72 (by decide) (by decide) (fun S73 o350 h73 => ?_)
  refine R_pP h73 (by simp only [FX12_0, List.length_cons, List.length_nil]; omega) (fun S74 h74 => ?_)
  simp only [FX12_0, List.set] at h74
  refine R_mkI (n := 189) 48 h74 (by decide) (by decide) (fun S75 o359 h75 => ?_)
  refine R_pP h75 (by simp only [FX12_0, List.length_cons, List.length_nil]; omega) (fun S76 h76 => ?_)
  simp only [FX12_0, List.set] at h76
  refine R_mkI (n := 8) 49 h76 (by decide) (by decide) (fun S77 o367 h77 => ?_)
  refine R_pP h77 (by simp only [FX12_0, List.length_cons, List.length_nil]; omega) (fun S78 h78 => ?_)
  simp only [FX12_0, List.set] at h78
  refine R_mkJ (n := 22) 50 h78 (by decide) (by decide) (fun S79 o375 h79 => ?_)
  refine R_pP h79 (by simp only [FX12_0, List.length_cons, List.length_nil]; omega) (fun S80 h80 => ?_)
  simp only [FX12_0, List.set] at h80
  refine R_mkJ (n := 4) 51 h80 (by decide) (by decide) (fun S81 o382 h81 => ?_)
  refine R_sJ h81 (vp_in_iff.mpr (by decide)) (by simp) (fun S82 g82 h82 => ?_)
  refine R_sJ h82 (vp_in_iff.mpr (by decide)) (by simp) (fun S83 g83 h83 => ?_)
  refine R_sJ h83 (vp_in_iff.mpr (by decide)) (by simp) (fun S84 g84 h84 => ?_)
  refine R_sJ h84 (vp_in_iff.mpr (by decide)) (by simp) (fun S85 g85 h85 => ?_)
  refine R_pP h85 (by simp only [FX12_0, List.length_cons, List.length_nil]; omega) (fun S86 h86 => ?_)
  simp only [FX12_0, List.set] at h86
  refine R_mkI (n := 120) 52 h86 (by decide) (by decide) (fun S87 o414 h87 => ?_)
  refine R_pP h87 (by simp only [FX12_0, List.length_cons, List.length_nil]; omega) (fun S88 h88 => ?_)
  simp only [FX12_0, List.set] at h88
  refine R_pI h88 (by simp only [FX12_0, List.length_cons, List.length_nil]; omega) (fun S89 h89 => ?_)
  simp only [FX12_0, List.set] at h89
  refine R_mkI (n := 48) 58 h89 (by decide) (by decide) (fun S90 o427 h90 => ?_)
  refine R_pP h90 (by simp only [FX12_0, List.length_cons, List.length_nil]; omega) (fun S91 h91 => ?_)
  simp only [FX12_0, List.set] at h91
  refine R_pI h91 (by simp only [FX12_0, List.length_cons, List.length_nil]; omega) (fun S92 h92 => ?_)
  simp only [FX12_0, List.set] at h92
  refine R_pI h92 (by simp only [FX12_0, List.length_cons, List.length_nil]; omega) (fun S93 h93 => ?_)
  simp only [FX12_0, List.set] at h93
  obtain ⟨ad, gs, hd, hS, hap⟩ : ∃ (ad : Nat → Nat) (gs : Nat → Nat → Int64), mD o ad ∧ ov S93 o ad (mZ gs) = S93 ∧ ∀ a τ, Γ a = some τ → a ≠ o ∧ ∀ k ∈ mIx, a ≠ ad k := by
    refine ⟨fun k => match k with | 2 => o7 | 3 => o16 | 4 => o25 | 5 => o32 | 6 => o41 | 7 => o49 | 9 => o58 | 10 => o66 | 12 => o75 | 22 => o88 | 24 => o97 | 25 => o106 | 27 => o115 | 28 => o124 | 31 => o132 | 32 => o197 | 33 => o247 | 35 => o285 | 36 => o293 | 37 => o302 | 41 => o310 | 42 => o318 | 43 => o326 | 45 => o334 | 46 => o342 | 47 => o350 | 48 => o359 | 49 => o367 | 50 => o375 | 51 => o382 | 52 => o414 | 58 => o427 | _ => 0, fun k => match k with | 31 => g39 | 32 => g48 | 33 => g55 | 51 => g85 | _ => fun _ => 0, R_ov h93 rfl ?_⟩
    intro k hk
    simp only [mIx, List.mem_cons, List.not_mem_nil, or_false] at hk
    rcases hk with rfl | rfl | rfl | rfl | rfl | rfl | rfl | rfl | rfl | rfl | rfl | rfl | rfl | rfl | rfl | rfl | rfl | rfl | rfl | rfl | rfl | rfl | rfl | rfl | rfl | rfl | rfl | rfl | rfl | rfl | rfl | rfl
    · exact List.mem_of_getElem? (i := 31) rfl
    · exact List.mem_of_getElem? (i := 30) rfl
    · exact List.mem_of_getElem? (i := 29) rfl
    · exact List.mem_of_getElem? (i := 28) rfl
    · exact List.mem_of_getElem? (i := 27) rfl
    · exact List.mem_of_getElem? (i := 26) rfl
    · exact List.mem_of_getElem? (i := 25) rfl
    · exact List.mem_of_getElem? (i := 24) rfl
    · exact List.mem_of_getElem? (i := 23) rfl
    · exact List.mem_of_getElem? (i := 22) rfl
    · exact List.mem_of_getElem? (i := 21) rfl
    · exact List.mem_of_getElem? (i := 20) rfl
    · exact List.mem_of_getElem? (i := 19) rfl
    · exact List.mem_of_getElem? (i := 18) rfl
    · exact List.mem_of_getElem? (i := 17) rfl
    · exact List.mem_of_getElem? (i := 16) rfl
    · exact List.mem_of_getElem? (i := 15) rfl
    · exact List.mem_of_getElem? (i := 14) rfl
    · exact List.mem_of_getElem? (i := 13) rfl
    · exact List.mem_of_getElem? (i := 12) rfl
    · exact List.mem_of_getElem? (i := 11) rfl
    · exact List.mem_of_getElem? (i := 10) rfl
    · exact List.mem_of_getElem? (i := 9) rfl
    · exact List.mem_of_getElem? (i := 8) rfl
    · exact List.mem_of_getElem? (i := 7) rfl
    · exact List.mem_of_getElem? (i := 6) rfl
    · exact List.mem_of_getElem? (i := 5) rfl
    · exact List.mem_of_getElem? (i := 4) rfl
    · exact List.mem_of_getElem? (i := 3) rfl
    · exact List.mem_of_getElem? (i := 2) rfl
    · exact List.mem_of_getElem? (i := 1) rfl
    · exact List.mem_of_getElem? (i := 0) rfl
  have hty := h93.1
  rw [← hS]
  simp (disch := decide) only [oi_gI, oi_gJ, oi_gP, oi_pI, oi_pZ, oi_pJ, oi_oK, oi_aI hd, oi_aZ hd, oi_aJ hd, oi_sI hd, oi_sZ hd, oi_sJ hd, mI_1, mI_2, mJ_1, mJ_2, mJ_3, mA_1, mA_2, mA_3, mA_4, mL_1, mL_2, mL_3, mL_4, mK, Nat.reduceEqDiff, if_true, if_false, ite_true, ite_false, true_and, Nat.reduceLT, reduceIte, reduceCtorEq, cl_0, cl_1, cl_2, cl_3, cl_4, cl_5, cl_6, cl_7, cl_8, cl_9, cl_10, cl_11, cl_12, cl_13, cl_14, cl_15, vl_0_5585, vl_1_5585, vl_2_5585, vl_3_5585, vl_4_5585, vl_5_5585, vl_6_5585, vl_0_7, vl_1_7, vl_2_7, vl_3_7, vl_4_7, vl_5_7, vl_6_7, mA_mA]
  refine k _ ⟨Γ, ad, _, hd, mZ_ok (gs := gs) (fun i i1 i2 => ?_) ?_, ov_eq ov_o (fun k hk => ov_a hd hk), fun a τ ha => ?_, hap, hx⟩
  · rw [upd_ne _ _ i2, upd_ne _ _ i1]
    rfl
  · rw [upd_ne _ _ (by omega), upd_self]
  · rw [ov_out (hap a τ ha).1 (hap a τ ha).2]; exact hty a τ ha
end RIN
