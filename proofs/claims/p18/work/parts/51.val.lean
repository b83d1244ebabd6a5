/-! LAYER 2, the class: a suburb's cells as one row of numbers -/
/-- what is written under the names L alone: all else is kept -/
noncomputable def frz (Γ : kG) (Φ : kF) (S : hS) (L : List Nat) : kF := fun a => @ite _ (∃ τ, Γ a = some τ ∧ τ.2.1 ∈ L) (Classical.propDecidable _) (Φ a) (S a)
theorem frz_in {Γ : kG} {Φ : kF} {S : hS} {L : List Nat} {a : Nat} {τ : kT} (h : Γ a = some τ) (hm : τ.2.1 ∈ L) : frz Γ Φ S L a = Φ a := if_pos ⟨τ, h, hm⟩
theorem frz_out {Γ : kG} {Φ : kF} {S : hS} {L : List Nat} {a : Nat} (h : ∀ τ, Γ a = some τ → τ.2.1 ∉ L) : frz Γ Φ S L a = S a := if_neg (fun ⟨τ, h1, h2⟩ => h τ h1 h2)
theorem frz_St {Γ : kG} {Φ : kF} {S : hS} {L : List Nat} (h : St Γ Φ S) : St Γ (frz Γ Φ S L) S := ⟨h.1, fun a e ha => by
  unfold frz at ha
  split at ha
  · exact h.2 a e ha
  · exact ha⟩
theorem frz_fre {Γ : kG} {Φ : kF} {S : hS} {L L' : List Nat} (h : fre Γ Φ L) (hs : ∀ x ∈ L', x ∈ L) : fre Γ (frz Γ Φ S L) L' := fun a τ ha hm => by
  rw [frz_in ha (hs _ hm)]
  exact h a τ ha (hs _ hm)
/-- cells of other names are as they were -/
def sam (Γ : kG) (L : List Nat) (S S' : hS) : Prop := ∀ a e, S a = some e → (∀ τ, Γ a = some τ → τ.2.1 ∉ L) → S' a = some e
theorem frz_un {Γ Γ' : kG} {Φ : kF} {S S' : hS} {L : List Nat} (h : St Γ Φ S) (h' : St Γ' (frz Γ Φ S L) S') : St Γ' Φ S' ∧ sam Γ L S S' := by
  refine ⟨⟨h'.1, fun a e ha => ?_⟩, fun a e ha hn => h'.2 a e (by rw [frz_out hn]; exact ha)⟩
  refine h'.2 a e ?_
  unfold frz
  split
  · exact ha
  · exact h.2 a e ha
theorem frz_gro {Γ Γ' : kG} {Φ : kF} {S : hS} {L : List Nat} (h : St Γ Φ S) (g : gro Γ (frz Γ Φ S L) Γ') : gro Γ Φ Γ' := ⟨g.1, fun a τ ha => by
  rcases g.2 a τ ha with c | c
  · exact Or.inl c
  · unfold frz at c
    split at c
    · exact Or.inr c
    · refine Or.inr ?_
      cases e : Φ a with
      | none => rfl
      | some x => rw [h.2 a x e] at c; cases c⟩
theorem sam.tr {Γ : kG} {L : List Nat} {S S1 S2 : hS} (h : sam Γ L S S1) (h' : sam Γ L S1 S2) : sam Γ L S S2 := fun a e ha hn => h' a e (h a e ha hn) hn
theorem sam.le {Γ : kG} {L L' : List Nat} {S S1 : hS} (h : sam Γ L S S1) (hs : ∀ x ∈ L, x ∈ L') : sam Γ L' S S1 := fun a e ha hn => h a e ha (fun τ ht hm => hn τ ht (hs _ hm))
theorem sam.rf {Γ : kG} {L : List Nat} {S : hS} : sam Γ L S S := fun _ _ h _ => h
theorem St.isS {Γ : kG} {Φ : kF} {S : hS} {a : Nat} {τ : kT} (h : St Γ Φ S) (ha : Γ a = some τ) : ∃ e, S a = some e := by
  cases e : S a with
  | none => have := h.1 a τ ha; rw [e] at this; exact (cellOk_some this).elim
  | some x => exact ⟨x, rfl⟩
theorem sam.at {Γ : kG} {Φ : kF} {L : List Nat} {S S' : hS} (h : sam Γ L S S') (hs : St Γ Φ S) {a : Nat} {τ : kT} (ha : Γ a = some τ) (hn : τ.2.1 ∉ L) : S' a = S a := by
  obtain ⟨e, he⟩ := hs.isS ha
  rw [he]
  exact h a e he (fun τ' h' => by rw [ha] at h'; cases h'; exact hn)
theorem fv_cell {S S' : hS} {a : Nat} (h : S' a = S a) (k : Nat) : fv S' a k = fv S a k := by unfold fv; rw [h]
theorem fI_cell {S S' : hS} {a : Nat} (h : S' a = S a) (k : Nat) : fI S' a k = fI S a k := by unfold fI; rw [fv_cell h]
theorem fP_cell {S S' : hS} {a : Nat} (h : S' a = S a) (k : Nat) : fP S' a k = fP S a k := by unfold fP; rw [fv_cell h]
theorem aO_cell {S S' : hS} {a : Nat} (h : S' a = S a) (k : Nat) : aO S' a k = aO S a k := by unfold aO; rw [h]
theorem aV_cell {S S' : hS} {a : Nat} (h : S' a = S a) (k : Nat) : aV S' a k = aV S a k := by unfold aV; rw [h]
theorem nmne {Γ : kG} {a b : Nat} {τ τ' : kT} (ha : Γ a = some τ) (hb : Γ b = some τ') (hn : τ.2.1 ≠ τ'.2.1) : a ≠ b := fun e => by
  rw [e, hb] at ha
  exact hn (by cases ha; rfl)
/-- whether one is dead, by the bits -/
def dB (d : Int32) (p : Nat) : Int32 := (d >>> nI p) &&& 1
/-- the suburb at b, by its book, as a row -/
def sV (S : hS) (b : Nat) (ρ : Nat → Nat) (i : Nat) : Int32 :=
  if i < 8 then (if i = 0 then fI S b 1 else if i = 1 then fI S b 4 else if i = 2 then fI S b 9 else if i = 3 then fI S b 14 else if i = 4 then fI S b 16 else if i = 5 then fI S (ρ 0) 5 else if i = 6 then fI S b 12 else fI S b 13)
  else if i < 14 then aV S (bk 0 ρ 2) (i - 8) else if i < 22 then aV S (bk 0 ρ 3) (i - 14) else if i < 30 then dB (fI S (ρ 0) 4) (i - 22)
  else if i < 78 then aV S (bk 0 ρ 0) (i - 30) else if i < 126 then aV S (bk 0 ρ 1) (i - 78) else if i < 132 then aV S (ρ 2) (i - 126) else if i < 138 then aV S (ρ 3) (i - 132)
  else if i < 146 then aV S (ρ 5) (i - 138) else if i < 154 then aV S (ρ 6) (i - 146) else if i < 162 then aV S (ρ 7) (i - 154) else if i < 170 then aV S (ρ 8) (i - 162)
  else if i < 182 then (if i % 2 = 0 then aV S (ρ 10) ((i - 170) / 2) else aV S (ρ 11) ((i - 170) / 2)) else 0
section VAL
variable {Γ : kG} {Φ : kF} {S S' : hS} {L : List Nat} {b i : Nat} {ρ : Nat → Nat}
theorem sV_i1 : fI S b 1 = sV S b ρ 0 := rfl
theorem sV_i4 : fI S b 4 = sV S b ρ 1 := rfl
theorem sV_i9 : fI S b 9 = sV S b ρ 2 := rfl
theorem sV_i14 : fI S b 14 = sV S b ρ 3 := rfl
theorem sV_i16 : fI S b 16 = sV S b ρ 4 := rfl
theorem sV_i12 : fI S b 12 = sV S b ρ 6 := rfl
theorem sV_i13 : fI S b 13 = sV S b ρ 7 := rfl
theorem sV_y : fI S (ρ 0) 5 = sV S b ρ 5 := rfl
theorem sV_r {j : Nat} (hj : j < 48) : aV S (bk 0 ρ 0) j = sV S b ρ (30 + j) := by
  unfold sV
  rw [if_neg (show ¬ (30 + j < 8) by omega), if_neg (show ¬ (30 + j < 14) by omega), if_neg (show ¬ (30 + j < 22) by omega), if_neg (show ¬ (30 + j < 30) by omega), if_pos (show 30 + j < 78 by omega), show 30 + j - 30 = j by omega]
theorem sV_u {j : Nat} (hj : j < 48) : aV S (bk 0 ρ 1) j = sV S b ρ (78 + j) := by
  unfold sV
  rw [if_neg (show ¬ (78 + j < 8) by omega), if_neg (show ¬ (78 + j < 14) by omega), if_neg (show ¬ (78 + j < 22) by omega), if_neg (show ¬ (78 + j < 30) by omega), if_neg (show ¬ (78 + j < 78) by omega), if_pos (show 78 + j < 126 by omega), show 78 + j - 78 = j by omega]
theorem sV_w {j : Nat} (hj : j < 6) : aV S (bk 0 ρ 2) j = sV S b ρ (8 + j) := by
  unfold sV
  rw [if_neg (show ¬ (8 + j < 8) by omega), if_pos (show 8 + j < 14 by omega), show 8 + j - 8 = j by omega]
theorem sV_m {j : Nat} (hj : j < 8) : aV S (bk 0 ρ 3) j = sV S b ρ (14 + j) := by
  unfold sV
  rw [if_neg (show ¬ (14 + j < 8) by omega), if_neg (show ¬ (14 + j < 14) by omega), if_pos (show 14 + j < 22 by omega), show 14 + j - 14 = j by omega]
theorem sV_p {j : Nat} (hj : j < 6) : aV S (ρ 2) j = sV S b ρ (126 + j) := by
  unfold sV
  rw [if_neg (show ¬ (126 + j < 8) by omega), if_neg (show ¬ (126 + j < 14) by omega), if_neg (show ¬ (126 + j < 22) by omega), if_neg (show ¬ (126 + j < 30) by omega), if_neg (show ¬ (126 + j < 78) by omega), if_neg (show ¬ (126 + j < 126) by omega), if_pos (show 126 + j < 132 by omega), show 126 + j - 126 = j by omega]
theorem sV_b {j : Nat} (hj : j < 6) : aV S (ρ 3) j = sV S b ρ (132 + j) := by
  unfold sV
  rw [if_neg (show ¬ (132 + j < 8) by omega), if_neg (show ¬ (132 + j < 14) by omega), if_neg (show ¬ (132 + j < 22) by omega), if_neg (show ¬ (132 + j < 30) by omega), if_neg (show ¬ (132 + j < 78) by omega), if_neg (show ¬ (132 + j < 126) by omega), if_neg (show ¬ (132 + j < 132) by omega), if_pos (show 132 + j < 138 by omega), show 132 + j - 132 = j by omega]
theorem sV_h {j : Nat} (hj : j < 8) : aV S (ρ 5) j = sV S b ρ (138 + j) := by
  unfold sV
  rw [if_neg (show ¬ (138 + j < 8) by omega), if_neg (show ¬ (138 + j < 14) by omega), if_neg (show ¬ (138 + j < 22) by omega), if_neg (show ¬ (138 + j < 30) by omega), if_neg (show ¬ (138 + j < 78) by omega), if_neg (show ¬ (138 + j < 126) by omega), if_neg (show ¬ (138 + j < 132) by omega), if_neg (show ¬ (138 + j < 138) by omega), if_pos (show 138 + j < 146 by omega), show 138 + j - 138 = j by omega]
theorem sV_a {j : Nat} (hj : j < 8) : aV S (ρ 6) j = sV S b ρ (146 + j) := by
  unfold sV
  rw [if_neg (show ¬ (146 + j < 8) by omega), if_neg (show ¬ (146 + j < 14) by omega), if_neg (show ¬ (146 + j < 22) by omega), if_neg (show ¬ (146 + j < 30) by omega), if_neg (show ¬ (146 + j < 78) by omega), if_neg (show ¬ (146 + j < 126) by omega), if_neg (show ¬ (146 + j < 132) by omega), if_neg (show ¬ (146 + j < 138) by omega), if_neg (show ¬ (146 + j < 146) by omega), if_pos (show 146 + j < 154 by omega), show 146 + j - 146 = j by omega]
theorem sV_n {j : Nat} (hj : j < 8) : aV S (ρ 7) j = sV S b ρ (154 + j) := by
  unfold sV
  rw [if_neg (show ¬ (154 + j < 8) by omega), if_neg (show ¬ (154 + j < 14) by omega), if_neg (show ¬ (154 + j < 22) by omega), if_neg (show ¬ (154 + j < 30) by omega), if_neg (show ¬ (154 + j < 78) by omega), if_neg (show ¬ (154 + j < 126) by omega), if_neg (show ¬ (154 + j < 132) by omega), if_neg (show ¬ (154 + j < 138) by omega), if_neg (show ¬ (154 + j < 146) by omega), if_neg (show ¬ (154 + j < 154) by omega), if_pos (show 154 + j < 162 by omega), show 154 + j - 154 = j by omega]
theorem sV_e {j : Nat} (hj : j < 8) : aV S (ρ 8) j = sV S b ρ (162 + j) := by
  unfold sV
  rw [if_neg (show ¬ (162 + j < 8) by omega), if_neg (show ¬ (162 + j < 14) by omega), if_neg (show ¬ (162 + j < 22) by omega), if_neg (show ¬ (162 + j < 30) by omega), if_neg (show ¬ (162 + j < 78) by omega), if_neg (show ¬ (162 + j < 126) by omega), if_neg (show ¬ (162 + j < 132) by omega), if_neg (show ¬ (162 + j < 138) by omega), if_neg (show ¬ (162 + j < 146) by omega), if_neg (show ¬ (162 + j < 154) by omega), if_neg (show ¬ (162 + j < 162) by omega), if_pos (show 162 + j < 170 by omega), show 162 + j - 162 = j by omega]
theorem sV_c {j : Nat} (hj : j < 6) : aV S (ρ 10) j = sV S b ρ (170 + 2 * j) := by
  unfold sV
  rw [if_neg (show ¬ (170 + 2 * j < 8) by omega), if_neg (show ¬ (170 + 2 * j < 14) by omega), if_neg (show ¬ (170 + 2 * j < 22) by omega), if_neg (show ¬ (170 + 2 * j < 30) by omega), if_neg (show ¬ (170 + 2 * j < 78) by omega), if_neg (show ¬ (170 + 2 * j < 126) by omega), if_neg (show ¬ (170 + 2 * j < 132) by omega), if_neg (show ¬ (170 + 2 * j < 138) by omega), if_neg (show ¬ (170 + 2 * j < 146) by omega), if_neg (show ¬ (170 + 2 * j < 154) by omega), if_neg (show ¬ (170 + 2 * j < 162) by omega), if_neg (show ¬ (170 + 2 * j < 170) by omega), if_pos (show 170 + 2 * j < 182 by omega), if_pos (show (170 + 2 * j) % 2 = 0 by omega), show (170 + 2 * j - 170) / 2 = j by omega]
theorem sV_d {j : Nat} (hj : j < 6) : aV S (ρ 11) j = sV S b ρ (171 + 2 * j) := by
  unfold sV
  rw [if_neg (show ¬ (171 + 2 * j < 8) by omega), if_neg (show ¬ (171 + 2 * j < 14) by omega), if_neg (show ¬ (171 + 2 * j < 22) by omega), if_neg (show ¬ (171 + 2 * j < 30) by omega), if_neg (show ¬ (171 + 2 * j < 78) by omega), if_neg (show ¬ (171 + 2 * j < 126) by omega), if_neg (show ¬ (171 + 2 * j < 132) by omega), if_neg (show ¬ (171 + 2 * j < 138) by omega), if_neg (show ¬ (171 + 2 * j < 146) by omega), if_neg (show ¬ (171 + 2 * j < 154) by omega), if_neg (show ¬ (171 + 2 * j < 162) by omega), if_neg (show ¬ (171 + 2 * j < 170) by omega), if_pos (show 171 + 2 * j < 182 by omega), if_neg (show ¬ (171 + 2 * j) % 2 = 0 by omega), show (171 + 2 * j - 170) / 2 = j by omega]
theorem sV_k {j : Nat} (hj : j < 8) : dB (fI S (ρ 0) 4) j = sV S b ρ (22 + j) := by
  unfold sV
  rw [if_neg (show ¬ (22 + j < 8) by omega), if_neg (show ¬ (22 + j < 14) by omega), if_neg (show ¬ (22 + j < 22) by omega), if_pos (show 22 + j < 30 by omega), show 22 + j - 22 = j by omega]
theorem sK (h : St Γ Φ S) (hb : Γ b = some (8, 8 + 10000 * i, i, 0, ρ)) : Γ (ρ 0) = some (2, 2 + 10000 * i, i, 0, bk 0 ρ) ∧ Γ (bk 0 ρ 0) = some (20, 300 + 10000 * i, 48, 0, k0) ∧ Γ (bk 0 ρ 1) = some (20, 301 + 10000 * i, 48, 0, k0) ∧ Γ (bk 0 ρ 2) = some (20, 302 + 10000 * i, 6, 0, k0) ∧ Γ (bk 0 ρ 3) = some (20, 303 + 10000 * i, 8, 0, k0) ∧ Γ (ρ 2) = some (20, 902 + 10000 * i, 6, 0, k0) ∧ Γ (ρ 3) = some (20, 903 + 10000 * i, 6, 0, k0) ∧ Γ (ρ 5) = some (20, 905 + 10000 * i, 8, 0, k0) ∧ Γ (ρ 6) = some (20, 906 + 10000 * i, 8, 0, k0) ∧ Γ (ρ 7) = some (20, 907 + 10000 * i, 8, 0, k0) ∧ Γ (ρ 8) = some (20, 908 + 10000 * i, 8, 0, k0) ∧ Γ (ρ 10) = some (21, 910 + 10000 * i, 6, 0, k0) ∧ Γ (ρ 11) = some (20, 911 + 10000 * i, 6, 0, k0) := by
  have hg := (P_8_0 h hb).2
  exact ⟨hg, (P_2_0 h hg).2, (P_2_1 h hg).2, (P_2_2 h hg).2, (P_2_3 h hg).2, (P_8_2 h hb).2, (P_8_3 h hb).2, (P_8_5 h hb).2, (P_8_6 h hb).2, (P_8_7 h hb).2, (P_8_8 h hb).2, (P_8_10 h hb).2, (P_8_11 h hb).2⟩
theorem sV_congr (h1 : ∀ k, fI S' b k = fI S b k) (h2 : ∀ k, fI S' (ρ 0) k = fI S (ρ 0) k) (hr : ∀ j, aV S' (bk 0 ρ 0) j = aV S (bk 0 ρ 0) j) (hu : ∀ j, aV S' (bk 0 ρ 1) j = aV S (bk 0 ρ 1) j) (hw : ∀ j, aV S' (bk 0 ρ 2) j = aV S (bk 0 ρ 2) j) (hm : ∀ j, aV S' (bk 0 ρ 3) j = aV S (bk 0 ρ 3) j) (hp : ∀ j, aV S' (ρ 2) j = aV S (ρ 2) j) (hb : ∀ j, aV S' (ρ 3) j = aV S (ρ 3) j) (hh : ∀ j, aV S' (ρ 5) j = aV S (ρ 5) j) (ha : ∀ j, aV S' (ρ 6) j = aV S (ρ 6) j) (hn : ∀ j, aV S' (ρ 7) j = aV S (ρ 7) j) (he : ∀ j, aV S' (ρ 8) j = aV S (ρ 8) j) (hc : ∀ j, aV S' (ρ 10) j = aV S (ρ 10) j) (hd : ∀ j, aV S' (ρ 11) j = aV S (ρ 11) j) : sV S' b ρ = sV S b ρ := by
  funext j
  simp only [sV, h1, h2, hr, hu, hw, hm, hp, hb, hh, ha, hn, he, hc, hd]
theorem sV_sam (h : St Γ Φ S) (hb : Γ b = some (8, 8 + 10000 * i, i, 0, ρ)) (hs : sam Γ L S S') (hn : 8 + 10000 * i ∉ L ∧ 2 + 10000 * i ∉ L ∧ 300 + 10000 * i ∉ L ∧ 301 + 10000 * i ∉ L ∧ 302 + 10000 * i ∉ L ∧ 303 + 10000 * i ∉ L ∧ 902 + 10000 * i ∉ L ∧ 903 + 10000 * i ∉ L ∧ 905 + 10000 * i ∉ L ∧ 906 + 10000 * i ∉ L ∧ 907 + 10000 * i ∉ L ∧ 908 + 10000 * i ∉ L ∧ 910 + 10000 * i ∉ L ∧ 911 + 10000 * i ∉ L) : sV S' b ρ = sV S b ρ := by
  obtain ⟨kg, kr, ku, kw, km, kp, kb, kh, ka, kn, ke, kc, kd⟩ := sK h hb
  obtain ⟨n8, n2, nr, nu, nw, nm, np, nb, nh, na, nn, ne, nc, nd⟩ := hn
  exact sV_congr (fun k => fI_cell (hs.at h hb n8) k) (fun k => fI_cell (hs.at h kg n2) k) (fun j => aV_cell (hs.at h kr nr) j) (fun j => aV_cell (hs.at h ku nu) j) (fun j => aV_cell (hs.at h kw nw) j) (fun j => aV_cell (hs.at h km nm) j) (fun j => aV_cell (hs.at h kp np) j) (fun j => aV_cell (hs.at h kb nb) j) (fun j => aV_cell (hs.at h kh nh) j) (fun j => aV_cell (hs.at h ka na) j) (fun j => aV_cell (hs.at h kn nn) j) (fun j => aV_cell (hs.at h ke ne) j) (fun j => aV_cell (hs.at h kc nc) j) (fun j => aV_cell (hs.at h kd nd) j)
theorem sV_p1 {x : Int32} (h : St Γ Φ S) (hb : Γ b = some (8, 8 + 10000 * i, i, 0, ρ)) (e1 : fI S' b 1 = x) (e2 : sEqx S S' b 1) (e3 : aEq S S') : sV S' b ρ = upd (sV S b ρ) 0 x := by
  have hg := (P_8_0 h hb).2
  have hne : ρ 0 ≠ b := nmne hg hb (by dsimp only; omega)
  have a1 : ∀ j, j ≠ 1 → fI S' b j = fI S b j := fun j hj => e2.I (by omega)
  have a2 : ∀ j, fI S' (ρ 0) j = fI S (ρ 0) j := fun j => e2.I (by omega)
  funext j
  unfold upd sV
  by_cases c : j = 0
  · subst c; rw [if_pos rfl]; exact e1
  · rw [a1 4 (by decide)]
    rw [a1 9 (by decide)]
    rw [a1 14 (by decide)]
    rw [a1 16 (by decide)]
    rw [a1 12 (by decide)]
    rw [a1 13 (by decide)]
    simp only [a2, e3.1]
    by_cases c8 : j < 8
    · have : j = 0 ∨ j = 1 ∨ j = 2 ∨ j = 3 ∨ j = 4 ∨ j = 5 ∨ j = 6 ∨ j = 7 := by omega
      rcases this with rfl | rfl | rfl | rfl | rfl | rfl | rfl | rfl <;> first | rfl | exact absurd rfl c
    · simp only [if_neg c, if_neg c8]
theorem sV_p4 {x : Int32} (h : St Γ Φ S) (hb : Γ b = some (8, 8 + 10000 * i, i, 0, ρ)) (e1 : fI S' b 4 = x) (e2 : sEqx S S' b 4) (e3 : aEq S S') : sV S' b ρ = upd (sV S b ρ) 1 x := by
  have hg := (P_8_0 h hb).2
  have hne : ρ 0 ≠ b := nmne hg hb (by dsimp only; omega)
  have a1 : ∀ j, j ≠ 4 → fI S' b j = fI S b j := fun j hj => e2.I (by omega)
  have a2 : ∀ j, fI S' (ρ 0) j = fI S (ρ 0) j := fun j => e2.I (by omega)
  funext j
  unfold upd sV
  by_cases c : j = 1
  · subst c; rw [if_pos rfl]; exact e1
  · rw [a1 1 (by decide)]
    rw [a1 9 (by decide)]
    rw [a1 14 (by decide)]
    rw [a1 16 (by decide)]
    rw [a1 12 (by decide)]
    rw [a1 13 (by decide)]
    simp only [a2, e3.1]
    by_cases c8 : j < 8
    · have : j = 0 ∨ j = 1 ∨ j = 2 ∨ j = 3 ∨ j = 4 ∨ j = 5 ∨ j = 6 ∨ j = 7 := by omega
      rcases this with rfl | rfl | rfl | rfl | rfl | rfl | rfl | rfl <;> first | rfl | exact absurd rfl c
    · simp only [if_neg c, if_neg c8]
theorem sV_p9 {x : Int32} (h : St Γ Φ S) (hb : Γ b = some (8, 8 + 10000 * i, i, 0, ρ)) (e1 : fI S' b 9 = x) (e2 : sEqx S S' b 9) (e3 : aEq S S') : sV S' b ρ = upd (sV S b ρ) 2 x := by
  have hg := (P_8_0 h hb).2
  have hne : ρ 0 ≠ b := nmne hg hb (by dsimp only; omega)
  have a1 : ∀ j, j ≠ 9 → fI S' b j = fI S b j := fun j hj => e2.I (by omega)
  have a2 : ∀ j, fI S' (ρ 0) j = fI S (ρ 0) j := fun j => e2.I (by omega)
  funext j
  unfold upd sV
  by_cases c : j = 2
  · subst c; rw [if_pos rfl]; exact e1
  · rw [a1 1 (by decide)]
    rw [a1 4 (by decide)]
    rw [a1 14 (by decide)]
    rw [a1 16 (by decide)]
    rw [a1 12 (by decide)]
    rw [a1 13 (by decide)]
    simp only [a2, e3.1]
    by_cases c8 : j < 8
    · have : j = 0 ∨ j = 1 ∨ j = 2 ∨ j = 3 ∨ j = 4 ∨ j = 5 ∨ j = 6 ∨ j = 7 := by omega
      rcases this with rfl | rfl | rfl | rfl | rfl | rfl | rfl | rfl <;> first | rfl | exact absurd rfl c
    · simp only [if_neg c, if_neg c8]
theorem sV_p14 {x : Int32} (h : St Γ Φ S) (hb : Γ b = some (8, 8 + 10000 * i, i, 0, ρ)) (e1 : fI S' b 14 = x) (e2 : sEqx S S' b 14) (e3 : aEq S S') : sV S' b ρ = upd (sV S b ρ) 3 x := by
  have hg := (P_8_0 h hb).2
  have hne : ρ 0 ≠ b := nmne hg hb (by dsimp only; omega)
  have a1 : ∀ j, j ≠ 14 → fI S' b j = fI S b j := fun j hj => e2.I (by omega)
  have a2 : ∀ j, fI S' (ρ 0) j = fI S (ρ 0) j := fun j => e2.I (by omega)
  funext j
  unfold upd sV
  by_cases c : j = 3
  · subst c; rw [if_pos rfl]; exact e1
  · rw [a1 1 (by decide)]
    rw [a1 4 (by decide)]
    rw [a1 9 (by decide)]
    rw [a1 16 (by decide)]
    rw [a1 12 (by decide)]
    rw [a1 13 (by decide)]
    simp only [a2, e3.1]
    by_cases c8 : j < 8
    · have : j = 0 ∨ j = 1 ∨ j = 2 ∨ j = 3 ∨ j = 4 ∨ j = 5 ∨ j = 6 ∨ j = 7 := by omega
      rcases this with rfl | rfl | rfl | rfl | rfl | rfl | rfl | rfl <;> first | rfl | exact absurd rfl c
    · simp only [if_neg c, if_neg c8]
theorem sV_p16 {x : Int32} (h : St Γ Φ S) (hb : Γ b = some (8, 8 + 10000 * i, i, 0, ρ)) (e1 : fI S' b 16 = x) (e2 : sEqx S S' b 16) (e3 : aEq S S') : sV S' b ρ = upd (sV S b ρ) 4 x := by
  have hg := (P_8_0 h hb).2
  have hne : ρ 0 ≠ b := nmne hg hb (by dsimp only; omega)
  have a1 : ∀ j, j ≠ 16 → fI S' b j = fI S b j := fun j hj => e2.I (by omega)
  have a2 : ∀ j, fI S' (ρ 0) j = fI S (ρ 0) j := fun j => e2.I (by omega)
  funext j
  unfold upd sV
  by_cases c : j = 4
  · subst c; rw [if_pos rfl]; exact e1
  · rw [a1 1 (by decide)]
    rw [a1 4 (by decide)]
    rw [a1 9 (by decide)]
    rw [a1 14 (by decide)]
    rw [a1 12 (by decide)]
    rw [a1 13 (by decide)]
    simp only [a2, e3.1]
    by_cases c8 : j < 8
    · have : j = 0 ∨ j = 1 ∨ j = 2 ∨ j = 3 ∨ j = 4 ∨ j = 5 ∨ j = 6 ∨ j = 7 := by omega
      rcases this with rfl | rfl | rfl | rfl | rfl | rfl | rfl | rfl <;> first | rfl | exact absurd rfl c
    · simp only [if_neg c, if_neg c8]
theorem sV_p12 {x : Int32} (h : St Γ Φ S) (hb : Γ b = some (8, 8 + 10000 * i, i, 0, ρ)) (e1 : fI S' b 12 = x) (e2 : sEqx S S' b 12) (e3 : aEq S S') : sV S' b ρ = upd (sV S b ρ) 6 x := by
  have hg := (P_8_0 h hb).2
  have hne : ρ 0 ≠ b := nmne hg hb (by dsimp only; omega)
  have a1 : ∀ j, j ≠ 12 → fI S' b j = fI S b j := fun j hj => e2.I (by omega)
  have a2 : ∀ j, fI S' (ρ 0) j = fI S (ρ 0) j := fun j => e2.I (by omega)
  funext j
  unfold upd sV
  by_cases c : j = 6
  · subst c; rw [if_pos rfl]; exact e1
  · rw [a1 1 (by decide)]
    rw [a1 4 (by decide)]
    rw [a1 9 (by decide)]
    rw [a1 14 (by decide)]
    rw [a1 16 (by decide)]
    rw [a1 13 (by decide)]
    simp only [a2, e3.1]
    by_cases c8 : j < 8
    · have : j = 0 ∨ j = 1 ∨ j = 2 ∨ j = 3 ∨ j = 4 ∨ j = 5 ∨ j = 6 ∨ j = 7 := by omega
      rcases this with rfl | rfl | rfl | rfl | rfl | rfl | rfl | rfl <;> first | rfl | exact absurd rfl c
    · simp only [if_neg c, if_neg c8]
theorem sV_p13 {x : Int32} (h : St Γ Φ S) (hb : Γ b = some (8, 8 + 10000 * i, i, 0, ρ)) (e1 : fI S' b 13 = x) (e2 : sEqx S S' b 13) (e3 : aEq S S') : sV S' b ρ = upd (sV S b ρ) 7 x := by
  have hg := (P_8_0 h hb).2
  have hne : ρ 0 ≠ b := nmne hg hb (by dsimp only; omega)
  have a1 : ∀ j, j ≠ 13 → fI S' b j = fI S b j := fun j hj => e2.I (by omega)
  have a2 : ∀ j, fI S' (ρ 0) j = fI S (ρ 0) j := fun j => e2.I (by omega)
  funext j
  unfold upd sV
  by_cases c : j = 7
  · subst c; rw [if_pos rfl]; exact e1
  · rw [a1 1 (by decide)]
    rw [a1 4 (by decide)]
    rw [a1 9 (by decide)]
    rw [a1 14 (by decide)]
    rw [a1 16 (by decide)]
    rw [a1 12 (by decide)]
    simp only [a2, e3.1]
    by_cases c8 : j < 8
    · have : j = 0 ∨ j = 1 ∨ j = 2 ∨ j = 3 ∨ j = 4 ∨ j = 5 ∨ j = 6 ∨ j = 7 := by omega
      rcases this with rfl | rfl | rfl | rfl | rfl | rfl | rfl | rfl <;> first | rfl | exact absurd rfl c
    · simp only [if_neg c, if_neg c8]
theorem sV_p25 {x : Int32} (h : St Γ Φ S) (hb : Γ b = some (8, 8 + 10000 * i, i, 0, ρ)) (e1 : fI S' (ρ 0) 5 = x) (e2 : sEqx S S' (ρ 0) 5) (e3 : aEq S S') : sV S' b ρ = upd (sV S b ρ) 5 x := by
  have hg := (P_8_0 h hb).2
  have hne : ρ 0 ≠ b := nmne hg hb (by dsimp only; omega)
  have a1 : ∀ j, fI S' b j = fI S b j := fun j => e2.I (by omega)
  have a2 : fI S' (ρ 0) 4 = fI S (ρ 0) 4 := e2.I (by omega)
  funext j
  unfold upd sV
  simp only [a1, a2, e1, e3.1]
  by_cases c : j = 5
  · subst c; rfl
  · by_cases c8 : j < 8
    · have : j = 0 ∨ j = 1 ∨ j = 2 ∨ j = 3 ∨ j = 4 ∨ j = 5 ∨ j = 6 ∨ j = 7 := by omega
      rcases this with rfl | rfl | rfl | rfl | rfl | rfl | rfl | rfl <;> first | rfl | exact absurd rfl c
    · simp only [if_neg c, if_neg c8]
theorem sV_p24 {x : Int32} (h : St Γ Φ S) (hb : Γ b = some (8, 8 + 10000 * i, i, 0, ρ)) (e1 : fI S' (ρ 0) 4 = x) (e2 : sEqx S S' (ρ 0) 4) (e3 : aEq S S') : sV S' b ρ = fun j => if 22 ≤ j ∧ j < 30 then dB x (j - 22) else sV S b ρ j := by
  have hg := (P_8_0 h hb).2
  have hne : ρ 0 ≠ b := nmne hg hb (by dsimp only; omega)
  have a1 : ∀ j, fI S' b j = fI S b j := fun j => e2.I (by omega)
  have a2 : fI S' (ρ 0) 5 = fI S (ρ 0) 5 := e2.I (by omega)
  funext j
  unfold sV
  simp only [a1, a2, e1, e3.1]
  by_cases c : 22 ≤ j ∧ j < 30
  · rw [if_pos c, if_neg (show ¬ j < 8 by omega), if_neg (show ¬ j < 14 by omega), if_neg (show ¬ j < 22 by omega), if_pos c.2]
  · rw [if_neg c]
    by_cases c8 : j < 22
    · by_cases c9 : j < 8
      · rw [if_pos c9, if_pos c9]
      · rw [if_neg c9, if_neg c9]
        by_cases c7 : j < 14
        · rw [if_pos c7, if_pos c7]
        · rw [if_neg c7, if_neg c7, if_pos c8, if_pos c8]
    · simp only [if_neg (show ¬ j < 8 by omega), if_neg (show ¬ j < 14 by omega), if_neg c8, if_neg (show ¬ j < 30 by omega)]
theorem sV_fr (h : St Γ Φ S) (hb : Γ b = some (8, 8 + 10000 * i, i, 0, ρ)) (e1 : sEq S S') (e2 : ∀ d j, d ≠ bk 0 ρ 0 → aV S' d j = aV S d j) : sV S' b ρ = fun j => if 30 ≤ j ∧ j < 78 then aV S' (bk 0 ρ 0) (j - 30) else sV S b ρ j := by
  obtain ⟨kg, kr, ku, kw, km, kp, kb, kh, ka, kn, ke, kc, kd⟩ := sK h hb
  have zu : ∀ j, aV S' (bk 0 ρ 1) j = aV S (bk 0 ρ 1) j := fun j => e2 _ j (nmne ku kr (by dsimp only; omega))
  have zw : ∀ j, aV S' (bk 0 ρ 2) j = aV S (bk 0 ρ 2) j := fun j => e2 _ j (nmne kw kr (by dsimp only; omega))
  have zm : ∀ j, aV S' (bk 0 ρ 3) j = aV S (bk 0 ρ 3) j := fun j => e2 _ j (nmne km kr (by dsimp only; omega))
  have zp : ∀ j, aV S' (ρ 2) j = aV S (ρ 2) j := fun j => e2 _ j (nmne kp kr (by dsimp only; omega))
  have zb : ∀ j, aV S' (ρ 3) j = aV S (ρ 3) j := fun j => e2 _ j (nmne kb kr (by dsimp only; omega))
  have zh : ∀ j, aV S' (ρ 5) j = aV S (ρ 5) j := fun j => e2 _ j (nmne kh kr (by dsimp only; omega))
  have za : ∀ j, aV S' (ρ 6) j = aV S (ρ 6) j := fun j => e2 _ j (nmne ka kr (by dsimp only; omega))
  have zn : ∀ j, aV S' (ρ 7) j = aV S (ρ 7) j := fun j => e2 _ j (nmne kn kr (by dsimp only; omega))
  have ze : ∀ j, aV S' (ρ 8) j = aV S (ρ 8) j := fun j => e2 _ j (nmne ke kr (by dsimp only; omega))
  have zc : ∀ j, aV S' (ρ 10) j = aV S (ρ 10) j := fun j => e2 _ j (nmne kc kr (by dsimp only; omega))
  have zd : ∀ j, aV S' (ρ 11) j = aV S (ρ 11) j := fun j => e2 _ j (nmne kd kr (by dsimp only; omega))
  funext j
  unfold sV
  simp only [e1.I, zu, zw, zm, zp, zb, zh, za, zn, ze, zc, zd]
  by_cases c : 30 ≤ j ∧ j < 78
  · rw [if_pos c]
    rw [if_neg (by omega)]
    rw [if_neg (by omega)]
    rw [if_neg (by omega)]
    rw [if_neg (by omega)]
    rw [if_pos (by omega)]
  · rw [if_neg c]
    by_cases c1 : j < 78
    · by_cases d0 : j < 8
      · rw [if_pos d0, if_pos d0]
      rw [if_neg d0, if_neg d0]
      by_cases d1 : j < 14
      · rw [if_pos d1, if_pos d1]
      rw [if_neg d1, if_neg d1]
      by_cases d2 : j < 22
      · rw [if_pos d2, if_pos d2]
      rw [if_neg d2, if_neg d2]
      by_cases d3 : j < 30
      · rw [if_pos d3, if_pos d3]
      rw [if_neg d3, if_neg d3]
      omega
    · have q : ¬ (j < 78) := c1
      simp only [if_neg q, if_neg (show ¬ (j < 8) by omega), if_neg (show ¬ (j < 14) by omega), if_neg (show ¬ (j < 22) by omega), if_neg (show ¬ (j < 30) by omega)]
theorem sV_sr {m : Nat} {x : Int32} (h : St Γ Φ S) (hb : Γ b = some (8, 8 + 10000 * i, i, 0, ρ)) (hm : m < 48) (e1 : sEq S S') (e2 : ∀ d j, d ≠ bk 0 ρ 0 → aV S' d j = aV S d j) (e3 : ∀ j, aV S' (bk 0 ρ 0) j = if j = m then x else aV S (bk 0 ρ 0) j) : sV S' b ρ = upd (sV S b ρ) (30 + m) x := by
  rw [sV_fr h hb e1 e2]
  funext j
  unfold upd
  by_cases c : j = 30 + m
  · subst c
    rw [if_pos (by omega), if_pos rfl, e3, if_pos (by omega)]
  · rw [if_neg c]
    split
    · rename_i d
      rw [e3, if_neg (by omega), sV_r (S := S) (b := b) (ρ := ρ) (by omega), show 30 + (j - 30) = j by omega]
    · rfl
theorem sV_fu (h : St Γ Φ S) (hb : Γ b = some (8, 8 + 10000 * i, i, 0, ρ)) (e1 : sEq S S') (e2 : ∀ d j, d ≠ bk 0 ρ 1 → aV S' d j = aV S d j) : sV S' b ρ = fun j => if 78 ≤ j ∧ j < 126 then aV S' (bk 0 ρ 1) (j - 78) else sV S b ρ j := by
  obtain ⟨kg, kr, ku, kw, km, kp, kb, kh, ka, kn, ke, kc, kd⟩ := sK h hb
  have zr : ∀ j, aV S' (bk 0 ρ 0) j = aV S (bk 0 ρ 0) j := fun j => e2 _ j (nmne kr ku (by dsimp only; omega))
  have zw : ∀ j, aV S' (bk 0 ρ 2) j = aV S (bk 0 ρ 2) j := fun j => e2 _ j (nmne kw ku (by dsimp only; omega))
  have zm : ∀ j, aV S' (bk 0 ρ 3) j = aV S (bk 0 ρ 3) j := fun j => e2 _ j (nmne km ku (by dsimp only; omega))
  have zp : ∀ j, aV S' (ρ 2) j = aV S (ρ 2) j := fun j => e2 _ j (nmne kp ku (by dsimp only; omega))
  have zb : ∀ j, aV S' (ρ 3) j = aV S (ρ 3) j := fun j => e2 _ j (nmne kb ku (by dsimp only; omega))
  have zh : ∀ j, aV S' (ρ 5) j = aV S (ρ 5) j := fun j => e2 _ j (nmne kh ku (by dsimp only; omega))
  have za : ∀ j, aV S' (ρ 6) j = aV S (ρ 6) j := fun j => e2 _ j (nmne ka ku (by dsimp only; omega))
  have zn : ∀ j, aV S' (ρ 7) j = aV S (ρ 7) j := fun j => e2 _ j (nmne kn ku (by dsimp only; omega))
  have ze : ∀ j, aV S' (ρ 8) j = aV S (ρ 8) j := fun j => e2 _ j (nmne ke ku (by dsimp only; omega))
  have zc : ∀ j, aV S' (ρ 10) j = aV S (ρ 10) j := fun j => e2 _ j (nmne kc ku (by dsimp only; omega))
  have zd : ∀ j, aV S' (ρ 11) j = aV S (ρ 11) j := fun j => e2 _ j (nmne kd ku (by dsimp only; omega))
  funext j
  unfold sV
  simp only [e1.I, zr, zw, zm, zp, zb, zh, za, zn, ze, zc, zd]
  by_cases c : 78 ≤ j ∧ j < 126
  · rw [if_pos c]
    rw [if_neg (by omega)]
    rw [if_neg (by omega)]
    rw [if_neg (by omega)]
    rw [if_neg (by omega)]
    rw [if_neg (by omega)]
    rw [if_pos (by omega)]
  · rw [if_neg c]
    by_cases c1 : j < 126
    · by_cases d0 : j < 8
      · rw [if_pos d0, if_pos d0]
      rw [if_neg d0, if_neg d0]
      by_cases d1 : j < 14
      · rw [if_pos d1, if_pos d1]
      rw [if_neg d1, if_neg d1]
      by_cases d2 : j < 22
      · rw [if_pos d2, if_pos d2]
      rw [if_neg d2, if_neg d2]
      by_cases d3 : j < 30
      · rw [if_pos d3, if_pos d3]
      rw [if_neg d3, if_neg d3]
      by_cases d4 : j < 78
      · rw [if_pos d4, if_pos d4]
      rw [if_neg d4, if_neg d4]
      omega
    · have q : ¬ (j < 126) := c1
      simp only [if_neg q, if_neg (show ¬ (j < 8) by omega), if_neg (show ¬ (j < 14) by omega), if_neg (show ¬ (j < 22) by omega), if_neg (show ¬ (j < 30) by omega), if_neg (show ¬ (j < 78) by omega)]
theorem sV_su {m : Nat} {x : Int32} (h : St Γ Φ S) (hb : Γ b = some (8, 8 + 10000 * i, i, 0, ρ)) (hm : m < 48) (e1 : sEq S S') (e2 : ∀ d j, d ≠ bk 0 ρ 1 → aV S' d j = aV S d j) (e3 : ∀ j, aV S' (bk 0 ρ 1) j = if j = m then x else aV S (bk 0 ρ 1) j) : sV S' b ρ = upd (sV S b ρ) (78 + m) x := by
  rw [sV_fu h hb e1 e2]
  funext j
  unfold upd
  by_cases c : j = 78 + m
  · subst c
    rw [if_pos (by omega), if_pos rfl, e3, if_pos (by omega)]
  · rw [if_neg c]
    split
    · rename_i d
      rw [e3, if_neg (by omega), sV_u (S := S) (b := b) (ρ := ρ) (by omega), show 78 + (j - 78) = j by omega]
    · rfl
theorem sV_fw (h : St Γ Φ S) (hb : Γ b = some (8, 8 + 10000 * i, i, 0, ρ)) (e1 : sEq S S') (e2 : ∀ d j, d ≠ bk 0 ρ 2 → aV S' d j = aV S d j) : sV S' b ρ = fun j => if 8 ≤ j ∧ j < 14 then aV S' (bk 0 ρ 2) (j - 8) else sV S b ρ j := by
  obtain ⟨kg, kr, ku, kw, km, kp, kb, kh, ka, kn, ke, kc, kd⟩ := sK h hb
  have zr : ∀ j, aV S' (bk 0 ρ 0) j = aV S (bk 0 ρ 0) j := fun j => e2 _ j (nmne kr kw (by dsimp only; omega))
  have zu : ∀ j, aV S' (bk 0 ρ 1) j = aV S (bk 0 ρ 1) j := fun j => e2 _ j (nmne ku kw (by dsimp only; omega))
  have zm : ∀ j, aV S' (bk 0 ρ 3) j = aV S (bk 0 ρ 3) j := fun j => e2 _ j (nmne km kw (by dsimp only; omega))
  have zp : ∀ j, aV S' (ρ 2) j = aV S (ρ 2) j := fun j => e2 _ j (nmne kp kw (by dsimp only; omega))
  have zb : ∀ j, aV S' (ρ 3) j = aV S (ρ 3) j := fun j => e2 _ j (nmne kb kw (by dsimp only; omega))
  have zh : ∀ j, aV S' (ρ 5) j = aV S (ρ 5) j := fun j => e2 _ j (nmne kh kw (by dsimp only; omega))
  have za : ∀ j, aV S' (ρ 6) j = aV S (ρ 6) j := fun j => e2 _ j (nmne ka kw (by dsimp only; omega))
  have zn : ∀ j, aV S' (ρ 7) j = aV S (ρ 7) j := fun j => e2 _ j (nmne kn kw (by dsimp only; omega))
  have ze : ∀ j, aV S' (ρ 8) j = aV S (ρ 8) j := fun j => e2 _ j (nmne ke kw (by dsimp only; omega))
  have zc : ∀ j, aV S' (ρ 10) j = aV S (ρ 10) j := fun j => e2 _ j (nmne kc kw (by dsimp only; omega))
  have zd : ∀ j, aV S' (ρ 11) j = aV S (ρ 11) j := fun j => e2 _ j (nmne kd kw (by dsimp only; omega))
  funext j
  unfold sV
  simp only [e1.I, zr, zu, zm, zp, zb, zh, za, zn, ze, zc, zd]
  by_cases c : 8 ≤ j ∧ j < 14
  · rw [if_pos c]
    rw [if_neg (by omega)]
    rw [if_pos (by omega)]
  · rw [if_neg c]
    by_cases c1 : j < 14
    · by_cases d0 : j < 8
      · rw [if_pos d0, if_pos d0]
      rw [if_neg d0, if_neg d0]
      omega
    · have q : ¬ (j < 14) := c1
      simp only [if_neg q, if_neg (show ¬ (j < 8) by omega)]
theorem sV_sw {m : Nat} {x : Int32} (h : St Γ Φ S) (hb : Γ b = some (8, 8 + 10000 * i, i, 0, ρ)) (hm : m < 6) (e1 : sEq S S') (e2 : ∀ d j, d ≠ bk 0 ρ 2 → aV S' d j = aV S d j) (e3 : ∀ j, aV S' (bk 0 ρ 2) j = if j = m then x else aV S (bk 0 ρ 2) j) : sV S' b ρ = upd (sV S b ρ) (8 + m) x := by
  rw [sV_fw h hb e1 e2]
  funext j
  unfold upd
  by_cases c : j = 8 + m
  · subst c
    rw [if_pos (by omega), if_pos rfl, e3, if_pos (by omega)]
  · rw [if_neg c]
    split
    · rename_i d
      rw [e3, if_neg (by omega), sV_w (S := S) (b := b) (ρ := ρ) (by omega), show 8 + (j - 8) = j by omega]
    · rfl
theorem sV_fm (h : St Γ Φ S) (hb : Γ b = some (8, 8 + 10000 * i, i, 0, ρ)) (e1 : sEq S S') (e2 : ∀ d j, d ≠ bk 0 ρ 3 → aV S' d j = aV S d j) : sV S' b ρ = fun j => if 14 ≤ j ∧ j < 22 then aV S' (bk 0 ρ 3) (j - 14) else sV S b ρ j := by
  obtain ⟨kg, kr, ku, kw, km, kp, kb, kh, ka, kn, ke, kc, kd⟩ := sK h hb
  have zr : ∀ j, aV S' (bk 0 ρ 0) j = aV S (bk 0 ρ 0) j := fun j => e2 _ j (nmne kr km (by dsimp only; omega))
  have zu : ∀ j, aV S' (bk 0 ρ 1) j = aV S (bk 0 ρ 1) j := fun j => e2 _ j (nmne ku km (by dsimp only; omega))
  have zw : ∀ j, aV S' (bk 0 ρ 2) j = aV S (bk 0 ρ 2) j := fun j => e2 _ j (nmne kw km (by dsimp only; omega))
  have zp : ∀ j, aV S' (ρ 2) j = aV S (ρ 2) j := fun j => e2 _ j (nmne kp km (by dsimp only; omega))
  have zb : ∀ j, aV S' (ρ 3) j = aV S (ρ 3) j := fun j => e2 _ j (nmne kb km (by dsimp only; omega))
  have zh : ∀ j, aV S' (ρ 5) j = aV S (ρ 5) j := fun j => e2 _ j (nmne kh km (by dsimp only; omega))
  have za : ∀ j, aV S' (ρ 6) j = aV S (ρ 6) j := fun j => e2 _ j (nmne ka km (by dsimp only; omega))
  have zn : ∀ j, aV S' (ρ 7) j = aV S (ρ 7) j := fun j => e2 _ j (nmne kn km (by dsimp only; omega))
  have ze : ∀ j, aV S' (ρ 8) j = aV S (ρ 8) j := fun j => e2 _ j (nmne ke km (by dsimp only; omega))
  have zc : ∀ j, aV S' (ρ 10) j = aV S (ρ 10) j := fun j => e2 _ j (nmne kc km (by dsimp only; omega))
  have zd : ∀ j, aV S' (ρ 11) j = aV S (ρ 11) j := fun j => e2 _ j (nmne kd km (by dsimp only; omega))
  funext j
  unfold sV
  simp only [e1.I, zr, zu, zw, zp, zb, zh, za, zn, ze, zc, zd]
  by_cases c : 14 ≤ j ∧ j < 22
  · rw [if_pos c]
    rw [if_neg (by omega)]
    rw [if_neg (by omega)]
    rw [if_pos (by omega)]
  · rw [if_neg c]
    by_cases c1 : j < 22
    · by_cases d0 : j < 8
      · rw [if_pos d0, if_pos d0]
      rw [if_neg d0, if_neg d0]
      by_cases d1 : j < 14
      · rw [if_pos d1, if_pos d1]
      rw [if_neg d1, if_neg d1]
      omega
    · have q : ¬ (j < 22) := c1
      simp only [if_neg q, if_neg (show ¬ (j < 8) by omega), if_neg (show ¬ (j < 14) by omega)]
theorem sV_sm {m : Nat} {x : Int32} (h : St Γ Φ S) (hb : Γ b = some (8, 8 + 10000 * i, i, 0, ρ)) (hm : m < 8) (e1 : sEq S S') (e2 : ∀ d j, d ≠ bk 0 ρ 3 → aV S' d j = aV S d j) (e3 : ∀ j, aV S' (bk 0 ρ 3) j = if j = m then x else aV S (bk 0 ρ 3) j) : sV S' b ρ = upd (sV S b ρ) (14 + m) x := by
  rw [sV_fm h hb e1 e2]
  funext j
  unfold upd
  by_cases c : j = 14 + m
  · subst c
    rw [if_pos (by omega), if_pos rfl, e3, if_pos (by omega)]
  · rw [if_neg c]
    split
    · rename_i d
      rw [e3, if_neg (by omega), sV_m (S := S) (b := b) (ρ := ρ) (by omega), show 14 + (j - 14) = j by omega]
    · rfl
theorem sV_fp (h : St Γ Φ S) (hb : Γ b = some (8, 8 + 10000 * i, i, 0, ρ)) (e1 : sEq S S') (e2 : ∀ d j, d ≠ ρ 2 → aV S' d j = aV S d j) : sV S' b ρ = fun j => if 126 ≤ j ∧ j < 132 then aV S' (ρ 2) (j - 126) else sV S b ρ j := by
  obtain ⟨kg, kr, ku, kw, km, kp, kb, kh, ka, kn, ke, kc, kd⟩ := sK h hb
  have zr : ∀ j, aV S' (bk 0 ρ 0) j = aV S (bk 0 ρ 0) j := fun j => e2 _ j (nmne kr kp (by dsimp only; omega))
  have zu : ∀ j, aV S' (bk 0 ρ 1) j = aV S (bk 0 ρ 1) j := fun j => e2 _ j (nmne ku kp (by dsimp only; omega))
  have zw : ∀ j, aV S' (bk 0 ρ 2) j = aV S (bk 0 ρ 2) j := fun j => e2 _ j (nmne kw kp (by dsimp only; omega))
  have zm : ∀ j, aV S' (bk 0 ρ 3) j = aV S (bk 0 ρ 3) j := fun j => e2 _ j (nmne km kp (by dsimp only; omega))
  have zb : ∀ j, aV S' (ρ 3) j = aV S (ρ 3) j := fun j => e2 _ j (nmne kb kp (by dsimp only; omega))
  have zh : ∀ j, aV S' (ρ 5) j = aV S (ρ 5) j := fun j => e2 _ j (nmne kh kp (by dsimp only; omega))
  have za : ∀ j, aV S' (ρ 6) j = aV S (ρ 6) j := fun j => e2 _ j (nmne ka kp (by dsimp only; omega))
  have zn : ∀ j, aV S' (ρ 7) j = aV S (ρ 7) j := fun j => e2 _ j (nmne kn kp (by dsimp only; omega))
  have ze : ∀ j, aV S' (ρ 8) j = aV S (ρ 8) j := fun j => e2 _ j (nmne ke kp (by dsimp only; omega))
  have zc : ∀ j, aV S' (ρ 10) j = aV S (ρ 10) j := fun j => e2 _ j (nmne kc kp (by dsimp only; omega))
  have zd : ∀ j, aV S' (ρ 11) j = aV S (ρ 11) j := fun j => e2 _ j (nmne kd kp (by dsimp only; omega))
  funext j
  unfold sV
  simp only [e1.I, zr, zu, zw, zm, zb, zh, za, zn, ze, zc, zd]
  by_cases c : 126 ≤ j ∧ j < 132
  · rw [if_pos c]
    rw [if_neg (by omega)]
    rw [if_neg (by omega)]
    rw [if_neg (by omega)]
    rw [if_neg (by omega)]
    rw [if_neg (by omega)]
    rw [if_neg (by omega)]
    rw [if_pos (by omega)]
  · rw [if_neg c]
    by_cases c1 : j < 132
    · by_cases d0 : j < 8
      · rw [if_pos d0, if_pos d0]
      rw [if_neg d0, if_neg d0]
      by_cases d1 : j < 14
      · rw [if_pos d1, if_pos d1]
      rw [if_neg d1, if_neg d1]
      by_cases d2 : j < 22
      · rw [if_pos d2, if_pos d2]
      rw [if_neg d2, if_neg d2]
      by_cases d3 : j < 30
      · rw [if_pos d3, if_pos d3]
      rw [if_neg d3, if_neg d3]
      by_cases d4 : j < 78
      · rw [if_pos d4, if_pos d4]
      rw [if_neg d4, if_neg d4]
      by_cases d5 : j < 126
      · rw [if_pos d5, if_pos d5]
      rw [if_neg d5, if_neg d5]
      omega
    · have q : ¬ (j < 132) := c1
      simp only [if_neg q, if_neg (show ¬ (j < 8) by omega), if_neg (show ¬ (j < 14) by omega), if_neg (show ¬ (j < 22) by omega), if_neg (show ¬ (j < 30) by omega), if_neg (show ¬ (j < 78) by omega), if_neg (show ¬ (j < 126) by omega)]
theorem sV_sp {m : Nat} {x : Int32} (h : St Γ Φ S) (hb : Γ b = some (8, 8 + 10000 * i, i, 0, ρ)) (hm : m < 6) (e1 : sEq S S') (e2 : ∀ d j, d ≠ ρ 2 → aV S' d j = aV S d j) (e3 : ∀ j, aV S' (ρ 2) j = if j = m then x else aV S (ρ 2) j) : sV S' b ρ = upd (sV S b ρ) (126 + m) x := by
  rw [sV_fp h hb e1 e2]
  funext j
  unfold upd
  by_cases c : j = 126 + m
  · subst c
    rw [if_pos (by omega), if_pos rfl, e3, if_pos (by omega)]
  · rw [if_neg c]
    split
    · rename_i d
      rw [e3, if_neg (by omega), sV_p (S := S) (b := b) (ρ := ρ) (by omega), show 126 + (j - 126) = j by omega]
    · rfl
theorem sV_fb (h : St Γ Φ S) (hb : Γ b = some (8, 8 + 10000 * i, i, 0, ρ)) (e1 : sEq S S') (e2 : ∀ d j, d ≠ ρ 3 → aV S' d j = aV S d j) : sV S' b ρ = fun j => if 132 ≤ j ∧ j < 138 then aV S' (ρ 3) (j - 132) else sV S b ρ j := by
  obtain ⟨kg, kr, ku, kw, km, kp, kb, kh, ka, kn, ke, kc, kd⟩ := sK h hb
  have zr : ∀ j, aV S' (bk 0 ρ 0) j = aV S (bk 0 ρ 0) j := fun j => e2 _ j (nmne kr kb (by dsimp only; omega))
  have zu : ∀ j, aV S' (bk 0 ρ 1) j = aV S (bk 0 ρ 1) j := fun j => e2 _ j (nmne ku kb (by dsimp only; omega))
  have zw : ∀ j, aV S' (bk 0 ρ 2) j = aV S (bk 0 ρ 2) j := fun j => e2 _ j (nmne kw kb (by dsimp only; omega))
  have zm : ∀ j, aV S' (bk 0 ρ 3) j = aV S (bk 0 ρ 3) j := fun j => e2 _ j (nmne km kb (by dsimp only; omega))
  have zp : ∀ j, aV S' (ρ 2) j = aV S (ρ 2) j := fun j => e2 _ j (nmne kp kb (by dsimp only; omega))
  have zh : ∀ j, aV S' (ρ 5) j = aV S (ρ 5) j := fun j => e2 _ j (nmne kh kb (by dsimp only; omega))
  have za : ∀ j, aV S' (ρ 6) j = aV S (ρ 6) j := fun j => e2 _ j (nmne ka kb (by dsimp only; omega))
  have zn : ∀ j, aV S' (ρ 7) j = aV S (ρ 7) j := fun j => e2 _ j (nmne kn kb (by dsimp only; omega))
  have ze : ∀ j, aV S' (ρ 8) j = aV S (ρ 8) j := fun j => e2 _ j (nmne ke kb (by dsimp only; omega))
  have zc : ∀ j, aV S' (ρ 10) j = aV S (ρ 10) j := fun j => e2 _ j (nmne kc kb (by dsimp only; omega))
  have zd : ∀ j, aV S' (ρ 11) j = aV S (ρ 11) j := fun j => e2 _ j (nmne kd kb (by dsimp only; omega))
  funext j
  unfold sV
  simp only [e1.I, zr, zu, zw, zm, zp, zh, za, zn, ze, zc, zd]
  by_cases c : 132 ≤ j ∧ j < 138
  · rw [if_pos c]
    rw [if_neg (by omega)]
    rw [if_neg (by omega)]
    rw [if_neg (by omega)]
    rw [if_neg (by omega)]
    rw [if_neg (by omega)]
    rw [if_neg (by omega)]
    rw [if_neg (by omega)]
    rw [if_pos (by omega)]
  · rw [if_neg c]
    by_cases c1 : j < 138
    · by_cases d0 : j < 8
      · rw [if_pos d0, if_pos d0]
      rw [if_neg d0, if_neg d0]
      by_cases d1 : j < 14
      · rw [if_pos d1, if_pos d1]
      rw [if_neg d1, if_neg d1]
      by_cases d2 : j < 22
      · rw [if_pos d2, if_pos d2]
      rw [if_neg d2, if_neg d2]
      by_cases d3 : j < 30
      · rw [if_pos d3, if_pos d3]
      rw [if_neg d3, if_neg d3]
      by_cases d4 : j < 78
      · rw [if_pos d4, if_pos d4]
      rw [if_neg d4, if_neg d4]
      by_cases d5 : j < 126
      · rw [if_pos d5, if_pos d5]
      rw [if_neg d5, if_neg d5]
      by_cases d6 : j < 132
      · rw [if_pos d6, if_pos d6]
      rw [if_neg d6, if_neg d6]
      omega
    · have q : ¬ (j < 138) := c1
      simp only [if_neg q, if_neg (show ¬ (j < 8) by omega), if_neg (show ¬ (j < 14) by omega), if_neg (show ¬ (j < 22) by omega), if_neg (show ¬ (j < 30) by omega), if_neg (show ¬ (j < 78) by omega), if_neg (show ¬ (j < 126) by omega), if_neg (show ¬ (j < 132) by omega)]
theorem sV_sb {m : Nat} {x : Int32} (h : St Γ Φ S) (hb : Γ b = some (8, 8 + 10000 * i, i, 0, ρ)) (hm : m < 6) (e1 : sEq S S') (e2 : ∀ d j, d ≠ ρ 3 → aV S' d j = aV S d j) (e3 : ∀ j, aV S' (ρ 3) j = if j = m then x else aV S (ρ 3) j) : sV S' b ρ = upd (sV S b ρ) (132 + m) x := by
  rw [sV_fb h hb e1 e2]
  funext j
  unfold upd
  by_cases c : j = 132 + m
  · subst c
    rw [if_pos (by omega), if_pos rfl, e3, if_pos (by omega)]
  · rw [if_neg c]
    split
    · rename_i d
      rw [e3, if_neg (by omega), sV_b (S := S) (b := b) (ρ := ρ) (by omega), show 132 + (j - 132) = j by omega]
    · rfl
theorem sV_fh (h : St Γ Φ S) (hb : Γ b = some (8, 8 + 10000 * i, i, 0, ρ)) (e1 : sEq S S') (e2 : ∀ d j, d ≠ ρ 5 → aV S' d j = aV S d j) : sV S' b ρ = fun j => if 138 ≤ j ∧ j < 146 then aV S' (ρ 5) (j - 138) else sV S b ρ j := by
  obtain ⟨kg, kr, ku, kw, km, kp, kb, kh, ka, kn, ke, kc, kd⟩ := sK h hb
  have zr : ∀ j, aV S' (bk 0 ρ 0) j = aV S (bk 0 ρ 0) j := fun j => e2 _ j (nmne kr kh (by dsimp only; omega))
  have zu : ∀ j, aV S' (bk 0 ρ 1) j = aV S (bk 0 ρ 1) j := fun j => e2 _ j (nmne ku kh (by dsimp only; omega))
  have zw : ∀ j, aV S' (bk 0 ρ 2) j = aV S (bk 0 ρ 2) j := fun j => e2 _ j (nmne kw kh (by dsimp only; omega))
  have zm : ∀ j, aV S' (bk 0 ρ 3) j = aV S (bk 0 ρ 3) j := fun j => e2 _ j (nmne km kh (by dsimp only; omega))
  have zp : ∀ j, aV S' (ρ 2) j = aV S (ρ 2) j := fun j => e2 _ j (nmne kp kh (by dsimp only; omega))
  have zb : ∀ j, aV S' (ρ 3) j = aV S (ρ 3) j := fun j => e2 _ j (nmne kb kh (by dsimp only; omega))
  have za : ∀ j, aV S' (ρ 6) j = aV S (ρ 6) j := fun j => e2 _ j (nmne ka kh (by dsimp only; omega))
  have zn : ∀ j, aV S' (ρ 7) j = aV S (ρ 7) j := fun j => e2 _ j (nmne kn kh (by dsimp only; omega))
  have ze : ∀ j, aV S' (ρ 8) j = aV S (ρ 8) j := fun j => e2 _ j (nmne ke kh (by dsimp only; omega))
  have zc : ∀ j, aV S' (ρ 10) j = aV S (ρ 10) j := fun j => e2 _ j (nmne kc kh (by dsimp only; omega))
  have zd : ∀ j, aV S' (ρ 11) j = aV S (ρ 11) j := fun j => e2 _ j (nmne kd kh (by dsimp only; omega))
  funext j
  unfold sV
  simp only [e1.I, zr, zu, zw, zm, zp, zb, za, zn, ze, zc, zd]
  by_cases c : 138 ≤ j ∧ j < 146
  · rw [if_pos c]
    rw [if_neg (by omega)]
    rw [if_neg (by omega)]
    rw [if_neg (by omega)]
    rw [if_neg (by omega)]
    rw [if_neg (by omega)]
    rw [if_neg (by omega)]
    rw [if_neg (by omega)]
    rw [if_neg (by omega)]
    rw [if_pos (by omega)]
  · rw [if_neg c]
    by_cases c1 : j < 146
    · by_cases d0 : j < 8
      · rw [if_pos d0, if_pos d0]
      rw [if_neg d0, if_neg d0]
      by_cases d1 : j < 14
      · rw [if_pos d1, if_pos d1]
      rw [if_neg d1, if_neg d1]
      by_cases d2 : j < 22
      · rw [if_pos d2, if_pos d2]
      rw [if_neg d2, if_neg d2]
      by_cases d3 : j < 30
      · rw [if_pos d3, if_pos d3]
      rw [if_neg d3, if_neg d3]
      by_cases d4 : j < 78
      · rw [if_pos d4, if_pos d4]
      rw [if_neg d4, if_neg d4]
      by_cases d5 : j < 126
      · rw [if_pos d5, if_pos d5]
      rw [if_neg d5, if_neg d5]
      by_cases d6 : j < 132
      · rw [if_pos d6, if_pos d6]
      rw [if_neg d6, if_neg d6]
      by_cases d7 : j < 138
      · rw [if_pos d7, if_pos d7]
      rw [if_neg d7, if_neg d7]
      omega
    · have q : ¬ (j < 146) := c1
      simp only [if_neg q, if_neg (show ¬ (j < 8) by omega), if_neg (show ¬ (j < 14) by omega), if_neg (show ¬ (j < 22) by omega), if_neg (show ¬ (j < 30) by omega), if_neg (show ¬ (j < 78) by omega), if_neg (show ¬ (j < 126) by omega), if_neg (show ¬ (j < 132) by omega), if_neg (show ¬ (j < 138) by omega)]
theorem sV_sh {m : Nat} {x : Int32} (h : St Γ Φ S) (hb : Γ b = some (8, 8 + 10000 * i, i, 0, ρ)) (hm : m < 8) (e1 : sEq S S') (e2 : ∀ d j, d ≠ ρ 5 → aV S' d j = aV S d j) (e3 : ∀ j, aV S' (ρ 5) j = if j = m then x else aV S (ρ 5) j) : sV S' b ρ = upd (sV S b ρ) (138 + m) x := by
  rw [sV_fh h hb e1 e2]
  funext j
  unfold upd
  by_cases c : j = 138 + m
  · subst c
    rw [if_pos (by omega), if_pos rfl, e3, if_pos (by omega)]
  · rw [if_neg c]
    split
    · rename_i d
      rw [e3, if_neg (by omega), sV_h (S := S) (b := b) (ρ := ρ) (by omega), show 138 + (j - 138) = j by omega]
    · rfl
theorem sV_fa (h : St Γ Φ S) (hb : Γ b = some (8, 8 + 10000 * i, i, 0, ρ)) (e1 : sEq S S') (e2 : ∀ d j, d ≠ ρ 6 → aV S' d j = aV S d j) : sV S' b ρ = fun j => if 146 ≤ j ∧ j < 154 then aV S' (ρ 6) (j - 146) else sV S b ρ j := by
  obtain ⟨kg, kr, ku, kw, km, kp, kb, kh, ka, kn, ke, kc, kd⟩ := sK h hb
  have zr : ∀ j, aV S' (bk 0 ρ 0) j = aV S (bk 0 ρ 0) j := fun j => e2 _ j (nmne kr ka (by dsimp only; omega))
  have zu : ∀ j, aV S' (bk 0 ρ 1) j = aV S (bk 0 ρ 1) j := fun j => e2 _ j (nmne ku ka (by dsimp only; omega))
  have zw : ∀ j, aV S' (bk 0 ρ 2) j = aV S (bk 0 ρ 2) j := fun j => e2 _ j (nmne kw ka (by dsimp only; omega))
  have zm : ∀ j, aV S' (bk 0 ρ 3) j = aV S (bk 0 ρ 3) j := fun j => e2 _ j (nmne km ka (by dsimp only; omega))
  have zp : ∀ j, aV S' (ρ 2) j = aV S (ρ 2) j := fun j => e2 _ j (nmne kp ka (by dsimp only; omega))
  have zb : ∀ j, aV S' (ρ 3) j = aV S (ρ 3) j := fun j => e2 _ j (nmne kb ka (by dsimp only; omega))
  have zh : ∀ j, aV S' (ρ 5) j = aV S (ρ 5) j := fun j => e2 _ j (nmne kh ka (by dsimp only; omega))
  have zn : ∀ j, aV S' (ρ 7) j = aV S (ρ 7) j := fun j => e2 _ j (nmne kn ka (by dsimp only; omega))
  have ze : ∀ j, aV S' (ρ 8) j = aV S (ρ 8) j := fun j => e2 _ j (nmne ke ka (by dsimp only; omega))
  have zc : ∀ j, aV S' (ρ 10) j = aV S (ρ 10) j := fun j => e2 _ j (nmne kc ka (by dsimp only; omega))
  have zd : ∀ j, aV S' (ρ 11) j = aV S (ρ 11) j := fun j => e2 _ j (nmne kd ka (by dsimp only; omega))
  funext j
  unfold sV
  simp only [e1.I, zr, zu, zw, zm, zp, zb, zh, zn, ze, zc, zd]
  by_cases c : 146 ≤ j ∧ j < 154
  · rw [if_pos c]
    rw [if_neg (by omega)]
    rw [if_neg (by omega)]
    rw [if_neg (by omega)]
    rw [if_neg (by omega)]
    rw [if_neg (by omega)]
    rw [if_neg (by omega)]
    rw [if_neg (by omega)]
    rw [if_neg (by omega)]
    rw [if_neg (by omega)]
    rw [if_pos (by omega)]
  · rw [if_neg c]
    by_cases c1 : j < 154
    · by_cases d0 : j < 8
      · rw [if_pos d0, if_pos d0]
      rw [if_neg d0, if_neg d0]
      by_cases d1 : j < 14
      · rw [if_pos d1, if_pos d1]
      rw [if_neg d1, if_neg d1]
      by_cases d2 : j < 22
      · rw [if_pos d2, if_pos d2]
      rw [if_neg d2, if_neg d2]
      by_cases d3 : j < 30
      · rw [if_pos d3, if_pos d3]
      rw [if_neg d3, if_neg d3]
      by_cases d4 : j < 78
      · rw [if_pos d4, if_pos d4]
      rw [if_neg d4, if_neg d4]
      by_cases d5 : j < 126
      · rw [if_pos d5, if_pos d5]
      rw [if_neg d5, if_neg d5]
      by_cases d6 : j < 132
      · rw [if_pos d6, if_pos d6]
      rw [if_neg d6, if_neg d6]
      by_cases d7 : j < 138
      · rw [if_pos d7, if_pos d7]
      rw [if_neg d7, if_neg d7]
      by_cases d8 : j < 146
      · rw [if_pos d8, if_pos d8]
      rw [if_neg d8, if_neg d8]
      omega
    · have q : ¬ (j < 154) := c1
      simp only [if_neg q, if_neg (show ¬ (j < 8) by omega), if_neg (show ¬ (j < 14) by omega), if_neg (show ¬ (j < 22) by omega), if_neg (show ¬ (j < 30) by omega), if_neg (show ¬ (j < 78) by omega), if_neg (show ¬ (j < 126) by omega), if_neg (show ¬ (j < 132) by omega), if_neg (show ¬ (j < 138) by omega), if_neg (show ¬ (j < 146) by omega)]
theorem sV_sa {m : Nat} {x : Int32} (h : St Γ Φ S) (hb : Γ b = some (8, 8 + 10000 * i, i, 0, ρ)) (hm : m < 8) (e1 : sEq S S') (e2 : ∀ d j, d ≠ ρ 6 → aV S' d j = aV S d j) (e3 : ∀ j, aV S' (ρ 6) j = if j = m then x else aV S (ρ 6) j) : sV S' b ρ = upd (sV S b ρ) (146 + m) x := by
  rw [sV_fa h hb e1 e2]
  funext j
  unfold upd
  by_cases c : j = 146 + m
  · subst c
    rw [if_pos (by omega), if_pos rfl, e3, if_pos (by omega)]
  · rw [if_neg c]
    split
    · rename_i d
      rw [e3, if_neg (by omega), sV_a (S := S) (b := b) (ρ := ρ) (by omega), show 146 + (j - 146) = j by omega]
    · rfl
theorem sV_fn (h : St Γ Φ S) (hb : Γ b = some (8, 8 + 10000 * i, i, 0, ρ)) (e1 : sEq S S') (e2 : ∀ d j, d ≠ ρ 7 → aV S' d j = aV S d j) : sV S' b ρ = fun j => if 154 ≤ j ∧ j < 162 then aV S' (ρ 7) (j - 154) else sV S b ρ j := by
  obtain ⟨kg, kr, ku, kw, km, kp, kb, kh, ka, kn, ke, kc, kd⟩ := sK h hb
  have zr : ∀ j, aV S' (bk 0 ρ 0) j = aV S (bk 0 ρ 0) j := fun j => e2 _ j (nmne kr kn (by dsimp only; omega))
  have zu : ∀ j, aV S' (bk 0 ρ 1) j = aV S (bk 0 ρ 1) j := fun j => e2 _ j (nmne ku kn (by dsimp only; omega))
  have zw : ∀ j, aV S' (bk 0 ρ 2) j = aV S (bk 0 ρ 2) j := fun j => e2 _ j (nmne kw kn (by dsimp only; omega))
  have zm : ∀ j, aV S' (bk 0 ρ 3) j = aV S (bk 0 ρ 3) j := fun j => e2 _ j (nmne km kn (by dsimp only; omega))
  have zp : ∀ j, aV S' (ρ 2) j = aV S (ρ 2) j := fun j => e2 _ j (nmne kp kn (by dsimp only; omega))
  have zb : ∀ j, aV S' (ρ 3) j = aV S (ρ 3) j := fun j => e2 _ j (nmne kb kn (by dsimp only; omega))
  have zh : ∀ j, aV S' (ρ 5) j = aV S (ρ 5) j := fun j => e2 _ j (nmne kh kn (by dsimp only; omega))
  have za : ∀ j, aV S' (ρ 6) j = aV S (ρ 6) j := fun j => e2 _ j (nmne ka kn (by dsimp only; omega))
  have ze : ∀ j, aV S' (ρ 8) j = aV S (ρ 8) j := fun j => e2 _ j (nmne ke kn (by dsimp only; omega))
  have zc : ∀ j, aV S' (ρ 10) j = aV S (ρ 10) j := fun j => e2 _ j (nmne kc kn (by dsimp only; omega))
  have zd : ∀ j, aV S' (ρ 11) j = aV S (ρ 11) j := fun j => e2 _ j (nmne kd kn (by dsimp only; omega))
  funext j
  unfold sV
  simp only [e1.I, zr, zu, zw, zm, zp, zb, zh, za, ze, zc, zd]
  by_cases c : 154 ≤ j ∧ j < 162
  · rw [if_pos c]
    rw [if_neg (by omega)]
    rw [if_neg (by omega)]
    rw [if_neg (by omega)]
    rw [if_neg (by omega)]
    rw [if_neg (by omega)]
    rw [if_neg (by omega)]
    rw [if_neg (by omega)]
    rw [if_neg (by omega)]
    rw [if_neg (by omega)]
    rw [if_neg (by omega)]
    rw [if_pos (by omega)]
  · rw [if_neg c]
    by_cases c1 : j < 162
    · by_cases d0 : j < 8
      · rw [if_pos d0, if_pos d0]
      rw [if_neg d0, if_neg d0]
      by_cases d1 : j < 14
      · rw [if_pos d1, if_pos d1]
      rw [if_neg d1, if_neg d1]
      by_cases d2 : j < 22
      · rw [if_pos d2, if_pos d2]
      rw [if_neg d2, if_neg d2]
      by_cases d3 : j < 30
      · rw [if_pos d3, if_pos d3]
      rw [if_neg d3, if_neg d3]
      by_cases d4 : j < 78
      · rw [if_pos d4, if_pos d4]
      rw [if_neg d4, if_neg d4]
      by_cases d5 : j < 126
      · rw [if_pos d5, if_pos d5]
      rw [if_neg d5, if_neg d5]
      by_cases d6 : j < 132
      · rw [if_pos d6, if_pos d6]
      rw [if_neg d6, if_neg d6]
      by_cases d7 : j < 138
      · rw [if_pos d7, if_pos d7]
      rw [if_neg d7, if_neg d7]
      by_cases d8 : j < 146
      · rw [if_pos d8, if_pos d8]
      rw [if_neg d8, if_neg d8]
      by_cases d9 : j < 154
      · rw [if_pos d9, if_pos d9]
      rw [if_neg d9, if_neg d9]
      omega
    · have q : ¬ (j < 162) := c1
      simp only [if_neg q, if_neg (show ¬ (j < 8) by omega), if_neg (show ¬ (j < 14) by omega), if_neg (show ¬ (j < 22) by omega), if_neg (show ¬ (j < 30) by omega), if_neg (show ¬ (j < 78) by omega), if_neg (show ¬ (j < 126) by omega), if_neg (show ¬ (j < 132) by omega), if_neg (show ¬ (j < 138) by omega), if_neg (show ¬ (j < 146) by omega), if_neg (show ¬ (j < 154) by omega)]
theorem sV_sn {m : Nat} {x : Int32} (h : St Γ Φ S) (hb : Γ b = some (8, 8 + 10000 * i, i, 0, ρ)) (hm : m < 8) (e1 : sEq S S') (e2 : ∀ d j, d ≠ ρ 7 → aV S' d j = aV S d j) (e3 : ∀ j, aV S' (ρ 7) j = if j = m then x else aV S (ρ 7) j) : sV S' b ρ = upd (sV S b ρ) (154 + m) x := by
  rw [sV_fn h hb e1 e2]
  funext j
  unfold upd
  by_cases c : j = 154 + m
  · subst c
    rw [if_pos (by omega), if_pos rfl, e3, if_pos (by omega)]
  · rw [if_neg c]
    split
    · rename_i d
      rw [e3, if_neg (by omega), sV_n (S := S) (b := b) (ρ := ρ) (by omega), show 154 + (j - 154) = j by omega]
    · rfl
theorem sV_fe (h : St Γ Φ S) (hb : Γ b = some (8, 8 + 10000 * i, i, 0, ρ)) (e1 : sEq S S') (e2 : ∀ d j, d ≠ ρ 8 → aV S' d j = aV S d j) : sV S' b ρ = fun j => if 162 ≤ j ∧ j < 170 then aV S' (ρ 8) (j - 162) else sV S b ρ j := by
  obtain ⟨kg, kr, ku, kw, km, kp, kb, kh, ka, kn, ke, kc, kd⟩ := sK h hb
  have zr : ∀ j, aV S' (bk 0 ρ 0) j = aV S (bk 0 ρ 0) j := fun j => e2 _ j (nmne kr ke (by dsimp only; omega))
  have zu : ∀ j, aV S' (bk 0 ρ 1) j = aV S (bk 0 ρ 1) j := fun j => e2 _ j (nmne ku ke (by dsimp only; omega))
  have zw : ∀ j, aV S' (bk 0 ρ 2) j = aV S (bk 0 ρ 2) j := fun j => e2 _ j (nmne kw ke (by dsimp only; omega))
  have zm : ∀ j, aV S' (bk 0 ρ 3) j = aV S (bk 0 ρ 3) j := fun j => e2 _ j (nmne km ke (by dsimp only; omega))
  have zp : ∀ j, aV S' (ρ 2) j = aV S (ρ 2) j := fun j => e2 _ j (nmne kp ke (by dsimp only; omega))
  have zb : ∀ j, aV S' (ρ 3) j = aV S (ρ 3) j := fun j => e2 _ j (nmne kb ke (by dsimp only; omega))
  have zh : ∀ j, aV S' (ρ 5) j = aV S (ρ 5) j := fun j => e2 _ j (nmne kh ke (by dsimp only; omega))
  have za : ∀ j, aV S' (ρ 6) j = aV S (ρ 6) j := fun j => e2 _ j (nmne ka ke (by dsimp only; omega))
  have zn : ∀ j, aV S' (ρ 7) j = aV S (ρ 7) j := fun j => e2 _ j (nmne kn ke (by dsimp only; omega))
  have zc : ∀ j, aV S' (ρ 10) j = aV S (ρ 10) j := fun j => e2 _ j (nmne kc ke (by dsimp only; omega))
  have zd : ∀ j, aV S' (ρ 11) j = aV S (ρ 11) j := fun j => e2 _ j (nmne kd ke (by dsimp only; omega))
  funext j
  unfold sV
  simp only [e1.I, zr, zu, zw, zm, zp, zb, zh, za, zn, zc, zd]
  by_cases c : 162 ≤ j ∧ j < 170
  · rw [if_pos c]
    rw [if_neg (by omega)]
    rw [if_neg (by omega)]
    rw [if_neg (by omega)]
    rw [if_neg (by omega)]
    rw [if_neg (by omega)]
    rw [if_neg (by omega)]
    rw [if_neg (by omega)]
    rw [if_neg (by omega)]
    rw [if_neg (by omega)]
    rw [if_neg (by omega)]
    rw [if_neg (by omega)]
    rw [if_pos (by omega)]
  · rw [if_neg c]
    by_cases c1 : j < 170
    · by_cases d0 : j < 8
      · rw [if_pos d0, if_pos d0]
      rw [if_neg d0, if_neg d0]
      by_cases d1 : j < 14
      · rw [if_pos d1, if_pos d1]
      rw [if_neg d1, if_neg d1]
      by_cases d2 : j < 22
      · rw [if_pos d2, if_pos d2]
      rw [if_neg d2, if_neg d2]
      by_cases d3 : j < 30
      · rw [if_pos d3, if_pos d3]
      rw [if_neg d3, if_neg d3]
      by_cases d4 : j < 78
      · rw [if_pos d4, if_pos d4]
      rw [if_neg d4, if_neg d4]
      by_cases d5 : j < 126
      · rw [if_pos d5, if_pos d5]
      rw [if_neg d5, if_neg d5]
      by_cases d6 : j < 132
      · rw [if_pos d6, if_pos d6]
      rw [if_neg d6, if_neg d6]
      by_cases d7 : j < 138
      · rw [if_pos d7, if_pos d7]
      rw [if_neg d7, if_neg d7]
      by_cases d8 : j < 146
      · rw [if_pos d8, if_pos d8]
      rw [if_neg d8, if_neg d8]
      by_cases d9 : j < 154
      · rw [if_pos d9, if_pos d9]
      rw [if_neg d9, if_neg d9]
      by_cases d10 : j < 162
      · rw [if_pos d10, if_pos d10]
      rw [if_neg d10, if_neg d10]
      omega
    · have q : ¬ (j < 170) := c1
      simp only [if_neg q, if_neg (show ¬ (j < 8) by omega), if_neg (show ¬ (j < 14) by omega), if_neg (show ¬ (j < 22) by omega), if_neg (show ¬ (j < 30) by omega), if_neg (show ¬ (j < 78) by omega), if_neg (show ¬ (j < 126) by omega), if_neg (show ¬ (j < 132) by omega), if_neg (show ¬ (j < 138) by omega), if_neg (show ¬ (j < 146) by omega), if_neg (show ¬ (j < 154) by omega), if_neg (show ¬ (j < 162) by omega)]
theorem sV_se {m : Nat} {x : Int32} (h : St Γ Φ S) (hb : Γ b = some (8, 8 + 10000 * i, i, 0, ρ)) (hm : m < 8) (e1 : sEq S S') (e2 : ∀ d j, d ≠ ρ 8 → aV S' d j = aV S d j) (e3 : ∀ j, aV S' (ρ 8) j = if j = m then x else aV S (ρ 8) j) : sV S' b ρ = upd (sV S b ρ) (162 + m) x := by
  rw [sV_fe h hb e1 e2]
  funext j
  unfold upd
  by_cases c : j = 162 + m
  · subst c
    rw [if_pos (by omega), if_pos rfl, e3, if_pos (by omega)]
  · rw [if_neg c]
    split
    · rename_i d
      rw [e3, if_neg (by omega), sV_e (S := S) (b := b) (ρ := ρ) (by omega), show 162 + (j - 162) = j by omega]
    · rfl
theorem sV_fc (h : St Γ Φ S) (hb : Γ b = some (8, 8 + 10000 * i, i, 0, ρ)) (e1 : sEq S S') (e2 : ∀ d j, d ≠ ρ 10 → aV S' d j = aV S d j) : sV S' b ρ = fun j => if 170 ≤ j ∧ j < 181 ∧ j % 2 = 0 then aV S' (ρ 10) ((j - 170) / 2) else sV S b ρ j := by
  obtain ⟨kg, kr, ku, kw, km, kp, kb, kh, ka, kn, ke, kc, kd⟩ := sK h hb
  have zr : ∀ j, aV S' (bk 0 ρ 0) j = aV S (bk 0 ρ 0) j := fun j => e2 _ j (nmne kr kc (by dsimp only; omega))
  have zu : ∀ j, aV S' (bk 0 ρ 1) j = aV S (bk 0 ρ 1) j := fun j => e2 _ j (nmne ku kc (by dsimp only; omega))
  have zw : ∀ j, aV S' (bk 0 ρ 2) j = aV S (bk 0 ρ 2) j := fun j => e2 _ j (nmne kw kc (by dsimp only; omega))
  have zm : ∀ j, aV S' (bk 0 ρ 3) j = aV S (bk 0 ρ 3) j := fun j => e2 _ j (nmne km kc (by dsimp only; omega))
  have zp : ∀ j, aV S' (ρ 2) j = aV S (ρ 2) j := fun j => e2 _ j (nmne kp kc (by dsimp only; omega))
  have zb : ∀ j, aV S' (ρ 3) j = aV S (ρ 3) j := fun j => e2 _ j (nmne kb kc (by dsimp only; omega))
  have zh : ∀ j, aV S' (ρ 5) j = aV S (ρ 5) j := fun j => e2 _ j (nmne kh kc (by dsimp only; omega))
  have za : ∀ j, aV S' (ρ 6) j = aV S (ρ 6) j := fun j => e2 _ j (nmne ka kc (by dsimp only; omega))
  have zn : ∀ j, aV S' (ρ 7) j = aV S (ρ 7) j := fun j => e2 _ j (nmne kn kc (by dsimp only; omega))
  have ze : ∀ j, aV S' (ρ 8) j = aV S (ρ 8) j := fun j => e2 _ j (nmne ke kc (by dsimp only; omega))
  have zd : ∀ j, aV S' (ρ 11) j = aV S (ρ 11) j := fun j => e2 _ j (nmne kd kc (by dsimp only; omega))
  funext j
  unfold sV
  simp only [e1.I, zr, zu, zw, zm, zp, zb, zh, za, zn, ze, zd]
  by_cases c : 170 ≤ j ∧ j < 181 ∧ j % 2 = 0
  · rw [if_pos c]
    simp only [if_neg (show ¬ (j < 8) by omega), if_neg (show ¬ (j < 14) by omega), if_neg (show ¬ (j < 22) by omega), if_neg (show ¬ (j < 30) by omega), if_neg (show ¬ (j < 78) by omega), if_neg (show ¬ (j < 126) by omega), if_neg (show ¬ (j < 132) by omega), if_neg (show ¬ (j < 138) by omega), if_neg (show ¬ (j < 146) by omega), if_neg (show ¬ (j < 154) by omega), if_neg (show ¬ (j < 162) by omega), if_neg (show ¬ (j < 170) by omega), if_pos (show j < 182 by omega), if_pos (show j % 2 = 0 by omega)]
  · rw [if_neg c]
    by_cases c1 : 170 ≤ j ∧ j < 182
    · simp only [if_neg (show ¬ (j < 8) by omega), if_neg (show ¬ (j < 14) by omega), if_neg (show ¬ (j < 22) by omega), if_neg (show ¬ (j < 30) by omega), if_neg (show ¬ (j < 78) by omega), if_neg (show ¬ (j < 126) by omega), if_neg (show ¬ (j < 132) by omega), if_neg (show ¬ (j < 138) by omega), if_neg (show ¬ (j < 146) by omega), if_neg (show ¬ (j < 154) by omega), if_neg (show ¬ (j < 162) by omega), if_neg (show ¬ (j < 170) by omega), if_neg (show ¬ j % 2 = 0 by omega)]
    · by_cases c2 : j < 170
      · by_cases d0 : j < 8
        · rw [if_pos d0, if_pos d0]
        rw [if_neg d0, if_neg d0]
        by_cases d1 : j < 14
        · rw [if_pos d1, if_pos d1]
        rw [if_neg d1, if_neg d1]
        by_cases d2 : j < 22
        · rw [if_pos d2, if_pos d2]
        rw [if_neg d2, if_neg d2]
        by_cases d3 : j < 30
        · rw [if_pos d3, if_pos d3]
        rw [if_neg d3, if_neg d3]
        by_cases d4 : j < 78
        · rw [if_pos d4, if_pos d4]
        rw [if_neg d4, if_neg d4]
        by_cases d5 : j < 126
        · rw [if_pos d5, if_pos d5]
        rw [if_neg d5, if_neg d5]
        by_cases d6 : j < 132
        · rw [if_pos d6, if_pos d6]
        rw [if_neg d6, if_neg d6]
        by_cases d7 : j < 138
        · rw [if_pos d7, if_pos d7]
        rw [if_neg d7, if_neg d7]
        by_cases d8 : j < 146
        · rw [if_pos d8, if_pos d8]
        rw [if_neg d8, if_neg d8]
        by_cases d9 : j < 154
        · rw [if_pos d9, if_pos d9]
        rw [if_neg d9, if_neg d9]
        by_cases d10 : j < 162
        · rw [if_pos d10, if_pos d10]
        rw [if_neg d10, if_neg d10]
        rw [if_pos c2, if_pos c2]
      · have q1 : ¬ j < 182 := by omega
        simp only [if_neg q1, if_neg (show ¬ (j < 8) by omega), if_neg (show ¬ (j < 14) by omega), if_neg (show ¬ (j < 22) by omega), if_neg (show ¬ (j < 30) by omega), if_neg (show ¬ (j < 78) by omega), if_neg (show ¬ (j < 126) by omega), if_neg (show ¬ (j < 132) by omega), if_neg (show ¬ (j < 138) by omega), if_neg (show ¬ (j < 146) by omega), if_neg (show ¬ (j < 154) by omega), if_neg (show ¬ (j < 162) by omega), if_neg (show ¬ (j < 170) by omega)]
theorem sV_sc {m : Nat} {x : Int32} (h : St Γ Φ S) (hb : Γ b = some (8, 8 + 10000 * i, i, 0, ρ)) (hm : m < 6) (e1 : sEq S S') (e2 : ∀ d j, d ≠ ρ 10 → aV S' d j = aV S d j) (e3 : ∀ j, aV S' (ρ 10) j = if j = m then x else aV S (ρ 10) j) : sV S' b ρ = upd (sV S b ρ) (170 + 2 * m) x := by
  rw [sV_fc h hb e1 e2]
  funext j
  unfold upd
  by_cases c : j = 170 + 2 * m
  · subst c
    rw [if_pos (by omega), if_pos rfl, e3, if_pos (by omega)]
  · rw [if_neg c]
    split
    · rename_i d
      rw [e3, if_neg (by omega), sV_c (S := S) (b := b) (ρ := ρ) (by omega), show 170 + 2 * ((j - 170) / 2) = j by omega]
    · rfl
theorem sV_fd (h : St Γ Φ S) (hb : Γ b = some (8, 8 + 10000 * i, i, 0, ρ)) (e1 : sEq S S') (e2 : ∀ d j, d ≠ ρ 11 → aV S' d j = aV S d j) : sV S' b ρ = fun j => if 171 ≤ j ∧ j < 182 ∧ j % 2 = 1 then aV S' (ρ 11) ((j - 170) / 2) else sV S b ρ j := by
  obtain ⟨kg, kr, ku, kw, km, kp, kb, kh, ka, kn, ke, kc, kd⟩ := sK h hb
  have zr : ∀ j, aV S' (bk 0 ρ 0) j = aV S (bk 0 ρ 0) j := fun j => e2 _ j (nmne kr kd (by dsimp only; omega))
  have zu : ∀ j, aV S' (bk 0 ρ 1) j = aV S (bk 0 ρ 1) j := fun j => e2 _ j (nmne ku kd (by dsimp only; omega))
  have zw : ∀ j, aV S' (bk 0 ρ 2) j = aV S (bk 0 ρ 2) j := fun j => e2 _ j (nmne kw kd (by dsimp only; omega))
  have zm : ∀ j, aV S' (bk 0 ρ 3) j = aV S (bk 0 ρ 3) j := fun j => e2 _ j (nmne km kd (by dsimp only; omega))
  have zp : ∀ j, aV S' (ρ 2) j = aV S (ρ 2) j := fun j => e2 _ j (nmne kp kd (by dsimp only; omega))
  have zb : ∀ j, aV S' (ρ 3) j = aV S (ρ 3) j := fun j => e2 _ j (nmne kb kd (by dsimp only; omega))
  have zh : ∀ j, aV S' (ρ 5) j = aV S (ρ 5) j := fun j => e2 _ j (nmne kh kd (by dsimp only; omega))
  have za : ∀ j, aV S' (ρ 6) j = aV S (ρ 6) j := fun j => e2 _ j (nmne ka kd (by dsimp only; omega))
  have zn : ∀ j, aV S' (ρ 7) j = aV S (ρ 7) j := fun j => e2 _ j (nmne kn kd (by dsimp only; omega))
  have ze : ∀ j, aV S' (ρ 8) j = aV S (ρ 8) j := fun j => e2 _ j (nmne ke kd (by dsimp only; omega))
  have zc : ∀ j, aV S' (ρ 10) j = aV S (ρ 10) j := fun j => e2 _ j (nmne kc kd (by dsimp only; omega))
  funext j
  unfold sV
  simp only [e1.I, zr, zu, zw, zm, zp, zb, zh, za, zn, ze, zc]
  by_cases c : 171 ≤ j ∧ j < 182 ∧ j % 2 = 1
  · rw [if_pos c]
    simp only [if_neg (show ¬ (j < 8) by omega), if_neg (show ¬ (j < 14) by omega), if_neg (show ¬ (j < 22) by omega), if_neg (show ¬ (j < 30) by omega), if_neg (show ¬ (j < 78) by omega), if_neg (show ¬ (j < 126) by omega), if_neg (show ¬ (j < 132) by omega), if_neg (show ¬ (j < 138) by omega), if_neg (show ¬ (j < 146) by omega), if_neg (show ¬ (j < 154) by omega), if_neg (show ¬ (j < 162) by omega), if_neg (show ¬ (j < 170) by omega), if_pos (show j < 182 by omega), if_neg (show ¬ j % 2 = 0 by omega)]
  · rw [if_neg c]
    by_cases c1 : 170 ≤ j ∧ j < 182
    · simp only [if_neg (show ¬ (j < 8) by omega), if_neg (show ¬ (j < 14) by omega), if_neg (show ¬ (j < 22) by omega), if_neg (show ¬ (j < 30) by omega), if_neg (show ¬ (j < 78) by omega), if_neg (show ¬ (j < 126) by omega), if_neg (show ¬ (j < 132) by omega), if_neg (show ¬ (j < 138) by omega), if_neg (show ¬ (j < 146) by omega), if_neg (show ¬ (j < 154) by omega), if_neg (show ¬ (j < 162) by omega), if_neg (show ¬ (j < 170) by omega), if_pos (show j % 2 = 0 by omega)]
    · by_cases c2 : j < 170
      · by_cases d0 : j < 8
        · rw [if_pos d0, if_pos d0]
        rw [if_neg d0, if_neg d0]
        by_cases d1 : j < 14
        · rw [if_pos d1, if_pos d1]
        rw [if_neg d1, if_neg d1]
        by_cases d2 : j < 22
        · rw [if_pos d2, if_pos d2]
        rw [if_neg d2, if_neg d2]
        by_cases d3 : j < 30
        · rw [if_pos d3, if_pos d3]
        rw [if_neg d3, if_neg d3]
        by_cases d4 : j < 78
        · rw [if_pos d4, if_pos d4]
        rw [if_neg d4, if_neg d4]
        by_cases d5 : j < 126
        · rw [if_pos d5, if_pos d5]
        rw [if_neg d5, if_neg d5]
        by_cases d6 : j < 132
        · rw [if_pos d6, if_pos d6]
        rw [if_neg d6, if_neg d6]
        by_cases d7 : j < 138
        · rw [if_pos d7, if_pos d7]
        rw [if_neg d7, if_neg d7]
        by_cases d8 : j < 146
        · rw [if_pos d8, if_pos d8]
        rw [if_neg d8, if_neg d8]
        by_cases d9 : j < 154
        · rw [if_pos d9, if_pos d9]
        rw [if_neg d9, if_neg d9]
        by_cases d10 : j < 162
        · rw [if_pos d10, if_pos d10]
        rw [if_neg d10, if_neg d10]
        rw [if_pos c2, if_pos c2]
      · have q1 : ¬ j < 182 := by omega
        simp only [if_neg q1, if_neg (show ¬ (j < 8) by omega), if_neg (show ¬ (j < 14) by omega), if_neg (show ¬ (j < 22) by omega), if_neg (show ¬ (j < 30) by omega), if_neg (show ¬ (j < 78) by omega), if_neg (show ¬ (j < 126) by omega), if_neg (show ¬ (j < 132) by omega), if_neg (show ¬ (j < 138) by omega), if_neg (show ¬ (j < 146) by omega), if_neg (show ¬ (j < 154) by omega), if_neg (show ¬ (j < 162) by omega), if_neg (show ¬ (j < 170) by omega)]
theorem sV_sd {m : Nat} {x : Int32} (h : St Γ Φ S) (hb : Γ b = some (8, 8 + 10000 * i, i, 0, ρ)) (hm : m < 6) (e1 : sEq S S') (e2 : ∀ d j, d ≠ ρ 11 → aV S' d j = aV S d j) (e3 : ∀ j, aV S' (ρ 11) j = if j = m then x else aV S (ρ 11) j) : sV S' b ρ = upd (sV S b ρ) (171 + 2 * m) x := by
  rw [sV_fd h hb e1 e2]
  funext j
  unfold upd
  by_cases c : j = 171 + 2 * m
  · subst c
    rw [if_pos (by omega), if_pos rfl, e3, if_pos (by omega)]
  · rw [if_neg c]
    split
    · rename_i d
      rw [e3, if_neg (by omega), sV_d (S := S) (b := b) (ρ := ρ) (by omega), show 171 + 2 * ((j - 170) / 2) = j by omega]
    · rfl
theorem V_gI_1 {P : Int32 → Prop} (h : St Γ Φ S) (hb : Γ b = some (8, 8 + 10000 * i, i, 0, ρ)) (k : 0 ≤ (sV S b ρ 0).toInt ∧ (sV S b ρ 0).toInt ≤ 6 → P (sV S b ρ 0)) : gI S b 8 1 P := T_gI_8_1 h hb (fun x e r => by subst e; exact k r.2)
theorem V_pI_1 {P : hS → Prop} {x : Int32} (h : St Γ Φ S) (hb : Γ b = some (8, 8 + 10000 * i, i, 0, ρ)) (hf : fre Γ Φ L) (hm : 8 + 10000 * i ∈ L) (hx : 0 ≤ x.toInt ∧ x.toInt ≤ 6) (k : ∀ S', St Γ Φ S' → sV S' b ρ = upd (sV S b ρ) 0 x → P S') : pI S b 8 1 x P := T_pI_8_1 h hf hb hm hx (fun S' h' e1 e2 e3 => k S' h' (sV_p1 h hb e1 e2 e3))
theorem V_gI_4 {P : Int32 → Prop} (h : St Γ Φ S) (hb : Γ b = some (8, 8 + 10000 * i, i, 0, ρ)) (k : 0 ≤ (sV S b ρ 1).toInt ∧ (sV S b ρ 1).toInt ≤ 8 → P (sV S b ρ 1)) : gI S b 8 4 P := T_gI_8_4 h hb (fun x e r => by subst e; exact k r.2)
theorem V_pI_4 {P : hS → Prop} {x : Int32} (h : St Γ Φ S) (hb : Γ b = some (8, 8 + 10000 * i, i, 0, ρ)) (hf : fre Γ Φ L) (hm : 8 + 10000 * i ∈ L) (hx : 0 ≤ x.toInt ∧ x.toInt ≤ 8) (k : ∀ S', St Γ Φ S' → sV S' b ρ = upd (sV S b ρ) 1 x → P S') : pI S b 8 4 x P := T_pI_8_4 h hf hb hm hx (fun S' h' e1 e2 e3 => k S' h' (sV_p4 h hb e1 e2 e3))
theorem V_gI_9 {P : Int32 → Prop} (h : St Γ Φ S) (hb : Γ b = some (8, 8 + 10000 * i, i, 0, ρ)) (k : 0 ≤ (sV S b ρ 2).toInt ∧ (sV S b ρ 2).toInt ≤ 6 → P (sV S b ρ 2)) : gI S b 8 9 P := T_gI_8_9 h hb (fun x e r => by subst e; exact k r.2)
theorem V_pI_9 {P : hS → Prop} {x : Int32} (h : St Γ Φ S) (hb : Γ b = some (8, 8 + 10000 * i, i, 0, ρ)) (hf : fre Γ Φ L) (hm : 8 + 10000 * i ∈ L) (hx : 0 ≤ x.toInt ∧ x.toInt ≤ 6) (k : ∀ S', St Γ Φ S' → sV S' b ρ = upd (sV S b ρ) 2 x → P S') : pI S b 8 9 x P := T_pI_8_9 h hf hb hm hx (fun S' h' e1 e2 e3 => k S' h' (sV_p9 h hb e1 e2 e3))
theorem V_gI_14 {P : Int32 → Prop} (h : St Γ Φ S) (hb : Γ b = some (8, 8 + 10000 * i, i, 0, ρ)) (k : 0 ≤ (sV S b ρ 3).toInt ∧ (sV S b ρ 3).toInt ≤ 6 → P (sV S b ρ 3)) : gI S b 8 14 P := T_gI_8_14 h hb (fun x e r => by subst e; exact k r.2)
theorem V_pI_14 {P : hS → Prop} {x : Int32} (h : St Γ Φ S) (hb : Γ b = some (8, 8 + 10000 * i, i, 0, ρ)) (hf : fre Γ Φ L) (hm : 8 + 10000 * i ∈ L) (hx : 0 ≤ x.toInt ∧ x.toInt ≤ 6) (k : ∀ S', St Γ Φ S' → sV S' b ρ = upd (sV S b ρ) 3 x → P S') : pI S b 8 14 x P := T_pI_8_14 h hf hb hm hx (fun S' h' e1 e2 e3 => k S' h' (sV_p14 h hb e1 e2 e3))
theorem V_gI_16 {P : Int32 → Prop} (h : St Γ Φ S) (hb : Γ b = some (8, 8 + 10000 * i, i, 0, ρ)) (k : P (sV S b ρ 4)) : gI S b 8 16 P := T_gI_8_16 h hb (fun x e r => by subst e; exact k)
theorem V_pI_16 {P : hS → Prop} {x : Int32} (h : St Γ Φ S) (hb : Γ b = some (8, 8 + 10000 * i, i, 0, ρ)) (hf : fre Γ Φ L) (hm : 8 + 10000 * i ∈ L) (k : ∀ S', St Γ Φ S' → sV S' b ρ = upd (sV S b ρ) 4 x → P S') : pI S b 8 16 x P := T_pI_8_16 h hf hb hm (fun S' h' e1 e2 e3 => k S' h' (sV_p16 h hb e1 e2 e3))
theorem V_gI_12 {P : Int32 → Prop} (h : St Γ Φ S) (hb : Γ b = some (8, 8 + 10000 * i, i, 0, ρ)) (k : P (sV S b ρ 6)) : gI S b 8 12 P := T_gI_8_12 h hb (fun x e r => by subst e; exact k)
theorem V_pI_12 {P : hS → Prop} {x : Int32} (h : St Γ Φ S) (hb : Γ b = some (8, 8 + 10000 * i, i, 0, ρ)) (hf : fre Γ Φ L) (hm : 8 + 10000 * i ∈ L) (k : ∀ S', St Γ Φ S' → sV S' b ρ = upd (sV S b ρ) 6 x → P S') : pI S b 8 12 x P := T_pI_8_12 h hf hb hm (fun S' h' e1 e2 e3 => k S' h' (sV_p12 h hb e1 e2 e3))
theorem V_gI_13 {P : Int32 → Prop} (h : St Γ Φ S) (hb : Γ b = some (8, 8 + 10000 * i, i, 0, ρ)) (k : P (sV S b ρ 7)) : gI S b 8 13 P := T_gI_8_13 h hb (fun x e r => by subst e; exact k)
theorem V_pI_13 {P : hS → Prop} {x : Int32} (h : St Γ Φ S) (hb : Γ b = some (8, 8 + 10000 * i, i, 0, ρ)) (hf : fre Γ Φ L) (hm : 8 + 10000 * i ∈ L) (k : ∀ S', St Γ Φ S' → sV S' b ρ = upd (sV S b ρ) 7 x → P S') : pI S b 8 13 x P := T_pI_8_13 h hf hb hm (fun S' h' e1 e2 e3 => k S' h' (sV_p13 h hb e1 e2 e3))
theorem V_gI_y {P : Int32 → Prop} (h : St Γ Φ S) (hb : Γ b = some (8, 8 + 10000 * i, i, 0, ρ)) (k : P (sV S b ρ 5)) : gI S (ρ 0) 2 5 P := T_gI_2_5 h (P_8_0 h hb).2 (fun x e r => by subst e; exact k)
theorem V_pI_y {P : hS → Prop} {x : Int32} (h : St Γ Φ S) (hb : Γ b = some (8, 8 + 10000 * i, i, 0, ρ)) (hf : fre Γ Φ L) (hm : 2 + 10000 * i ∈ L) (k : ∀ S', St Γ Φ S' → sV S' b ρ = upd (sV S b ρ) 5 x → P S') : pI S (ρ 0) 2 5 x P := T_pI_2_5 h hf (P_8_0 h hb).2 hm (fun S' h' e1 e2 e3 => k S' h' (sV_p25 h hb e1 e2 e3))
theorem V_pI_d {P : hS → Prop} {x : Int32} (h : St Γ Φ S) (hb : Γ b = some (8, 8 + 10000 * i, i, 0, ρ)) (hf : fre Γ Φ L) (hm : 2 + 10000 * i ∈ L) (k : ∀ S', St Γ Φ S' → (sV S' b ρ = fun j => if 22 ≤ j ∧ j < 30 then dB x (j - 22) else sV S b ρ j) → fI S' (ρ 0) 4 = x → P S') : pI S (ρ 0) 2 4 x P := T_pI_2_4 h hf (P_8_0 h hb).2 hm (fun S' h' e1 e2 e3 => k S' h' (sV_p24 h hb e1 e2 e3) e1)
theorem V_aI_r {P : Int32 → Prop} {j : Int32} {m : Nat} (h : St Γ Φ S) (hb : Γ b = some (8, 8 + 10000 * i, i, 0, ρ)) (hj : j.toInt = m) (hm : m < 48) (k : P (sV S b ρ (30 + m))) : aI S (bk 0 ρ 0) j P := by
  have ej : j.toNatClampNeg = m := by
    have := cl_eq (i := j) (by omega)
    omega
  refine T_aI_20 h (sK h hb).2.1 (by omega) (fun x e _ => ?_)
  rw [ej, sV_r (b := b) hm] at e
  subst e; exact k
theorem V_sI_r {P : hS → Prop} {j x : Int32} {m : Nat} (h : St Γ Φ S) (hb : Γ b = some (8, 8 + 10000 * i, i, 0, ρ)) (hf : fre Γ Φ L) (hL : 300 + 10000 * i ∈ L) (hj : j.toInt = m) (hm : m < 48) (k : ∀ S', St Γ Φ S' → sV S' b ρ = upd (sV S b ρ) (30 + m) x → P S') : sI S (bk 0 ρ 0) j x P := by
  have ej : j.toNatClampNeg = m := by
    have := cl_eq (i := j) (by omega)
    omega
  refine T_sI_20 h hf (sK h hb).2.1 hL (by omega) (fun S' h' e1 e2 e3 e4 => k S' h' (sV_sr h hb hm e1 e2 (fun j => ?_)))
  rw [e4, ej]
theorem V_cI_r {P : hS → Prop} {a i' : Nat} {ρ' : Nat → Nat} {z m : Int32} (h : St Γ Φ S) (hb : Γ b = some (8, 8 + 10000 * i, i, 0, ρ)) (ha : Γ a = some (8, 8 + 10000 * i', i', 0, ρ')) (hf : fre Γ Φ L) (hL : 300 + 10000 * i ∈ L) (hz : z = 0) (hm : m.toInt = (48 : Nat)) (k : ∀ S', St Γ Φ S' → (sV S' b ρ = fun j => if 30 ≤ j ∧ j < 78 then sV S a ρ' j else sV S b ρ j) → P S') : cI S (bk 0 ρ' 0) z (bk 0 ρ 0) z m P := by
  subst hz
  have z0 : (0 : Int32).toInt = 0 := by decide
  have c0 : (0 : Int32).toNatClampNeg = 0 := by decide
  have em : m.toNatClampNeg = 48 := by
    have := cl_eq (i := m) (by omega)
    omega
  refine T_cI_20 h (sK h ha).2.1 hf (sK h hb).2.1 hL (by omega) (fun S' h' e1 e2 e3 e4 => k S' h' ?_)
  rw [sV_fr h hb e1 e2]
  funext j
  split
  · rename_i d
    rw [e4, c0, em]
    unfold va_cpy
    rw [if_pos (by omega), show 0 + (j - 30 - 0) = j - 30 by omega, sV_r (S := S) (b := a) (ρ := ρ') (by omega), show 30 + (j - 30) = j by omega]
  · rfl
theorem V_aI_u {P : Int32 → Prop} {j : Int32} {m : Nat} (h : St Γ Φ S) (hb : Γ b = some (8, 8 + 10000 * i, i, 0, ρ)) (hj : j.toInt = m) (hm : m < 48) (k : P (sV S b ρ (78 + m))) : aI S (bk 0 ρ 1) j P := by
  have ej : j.toNatClampNeg = m := by
    have := cl_eq (i := j) (by omega)
    omega
  refine T_aI_20 h (sK h hb).2.2.1 (by omega) (fun x e _ => ?_)
  rw [ej, sV_u (b := b) hm] at e
  subst e; exact k
theorem V_sI_u {P : hS → Prop} {j x : Int32} {m : Nat} (h : St Γ Φ S) (hb : Γ b = some (8, 8 + 10000 * i, i, 0, ρ)) (hf : fre Γ Φ L) (hL : 301 + 10000 * i ∈ L) (hj : j.toInt = m) (hm : m < 48) (k : ∀ S', St Γ Φ S' → sV S' b ρ = upd (sV S b ρ) (78 + m) x → P S') : sI S (bk 0 ρ 1) j x P := by
  have ej : j.toNatClampNeg = m := by
    have := cl_eq (i := j) (by omega)
    omega
  refine T_sI_20 h hf (sK h hb).2.2.1 hL (by omega) (fun S' h' e1 e2 e3 e4 => k S' h' (sV_su h hb hm e1 e2 (fun j => ?_)))
  rw [e4, ej]
theorem V_cI_u {P : hS → Prop} {a i' : Nat} {ρ' : Nat → Nat} {z m : Int32} (h : St Γ Φ S) (hb : Γ b = some (8, 8 + 10000 * i, i, 0, ρ)) (ha : Γ a = some (8, 8 + 10000 * i', i', 0, ρ')) (hf : fre Γ Φ L) (hL : 301 + 10000 * i ∈ L) (hz : z = 0) (hm : m.toInt = (48 : Nat)) (k : ∀ S', St Γ Φ S' → (sV S' b ρ = fun j => if 78 ≤ j ∧ j < 126 then sV S a ρ' j else sV S b ρ j) → P S') : cI S (bk 0 ρ' 1) z (bk 0 ρ 1) z m P := by
  subst hz
  have z0 : (0 : Int32).toInt = 0 := by decide
  have c0 : (0 : Int32).toNatClampNeg = 0 := by decide
  have em : m.toNatClampNeg = 48 := by
    have := cl_eq (i := m) (by omega)
    omega
  refine T_cI_20 h (sK h ha).2.2.1 hf (sK h hb).2.2.1 hL (by omega) (fun S' h' e1 e2 e3 e4 => k S' h' ?_)
  rw [sV_fu h hb e1 e2]
  funext j
  split
  · rename_i d
    rw [e4, c0, em]
    unfold va_cpy
    rw [if_pos (by omega), show 0 + (j - 78 - 0) = j - 78 by omega, sV_u (S := S) (b := a) (ρ := ρ') (by omega), show 78 + (j - 78) = j by omega]
  · rfl
theorem V_aI_w {P : Int32 → Prop} {j : Int32} {m : Nat} (h : St Γ Φ S) (hb : Γ b = some (8, 8 + 10000 * i, i, 0, ρ)) (hj : j.toInt = m) (hm : m < 6) (k : P (sV S b ρ (8 + m))) : aI S (bk 0 ρ 2) j P := by
  have ej : j.toNatClampNeg = m := by
    have := cl_eq (i := j) (by omega)
    omega
  refine T_aI_20 h (sK h hb).2.2.2.1 (by omega) (fun x e _ => ?_)
  rw [ej, sV_w (b := b) hm] at e
  subst e; exact k
theorem V_sI_w {P : hS → Prop} {j x : Int32} {m : Nat} (h : St Γ Φ S) (hb : Γ b = some (8, 8 + 10000 * i, i, 0, ρ)) (hf : fre Γ Φ L) (hL : 302 + 10000 * i ∈ L) (hj : j.toInt = m) (hm : m < 6) (k : ∀ S', St Γ Φ S' → sV S' b ρ = upd (sV S b ρ) (8 + m) x → P S') : sI S (bk 0 ρ 2) j x P := by
  have ej : j.toNatClampNeg = m := by
    have := cl_eq (i := j) (by omega)
    omega
  refine T_sI_20 h hf (sK h hb).2.2.2.1 hL (by omega) (fun S' h' e1 e2 e3 e4 => k S' h' (sV_sw h hb hm e1 e2 (fun j => ?_)))
  rw [e4, ej]
theorem V_cI_w {P : hS → Prop} {a i' : Nat} {ρ' : Nat → Nat} {z m : Int32} (h : St Γ Φ S) (hb : Γ b = some (8, 8 + 10000 * i, i, 0, ρ)) (ha : Γ a = some (8, 8 + 10000 * i', i', 0, ρ')) (hf : fre Γ Φ L) (hL : 302 + 10000 * i ∈ L) (hz : z = 0) (hm : m.toInt = (6 : Nat)) (k : ∀ S', St Γ Φ S' → (sV S' b ρ = fun j => if 8 ≤ j ∧ j < 14 then sV S a ρ' j else sV S b ρ j) → P S') : cI S (bk 0 ρ' 2) z (bk 0 ρ 2) z m P := by
  subst hz
  have z0 : (0 : Int32).toInt = 0 := by decide
  have c0 : (0 : Int32).toNatClampNeg = 0 := by decide
  have em : m.toNatClampNeg = 6 := by
    have := cl_eq (i := m) (by omega)
    omega
  refine T_cI_20 h (sK h ha).2.2.2.1 hf (sK h hb).2.2.2.1 hL (by omega) (fun S' h' e1 e2 e3 e4 => k S' h' ?_)
  rw [sV_fw h hb e1 e2]
  funext j
  split
  · rename_i d
    rw [e4, c0, em]
    unfold va_cpy
    rw [if_pos (by omega), show 0 + (j - 8 - 0) = j - 8 by omega, sV_w (S := S) (b := a) (ρ := ρ') (by omega), show 8 + (j - 8) = j by omega]
  · rfl
theorem V_aI_m {P : Int32 → Prop} {j : Int32} {m : Nat} (h : St Γ Φ S) (hb : Γ b = some (8, 8 + 10000 * i, i, 0, ρ)) (hj : j.toInt = m) (hm : m < 8) (k : P (sV S b ρ (14 + m))) : aI S (bk 0 ρ 3) j P := by
  have ej : j.toNatClampNeg = m := by
    have := cl_eq (i := j) (by omega)
    omega
  refine T_aI_20 h (sK h hb).2.2.2.2.1 (by omega) (fun x e _ => ?_)
  rw [ej, sV_m (b := b) hm] at e
  subst e; exact k
theorem V_sI_m {P : hS → Prop} {j x : Int32} {m : Nat} (h : St Γ Φ S) (hb : Γ b = some (8, 8 + 10000 * i, i, 0, ρ)) (hf : fre Γ Φ L) (hL : 303 + 10000 * i ∈ L) (hj : j.toInt = m) (hm : m < 8) (k : ∀ S', St Γ Φ S' → sV S' b ρ = upd (sV S b ρ) (14 + m) x → P S') : sI S (bk 0 ρ 3) j x P := by
  have ej : j.toNatClampNeg = m := by
    have := cl_eq (i := j) (by omega)
    omega
  refine T_sI_20 h hf (sK h hb).2.2.2.2.1 hL (by omega) (fun S' h' e1 e2 e3 e4 => k S' h' (sV_sm h hb hm e1 e2 (fun j => ?_)))
  rw [e4, ej]
theorem V_cI_m {P : hS → Prop} {a i' : Nat} {ρ' : Nat → Nat} {z m : Int32} (h : St Γ Φ S) (hb : Γ b = some (8, 8 + 10000 * i, i, 0, ρ)) (ha : Γ a = some (8, 8 + 10000 * i', i', 0, ρ')) (hf : fre Γ Φ L) (hL : 303 + 10000 * i ∈ L) (hz : z = 0) (hm : m.toInt = (8 : Nat)) (k : ∀ S', St Γ Φ S' → (sV S' b ρ = fun j => if 14 ≤ j ∧ j < 22 then sV S a ρ' j else sV S b ρ j) → P S') : cI S (bk 0 ρ' 3) z (bk 0 ρ 3) z m P := by
  subst hz
  have z0 : (0 : Int32).toInt = 0 := by decide
  have c0 : (0 : Int32).toNatClampNeg = 0 := by decide
  have em : m.toNatClampNeg = 8 := by
    have := cl_eq (i := m) (by omega)
    omega
  refine T_cI_20 h (sK h ha).2.2.2.2.1 hf (sK h hb).2.2.2.2.1 hL (by omega) (fun S' h' e1 e2 e3 e4 => k S' h' ?_)
  rw [sV_fm h hb e1 e2]
  funext j
  split
  · rename_i d
    rw [e4, c0, em]
    unfold va_cpy
    rw [if_pos (by omega), show 0 + (j - 14 - 0) = j - 14 by omega, sV_m (S := S) (b := a) (ρ := ρ') (by omega), show 14 + (j - 14) = j by omega]
  · rfl
theorem V_aI_p {P : Int32 → Prop} {j : Int32} {m : Nat} (h : St Γ Φ S) (hb : Γ b = some (8, 8 + 10000 * i, i, 0, ρ)) (hj : j.toInt = m) (hm : m < 6) (k : P (sV S b ρ (126 + m))) : aI S (ρ 2) j P := by
  have ej : j.toNatClampNeg = m := by
    have := cl_eq (i := j) (by omega)
    omega
  refine T_aI_20 h (sK h hb).2.2.2.2.2.1 (by omega) (fun x e _ => ?_)
  rw [ej, sV_p (b := b) hm] at e
  subst e; exact k
theorem V_sI_p {P : hS → Prop} {j x : Int32} {m : Nat} (h : St Γ Φ S) (hb : Γ b = some (8, 8 + 10000 * i, i, 0, ρ)) (hf : fre Γ Φ L) (hL : 902 + 10000 * i ∈ L) (hj : j.toInt = m) (hm : m < 6) (k : ∀ S', St Γ Φ S' → sV S' b ρ = upd (sV S b ρ) (126 + m) x → P S') : sI S (ρ 2) j x P := by
  have ej : j.toNatClampNeg = m := by
    have := cl_eq (i := j) (by omega)
    omega
  refine T_sI_20 h hf (sK h hb).2.2.2.2.2.1 hL (by omega) (fun S' h' e1 e2 e3 e4 => k S' h' (sV_sp h hb hm e1 e2 (fun j => ?_)))
  rw [e4, ej]
theorem V_cI_p {P : hS → Prop} {a i' : Nat} {ρ' : Nat → Nat} {z m : Int32} (h : St Γ Φ S) (hb : Γ b = some (8, 8 + 10000 * i, i, 0, ρ)) (ha : Γ a = some (8, 8 + 10000 * i', i', 0, ρ')) (hf : fre Γ Φ L) (hL : 902 + 10000 * i ∈ L) (hz : z = 0) (hm : m.toInt = (6 : Nat)) (k : ∀ S', St Γ Φ S' → (sV S' b ρ = fun j => if 126 ≤ j ∧ j < 132 then sV S a ρ' j else sV S b ρ j) → P S') : cI S (ρ' 2) z (ρ 2) z m P := by
  subst hz
  have z0 : (0 : Int32).toInt = 0 := by decide
  have c0 : (0 : Int32).toNatClampNeg = 0 := by decide
  have em : m.toNatClampNeg = 6 := by
    have := cl_eq (i := m) (by omega)
    omega
  refine T_cI_20 h (sK h ha).2.2.2.2.2.1 hf (sK h hb).2.2.2.2.2.1 hL (by omega) (fun S' h' e1 e2 e3 e4 => k S' h' ?_)
  rw [sV_fp h hb e1 e2]
  funext j
  split
  · rename_i d
    rw [e4, c0, em]
    unfold va_cpy
    rw [if_pos (by omega), show 0 + (j - 126 - 0) = j - 126 by omega, sV_p (S := S) (b := a) (ρ := ρ') (by omega), show 126 + (j - 126) = j by omega]
  · rfl
theorem V_aI_b {P : Int32 → Prop} {j : Int32} {m : Nat} (h : St Γ Φ S) (hb : Γ b = some (8, 8 + 10000 * i, i, 0, ρ)) (hj : j.toInt = m) (hm : m < 6) (k : P (sV S b ρ (132 + m))) : aI S (ρ 3) j P := by
  have ej : j.toNatClampNeg = m := by
    have := cl_eq (i := j) (by omega)
    omega
  refine T_aI_20 h (sK h hb).2.2.2.2.2.2.1 (by omega) (fun x e _ => ?_)
  rw [ej, sV_b (b := b) hm] at e
  subst e; exact k
theorem V_sI_b {P : hS → Prop} {j x : Int32} {m : Nat} (h : St Γ Φ S) (hb : Γ b = some (8, 8 + 10000 * i, i, 0, ρ)) (hf : fre Γ Φ L) (hL : 903 + 10000 * i ∈ L) (hj : j.toInt = m) (hm : m < 6) (k : ∀ S', St Γ Φ S' → sV S' b ρ = upd (sV S b ρ) (132 + m) x → P S') : sI S (ρ 3) j x P := by
  have ej : j.toNatClampNeg = m := by
    have := cl_eq (i := j) (by omega)
    omega
  refine T_sI_20 h hf (sK h hb).2.2.2.2.2.2.1 hL (by omega) (fun S' h' e1 e2 e3 e4 => k S' h' (sV_sb h hb hm e1 e2 (fun j => ?_)))
  rw [e4, ej]
theorem V_cI_b {P : hS → Prop} {a i' : Nat} {ρ' : Nat → Nat} {z m : Int32} (h : St Γ Φ S) (hb : Γ b = some (8, 8 + 10000 * i, i, 0, ρ)) (ha : Γ a = some (8, 8 + 10000 * i', i', 0, ρ')) (hf : fre Γ Φ L) (hL : 903 + 10000 * i ∈ L) (hz : z = 0) (hm : m.toInt = (6 : Nat)) (k : ∀ S', St Γ Φ S' → (sV S' b ρ = fun j => if 132 ≤ j ∧ j < 138 then sV S a ρ' j else sV S b ρ j) → P S') : cI S (ρ' 3) z (ρ 3) z m P := by
  subst hz
  have z0 : (0 : Int32).toInt = 0 := by decide
  have c0 : (0 : Int32).toNatClampNeg = 0 := by decide
  have em : m.toNatClampNeg = 6 := by
    have := cl_eq (i := m) (by omega)
    omega
  refine T_cI_20 h (sK h ha).2.2.2.2.2.2.1 hf (sK h hb).2.2.2.2.2.2.1 hL (by omega) (fun S' h' e1 e2 e3 e4 => k S' h' ?_)
  rw [sV_fb h hb e1 e2]
  funext j
  split
  · rename_i d
    rw [e4, c0, em]
    unfold va_cpy
    rw [if_pos (by omega), show 0 + (j - 132 - 0) = j - 132 by omega, sV_b (S := S) (b := a) (ρ := ρ') (by omega), show 132 + (j - 132) = j by omega]
  · rfl
theorem V_aI_h {P : Int32 → Prop} {j : Int32} {m : Nat} (h : St Γ Φ S) (hb : Γ b = some (8, 8 + 10000 * i, i, 0, ρ)) (hj : j.toInt = m) (hm : m < 8) (k : P (sV S b ρ (138 + m))) : aI S (ρ 5) j P := by
  have ej : j.toNatClampNeg = m := by
    have := cl_eq (i := j) (by omega)
    omega
  refine T_aI_20 h (sK h hb).2.2.2.2.2.2.2.1 (by omega) (fun x e _ => ?_)
  rw [ej, sV_h (b := b) hm] at e
  subst e; exact k
theorem V_sI_h {P : hS → Prop} {j x : Int32} {m : Nat} (h : St Γ Φ S) (hb : Γ b = some (8, 8 + 10000 * i, i, 0, ρ)) (hf : fre Γ Φ L) (hL : 905 + 10000 * i ∈ L) (hj : j.toInt = m) (hm : m < 8) (k : ∀ S', St Γ Φ S' → sV S' b ρ = upd (sV S b ρ) (138 + m) x → P S') : sI S (ρ 5) j x P := by
  have ej : j.toNatClampNeg = m := by
    have := cl_eq (i := j) (by omega)
    omega
  refine T_sI_20 h hf (sK h hb).2.2.2.2.2.2.2.1 hL (by omega) (fun S' h' e1 e2 e3 e4 => k S' h' (sV_sh h hb hm e1 e2 (fun j => ?_)))
  rw [e4, ej]
theorem V_cI_h {P : hS → Prop} {a i' : Nat} {ρ' : Nat → Nat} {z m : Int32} (h : St Γ Φ S) (hb : Γ b = some (8, 8 + 10000 * i, i, 0, ρ)) (ha : Γ a = some (8, 8 + 10000 * i', i', 0, ρ')) (hf : fre Γ Φ L) (hL : 905 + 10000 * i ∈ L) (hz : z = 0) (hm : m.toInt = (8 : Nat)) (k : ∀ S', St Γ Φ S' → (sV S' b ρ = fun j => if 138 ≤ j ∧ j < 146 then sV S a ρ' j else sV S b ρ j) → P S') : cI S (ρ' 5) z (ρ 5) z m P := by
  subst hz
  have z0 : (0 : Int32).toInt = 0 := by decide
  have c0 : (0 : Int32).toNatClampNeg = 0 := by decide
  have em : m.toNatClampNeg = 8 := by
    have := cl_eq (i := m) (by omega)
    omega
  refine T_cI_20 h (sK h ha).2.2.2.2.2.2.2.1 hf (sK h hb).2.2.2.2.2.2.2.1 hL (by omega) (fun S' h' e1 e2 e3 e4 => k S' h' ?_)
  rw [sV_fh h hb e1 e2]
  funext j
  split
  · rename_i d
    rw [e4, c0, em]
    unfold va_cpy
    rw [if_pos (by omega), show 0 + (j - 138 - 0) = j - 138 by omega, sV_h (S := S) (b := a) (ρ := ρ') (by omega), show 138 + (j - 138) = j by omega]
  · rfl
theorem V_aI_a {P : Int32 → Prop} {j : Int32} {m : Nat} (h : St Γ Φ S) (hb : Γ b = some (8, 8 + 10000 * i, i, 0, ρ)) (hj : j.toInt = m) (hm : m < 8) (k : P (sV S b ρ (146 + m))) : aI S (ρ 6) j P := by
  have ej : j.toNatClampNeg = m := by
    have := cl_eq (i := j) (by omega)
    omega
  refine T_aI_20 h (sK h hb).2.2.2.2.2.2.2.2.1 (by omega) (fun x e _ => ?_)
  rw [ej, sV_a (b := b) hm] at e
  subst e; exact k
theorem V_sI_a {P : hS → Prop} {j x : Int32} {m : Nat} (h : St Γ Φ S) (hb : Γ b = some (8, 8 + 10000 * i, i, 0, ρ)) (hf : fre Γ Φ L) (hL : 906 + 10000 * i ∈ L) (hj : j.toInt = m) (hm : m < 8) (k : ∀ S', St Γ Φ S' → sV S' b ρ = upd (sV S b ρ) (146 + m) x → P S') : sI S (ρ 6) j x P := by
  have ej : j.toNatClampNeg = m := by
    have := cl_eq (i := j) (by omega)
    omega
  refine T_sI_20 h hf (sK h hb).2.2.2.2.2.2.2.2.1 hL (by omega) (fun S' h' e1 e2 e3 e4 => k S' h' (sV_sa h hb hm e1 e2 (fun j => ?_)))
  rw [e4, ej]
theorem V_cI_a {P : hS → Prop} {a i' : Nat} {ρ' : Nat → Nat} {z m : Int32} (h : St Γ Φ S) (hb : Γ b = some (8, 8 + 10000 * i, i, 0, ρ)) (ha : Γ a = some (8, 8 + 10000 * i', i', 0, ρ')) (hf : fre Γ Φ L) (hL : 906 + 10000 * i ∈ L) (hz : z = 0) (hm : m.toInt = (8 : Nat)) (k : ∀ S', St Γ Φ S' → (sV S' b ρ = fun j => if 146 ≤ j ∧ j < 154 then sV S a ρ' j else sV S b ρ j) → P S') : cI S (ρ' 6) z (ρ 6) z m P := by
  subst hz
  have z0 : (0 : Int32).toInt = 0 := by decide
  have c0 : (0 : Int32).toNatClampNeg = 0 := by decide
  have em : m.toNatClampNeg = 8 := by
    have := cl_eq (i := m) (by omega)
    omega
  refine T_cI_20 h (sK h ha).2.2.2.2.2.2.2.2.1 hf (sK h hb).2.2.2.2.2.2.2.2.1 hL (by omega) (fun S' h' e1 e2 e3 e4 => k S' h' ?_)
  rw [sV_fa h hb e1 e2]
  funext j
  split
  · rename_i d
    rw [e4, c0, em]
    unfold va_cpy
    rw [if_pos (by omega), show 0 + (j - 146 - 0) = j - 146 by omega, sV_a (S := S) (b := a) (ρ := ρ') (by omega), show 146 + (j - 146) = j by omega]
  · rfl
theorem V_aI_n {P : Int32 → Prop} {j : Int32} {m : Nat} (h : St Γ Φ S) (hb : Γ b = some (8, 8 + 10000 * i, i, 0, ρ)) (hj : j.toInt = m) (hm : m < 8) (k : P (sV S b ρ (154 + m))) : aI S (ρ 7) j P := by
  have ej : j.toNatClampNeg = m := by
    have := cl_eq (i := j) (by omega)
    omega
  refine T_aI_20 h (sK h hb).2.2.2.2.2.2.2.2.2.1 (by omega) (fun x e _ => ?_)
  rw [ej, sV_n (b := b) hm] at e
  subst e; exact k
theorem V_sI_n {P : hS → Prop} {j x : Int32} {m : Nat} (h : St Γ Φ S) (hb : Γ b = some (8, 8 + 10000 * i, i, 0, ρ)) (hf : fre Γ Φ L) (hL : 907 + 10000 * i ∈ L) (hj : j.toInt = m) (hm : m < 8) (k : ∀ S', St Γ Φ S' → sV S' b ρ = upd (sV S b ρ) (154 + m) x → P S') : sI S (ρ 7) j x P := by
  have ej : j.toNatClampNeg = m := by
    have := cl_eq (i := j) (by omega)
    omega
  refine T_sI_20 h hf (sK h hb).2.2.2.2.2.2.2.2.2.1 hL (by omega) (fun S' h' e1 e2 e3 e4 => k S' h' (sV_sn h hb hm e1 e2 (fun j => ?_)))
  rw [e4, ej]
theorem V_cI_n {P : hS → Prop} {a i' : Nat} {ρ' : Nat → Nat} {z m : Int32} (h : St Γ Φ S) (hb : Γ b = some (8, 8 + 10000 * i, i, 0, ρ)) (ha : Γ a = some (8, 8 + 10000 * i', i', 0, ρ')) (hf : fre Γ Φ L) (hL : 907 + 10000 * i ∈ L) (hz : z = 0) (hm : m.toInt = (8 : Nat)) (k : ∀ S', St Γ Φ S' → (sV S' b ρ = fun j => if 154 ≤ j ∧ j < 162 then sV S a ρ' j else sV S b ρ j) → P S') : cI S (ρ' 7) z (ρ 7) z m P := by
  subst hz
  have z0 : (0 : Int32).toInt = 0 := by decide
  have c0 : (0 : Int32).toNatClampNeg = 0 := by decide
  have em : m.toNatClampNeg = 8 := by
    have := cl_eq (i := m) (by omega)
    omega
  refine T_cI_20 h (sK h ha).2.2.2.2.2.2.2.2.2.1 hf (sK h hb).2.2.2.2.2.2.2.2.2.1 hL (by omega) (fun S' h' e1 e2 e3 e4 => k S' h' ?_)
  rw [sV_fn h hb e1 e2]
  funext j
  split
  · rename_i d
    rw [e4, c0, em]
    unfold va_cpy
    rw [if_pos (by omega), show 0 + (j - 154 - 0) = j - 154 by omega, sV_n (S := S) (b := a) (ρ := ρ') (by omega), show 154 + (j - 154) = j by omega]
  · rfl
theorem V_aI_e {P : Int32 → Prop} {j : Int32} {m : Nat} (h : St Γ Φ S) (hb : Γ b = some (8, 8 + 10000 * i, i, 0, ρ)) (hj : j.toInt = m) (hm : m < 8) (k : P (sV S b ρ (162 + m))) : aI S (ρ 8) j P := by
  have ej : j.toNatClampNeg = m := by
    have := cl_eq (i := j) (by omega)
    omega
  refine T_aI_20 h (sK h hb).2.2.2.2.2.2.2.2.2.2.1 (by omega) (fun x e _ => ?_)
  rw [ej, sV_e (b := b) hm] at e
  subst e; exact k
theorem V_sI_e {P : hS → Prop} {j x : Int32} {m : Nat} (h : St Γ Φ S) (hb : Γ b = some (8, 8 + 10000 * i, i, 0, ρ)) (hf : fre Γ Φ L) (hL : 908 + 10000 * i ∈ L) (hj : j.toInt = m) (hm : m < 8) (k : ∀ S', St Γ Φ S' → sV S' b ρ = upd (sV S b ρ) (162 + m) x → P S') : sI S (ρ 8) j x P := by
  have ej : j.toNatClampNeg = m := by
    have := cl_eq (i := j) (by omega)
    omega
  refine T_sI_20 h hf (sK h hb).2.2.2.2.2.2.2.2.2.2.1 hL (by omega) (fun S' h' e1 e2 e3 e4 => k S' h' (sV_se h hb hm e1 e2 (fun j => ?_)))
  rw [e4, ej]
theorem V_cI_e {P : hS → Prop} {a i' : Nat} {ρ' : Nat → Nat} {z m : Int32} (h : St Γ Φ S) (hb : Γ b = some (8, 8 + 10000 * i, i, 0, ρ)) (ha : Γ a = some (8, 8 + 10000 * i', i', 0, ρ')) (hf : fre Γ Φ L) (hL : 908 + 10000 * i ∈ L) (hz : z = 0) (hm : m.toInt = (8 : Nat)) (k : ∀ S', St Γ Φ S' → (sV S' b ρ = fun j => if 162 ≤ j ∧ j < 170 then sV S a ρ' j else sV S b ρ j) → P S') : cI S (ρ' 8) z (ρ 8) z m P := by
  subst hz
  have z0 : (0 : Int32).toInt = 0 := by decide
  have c0 : (0 : Int32).toNatClampNeg = 0 := by decide
  have em : m.toNatClampNeg = 8 := by
    have := cl_eq (i := m) (by omega)
    omega
  refine T_cI_20 h (sK h ha).2.2.2.2.2.2.2.2.2.2.1 hf (sK h hb).2.2.2.2.2.2.2.2.2.2.1 hL (by omega) (fun S' h' e1 e2 e3 e4 => k S' h' ?_)
  rw [sV_fe h hb e1 e2]
  funext j
  split
  · rename_i d
    rw [e4, c0, em]
    unfold va_cpy
    rw [if_pos (by omega), show 0 + (j - 162 - 0) = j - 162 by omega, sV_e (S := S) (b := a) (ρ := ρ') (by omega), show 162 + (j - 162) = j by omega]
  · rfl
theorem V_aI_c {P : Int32 → Prop} {j : Int32} {m : Nat} (h : St Γ Φ S) (hb : Γ b = some (8, 8 + 10000 * i, i, 0, ρ)) (hj : j.toInt = m) (hm : m < 6) (k : P (sV S b ρ (170 + 2 * m))) : aI S (ρ 10) j P := by
  have ej : j.toNatClampNeg = m := by
    have := cl_eq (i := j) (by omega)
    omega
  refine T_aI_21 h (sK h hb).2.2.2.2.2.2.2.2.2.2.2.1 (by omega) (fun x e _ => ?_)
  rw [ej, sV_c (b := b) hm] at e
  subst e; exact k
theorem V_sI_c {P : hS → Prop} {j x : Int32} {m : Nat} (h : St Γ Φ S) (hb : Γ b = some (8, 8 + 10000 * i, i, 0, ρ)) (hf : fre Γ Φ L) (hL : 910 + 10000 * i ∈ L) (hj : j.toInt = m) (hm : m < 6) (hx : 0 ≤ x.toInt ∧ x.toInt ≤ 5) (k : ∀ S', St Γ Φ S' → sV S' b ρ = upd (sV S b ρ) (170 + 2 * m) x → P S') : sI S (ρ 10) j x P := by
  have ej : j.toNatClampNeg = m := by
    have := cl_eq (i := j) (by omega)
    omega
  refine T_sI_21 h hf (sK h hb).2.2.2.2.2.2.2.2.2.2.2.1 hL (by omega) hx (fun S' h' e1 e2 e3 e4 => k S' h' (sV_sc h hb hm e1 e2 (fun j => ?_)))
  rw [e4, ej]
theorem V_cI_c {P : hS → Prop} {a i' : Nat} {ρ' : Nat → Nat} {z m : Int32} (h : St Γ Φ S) (hb : Γ b = some (8, 8 + 10000 * i, i, 0, ρ)) (ha : Γ a = some (8, 8 + 10000 * i', i', 0, ρ')) (hf : fre Γ Φ L) (hL : 910 + 10000 * i ∈ L) (hz : z = 0) (hm : m.toInt = (6 : Nat)) (k : ∀ S', St Γ Φ S' → (sV S' b ρ = fun j => if 170 ≤ j ∧ j < 181 ∧ j % 2 = 0 then sV S a ρ' j else sV S b ρ j) → P S') : cI S (ρ' 10) z (ρ 10) z m P := by
  subst hz
  have z0 : (0 : Int32).toInt = 0 := by decide
  have c0 : (0 : Int32).toNatClampNeg = 0 := by decide
  have em : m.toNatClampNeg = 6 := by
    have := cl_eq (i := m) (by omega)
    omega
  refine T_cI_21 h (sK h ha).2.2.2.2.2.2.2.2.2.2.2.1 hf (sK h hb).2.2.2.2.2.2.2.2.2.2.2.1 hL (by omega) (fun S' h' e1 e2 e3 e4 => k S' h' ?_)
  rw [sV_fc h hb e1 e2]
  funext j
  split
  · rename_i d
    rw [e4, c0, em]
    unfold va_cpy
    rw [if_pos (by omega), show 0 + ((j - 170) / 2 - 0) = (j - 170) / 2 by omega, sV_c (S := S) (b := a) (ρ := ρ') (by omega), show 170 + 2 * ((j - 170) / 2) = j by omega]
  · rfl
theorem V_aI_d {P : Int32 → Prop} {j : Int32} {m : Nat} (h : St Γ Φ S) (hb : Γ b = some (8, 8 + 10000 * i, i, 0, ρ)) (hj : j.toInt = m) (hm : m < 6) (k : P (sV S b ρ (171 + 2 * m))) : aI S (ρ 11) j P := by
  have ej : j.toNatClampNeg = m := by
    have := cl_eq (i := j) (by omega)
    omega
  refine T_aI_20 h (sK h hb).2.2.2.2.2.2.2.2.2.2.2.2 (by omega) (fun x e _ => ?_)
  rw [ej, sV_d (b := b) hm] at e
  subst e; exact k
theorem V_sI_d {P : hS → Prop} {j x : Int32} {m : Nat} (h : St Γ Φ S) (hb : Γ b = some (8, 8 + 10000 * i, i, 0, ρ)) (hf : fre Γ Φ L) (hL : 911 + 10000 * i ∈ L) (hj : j.toInt = m) (hm : m < 6) (k : ∀ S', St Γ Φ S' → sV S' b ρ = upd (sV S b ρ) (171 + 2 * m) x → P S') : sI S (ρ 11) j x P := by
  have ej : j.toNatClampNeg = m := by
    have := cl_eq (i := j) (by omega)
    omega
  refine T_sI_20 h hf (sK h hb).2.2.2.2.2.2.2.2.2.2.2.2 hL (by omega) (fun S' h' e1 e2 e3 e4 => k S' h' (sV_sd h hb hm e1 e2 (fun j => ?_)))
  rw [e4, ej]
theorem V_cI_d {P : hS → Prop} {a i' : Nat} {ρ' : Nat → Nat} {z m : Int32} (h : St Γ Φ S) (hb : Γ b = some (8, 8 + 10000 * i, i, 0, ρ)) (ha : Γ a = some (8, 8 + 10000 * i', i', 0, ρ')) (hf : fre Γ Φ L) (hL : 911 + 10000 * i ∈ L) (hz : z = 0) (hm : m.toInt = (6 : Nat)) (k : ∀ S', St Γ Φ S' → (sV S' b ρ = fun j => if 171 ≤ j ∧ j < 182 ∧ j % 2 = 1 then sV S a ρ' j else sV S b ρ j) → P S') : cI S (ρ' 11) z (ρ 11) z m P := by
  subst hz
  have z0 : (0 : Int32).toInt = 0 := by decide
  have c0 : (0 : Int32).toNatClampNeg = 0 := by decide
  have em : m.toNatClampNeg = 6 := by
    have := cl_eq (i := m) (by omega)
    omega
  refine T_cI_20 h (sK h ha).2.2.2.2.2.2.2.2.2.2.2.2 hf (sK h hb).2.2.2.2.2.2.2.2.2.2.2.2 hL (by omega) (fun S' h' e1 e2 e3 e4 => k S' h' ?_)
  rw [sV_fd h hb e1 e2]
  funext j
  split
  · rename_i d
    rw [e4, c0, em]
    unfold va_cpy
    rw [if_pos (by omega), show 0 + ((j - 170) / 2 - 0) = (j - 170) / 2 by omega, sV_d (S := S) (b := a) (ρ := ρ') (by omega), show 171 + 2 * ((j - 170) / 2) = j by omega]
  · rfl
end VAL
