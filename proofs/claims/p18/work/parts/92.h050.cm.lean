/-! A TEXT COPIED, EXACTLY -/
section CM
variable {Γ : kG} {Φ : kF} {S : hS} {b c n o : Nat} {ρb : Nat → Nat} {κ : Nat}
theorem kx_X10_init_ {q : hS → Prop} (h : Nw Γ Φ S o 10 FX10_0 []) (hb : Γ b = some (10, κ, c, n, ρb)) (hk : ∀ d τ, Γ d = some τ → Φ d = S d) (k : ∀ Γ' S' cc nn ρ, gro Γ Φ Γ' → Γ' o = some (10, 19, cc, nn, ρ) → cc ≤ 12 → nn ≤ 400 → St Γ' Φ S' → (∀ cs, cs.length ≤ 12 → (xAll cs 0).length ≤ 400 → txR S b ρb cs → txR S' o ρ cs) → q S') : w_X10_init_ q S o b := by
  obtain ⟨hc, hn⟩ := T_tx h.1 hb
  have t12 : (12 : Int32).toInt = 12 := by decide
  have t400 : (400 : Int32).toInt = 400 := by decide
  have t5 : (5 : Int32).toInt = 5 := by decide
  have z0 : (0 : Int32).toInt = 0 := by decide
  have k3 := (P_10_3 h.1 hb).2
  have k4 := (P_10_4 h.1 hb).2
  have k5 := (P_10_5 h.1 hb).2
  have k6 := (P_10_6 h.1 hb).2
  -- what was there stays
  have st : ∀ {Γ' : kG} {S' : hS} {d : Nat} {τ : kT}, St Γ' Φ S' → Γ d = some τ → S' d = S d := fun {Γ' S' d τ} hs hd => by
    obtain ⟨e, he⟩ := h.1.isS hd
    rw [he]
    exact hs.2 d e ((hk d τ hd).trans he)
  unfold w_X10_init_
  refine N_pI h (by simp only [FX10_0, List.length_cons, List.length_nil]; omega) (fun S1 h1 => ?_)
  simp only [FX10_0, List.set] at h1
  refine N_pI h1 (by simp only [List.length_cons, List.length_nil]; omega) (fun S2 h2 => ?_)
  simp only [List.set] at h2
  refine N_pI h2 (by simp only [List.length_cons, List.length_nil]; omega) (fun S3 h3 => ?_)
  simp only [List.set] at h3
  refine T_gI_10_0 h3.1 hb (fun x22 e22 r22 => ?_)
  rw [fI_cell (st h3.1 hb)] at e22
  rw [lif (m := 12) (by omega) (by omega) 12 t12]
  refine N_pI h3 (by simp only [List.length_cons, List.length_nil]; omega) (fun S4 h4 => ?_)
  simp only [List.set] at h4
  refine T_gI_10_1 h4.1 hb (fun x39 e39 r39 => ?_)
  rw [fI_cell (st h4.1 hb)] at e39
  rw [lif (m := 400) (by omega) (by omega) 400 t400]
  refine N_pI h4 (by simp only [List.length_cons, List.length_nil]; omega) (fun S5 h5 => ?_)
  simp only [List.set] at h5
  obtain ⟨cc, ec⟩ : ∃ cc : Nat, x22.toInt = cc := ⟨x22.toInt.toNat, by omega⟩
  obtain ⟨nn, en⟩ : ∃ nn : Nat, x39.toInt = nn := ⟨x39.toInt.toNat, by omega⟩
  refine N_gI h5 rfl (N_mkI (n := cc) (20, 19 + 1093, cc, 0, k0) h5 ec (by omega) (fun _ => zc_I (by decide) (by omega)) (fun Γ6 S6 o3 g6 t6 f3 h6 => ?_))
  refine N_pP h6 (by simp only [List.length_cons, List.length_nil]; omega) (fun S7 h7 => ?_)
  simp only [List.set] at h7
  refine N_gI h7 rfl (N_mkI (n := cc) (20, 19 + 1094, cc, 0, k0) h7 ec (by omega) (fun _ => zc_I (by decide) (by omega)) (fun Γ8 S8 o4 g8 t8 f4 h8 => ?_))
  refine N_pP h8 (by simp only [List.length_cons, List.length_nil]; omega) (fun S9 h9 => ?_)
  simp only [List.set] at h9
  have e5 : (x22 * 5).toInt = (5 * cc : Nat) := by
    rw [fb_mulI (by rw [t5]; omega) (by rw [t5]; omega), t5]
    omega
  refine N_gI h9 rfl (N_mkI (n := 5 * cc) (23, 19 + 1095, 5 * cc, 0, k0) h9 e5 (by omega) (fun _ => zc_I (by decide) (by omega)) (fun Γ10 S10 o5 g10 t10 f5 h10 => ?_))
  refine N_pP h10 (by simp only [List.length_cons, List.length_nil]; omega) (fun S11 h11 => ?_)
  simp only [List.set] at h11
  refine N_gI h11 rfl (N_mkI (n := nn) (24, 19 + 1096, nn, 0, k0) h11 en (by omega) (fun _ => zc_I (by decide) (by omega)) (fun Γ12 S12 o6 g12 t12' f6 h12 => ?_))
  refine N_pP h12 (by simp only [List.length_cons, List.length_nil]; omega) (fun S13 h13 => ?_)
  simp only [List.set] at h13
  have gg : gro Γ Φ Γ12 := ((g6.tr g8).tr g10).tr g12
  have hb' := gg.1 _ _ hb
  have u3 : Γ12 o3 = some (20, 19 + 1093, cc, 0, k0) := g12.1 _ _ (g10.1 _ _ (g8.1 _ _ t6))
  have u4 : Γ12 o4 = some (20, 19 + 1094, cc, 0, k0) := g12.1 _ _ (g10.1 _ _ t8)
  have u5 : Γ12 o5 = some (23, 19 + 1095, 5 * cc, 0, k0) := g12.1 _ _ t10
  have sm : ∀ {x : Nat} {τ : kT}, Γ12 x = some τ → Γ12 x ≠ none := fun h z => by rw [h] at z; cases z
  have eC : x22.toNatClampNeg = cc := by have := cl_eq (i := x22) (by omega); omega
  have eN : x39.toNatClampNeg = nn := by have := cl_eq (i := x39) (by omega); omega
  have e5C : (x22 * 5).toNatClampNeg = 5 * cc := by have := cl_eq (i := x22 * 5) (by omega); omega
  have z00 : (0 : Int32).toNatClampNeg = 0 := by decide
  refine E_gP_10_3 h13.1 hb' (fun p97 => N_gP h13 rfl (N_gI h13 rfl (F_cI_20 h13.1 p97 f3 u3 (by omega) (fun S14 w14 q14 v14 => ?_))))
  have h14 := Nw_c h13 w14 (sm u3) q14
  refine E_gP_10_4 h14.1 hb' (fun p114 => N_gP h14 rfl (N_gI h14 rfl (F_cI_20 h14.1 p114 f4 u4 (by omega) (fun S15 w15 q15 v15 => ?_))))
  have h15 := Nw_c h14 w15 (sm u4) q15
  refine E_gP_10_5 h15.1 hb' (fun p131 => N_gP h15 rfl (N_gI h15 rfl (F_cI_23 h15.1 p131 f5 u5 (by omega) (fun S16 w16 q16 v16 => ?_))))
  have h16 := Nw_c h15 w16 (sm u5) q16
  refine E_gP_10_6 h16.1 hb' (fun p150 => N_gP h16 rfl (N_gI h16 rfl (F_cI_24 h16.1 p150 f6 t12' (by omega) (fun S17 w17 q17 v17 => ?_))))
  have h17 := Nw_c h16 w17 (sm t12') q17
  rw [z00, eC, show aV S13 (ρb 3) = aV S (ρb 3) from funext (aV_cell (st h13.1 k3))] at v14
  rw [z00, eC, show aV S14 (ρb 4) = aV S (ρb 4) from funext (aV_cell (st h14.1 k4))] at v15
  rw [z00, e5C, show aV S15 (ρb 5) = aV S (ρb 5) from funext (aV_cell (st h15.1 k5))] at v16
  rw [z00, eN, show aV S16 (ρb 6) = aV S (ρb 6) from funext (aV_cell (st h16.1 k6))] at v17
  have n34 : o3 ≠ o4 := nmne u3 u4 (by dsimp only; omega)
  have n35 : o3 ≠ o5 := nmne u3 u5 (by dsimp only; omega)
  have n36 : o3 ≠ o6 := nmne u3 t12' (by dsimp only; omega)
  have n45 : o4 ≠ o5 := nmne u4 u5 (by dsimp only; omega)
  have n46 : o4 ≠ o6 := nmne u4 t12' (by dsimp only; omega)
  have n56 : o5 ≠ o6 := nmne u5 t12' (by dsimp only; omega)
  have A3 : ∀ j, j < cc → aV S17 o3 j = aV S (ρb 3) j := fun j hj => by
    rw [aV_cell (q17 o3 n36), aV_cell (q16 o3 n35), aV_cell (q15 o3 n34), v14]
    unfold va_cpy
    rw [if_pos (by omega)]
    congr 1
    omega
  have A4 : ∀ j, j < cc → aV S17 o4 j = aV S (ρb 4) j := fun j hj => by
    rw [aV_cell (q17 o4 n46), aV_cell (q16 o4 n45), v15]
    unfold va_cpy
    rw [if_pos (by omega)]
    congr 1
    omega
  have A5 : ∀ j, j < 5 * cc → aV S17 o5 j = aV S (ρb 5) j := fun j hj => by
    rw [aV_cell (q17 o5 n56), v16]
    unfold va_cpy
    rw [if_pos (by omega)]
    congr 1
    omega
  have A6 : ∀ j, j < nn → aV S17 o6 j = aV S (ρb 6) j := fun j hj => by
    rw [v17]
    unfold va_cpy
    rw [if_pos (by omega)]
    congr 1
    omega
  obtain ⟨ρ, eρ⟩ : ∃ ρ, ρ = mkb (fun k => ([0, 0, 0, o3, o4, o5, o6] : List Nat).getD k 0) (fun _ => k0) := ⟨_, rfl⟩
  have b3 : ρ 3 = o3 := by rw [eρ]; rfl
  have b4 : ρ 4 = o4 := by rw [eρ]; rfl
  have b5 : ρ 5 = o5 := by rw [eρ]; rfl
  have b6 : ρ 6 = o6 := by rw [eρ]; rfl
  have eo := h17.2.2.2.1
  have f0 : fI S17 o 0 = x22 := fI_of (fv_of eo rfl)
  have f1 : fI S17 o 1 = x39 := fI_of (fv_of eo rfl)
  obtain ⟨ga, ta, hs, -⟩ := N_done h17 (10, 19, cc, nn, ρ) (cellOk_10 rfl ⟨x22, x39, 0, o3, o4, o5, o6, rfl, by dsimp only; omega, by dsimp only; omega, by decide, ⟨b3.symm, kset_le h17.2.1 _ _ u3⟩, ⟨b4.symm, kset_le h17.2.1 _ _ u4⟩, ⟨b5.symm, kset_le h17.2.1 _ _ u5⟩, ⟨b6.symm, kset_le h17.2.1 _ _ t12'⟩, by dsimp only; omega, by dsimp only; omega⟩)
  refine k _ _ cc nn ρ (gg.tr ga) ta (by omega) (by omega) hs (fun cs hc1 hc2 hx => ?_)
  obtain ⟨y1, y2, y3, y4⟩ := hx
  have y1 : fI S b 0 = nI cs.length := y1
  have y2 : fI S b 1 = nI (xAll cs 0).length := y2
  have l1 : cs.length = cc := by
    have e := ec
    rw [e22, y1, nI_toInt (by omega)] at e
    omega
  have l2 : (xAll cs 0).length = nn := by
    have e := en
    rw [e39, y2, nI_toInt (by omega)] at e
    omega
  have lm : (xMk cs 0).length = cs.length := xMk_len cs 0
  refine ⟨f0.trans (e22.trans y1), f1.trans (e39.trans y2), fun j hj => ?_, fun j hj => ?_⟩
  · obtain ⟨w1, w2, w3⟩ := y3 j hj
    refine ⟨?_, ?_, fun i hi => ?_⟩
    · show aV S17 (ρ 3) j = _
      rw [b3, A3 j (by omega)]; exact w1
    · show aV S17 (ρ 4) j = _
      rw [b4, A4 j (by omega)]; exact w2
    · show aV S17 (ρ 5) (5 * j + i) = _
      rw [b5, A5 _ (by omega)]; exact w3 i hi
  · show aV S17 (ρ 6) j = _
    rw [b6, A6 j (by omega)]
    exact y4 j hj
end CM
