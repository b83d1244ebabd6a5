/-! GENERATIONS AS A CALL -/
def aDr (p n : Int32) (dr : Nat → Int32) (T : aS) : aS := (T.1, T.2.1, T.2.2.1, T.2.2.2.1, upd (upd T.2.2.2.2.1 3 p) 4 n, T.2.2.2.2.2.1, dr)
def spGen (a b : Int) (T : aS) : Int32 × aS := if ¬ (0 ≤ a ∧ a ≤ 1000000) then spRef 1 T else if ¬ (1 ≤ b ∧ b ≤ 60) then spRef 1 T else if iR T.1.1 1 = 0 ∨ iR T.1.1 0 = 0 then spRef 3 T else spAcc (nI (genRun (csF T.1.1 T.1.2) b.toNat (T.1.1, a.toNat, 0)).2.2) (aDr (T.1.1 1) (T.1.1 0) (fun j => (genRun (csF T.1.1 T.1.2) b.toNat (T.1.1, a.toNat, 0)).1 (30 + j)) T)
def genN : List Nat := [11, 1216, 1210] ++ orN1 ++ sbN 1
theorem isW {q : Int32 → hS → Prop} {S : hS} {v w : Int32} (k1 : 0 ≤ v.toInt ∧ v.toInt ≤ w.toInt → q 1 S) (k0 : ¬ (0 ≤ v.toInt ∧ v.toInt ≤ w.toInt) → q 0 S) : w_X11_isWithin q S v w := by
  unfold w_X11_isWithin
  rw [Int32.lt_iff_toInt_lt, Int32.lt_iff_toInt_lt, z0I]
  exact ⟨fun z => k0 (by omega), fun z => ⟨fun z2 => k0 (by omega), fun z2 => k1 (by omega)⟩⟩
section XG
variable {Γ Γ' : kG} {Φ : kF} {S S' : hS} {x a b b' i i' rs o : Nat} {ρ ρ' ρg β : Nat → Nat} {A : List Nat} {T : aS} {t : sW} {tx : Nat → Nat}
theorem scK_11' {k : Nat} (hk : k < 5) (h : scK k = 11) : k = 3 := by
  unfold scK at h
  repeat' (split at h)
  all_goals omega
theorem scK_12 {k : Nat} (hk : k < 5) (h : scK k = 12) : k = 4 := by
  unfold scK at h
  repeat' (split at h)
  all_goals omega
set_option maxRecDepth 16384 in
theorem cx_gen {q : Int32 → hS → Prop} {v1 v2 : Int32} (h : CR Γ S x ρ rs T) (hs : St Γ Φ S) (hf : fre Γ Φ genN) (k : ∀ Γ' S', gro Γ Φ Γ' → St Γ' Φ S' → CR Γ' S' x ρ rs (spGen v1.toInt v2.toInt T).2 → q (spGen v1.toInt v2.toInt T).1 S') : w_X11_generations q S x v1 v2 := by
  have hx := h.1
  have t1 := h.2.1.1
  have t2 := h.2.1.2.1
  have b1 := rB_1 h.2.1.2.2.1
  have b0 := rB_0 h.2.1.2.2.1
  have fo : ∀ {L : List Nat}, (∀ y ∈ L, y ∈ genN) → fre Γ Φ L := fun hL => hf.sub hL
  have f11 : fre Γ Φ [11] := fo (by decide)
  have frf : fre Γ Φ [11, 1216] := fo (by decide)
  have fsb : fre Γ Φ (sbN 1) := fo (by decide)
  have fr1 : fre Γ Φ orN1 := fo (by decide)
  have b21 : spGen v1.toInt v2.toInt T = spRef 1 T → w_X11_generations_b21 q S x := fun e => by
    rw [e] at k
    exact T_oK_11 hs hx (cx_refuse h hs frf (n := 1) rfl (by omega) (fun S' s' _ c' => k Γ S' gro_rf s' c'))
  have b47 : spGen v1.toInt v2.toInt T = spRef 3 T → w_X11_generations_b47 q S x := fun e => by
    rw [e] at k
    exact T_oK_11 hs hx (cx_refuse h hs frf (n := 3) rfl (by omega) (fun S' s' _ c' => k Γ S' gro_rf s' c'))
  have em : (1000000 : Int32).toInt = 1000000 := by decide
  have z00 := z0I
  unfold w_X11_generations
  refine isW (fun c1 => ⟨fun z => absurd z (by decide), fun _ => ?_⟩) (fun c1 => ⟨fun _ => b21 (if_pos (by rw [em] at c1; exact c1)), fun z => absurd rfl z⟩)
  rw [em] at c1
  rw [Int32.lt_iff_toInt_lt, Int32.le_iff_toInt_le, show (1 : Int32).toInt = 1 by decide, show (60 : Int32).toInt = 60 by decide]
  have e1 : spGen v1.toInt v2.toInt T = (if ¬ (1 ≤ v2.toInt ∧ v2.toInt ≤ 60) then spRef 1 T else if iR T.1.1 1 = 0 ∨ iR T.1.1 0 = 0 then spRef 3 T else spAcc (nI (genRun (csF T.1.1 T.1.2) v2.toInt.toNat (T.1.1, v1.toInt.toNat, 0)).2.2) (aDr (T.1.1 1) (T.1.1 0) (fun j => (genRun (csF T.1.1 T.1.2) v2.toInt.toNat (T.1.1, v1.toInt.toNat, 0)).1 (30 + j)) T)) := if_neg (fun z => z c1)
  refine ⟨fun z => b21 (by rw [e1]; exact if_pos (by omega)), fun c2 => ⟨fun c3 => ?_, fun z => b21 (by rw [e1]; exact if_pos (by omega))⟩⟩
  rw [if_neg (by omega)] at e1
  refine E_gP_11_0 hs hx (fun _ => V_gI_4 hs t1 (fun _ => ?_))
  rw [t2, show (T.1.1 1 = 0) = (iR T.1.1 1 = 0) from propext (by unfold iR; rw [← Int32.toInt_inj]; rfl)]
  refine ⟨fun z => b47 (by rw [e1]; exact if_pos (Or.inl z)), fun c4 => E_gP_11_0 hs hx (fun _ => V_gI_1 hs t1 (fun _ => ?_))⟩
  rw [t2, show (T.1.1 0 = 0) = (iR T.1.1 0 = 0) from propext (by unfold iR; rw [← Int32.toInt_inj]; rfl)]
  refine ⟨fun c5 => ?_, fun z => b47 (by rw [e1]; exact if_pos (Or.inr z))⟩
  rw [if_neg (by omega)] at e1
  rw [e1] at k
  refine E_gP_11_1 hs hx (fun k1 => E_gP_11_0 hs hx (fun _ => T_oK_8 hs k1 (kx_copyW hs h.2.1 k1 (by omega) fsb (fun S5 s5 m5 w5 => ?_))))
  have c5' := h.sm hs gro_rf m5 (by decide)
  obtain ⟨w1, w2, w3, w4, w5'⟩ := id w5
  have hO := w5.okc
  refine E_gP_11_7 s5 hx (fun k7 => E_gP_11_1 s5 hx (fun _ => T_oK_1 s5 k7 ?_))
  have ev1 : v1 = nI v1.toInt.toNat := by
    apply Int32.toInt_inj.mp
    rw [nI_toInt (by omega)]
    omega
  have ev2 : v2 = nI v2.toInt.toNat := by
    apply Int32.toInt_inj.mp
    rw [nI_toInt (by omega)]
    omega
  have live := kx_live (Φ := frz Γ Φ S5 orN1) (L := T.1.2) (q := fun x75 S => gP S x 11 1 (fun x81 => gI S x81 8 4 (fun x84 => pI S x 11 11 x84 (fun S => gP S x 11 1 (fun x92 => gI S x92 8 1 (fun x95 => pI S x 11 12 x95 (fun S => gP S x 11 1 (fun x102 => gP S x102 8 0 (fun x105 => gP S x105 2 0 (fun x108 => gP S x 11 10 (fun x113 => gP S x 11 10 (fun x118 => aN S x118 (fun x121 => cI S x108 0 x113 0 x121 (fun S => oK S x 11 ∧ w_X11_accept (fun x127 S => q x127 S) S x x75)))))))))))))) (frz_St s5) k7 k1 (by omega) (frz_fre fr1 (fun _ y => y)) (by rw [w2]; exact w3) (by rw [w2]; exact w4) (by rw [w2]; exact hO) ev1 (by omega) ev2 (by omega) (by rw [w2]; unfold nPR; omega) (by rw [w2]; unfold nHR; omega)
  rw [w2] at live
  refine live (fun Γ6 S6 g6 s6 m6 v6 B6 fr6 => ?_)
  obtain ⟨s6', m6'⟩ := frz_un s5 s6
  have g6' := frz_gro s5 g6
  have c6 := c5'.sm s5 g6' m6' (by decide)
  have hx6 := c6.1
  have k16 := g6'.1 _ _ k1
  have p1 : sV S6 (ρ 1) (bk 1 ρ) 1 = T.1.1 1 := by rw [v6]; exact fr6 1 (by unfold inLe; omega)
  have p0 : sV S6 (ρ 1) (bk 1 ρ) 0 = T.1.1 0 := by rw [v6]; exact fr6 0 (by unfold inLe; omega)
  generalize genRun (csF T.1.1 T.1.2) v2.toInt.toNat (T.1.1, v1.toInt.toNat, 0) = R at *
  have f12 : fre Γ6 Φ [11, 1210] := (fo (by decide)).gr g6'
  have hst := frz_St (L := [11, 1210]) s6'
  have hfr : fre Γ6 (frz Γ6 Φ S6 [11, 1210]) [11, 1210] := frz_fre f12 (fun _ x => x)
  have kg6 := (P_8_0 s6' k16).2
  have kr6 := (P_2_0 s6' kg6).2
  have kd6 := (P_11_10 s6' hx6).2
  refine E_gP_11_1 hst hx6 (fun _ => V_gI_4 hst k16 (fun r4 => T_pI_11_11 hst (hfr.sub (by simp)) (L := [11]) hx6 (by simp) r4 (fun S7 s7 i7 q7 a7 => E_gP_11_1 s7 hx6 (fun _ => ?_))))
  have e7 : sV S7 (ρ 1) (bk 1 ρ) = sV S6 (ρ 1) (bk 1 ρ) := sV_sam s6' k16 (frz_un s6' s7).2 (by decide)
  refine V_gI_1 s7 k16 (fun r1 => T_pI_11_12 s7 (hfr.sub (by simp)) (L := [11]) hx6 (by simp) r1 (fun S8 s8 i8 q8 a8 => E_gP_11_1 s8 hx6 (fun _ => E_gP_8_0 s8 k16 (fun _ => E_gP_2_0 s8 kg6 (fun _ => E_gP_11_10 s8 hx6 (fun _ => E_gP_11_10 s8 hx6 (fun _ => T_aN_20 s8 kd6 (fun x121 e121 => T_cI_20 s8 kr6 hfr kd6 (by simp) (by omega) (fun S9 s9 q9 a9 o9 v9 => ?_)))))))))
  obtain ⟨s9', m9⟩ := frz_un s6' s9
  obtain ⟨-, h1, h2, h3, h4, h5, h6, h7, h8⟩ := c6
  have c9 : CR Γ6 S9 x ρ rs (aDr (T.1.1 1) (T.1.1 0) (fun j => R.1 (30 + j)) T) := by
    refine ⟨hx6, h1.sm s6' gro_rf m9 (by decide), h2.sm s6' hx6 gro_rf m9 (by decide), h3.sg s6' (P_11_3 s6' hx6).2 gro_rf m9 (by decide), h4.sm s6' (P_11_4 s6' hx6).2 m9 (by decide), fun j hj => ?_, h6.sm s6' hx6 m9 (by decide), fun j hj => ?_, h8⟩
    · show fI S9 x (scK j) = upd (upd T.2.2.2.2.1 3 (T.1.1 1)) 4 (T.1.1 0) j
      rw [q9.I]
      unfold upd
      by_cases c4 : j = 4
      · rw [if_pos c4, c4]
        exact i8.trans (by rw [e7, p0])
      · rw [if_neg c4, q8.I (fun z => c4 (scK_12 hj z.2))]
        by_cases c3 : j = 3
        · rw [if_pos c3, c3]
          exact i7.trans p1
        · rw [if_neg c3, q7.I (fun z => c3 (scK_11' hj z.2))]
          exact h5 j hj
    · show aV S9 (ρ 10) j = R.1 (30 + j)
      have z0 : (0 : Int32).toNatClampNeg = 0 := by decide
      have z48 : x121.toNatClampNeg = 48 := by have := cl_eq (i := x121) (by omega); omega
      rw [z0, z48] at v9
      rw [v9, cpy_all hj, a8.1, a7.1, sV_r (S := S6) (b := ρ 1) (ρ := bk 1 ρ) hj, v6]
  exact T_oK_11 s9' hx6 (cx_accept c9 s9' (f11.gr g6') (fun S10 s10 _ c10 => k Γ6 S10 g6' s10 c10))
end XG
