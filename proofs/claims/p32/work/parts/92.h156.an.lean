/-! THE FEWEST RIGHTS STRUCK OUT, ON BOTH SIDES -/
def bsA (f : Nat → Int32) (h : Nat) : Nat := (amR f h (2 ^ nPR f)).getD 0
def spAmend (a b : Int32) (T : aS) : Int32 := if (0 ≤ a.toInt ∧ a.toInt < iR T.1.1 0) ∧ (b = 0 ∨ b = 1) then (if b = 0 then nI (cnA (bsA T.1.1 a.toInt.toNat)) else nI (bsA T.1.1 a.toInt.toNat)) else -1
theorem pw_256 : ∀ n, n < 9 → 0 < 2 ^ n ∧ 2 ^ n ≤ 256 := by decide
theorem reN_b {f : Nat → Int32} {h s : Nat} (hB : rB f) (hh : h < 6) : ∀ p, p ≤ 8 → 0 ≤ reN f h s p ∧ reN f h s p ≤ 99 * p
  | 0, _ => by unfold reN; omega
  | p + 1, hp => by
    have := reN_b (s := s) hB hh p (by omega)
    have b := hB.1 (30 + 6 * p + h) (by omega)
    rw [show rLo (30 + 6 * p + h) = 0 by unfold rLo; rw [if_neg (by omega)], show rHi (30 + 6 * p + h) = 99 by unfold rHi; rw [if_neg (by omega), if_neg (by omega), if_neg (by omega), if_neg (by omega), if_neg (by omega), if_neg (by omega), if_neg (by omega), if_neg (by omega), if_neg (by omega), if_neg (by omega), if_pos (by omega)]] at b
    rw [reN]
    split <;> omega
theorem be_b {f : Nat → Int32} {h : Nat} (hB : rB f) (hh : h < 6) : 0 ≤ iR f (132 + h) := by
  have b := hB.1 (132 + h) (by omega)
  rw [show rLo (132 + h) = 0 by unfold rLo; rw [if_neg (by omega)]] at b
  exact b.1
theorem cn_le (s : Nat) : cnA s ≤ 8 := onesN_le 8
theorem gd_full {f : Nat → Int32} {h : Nat} (hB : rB f) (hh : h < 6) (hP : nPR f ≤ 8) : gdA f h (2 ^ nPR f - 1) = true := by
  unfold gdA
  rw [decide_eq_true_eq, reN_full (by omega) _ (Nat.le_refl _)]
  exact be_b hB hh
theorem bsA_is {f : Nat → Int32} {h : Nat} (hB : rB f) (hh : h < 6) (hP : nPR f ≤ 8) : isA f h 0 (2 ^ nPR f) (bsA f h) := by
  have p := pw_256 (nPR f) (by omega)
  have i := amR_is (f := f) (h := h) (2 ^ nPR f)
  unfold bsA
  cases e : amR f h (2 ^ nPR f) with
  | none => exact absurd (gd_full hB hh hP) (i.1 e _ (by omega))
  | some s => exact i.2 s e
section AN
variable {Γ : kG} {Φ : kF} {S : hS} {b i : Nat} {ρ : Nat → Nat}
theorem kx_struckOut {q : Int32 → hS → Prop} {o : Nat} {v : Int32} {hh : Nat} (h : St Γ Φ S) (hb : Γ b = some (8, 8 + 10000 * i, i, 0, ρ)) (hB : rB (sV S b ρ)) (ev : v = nI hh) (hh' : (hh : Int) < iR (sV S b ρ) 0) (k : q (nI (bsA (sV S b ρ) hh)) S) : w_X7_struckOut q S o b v := by
  subst ev
  have b1 := rB_1 hB
  have b0 := rB_0 hB
  have e1 : (sV S b ρ 1) = nI (nPR (sV S b ρ)) := by
    apply Int32.toInt_inj.mp
    have : iR (sV S b ρ) 1 = (sV S b ρ 1).toInt := rfl
    unfold nPR
    rw [nI_toInt (by omega)]; omega
  have hP : nPR (sV S b ρ) ≤ 8 := by unfold nPR; omega
  have iP : iR (sV S b ρ) 1 = nPR (sV S b ρ) := by unfold nPR; omega
  have bs := bsA_is hB (h := hh) (by omega) hP
  have p2 := pw_256 (nPR (sV S b ρ)) (by omega)
  obtain ⟨Q, eQ⟩ : ∃ Q, Q = 2 ^ nPR (sV S b ρ) := ⟨_, rfl⟩
  have gf := gd_full hB (h := hh) (by omega) hP
  rw [← eQ] at p2 bs gf
  unfold w_X7_struckOut
  refine V_gI_4 h hb (fun _ y8 ey => T_oK_8 h hb (kx_X8_hasHouse h hb (fun z => absurd ?_ z) (fun _ _ _ => ⟨fun z => absurd z (by decide), fun _ => E_gP_8_3 h hb (fun _ => V_aI_b h hb (nI_toInt (by omega)) (by omega) ?_)⟩)))
  · have : iR (sV S b ρ) 0 = (sV S b ρ 0).toInt := rfl
    rw [nI_toInt (by omega)]
    omega
  rw [e1, sh1 _ (by omega), ← eQ] at ey
  have ey' : y8 = nI (Q - 1) := by
    have z := nI_pm1 (Q - 1)
    rw [show Q - 1 + 1 = Q by omega] at z
    rw [ey, z]
  have key := loop_m (σ := Nat × Nat) (fun t s => w_X7_struckOut_b32 q t S b (nI hh) (nI s.2) (sV S b ρ (132 + hh)) (nI s.1 - 1)) (fun s => s.1 ≤ Q ∧ s.2 < Q ∧ ((s.1 = Q ∧ s.2 = Q - 1) ∨ isA (sV S b ρ) hh s.1 Q s.2)) (fun s => s.1) ?_ (Q, Q - 1) ⟨Nat.le_refl _, by dsimp only; omega, Or.inl ⟨rfl, rfl⟩⟩
  · dsimp only at key
    rw [← ey', ← ey] at key
    exact key
  rintro t ⟨m, s⟩ ⟨hm, hs, hI⟩ ih
  dsimp only at hm hs hI ih ⊢
  rw [w_X7_struckOut_b32]
  cases m with
  | zero =>
    refine ⟨fun _ => ?_, fun c => absurd (by decide) c⟩
    have hI' : isA (sV S b ρ) hh 0 Q s := by
      rcases hI with z | z
      · exact absurd z.1 (by omega)
      · exact z
    rw [isA_uniq hI' bs]
    exact k
  | succ j =>
    rw [nI_pm1]
    refine ⟨fun c => absurd c (by rw [Int32.lt_iff_toInt_lt, nI_toInt (by omega), show (0 : Int32).toInt = 0 by decide]; omega), fun _ => ?_⟩
    have nx : ∀ (s' : Nat), s' < Q → isA (sV S b ρ) hh j Q s' → w_X7_struckOut_b106 q (fun S v1 v2 v3 v4 v5 => w_X7_struckOut_b32 q t S v1 v2 v3 v4 v5) S b (nI hh) (nI s') (sV S b ρ (132 + hh)) (nI j) := by
      intro s' hs' h' y ey
      rw [ey, nI_am1]
      exact ih (j, s') ⟨by dsimp only; omega, hs', Or.inr h'⟩ (by dsimp only; omega)
    refine loop_m (σ := Nat) (fun t' p => w_X7_struckOut_b43 q (fun S v1 v2 v3 v4 v5 => w_X7_struckOut_b32 q t S v1 v2 v3 v4 v5) t' S b (nI hh) (nI s) (sV S b ρ (132 + hh)) (nI j) (wI (reN (sV S b ρ) hh j p)) (nI p)) (fun p => p ≤ nPR (sV S b ρ)) (fun p => nPR (sV S b ρ) - p) ?_ 0 (Nat.zero_le _)
    rintro t' p hp ih'
    have rb := reN_b (s := j) hB (h := hh) (by omega) p (by omega)
    rw [w_X7_struckOut_b43]
    refine V_gI_4 h hb (fun _ => ?_)
    rw [e1, nI_leI (by omega) (by omega)]
    have nb : ∀ u : Int32, wI (reN (sV S b ρ) hh j p) + u = wI (reN (sV S b ρ) hh j (p + 1)) → p < nPR (sV S b ρ) → w_X7_struckOut_b75 q (fun S v1 v2 v3 v4 v5 => w_X7_struckOut_b32 q t S v1 v2 v3 v4 v5) (fun S v1 v2 v3 v4 v5 v6 v7 => w_X7_struckOut_b43 q (fun S v1 v2 v3 v4 v5 => w_X7_struckOut_b32 q t S v1 v2 v3 v4 v5) t' S v1 v2 v3 v4 v5 v6 v7) S b (nI hh) (nI s) (sV S b ρ (132 + hh)) (nI j) (nI p) u (wI (reN (sV S b ρ) hh j p)) := by
      intro u eu hl y76 e76 y78 e78
      rw [e76, e78, eu, nI_1]
      exact ih' (p + 1) (by omega) (by omega)
    refine ⟨fun c => ?_, fun c => kx_hasBit (by omega) rfl (fun cb => ⟨fun z => absurd z (by decide), fun _ => nb _ ?_ (by omega)⟩) (fun cb => ⟨fun _ => T_oK_8 h hb (kx_rightsOf h hb hB rfl rfl (by omega) hh' (fun r er => nb _ ?_ (by omega))), fun z => absurd rfl z⟩)⟩
    · have ep : p = nPR (sV S b ρ) := by omega
      have gj : sV S b ρ (132 + hh) < wI (reN (sV S b ρ) hh j p) ↔ ¬ gdA (sV S b ρ) hh j = true := by
        unfold gdA
        rw [decide_eq_true_eq, Int32.lt_iff_toInt_lt, wI_i (by omega), ep]
        show iR (sV S b ρ) (132 + hh) < _ ↔ _
        omega
      have cj := cn_le j
      have cs := cn_le s
      have dn : ∀ z, isA (sV S b ρ) hh (j + 1) Q s → z = s ∨ z = j → (z = j ↔ gdA (sV S b ρ) hh j = true ∧ cnA j ≤ cnA s) → isA (sV S b ρ) hh j Q z := by
        intro z hz ez eq
        have d := isA_dn hz
        by_cases g : gdA (sV S b ρ) hh j = true ∧ cnA j ≤ cnA s
        · rw [eq.mpr g]
          exact d.1 g
        · rcases ez with ez | ez
          · rw [ez]
            exact d.2 g
          · exact absurd (eq.mp ez) g
      have fl : j + 1 = Q ∧ s = Q - 1 → s = j ∧ gdA (sV S b ρ) hh j = true := by
        rintro ⟨z1, z2⟩
        have : j = Q - 1 := by omega
        exact ⟨by omega, by rw [this]; exact gf⟩
      refine ⟨fun c1 => nx s hs ?_, fun c1 => x_bitCount (by omega) (x_bitCount (by omega) ?_)⟩
      · rcases hI with z | z
        · exact absurd (fl z).2 (gj.mp c1)
        · exact (isA_dn z).2 (fun w => gj.mp c1 w.1)
      · have g : gdA (sV S b ρ) hh j = true := Decidable.of_not_not (fun z => c1 (gj.mpr z))
        have lt : nI (cnA s) < nI (cnA j) ↔ cnA s < cnA j := by rw [Int32.lt_iff_toInt_lt, nI_toInt (by omega), nI_toInt (by omega)]; omega
        rw [lt]
        refine ⟨fun c2 => nx s hs ?_, fun c2 => nx j (by omega) ?_⟩
        · rcases hI with z | z
          · rw [(fl z).1] at c2
            exact absurd c2 (Nat.lt_irrefl _)
          · exact (isA_dn z).2 (fun w => by omega)
        · rcases hI with z | z
          · refine ⟨⟨Nat.le_refl _, by omega, g⟩, fun t t1 t2 _ => Or.inr ?_⟩
            have : t = j := by omega
            rw [this]
            exact ⟨rfl, Nat.le_refl _⟩
          · exact (isA_dn z).1 ⟨g, by omega⟩
    · rw [reN, if_pos cb, Int32.add_zero, Int.add_zero]
    · have rr : 0 ≤ r.toInt ∧ r.toInt ≤ 99 := by
        have rb' := reN_b (s := 0) hB (h := hh) (by omega) (p + 1) (by omega)
        have b := hB.1 (30 + 6 * p + hh) (by omega)
        rw [show rLo (30 + 6 * p + hh) = 0 by unfold rLo; rw [if_neg (by omega)], show rHi (30 + 6 * p + hh) = 99 by unfold rHi; rw [if_neg (by omega), if_neg (by omega), if_neg (by omega), if_neg (by omega), if_neg (by omega), if_neg (by omega), if_neg (by omega), if_neg (by omega), if_neg (by omega), if_neg (by omega), if_pos (by omega)]] at b
        rw [er]
        exact b
      rw [reN, if_neg cb]
      have : iR (sV S b ρ) (30 + 6 * p + hh) = r.toInt := by rw [er]; rfl
      rw [this]
      exact wI_add (wI_i (by omega)) rfl (by omega) (by omega)
end AN
