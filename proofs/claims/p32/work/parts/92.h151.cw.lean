/-! WHO IT CAN HAVE BEEN: THE CLASS -/
section CWK
variable {Γ : kG} {Φ : kF} {S : hS} {b i : Nat} {ρ : Nat → Nat}
/-- a clue's house -/
theorem clu_in {f : Nat → Int32} (hB : rB f) {k : Nat} (hk : k < 6) : chR f k ≤ 5 ∧ (f (170 + 2 * k)).toInt = chR f k := by
  have h1 := hB.1 (170 + 2 * k) (by omega)
  have h2 := hB.2.2.1 k hk
  have lo : rLo (170 + 2 * k) = 0 := by unfold rLo; rw [if_neg (by omega)]
  rw [lo] at h1
  have e : iR f (170 + 2 * k) = (f (170 + 2 * k)).toInt := rfl
  unfold chR
  omega
theorem nCR_le {f : Nat → Int32} (hB : rB f) : nCR f ≤ 6 ∧ f 2 = nI (nCR f) := by
  have b2 := hB.1 2 (by omega)
  rw [show rLo 2 = 0 by decide, show rHi 2 = 6 by decide] at b2
  have e : iR f 2 = (f 2).toInt := rfl
  have l : nCR f ≤ 6 := by unfold nCR; omega
  refine ⟨l, Int32.toInt_inj.mp ?_⟩
  rw [nI_toInt (by omega)]
  unfold nCR
  omega
theorem kx_couldWalk {q : Int32 → hS → Prop} {p : Nat} {v : Int32} (h : St Γ Φ S) (hb : Γ b = some (8, 8 + 10000 * i, i, 0, ρ)) (hB : rB (sV S b ρ)) (ev : v = nI p) (hp : p < 8) (k1 : okWk (sV S b ρ) p (nCR (sV S b ρ)) = true → q 1 S) (k0 : ¬ okWk (sV S b ρ) p (nCR (sV S b ρ)) = true → q 0 S) : w_X8_couldWalk q S b v := by
  subst ev
  obtain ⟨c6, e2⟩ := nCR_le hB
  unfold w_X8_couldWalk
  refine E_gP_8_5 h hb (fun _ => V_aI_h h hb (nI_toInt (by omega)) hp ?_)
  refine loop_m (σ := Nat) (fun t k => w_X8_couldWalk_b9 q t S b (wplR (sV S b ρ) p k) (nI k)) (fun k => k ≤ nCR (sV S b ρ) ∧ okWk (sV S b ρ) p k = true) (fun k => nCR (sV S b ρ) - k) ?_ 0 ⟨Nat.zero_le _, rfl⟩
  rintro t k ⟨hk, hw⟩ ih
  rw [w_X8_couldWalk_b9]
  refine V_gI_9 h hb (fun r => ?_)
  rw [e2, nI_leI (by omega) (by omega)]
  refine ⟨fun c => k1 (by rw [show nCR (sV S b ρ) = k by omega]; exact hw), fun c => E_gP_8_2 h hb (fun _ => E_gP_8_10 h hb (fun _ => V_aI_c h hb (nI_toInt (by omega)) (by omega) ?_))⟩
  obtain ⟨cl, ce⟩ := clu_in hB (k := k) (by omega)
  refine V_aI_p h hb ce (by omega) ?_
  show (fun x33 S => _) (stE (wplR (sV S b ρ) p k) (sV S b ρ (126 + chR (sV S b ρ) k))) S
  refine E_gP_8_11 h hb (fun _ => V_aI_d h hb (nI_toInt (by omega)) (by omega) ⟨fun c2 y ey => ?_, fun c2 => k0 (fun z => ?_)⟩)
  · rw [ey, nI_1]
    have e : sV S b ρ (126 + chR (sV S b ρ) k) = wplR (sV S b ρ) p (k + 1) := by
      unfold wplR
      rw [if_neg (by omega), Nat.add_sub_cancel]
    rw [e]
    refine ih (k + 1) ⟨by omega, ?_⟩ (by omega)
    rw [okWk, Bool.and_eq_true, decide_eq_true_eq]
    exact ⟨hw, c2⟩
  · exact c2 ((okWk_iff _).mp z k (by omega))
theorem kx_hasRings {q : Int32 → hS → Prop} {p : Nat} {v : Int32} (h : St Γ Φ S) (hb : Γ b = some (8, 8 + 10000 * i, i, 0, ρ)) (hB : rB (sV S b ρ)) (ev : v = nI p) (hp : (p : Int) < iR (sV S b ρ) 1) (k1 : (∀ h : Nat, (h : Int) < iR (sV S b ρ) 0 → (toR (sV S b ρ) h (nCR (sV S b ρ)) : Int) ≤ leftR (sV S b ρ) p h) → q 1 S) (k0 : (¬ ∀ h : Nat, (h : Int) < iR (sV S b ρ) 0 → (toR (sV S b ρ) h (nCR (sV S b ρ)) : Int) ≤ leftR (sV S b ρ) p h) → q 0 S) : w_X8_hasRingsForClues q S b v := by
  obtain ⟨c6, e2⟩ := nCR_le hB
  have b0 := rB_0 hB
  have b1 := rB_1 hB
  have e0 : (sV S b ρ 0) = nI (nHR (sV S b ρ)) := by
    apply Int32.toInt_inj.mp
    have : iR (sV S b ρ) 0 = (sV S b ρ 0).toInt := rfl
    unfold nHR
    rw [nI_toInt (by omega)]; omega
  have hH : nHR (sV S b ρ) ≤ 6 := by unfold nHR; omega
  have iH : iR (sV S b ρ) 0 = nHR (sV S b ρ) := by unfold nHR; omega
  refine loop_m (σ := Nat) (fun t k => w_X8_hasRingsForClues_b2 q t S b v (nI k)) (fun k => k ≤ nHR (sV S b ρ) ∧ ∀ h, h < k → (toR (sV S b ρ) h (nCR (sV S b ρ)) : Int) ≤ leftR (sV S b ρ) p h) (fun k => nHR (sV S b ρ) - k) ?_ 0 ⟨Nat.zero_le _, fun h hh => absurd hh (Nat.not_lt_zero _)⟩
  rintro t k ⟨hk, hw⟩ ih
  rw [w_X8_hasRingsForClues_b2]
  refine V_gI_1 h hb (fun r => ?_)
  rw [e0, nI_leI (by omega) (by omega)]
  refine ⟨fun c => k1 (fun h hh => hw h (by omega)), fun c => ?_⟩
  refine loop_m (σ := Nat) (fun t' j => w_X8_hasRingsForClues_b15 q (fun S v0 v1 v2 => w_X8_hasRingsForClues_b2 q t S v0 v1 v2) t' S b v (nI k) (nI (toR (sV S b ρ) k j)) (nI j)) (fun j => j ≤ nCR (sV S b ρ)) (fun j => nCR (sV S b ρ) - j) ?_ 0 (Nat.zero_le _)
  rintro t' j hj ih'
  have tl := toR_le (f := sV S b ρ) (h := k) j
  rw [w_X8_hasRingsForClues_b15]
  refine V_gI_9 h hb (fun r => ?_)
  rw [e2, nI_leI (by omega) (by omega)]
  refine ⟨fun c2 => ?_, fun c2 => E_gP_8_10 h hb (fun _ => V_aI_c h hb (nI_toInt (by omega)) (by omega) ?_)⟩
  · have ej : j = nCR (sV S b ρ) := by omega
    refine T_oK_8 h hb (kx_leftOf h hb hB ev rfl hp (by omega) (fun r er => ⟨fun c3 y ey => ?_, fun c3 => k0 (fun z => ?_)⟩))
    · rw [ey, nI_1]
      rw [Int32.le_iff_toInt_le, nI_toInt (by omega), er, ej] at c3
      refine ih (k + 1) ⟨by omega, fun h hh => ?_⟩ (by omega)
      by_cases e : h = k
      · rw [e]; exact c3
      · exact hw h (by omega)
    · rw [Int32.le_iff_toInt_le, nI_toInt (by omega), er, ej] at c3
      exact c3 (z k (by omega))
  · obtain ⟨cl, ce⟩ := clu_in hB (k := j) (by omega)
    have eq : sV S b ρ (170 + 2 * j) = nI k ↔ chR (sV S b ρ) j = k := by
      rw [← Int32.toInt_inj, ce, nI_toInt (by omega)]
      omega
    refine ⟨fun c3 y ey => ?_, fun c3 z ez y ey => ?_⟩
    · rw [ey, nI_1]
      have := ih' (j + 1) (by omega) (by omega)
      rw [toR, if_neg (fun z => c3 (eq.mpr z))] at this
      exact this
    · rw [ey, ez, nI_1, nI_1]
      have := ih' (j + 1) (by omega) (by omega)
      rw [toR, if_pos (eq.mp c3)] at this
      exact this
theorem kx_suspects {q : Int32 → hS → Prop} (h : St Γ Φ S) (hb : Γ b = some (8, 8 + 10000 * i, i, 0, ρ)) (hB : rB (sV S b ρ)) (hc : cluF (sV S b ρ)) (k : q (whoR (sV S b ρ) (nPR (sV S b ρ))) S) : w_X8_suspects q S b := by
  have b1 := rB_1 hB
  have e1 : (sV S b ρ 1) = nI (nPR (sV S b ρ)) := by
    apply Int32.toInt_inj.mp
    have : iR (sV S b ρ) 1 = (sV S b ρ 1).toInt := rfl
    unfold nPR
    rw [nI_toInt (by omega)]; omega
  have hP : nPR (sV S b ρ) ≤ 8 := by unfold nPR; omega
  have iP : iR (sV S b ρ) 1 = nPR (sV S b ρ) := by unfold nPR; omega
  refine loop_m (σ := Nat) (fun t n => w_X8_suspects_b4 q t S b (whoR (sV S b ρ) n) (nI n)) (fun n => n ≤ nPR (sV S b ρ)) (fun n => nPR (sV S b ρ) - n) ?_ 0 (Nat.zero_le _)
  rintro t n hn ih
  rw [w_X8_suspects_b4]
  refine V_gI_4 h hb (fun r => ?_)
  rw [e1, nI_leI (by omega) (by omega)]
  refine ⟨fun c => by rw [show n = nPR (sV S b ρ) by omega]; exact k, fun c => ?_⟩
  have lv : liveR (sV S b ρ) n = true ↔ iR (sV S b ρ) (22 + n) = 0 := by unfold liveR; rw [decide_eq_true_eq]
  have no : ¬ canR (sV S b ρ) n = true → w_X8_suspects_b42 q (fun S v0 v1 v2 => w_X8_suspects_b4 q t S v0 v1 v2) S b (whoR (sV S b ρ) n) (nI n) := by
    intro hn' y ey
    rw [ey, nI_1]
    have := ih (n + 1) (by omega) (by omega)
    rw [whoR, if_neg hn'] at this
    exact this
  have can : canR (sV S b ρ) n = true ↔ (liveR (sV S b ρ) n = true ∧ okWk (sV S b ρ) n (nCR (sV S b ρ)) = true) ∧ okTd (sV S b ρ) n (nCR (sV S b ρ)) = true := by
    unfold canR
    rw [Bool.and_eq_true, Bool.and_eq_true]
  refine T_oK_8 h hb (kx_lives h hb b1 rfl (by omega) (fun cl => ⟨fun z => absurd z (by decide), fun _ => T_oK_8 h hb (kx_couldWalk h hb hB rfl (by omega) (fun cw => ⟨fun z => absurd z (by decide), fun _ => T_oK_8 h hb (kx_hasRings h hb hB rfl (by omega) (fun ct => ⟨fun z => absurd z (by decide), fun _ y ey y2 ey2 => ?_⟩) (fun ct => ⟨fun _ => no (fun z => ct ((okTd_all hB hc (by omega)).mp (can.mp z).2)), fun z => absurd rfl z⟩))⟩) (fun cw => ⟨fun _ => no (fun z => cw (can.mp z).1.2), fun z => absurd rfl z⟩))⟩) (fun cd => ⟨fun _ => no (fun z => cd (lv.mp (can.mp z).1.1)), fun z => absurd rfl z⟩))
  rw [ey2, ey, nI_1]
  have := ih (n + 1) (by omega) (by omega)
  rw [whoR, if_pos (can.mpr ⟨⟨lv.mpr cl, cw⟩, (okTd_all hB hc (by omega)).mpr ct⟩)] at this
  exact this
end CWK
