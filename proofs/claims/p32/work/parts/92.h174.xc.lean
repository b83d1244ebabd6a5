/-! AN EXCHANGE, IN THE CLASS -/
def edF (f : Nat → Int32) (k t : Nat) : Bool := liveR f k && liveR f t && decide (0 ≤ iR f (154 + k)) && decide (1 ≤ leftR f t (iR f (154 + k)).toNat)
theorem edF_iff {f : Nat → Int32} {k t : Nat} : edF f k t = true ↔ iR f (22 + k) = 0 ∧ iR f (22 + t) = 0 ∧ 0 ≤ iR f (154 + k) ∧ 1 ≤ leftR f t (iR f (154 + k)).toNat := by
  unfold edF liveR
  simp only [Bool.and_eq_true, decide_eq_true_eq]
  exact ⟨fun ⟨⟨⟨a, b⟩, c⟩, d⟩ => ⟨a, b, c, d⟩, fun ⟨a, b, c, d⟩ => ⟨⟨⟨a, b⟩, c⟩, d⟩⟩
section XC
variable {Γ : kG} {Φ : kF} {S : hS} {a b i : Nat} {ρ ρa : Nat → Nat} {L : List Nat}
theorem kx_canGive {q : Int32 → hS → Prop} {p t : Nat} (h : St Γ Φ S) (hb : Γ b = some (8, 8 + 10000 * i, i, 0, ρ)) (hB : rB (sV S b ρ)) (hW : wtF (sV S b ρ)) (hp : (p : Int) < iR (sV S b ρ) 1) (ht : (t : Int) < iR (sV S b ρ) 1) (k1 : edF (sV S b ρ) p t = true → q 1 S) (k0' : ¬ edF (sV S b ρ) p t = true → q 0 S) : w_X4_canGive q S b (nI p) (nI t) := by
  have b1 := rB_1 hB
  have b0 := rB_0 hB
  unfold w_X4_canGive
  refine T_oK_8 h hb (kx_lives h hb b1 rfl hp (fun lp => ⟨fun z => absurd z (by decide), fun _ => T_oK_8 h hb (kx_lives h hb b1 rfl ht (fun lt => ⟨fun z => absurd z (by decide), fun _ => E_gP_8_7 h hb (fun _ => V_aI_n h hb (nI_toInt (by omega)) (by omega) (T_oK_8 h hb ?_))⟩) (fun nt => ⟨fun _ => k0' (fun z => nt (edF_iff.mp z).2.1), fun z => absurd rfl z⟩))⟩) (fun np => ⟨fun _ => k0' (fun z => np (edF_iff.mp z).1), fun z => absurd rfl z⟩))
  have w1 := hW p hp
  have w2 := hB.1 (154 + p) (by omega)
  rw [show rLo (154 + p) = -1 by unfold rLo; rw [if_pos (by omega)]] at w2
  by_cases c : 0 ≤ iR (sV S b ρ) (154 + p)
  · obtain ⟨w, hw, ew⟩ := pIx 6 (by omega) (show 0 ≤ (sV S b ρ (154 + p)).toInt from c) (by show iR (sV S b ρ) (154 + p) < _; omega)
    have iw : iR (sV S b ρ) (154 + p) = w := by
      unfold iR
      rw [ew, nI_toInt (by omega)]
    rw [ew]
    refine kx_leftOf h hb hB rfl rfl ht (by omega) (fun r er => ⟨fun c1 => k0' (fun z => ?_), fun c1 => k1 (edF_iff.mpr ⟨lp, lt, c, ?_⟩)⟩)
    · have := (edF_iff.mp z).2.2.2
      rw [Int32.lt_iff_toInt_lt, er, show (1 : Int32).toInt = 1 by decide] at c1
      rw [iw, show ((w : Int)).toNat = w by omega] at this
      omega
    · rw [Int32.lt_iff_toInt_lt, er, show (1 : Int32).toInt = 1 by decide] at c1
      rw [iw, show ((w : Int)).toNat = w by omega]
      omega
  · unfold w_X8_leftOf
    refine T_oK_8 h hb (hP_y h hb (by rw [nI_toInt (by omega)]; omega) ⟨fun z => absurd z (by decide), fun _ => T_oK_8 h hb (hH_n h hb (fun z => c z.1) ⟨fun z => absurd rfl z, fun _ => ⟨fun _ => k0' (fun z => c (edF_iff.mp z).2.2.1), fun z => absurd (by decide) z⟩⟩)⟩)
theorem wI_m1 {z : Int} (h : -1 ≤ z ∧ z ≤ 8) : wI z = -1 ↔ z = -1 := by
  rw [← Int32.toInt_inj, wI_i (by omega), show (-1 : Int32).toInt = -1 by decide]
theorem kx_mostIfGives {q : Int32 → hS → Prop} {n m p t : Nat} (h : St Γ Φ S) (ha : Γ a = some (4, 4, 0, 0, ρa)) (hb : Γ b = some (8, 8 + 10000 * i, i, 0, ρ)) (hB : rB (sV S b ρ)) (hW : wtF (sV S b ρ)) (en : n = nPR (sV S b ρ)) (hm : m < 2 ^ n) (hp : p < n) (ht : t < n) (hM : m.testBit t = false → aV S (ρa 5) (m ||| 2 ^ t) = wI (MX n (edF (sV S b ρ)) (m ||| 2 ^ t))) (k : q (wI (opX (edF (sV S b ρ)) (MX n (edF (sV S b ρ))) p m t)) S) : w_X4_mostIfGives q S a b (nI m) (nI p) (nI t) := by
  have b1 := rB_1 hB
  have iP : iR (sV S b ρ) 1 = n := by rw [en]; unfold nPR; omega
  have p2 := pw_256 n (by omega)
  have mb := mk_bit m (by omega) t (by omega)
  have l2 := mk_lt hm ht
  have bb := MX_b (n := n) (ed := edF (sV S b ρ)) (m ||| 2 ^ t)
  unfold opX at k
  unfold w_X4_mostIfGives
  refine kx_hasBit (by omega) rfl (fun cb => ⟨fun z => absurd z (by decide), fun _ => ?_⟩) (fun cb => ⟨fun _ => ?_, fun z => absurd rfl z⟩)
  · rw [if_pos (mb.mp cb)] at k
    exact k
  · have nb : ¬ m.testBit t = true := fun z => cb (mb.mpr z)
    have nb' : m.testBit t = false := by
      cases z : m.testBit t with
      | true => exact absurd z nb
      | false => rfl
    rw [if_neg nb] at k
    rw [mk_or m (by omega) t (by omega)]
    refine E_gP_4_5 h ha (fun g5 => T_aI_20 h g5 ⟨by rw [nI_toInt (by omega)]; omega, by rw [nI_toInt (by omega)]; omega⟩ (fun x ex _ => ?_))
    rw [nI_clamp (by omega), hM nb'] at ex
    subst ex
    rw [wI_m1 (by omega), nI_eq (by omega) (by omega)]
    refine ⟨fun c => ?_, fun c => ⟨fun c2 => kx_canGive h hb hB hW (by omega) (by omega) (fun ce => ⟨fun z => absurd z (by decide), fun _ => ?_⟩) (fun ce => ⟨fun _ => ?_, fun z => absurd rfl z⟩), fun c2 => ?_⟩⟩
    · rw [if_pos (Or.inl c)] at k
      exact k
    · rw [if_neg (fun z => z.elim c c2), if_pos ce] at k
      rw [wI_add (wI_i (by omega)) (show (1 : Int32).toInt = 1 by decide) (by omega) (by omega)]
      exact k
    · rw [if_neg (fun z => z.elim c c2), if_neg ce] at k
      exact k
    · rw [if_pos (Or.inr c2)] at k
      exact k
theorem opX_e {n : Nat} {ed : Nat → Nat → Bool} (p m t : Nat) : -1 ≤ opX ed (MX n ed) p m t ∧ opX ed (MX n ed) p m t ≤ n + 1 := opX_b (by omega) (MX_b _)
theorem wI_e {u v : Int} (hu : -1 ≤ u ∧ u ≤ 9) (hv : -1 ≤ v ∧ v ≤ 9) : wI u = wI v ↔ u = v := by
  rw [← Int32.toInt_inj, wI_i (by omega), wI_i (by omega)]
theorem kx_firstGiver {q : Int32 → hS → Prop} {n m p : Nat} (h : St Γ Φ S) (ha : Γ a = some (4, 4, 0, 0, ρa)) (hb : Γ b = some (8, 8 + 10000 * i, i, 0, ρ)) (hB : rB (sV S b ρ)) (hW : wtF (sV S b ρ)) (en : n = nPR (sV S b ρ)) (hm : m < 2 ^ n) (hp : p < n) (hM : ∀ m', m' < 2 ^ n → aV S (ρa 5) m' = wI (MX n (edF (sV S b ρ)) m')) (k : q (nI (pkX n (edF (sV S b ρ)) p m)) S) : w_X4_firstBestGiver q S a b (nI m) (nI p) := by
  have b1 := rB_1 hB
  have iP : iR (sV S b ρ) 1 = n := by rw [en]; unfold nPR; omega
  have e1 : (sV S b ρ 1) = nI n := by
    apply Int32.toInt_inj.mp
    have : iR (sV S b ρ) 1 = (sV S b ρ 1).toInt := rfl
    rw [nI_toInt (by omega)]; omega
  have p2 := pw_256 n (by omega)
  obtain ⟨P, eP⟩ : ∃ P, P = fun t => decide (t ≠ p) && decide (opX (edF (sV S b ρ)) (MX n (edF (sV S b ρ))) p m t = MX n (edF (sV S b ρ)) m) := ⟨_, rfl⟩
  have pk : pkX n (edF (sV S b ρ)) p m = if lsN P n < n then lsN P n else p := by rw [eP]; rfl
  have Pt : ∀ t, P t = true ↔ t ≠ p ∧ opX (edF (sV S b ρ)) (MX n (edF (sV S b ρ))) p m t = MX n (edF (sV S b ρ)) m := fun t => by
    rw [eP]
    simp only [Bool.and_eq_true, decide_eq_true_eq]
  have Pf : ∀ t, ¬ P t = true → P t = false := fun t ht => by
    cases z : P t with
    | true => exact absurd z ht
    | false => rfl
  refine loop_m (σ := Nat) (fun t' t => w_X4_firstBestGiver_b3 q t' S a b (nI m) (nI p) (nI t)) (fun t => t ≤ n ∧ ∀ j, j < t → P j = false) (fun t => n - t) ?_ 0 ⟨Nat.zero_le _, fun j hj => absurd hj (Nat.not_lt_zero _)⟩
  rintro t' t ⟨ht, hj⟩ ih
  rw [w_X4_firstBestGiver_b3]
  refine V_gI_4 h hb (fun _ => ?_)
  rw [e1, nI_leI (by omega) (by omega), nI_eq (by omega) (by omega)]
  have nx : t < n → P t = false → w_X4_firstBestGiver_b39 q (fun S v0 v1 v2 v3 v4 => w_X4_firstBestGiver_b3 q t' S v0 v1 v2 v3 v4) S a b (nI m) (nI p) (nI t) := by
    intro htn hf y ey
    rw [ey, nI_1]
    refine ih (t + 1) ⟨by omega, fun j hj' => ?_⟩ (by omega)
    by_cases e : j = t
    · rw [e]; exact hf
    · exact hj j (by omega)
  refine ⟨fun c => ?_, fun c => ⟨fun c2 => nx (by omega) (Pf t (fun z => ((Pt t).mp z).1 c2)), fun c2 => T_oK_4 h ha (kx_mostIfGives h ha hb hB hW en hm hp (by omega) (fun _ => hM _ (mk_lt hm (by omega))) (E_gP_4_5 h ha (fun g5 => T_aI_20 h g5 ⟨by rw [nI_toInt (by omega)]; omega, by rw [nI_toInt (by omega)]; omega⟩ (fun x ex _ => ?_))))⟩⟩
  · have et : t = n := by omega
    have : lsN P n = n := lsN_is (Nat.le_refl _) (fun z => absurd z (Nat.lt_irrefl _)) (fun j hj' => hj j (by omega))
    rw [pk, this, if_neg (Nat.lt_irrefl _)] at k
    exact k
  · have o1 := opX_e (n := n) (ed := edF (sV S b ρ)) p m t
    have o2 := MX_b (n := n) (ed := edF (sV S b ρ)) m
    rw [nI_clamp (by omega), hM m hm] at ex
    rw [ex, wI_e (by omega) (by omega)]
    refine ⟨fun z => nx (by omega) (Pf t (fun y => z ((Pt t).mp y).2)), fun z => ?_⟩
    have : lsN P n = t := lsN_is (by omega) (fun _ => (Pt t).mpr ⟨c2, z⟩) (fun j hj' => hj j hj')
    rw [pk, this, if_pos (by omega)] at k
    exact k
end XC
