/-! AN EXCHANGE, THE CLASS'S QUESTION -/
section XD
variable {Γ : kG} {Φ : kF} {S : hS} {a b i : Nat} {ρ ρa : Nat → Nat} {L : List Nat}
theorem kx_findExchange {q : Int32 → hS → Prop} {n : Nat} {F : Nat → Int32} (h : St Γ Φ S) (hf : fre Γ Φ L) (h505 : 505 ∈ L) (h506 : 506 ∈ L) (ha : Γ a = some (4, 4, 0, 0, ρa)) (hb : Γ b = some (8, 8 + 10000 * i, i, 0, ρ)) (eF : sV S b ρ = F) (hB : rB F) (hW : wtF F) (en : n = nPR F) (k : ∀ S', St Γ Φ S' → (∀ p, p < n → aV S' (ρa 6) p = nI (gvX n (edF F) p)) → q (wI (MX n (edF F) 0)) S') : w_X4_findExchange q S a b := by
  have b1 := rB_1 hB
  have iP : iR F 1 = n := by rw [en]; unfold nPR; omega
  have e1 : F 1 = nI n := by
    apply Int32.toInt_inj.mp
    have : iR F 1 = (F 1).toInt := rfl
    rw [nI_toInt (by omega)]; omega
  have hn : n ≤ 8 := by omega
  have p2 := pw_256 n (by omega)
  have Mf := MX_full (ed := edF F) hn
  have mf := mk_full n (by omega)
  have mks := mkX_sp (ed := edF F) hn
  obtain ⟨Q, eQ⟩ : ∃ Q, Q = 2 ^ n := ⟨_, rfl⟩
  have g5 := (P_4_5 h ha).2
  have g6 := (P_4_6 h ha).2
  have n56 : ρa 5 ≠ ρa 6 := nmne g5 g6 (by decide)
  -- who gives
  have k92 : ∀ S', St Γ Φ S' → sV S' b ρ = F → (∀ m, m < 2 ^ n → aV S' (ρa 5) m = wI (MX n (edF F) m)) → ∃ t, w_X4_findExchange_b92 q t S' a b (nI n) 0 0 := by
    intro S0 h0 f0 M0
    refine loop_m (σ := hS × Nat) (fun t s => w_X4_findExchange_b92 q t s.1 a b (nI n) (nI (mkX n (edF F) s.2)) (nI s.2)) (fun s => s.2 ≤ n ∧ St Γ Φ s.1 ∧ sV s.1 b ρ = F ∧ (∀ m, m < 2 ^ n → aV s.1 (ρa 5) m = wI (MX n (edF F) m)) ∧ ∀ p, p < s.2 → aV s.1 (ρa 6) p = nI (gvX n (edF F) p)) (fun s => n - s.2) ?_ (S0, 0) ⟨Nat.zero_le _, h0, f0, M0, fun p hp => absurd hp (Nat.not_lt_zero _)⟩
    rintro t ⟨S, p⟩ ⟨hp, h, fe, hM, hg⟩ ih
    dsimp only at hp h fe hM hg ih ⊢
    obtain ⟨k1, k2, k3⟩ := mks p hp
    rw [w_X4_findExchange_b92, nI_leI (by omega) (by omega)]
    refine ⟨fun c => E_gP_4_5 h ha (fun _ => T_aI_20 h g5 ⟨by decide, by decide⟩ (fun x ex _ => ?_)), fun c => T_oK_4 h ha (kx_firstGiver h ha hb (by rw [fe]; exact hB) (by rw [fe]; exact hW) (by rw [fe]; exact en) k1 (by omega) (fun m' hm' => by rw [fe]; exact hM m' hm') ?_)⟩
    · rw [show (0 : Int32).toNatClampNeg = 0 by decide, hM 0 (by omega)] at ex
      rw [ex]
      exact k S h (fun p' hp' => hg p' (by omega))
    · rw [fe]
      have nf : mkX n (edF F) p ≠ 2 ^ n - 1 := fun z => by
        have := mf.1
        rw [← z] at this
        omega
      obtain ⟨j1, j2, j3, j4⟩ := pk_sp (ed := edF F) hn k1 nf k3
      rw [k2] at j1 j2 j3 j4
      have k129 : ∀ v : Int32, v = nI (gvX n (edF F) p) → w_X4_findExchange_b129 q (fun S v0 v1 v2 v4 v5 => w_X4_findExchange_b92 q t S v0 v1 v2 v4 v5) S a b (nI n) (nI (mkX n (edF F) p)) (nI p) (nI (pkX n (edF F) p (mkX n (edF F) p))) v (nI p) (ρa 6) := by
        intro v ev
        unfold w_X4_findExchange_b129
        refine T_sI_20 h hf g6 h506 ⟨by rw [nI_toInt (by omega)]; omega, by rw [nI_toInt (by omega)]; omega⟩ (fun S' h' s1 s2 _ s4 y ey y' ey' => ?_)
        rw [nI_clamp (by omega)] at s4
        rw [ey, ey', nI_1, mk_or _ (by omega) _ (by omega)]
        refine ih (S', p + 1) ⟨by dsimp only; omega, h', by rw [← fe]; exact sV_arr h hb g6 (by omega) s1 s2, fun m hm => by rw [s2 _ _ n56]; exact hM m hm, fun p' hp' => ?_⟩ (by dsimp only; omega)
        dsimp only at hp' ⊢
        rw [s4]
        by_cases cp : p' = p
        · rw [if_pos cp, cp, ev]
        · rw [if_neg cp]
          exact hg p' (by omega)
      refine E_gP_4_6 h ha (fun _ => ?_)
      rw [nI_eq (by omega) (by omega)]
      refine ⟨fun c2 => k129 _ ?_, fun c2 => k129 _ ?_⟩
      · unfold gvX
        rw [if_neg c2]
      · unfold gvX
        rw [if_pos c2]
        rfl
  unfold w_X4_findExchange
  refine V_gI_4 h hb (fun _ y10 e10 => ?_)
  rw [eF, e1, sh1 _ (by omega), ← eQ] at e10
  have e10' : y10 = nI (Q - 1) := by
    have z := nI_pm1 (Q - 1)
    rw [show Q - 1 + 1 = Q by omega] at z
    rw [e10, z]
  rw [eF, e1]
  refine E_gP_4_5 h ha (fun _ => ?_)
  rw [e10']
  refine T_sI_20 h hf g5 h505 ⟨by rw [nI_toInt (by omega)]; omega, by rw [nI_toInt (by omega)]; omega⟩ (fun S1 h1 s1 s2 _ s4 y21 e21 => ?_)
  rw [nI_clamp (by omega)] at s4
  rw [e21]
  refine loop_m (σ := hS × Nat) (fun t s => w_X4_findExchange_b23 q t s.1 a b (nI n) (nI s.2 - 1)) (fun s => s.2 < Q ∧ St Γ Φ s.1 ∧ sV s.1 b ρ = F ∧ ∀ m, s.2 ≤ m → m < Q → aV s.1 (ρa 5) m = wI (MX n (edF F) m)) (fun s => s.2) ?_ (S1, Q - 1) ⟨by dsimp only; omega, h1, by rw [← eF]; exact sV_arr h hb g5 (by omega) s1 s2, fun m a1 a2 => ?_⟩
  · rintro t ⟨S, m⟩ ⟨hm, h, fe, hM⟩ ih
    dsimp only at hm h fe hM ih ⊢
    rw [w_X4_findExchange_b23]
    cases m with
    | zero => exact ⟨fun _ => k92 S h fe (fun m hm => hM m (Nat.zero_le _) (by omega)), fun c => absurd (by decide) c⟩
    | succ j =>
      rw [nI_pm1]
      refine ⟨fun c => absurd c (by rw [Int32.lt_iff_toInt_lt, nI_toInt (by omega), show (0 : Int32).toInt = 0 by decide]; omega), fun _ => x_bitCount (by omega) ?_⟩
      have fj := mf.2 j (by omega) (by omega)
      have cj : cnA j < n := by
        have : cnA j ≠ n := fun z => by
          have := fj.2 z
          omega
        omega
      refine loop_m (σ := Nat) (fun t' p => w_X4_findExchange_b41 q (fun S v0 v1 v2 v4 => w_X4_findExchange_b23 q t S v0 v1 v2 v4) t' S a b (nI n) (nI j) (nI (cnA j)) (wI (mxI (opX (edF F) (MX n (edF F)) (cnA j) j) p)) (nI p)) (fun p => p ≤ n) (fun p => n - p) ?_ 0 (Nat.zero_le _)
      rintro t' p hp ih'
      have lo := mxI_lo (g := opX (edF F) (MX n (edF F)) (cnA j) j) p
      have hi := mxI_le (g := opX (edF F) (MX n (edF F)) (cnA j) j) (B := n + 1) (by omega) p (fun y _ => (opX_e (n := n) (ed := edF F) (cnA j) j y).2)
      rw [w_X4_findExchange_b41, nI_leI (by omega) (by omega)]
      refine ⟨fun c => E_gP_4_5 h ha (fun _ => T_sI_20 h hf g5 h505 ⟨by rw [nI_toInt (by omega)]; omega, by rw [nI_toInt (by omega)]; omega⟩ (fun S' h' s1 s2 _ s4 y ey => ?_)), fun c => T_oK_4 h ha (kx_mostIfGives h ha hb (by rw [fe]; exact hB) (by rw [fe]; exact hW) (by rw [fe]; exact en) (by omega) cj (by omega) (fun nb => ?_) (fun y63 e63 y65 e65 => ?_))⟩
      · rw [nI_clamp (by omega)] at s4
        rw [ey, nI_am1]
        refine ih (S', j) ⟨by dsimp only; omega, h', by rw [← fe]; exact sV_arr h hb g5 (by omega) s1 s2, fun m a1 a2 => ?_⟩ (by dsimp only; omega)
        dsimp only at a1 ⊢
        rw [s4]
        by_cases c2 : m = j
        · rw [if_pos c2, c2, MX_s hn (by omega) (by omega), show p = n by omega]
        · rw [if_neg c2]
          exact hM m (by omega) a2
      · have := mk_cn j (by omega) p (by omega) nb
        rw [fe]
        exact hM _ (by omega) (by rw [eQ]; exact mk_lt (by omega) (by omega))
      · rw [fe] at e63
        have ob := opX_e (n := n) (ed := edF F) (cnA j) j p
        rw [e65, nI_1]
        have : y63 = wI (mxI (opX (edF F) (MX n (edF F)) (cnA j) j) (p + 1)) := by
          rw [e63, mxI]
          have lt : wI (mxI (opX (edF F) (MX n (edF F)) (cnA j) j) p) < wI (opX (edF F) (MX n (edF F)) (cnA j) j p) ↔ mxI (opX (edF F) (MX n (edF F)) (cnA j) j) p < opX (edF F) (MX n (edF F)) (cnA j) j p := by rw [Int32.lt_iff_toInt_lt, wI_i (by omega), wI_i (by omega)]
          by_cases c3 : mxI (opX (edF F) (MX n (edF F)) (cnA j) j) p < opX (edF F) (MX n (edF F)) (cnA j) j p
          · rw [if_pos c3, if_pos (lt.mpr c3)]
          · rw [if_neg c3, if_neg (fun z => c3 (lt.mp z))]
        rw [this]
        exact ih' (p + 1) (by omega) (by omega)
  · dsimp only at a1
    have : m = Q - 1 := by omega
    rw [s4, if_pos this, this, eQ, Mf]
    rfl
end XD
def spExch (a : Int32) (T : aS) : Int32 := if ¬ (0 ≤ a.toInt ∧ a.toInt ≤ iR T.1.1 1) then -1 else if a.toInt = 0 then wI (MX (nPR T.1.1) (edF T.1.1) 0) else nI (gvX (nPR T.1.1) (edF T.1.1) (a.toInt.toNat - 1))
section XE
variable {Γ : kG} {Φ : kF} {S : hS} {x : Nat} {ρ : Nat → Nat} {rs : Nat} {T : aS} {L : List Nat}
theorem cx_exchange {q : Int32 → hS → Prop} {a : Int32} (hs : St Γ Φ S) (hf : fre Γ Φ L) (h505 : 505 ∈ L) (h506 : 506 ∈ L) (h : CR Γ S x ρ rs T) (hW : wtB T) (k : ∀ S', St Γ Φ S' → q (spExch a T) S') : w_X11_exchange q S x a := by
  obtain ⟨t1, t2, t3, t4, t5⟩ := h.2.1
  have b1 := rB_1 t3
  have iP : iR T.1.1 1 = nPR T.1.1 := by unfold nPR; omega
  have i1 : (sV S (ρ 0) (bk 0 ρ) 1).toInt = iR T.1.1 1 := by rw [t2]; rfl
  have z0 : (0 : Int32).toInt = 0 := by decide
  have z1 : (1 : Int32).toInt = 1 := by decide
  unfold spExch at k
  unfold w_X11_exchange
  refine ⟨fun c => ⟨fun c1 => ?_, fun c1 => ?_⟩, fun c => E_gP_11_8 hs h.1 (fun k8 => E_gP_11_0 hs h.1 (fun _ => T_oK_4 hs k8 (kx_findExchange hs hf h505 h506 k8 t1 t2 t3 hW.1 rfl (fun S' h' _ => ?_))))⟩
  · have := k S hs
    rw [Int32.lt_iff_toInt_lt, z1] at c1
    have c' : a.toInt ≠ 0 := fun z => c (Int32.toInt_inj.mp (by rw [z, z0]))
    rw [if_pos (fun z => by omega)] at this
    exact this
  · rw [Int32.lt_iff_toInt_lt, z1] at c1
    have ba := Int32.toInt_lt a
    have ea : (a - 1).toInt = a.toInt - 1 := by rw [fb_subI (by rw [z1]; omega) (by rw [z1]; omega), z1]
    refine E_gP_11_0 hs h.1 (fun _ => T_oK_8 hs t1 (kx_X8_hasPerson hs t1 (fun np => ⟨fun z => absurd rfl z, fun _ => ?_⟩) (fun p1 p2 _ => ⟨fun _ => E_gP_11_8 hs h.1 (fun k8 => E_gP_11_0 hs h.1 (fun _ => T_oK_4 hs k8 (kx_findExchange hs hf h505 h506 k8 t1 t2 t3 hW.1 rfl (fun S' h' hg => E_gP_11_8 h' h.1 (fun k8 => E_gP_4_6 h' k8 (fun g6 => ?_)))))), fun z => absurd z (by decide)⟩)))
    · have := k S hs
      rw [i1, ea] at np
      rw [if_pos (fun z => by omega)] at this
      exact this
    · rw [ea] at p1
      rw [i1, ea] at p2
      have := k S' h'
      rw [if_neg (fun z => by omega), if_neg (by omega)] at this
      refine T_aI_20 h' g6 ⟨by rw [ea]; omega, by rw [ea]; omega⟩ (fun v ev _ => ?_)
      have cl : (a - 1).toNatClampNeg = a.toInt.toNat - 1 := by
        have := cl_eq (i := a - 1) (by rw [ea]; omega)
        rw [ea] at this
        omega
      rw [cl, hg _ (by omega)] at ev
      rw [ev]
      exact this
  · have := k S' h'
    rw [c, z0, if_neg (fun z => by omega), if_pos rfl] at this
    exact this
end XE
