/-! THE CHEAPEST CHAIN, FOUND BY THE CLASS -/
section CK
variable {Γ : kG} {Φ : kF} {S : hS} {a : Nat} {ρa : Nat → Nat} {L : List Nat} {n to : Nat} {B : Nat → Nat → Bool} {C : Nat → Nat → Nat}
theorem d16_F {D : Nat → Nat} {p : Nat} (hF : D p ≤ 100000000) : d16 D p ≠ 100000000 ↔ D p < 100000000 := by
  unfold d16
  split <;> omega
theorem kx_ch128 {q : Int32 → hS → Prop} {fr : Nat} (h : St Γ Φ S) (hf : fre Γ Φ L) (h4 : 4 ∈ L) (h509 : 509 ∈ L) (ha : Γ a = some (4, 4, 0, 0, ρa)) (hC : ∀ p o, C p o ≤ 999) (hn : n ≤ 8) (hto : to < n) (hfr : fr < n) (hs : ∀ p o, p < n → o < n → aV S (ρa 7) (8 * p + o) = slV B C p o) (hg : ∀ p, p < n → aV S (ρa 8) p = nI (clp (d16 (dR n to B C) p))) (h10 : fI S a 10 = 0) (hF : dR n to B C fr < 100000000) (kY : ∀ S', St Γ Φ S' → fI S' a 10 = nI (dR n to B C fr % 100) → (∀ k, k < dR n to B C fr % 100 → aV S' (ρa 9) k = nI (sqR n B C (dR n to B C) fr (k + 1))) → q (nI (dR n to B C fr / 100)) S') : ∃ t, w_X4_findChain_b128 q t S a (nI fr) (nI to) (nI n) (nI fr) 0 := by
  have hD : fxD n to B (w1C 100 C) (dR n to B C) := dR_fx
  obtain ⟨D, eD⟩ : ∃ D, dR n to B C = D := ⟨_, rfl⟩
  rw [eD] at hg hF kY hD
  have h7 := fxD_7 (c := C) hn hD hfr hF
  have g7 := (P_4_7 h ha).2
  have g8 := (P_4_8 h ha).2
  have g9 := (P_4_9 h ha).2
  have n79 : ρa 7 ≠ ρa 9 := nmne g7 g9 (by decide)
  have n89 : ρa 8 ≠ ρa 9 := nmne g8 g9 (by decide)
  refine loop_m (σ := hS × Nat) (fun t s => w_X4_findChain_b128 q t s.1 a (nI fr) (nI to) (nI n) (nI (sqR n B C D fr s.2)) (nI s.2)) (fun s => s.2 ≤ D fr % 100 ∧ St Γ Φ s.1 ∧ (∀ p o, p < n → o < n → aV s.1 (ρa 7) (8 * p + o) = slV B C p o) ∧ (∀ p, p < n → aV s.1 (ρa 8) p = nI (clp (d16 D p))) ∧ fI s.1 a 10 = nI s.2 ∧ ∀ k, k < s.2 → aV s.1 (ρa 9) k = nI (sqR n B C D fr (k + 1))) (fun s => D fr % 100 - s.2) ?_ (S, 0) ⟨Nat.zero_le _, h, hs, hg, h10, fun k hk => absurd hk (Nat.not_lt_zero _)⟩
  rintro t ⟨S, i⟩ ⟨hi, h, hs, hg, h10, hr⟩ ih
  dsimp only at hi h hs hg h10 hr ih ⊢
  obtain ⟨i1, i2, i3⟩ := sq_sp hn hD hfr hF i hi
  have st := sq_to hn hD hfr hF hi
  rw [w_X4_findChain_b128, nI_leI (by omega) (by omega), nI_eq (by omega) (by omega)]
  refine ⟨fun c => absurd c (by omega), fun _ => ⟨fun c => ?_, fun c => T_oK_4 h ha (kx_firstBuyer h ha hC hn hD i1 c i2 hs hg (E_gP_4_9 h ha (fun _ => T_sI_20 h hf g9 h509 ⟨by rw [nI_toInt (by omega)]; omega, by rw [nI_toInt (by omega)]; omega⟩ (fun S1 h1 s1 s2 _ s4 => T_gI_4_10 h1 ha (fun x ex _ => ?_)))))⟩⟩
  · have ei : i = D fr % 100 := st.mp c
    unfold w_X4_findChain_b174
    refine E_gP_4_8 h ha (fun _ => T_aI_20 h g8 ⟨by rw [nI_toInt (by omega)]; omega, by rw [nI_toInt (by omega)]; omega⟩ (fun v ev _ => ?_))
    have dd : d16 D fr = 16 * (D fr / 100) + D fr % 100 := by
      unfold d16
      rw [if_neg (by omega)]
    have db := d16_b hC hn hD hfr
    have cd : clp (d16 D fr) = 16 * (D fr / 100) + D fr % 100 := by
      unfold clp
      rw [if_neg (by omega), dd]
    rw [nI_clamp (by omega), hg fr hfr, cd] at ev
    rw [ev, lit_nI 16, nIdiv (by omega) (by omega), show (16 * (D fr / 100) + D fr % 100) / 16 = D fr / 100 by omega]
    exact kY S h (by rw [h10, ei]) (fun k hk => hr k (by omega))
  · have e10 : x = nI i := by
      rw [ex, ← h10]
      unfold fI
      rw [s1]
    have il : i < D fr % 100 := by
      have : i ≠ D fr % 100 := fun z => c (st.mpr z)
      omega
    rw [e10, nI_1]
    refine T_pI_4_10 h1 hf ha h4 ⟨by rw [nI_toInt (by omega)]; omega, by rw [nI_toInt (by omega)]; omega⟩ (fun S2 h2 e2 _ ae y ey => ?_)
    rw [ey]
    refine ih (S2, i + 1) ⟨by dsimp only; omega, h2, fun p o hp ho => by rw [ae.1, s2 _ _ n79]; exact hs p o hp ho, fun p hp => by rw [ae.1, s2 _ _ n89]; exact hg p hp, e2, fun k hk => ?_⟩ (by dsimp only; omega)
    dsimp only at hk ⊢
    rw [ae.1, s4, nI_clamp (by omega)]
    by_cases ck : k = i
    · rw [if_pos ck, ck]
      rfl
    · rw [if_neg ck]
      exact hr k (by omega)
theorem kx_findChain {q : Int32 → hS → Prop} {fr : Nat} (h : St Γ Φ S) (hf : fre Γ Φ L) (h4 : 4 ∈ L) (h508 : 508 ∈ L) (h509 : 509 ∈ L) (ha : Γ a = some (4, 4, 0, 0, ρa)) (hC : ∀ p o, C p o ≤ 999) (hn : n ≤ 8) (hto : to < n) (hfr : fr < n) (hs : ∀ p o, p < n → o < n → aV S (ρa 7) (8 * p + o) = slV B C p o) (kN : dR n to B C fr = 100000000 → ∀ S', St Γ Φ S' → q (-1) S') (kY : dR n to B C fr < 100000000 → ∀ S', St Γ Φ S' → fI S' a 10 = nI (dR n to B C fr % 100) → (∀ k, k < dR n to B C fr % 100 → aV S' (ρa 9) k = nI (sqR n B C (dR n to B C) fr (k + 1))) → q (nI (dR n to B C fr / 100)) S') : w_X4_findChain q S a (nI fr) (nI to) (nI n) := by
  obtain ⟨W, eW⟩ : ∃ W, W = w1C 16 C := ⟨_, rfl⟩
  have W1 : ∀ p o, 1 ≤ W p o := by rw [eW]; exact w1C_1
  have g7 := (P_4_7 h ha).2
  have g8 := (P_4_8 h ha).2
  have n78 : ρa 7 ≠ ρa 8 := nmne g7 g8 (by decide)
  have D16 : ∀ p, p < n → dk n to B W n p = d16 (dR n to B C) p := fun p hp => by rw [eW]; exact dk_16 hC hn hto hp
  have fin : ∀ S', St Γ Φ S' → (∀ p o, p < n → o < n → aV S' (ρa 7) (8 * p + o) = slV B C p o) → (∀ p, p < n → aV S' (ρa 8) p = nI (clp (dk n to B W n p))) → pI S' a 4 10 0 (fun S => gP S a 4 8 (fun x110 => aI S x110 (nI fr) (fun x114 => (x114 < 1000000 → (∃ n128 : Nat, w_X4_findChain_b128 q n128 S a (nI fr) (nI to) (nI n) (nI fr) 0)) ∧ (¬ x114 < 1000000 → q (-1) S)))) := by
    intro S' h hs hg
    refine T_pI_4_10 h hf ha h4 ⟨by decide, by decide⟩ (fun S2 h2 e2 _ ae => E_gP_4_8 h2 ha (fun _ => T_aI_20 h2 g8 ⟨by rw [nI_toInt (by omega)]; omega, by rw [nI_toInt (by omega)]; omega⟩ (fun v ev _ => ?_)))
    have db := d16_b hC hn (dR_fx (n := n) (to := to) (b := B) (c := C)) hfr
    have cl := clp_le db
    have dF : dR n to B C fr ≤ 100000000 := dk_F n fr
    rw [nI_clamp (by omega), ae.1, hg fr hfr, D16 fr hfr] at ev
    have lt : v < 1000000 ↔ dR n to B C fr < 100000000 := by
      rw [ev, Int32.lt_iff_toInt_lt, nI_toInt (by omega), show (1000000 : Int32).toInt = 1000000 by decide, ← d16_F dF, ← cl.2]
      omega
    rw [lt]
    refine ⟨fun c => kx_ch128 h2 hf h4 h509 ha hC hn hto hfr (fun p o hp ho => by rw [ae.1]; exact hs p o hp ho) (fun p hp => by rw [ae.1, hg p hp, D16 p hp]) e2 c (kY c), fun c => kN (by omega) S2 h2⟩
  -- the rounds
  have k37 : ∀ S', St Γ Φ S' → (∀ p o, p < n → o < n → aV S' (ρa 7) (8 * p + o) = slV B C p o) → (∀ p, p < n → aV S' (ρa 8) p = nI (clp (dk n to B W 0 p))) → ∃ t, w_X4_findChain_b37 q t S' a (nI fr) (nI to) (nI n) 0 := by
    intro S0 h0 hs0 hg0
    refine loop_m (σ := hS × (Nat → Nat) × Nat) (fun t s => w_X4_findChain_b37 q t s.1 a (nI fr) (nI to) (nI n) (nI s.2.2)) (fun s => s.2.2 ≤ n ∧ St Γ Φ s.1 ∧ (∀ p o, p < n → o < n → aV s.1 (ρa 7) (8 * p + o) = slV B C p o) ∧ (∀ p, p < n → aV s.1 (ρa 8) p = nI (clp (s.2.1 p))) ∧ chI n (dk n to B W n) (dk n to B W s.2.2) s.2.1) (fun s => n - s.2.2) ?_ (S0, dk n to B W 0, 0) ⟨Nat.zero_le _, h0, hs0, hg0, fun p hp => ?_⟩
    · rintro t ⟨S, E, r⟩ ⟨hr, h, hs, hg, hI⟩ ih
      dsimp only at hr h hs hg hI ih ⊢
      rw [w_X4_findChain_b37, nI_leI (by omega) (by omega)]
      refine ⟨fun c => fin S h hs (fun p hp => ?_), fun c => ?_⟩
      · obtain ⟨⟨_, i2, i3⟩, _⟩ := hI p hp
        rw [show r = n by omega] at i3
        rw [hg p hp, show E p = dk n to B W n p by omega]
      -- the people
      refine loop_m (σ := hS × (Nat → Nat) × Nat) (fun t' s => w_X4_findChain_b46 q (fun S v0 v1 v2 v3 v4 => w_X4_findChain_b37 q t S v0 v1 v2 v3 v4) t' s.1 a (nI fr) (nI to) (nI n) (nI r) (nI s.2.2)) (fun s => s.2.2 ≤ n ∧ St Γ Φ s.1 ∧ (∀ p o, p < n → o < n → aV s.1 (ρa 7) (8 * p + o) = slV B C p o) ∧ (∀ p, p < n → aV s.1 (ρa 8) p = nI (clp (s.2.1 p))) ∧ chI n (dk n to B W n) (dk n to B W r) s.2.1 ∧ ∀ p, p < s.2.2 → s.2.1 p ≤ dk n to B W (r + 1) p) (fun s => n - s.2.2) ?_ (S, E, 0) ⟨Nat.zero_le _, h, hs, hg, hI, fun p hp => absurd hp (Nat.not_lt_zero _)⟩
      rintro t' ⟨S, E, p⟩ ⟨hp, h, hs, hg, hI, hl⟩ ih'
      dsimp only at hp h hs hg hI hl ih' ⊢
      rw [w_X4_findChain_b46, nI_leI (by omega) (by omega)]
      refine ⟨fun c2 y ey => ?_, fun c2 => ?_⟩
      · rw [ey, nI_1]
        refine ih (S, E, r + 1) ⟨by dsimp only; omega, h, hs, hg, fun p' hp' => ?_⟩ (by dsimp only; omega)
        obtain ⟨⟨i1, i2, i3⟩, i4⟩ := hI p' hp'
        exact ⟨⟨i1, i2, hl p' (by omega)⟩, i4⟩
      -- by whom
      refine loop_m (σ := hS × (Nat → Nat) × Nat) (fun t'' s => w_X4_findChain_b55 q (fun S v0 v1 v2 v3 v4 => w_X4_findChain_b37 q t S v0 v1 v2 v3 v4) (fun S v0 v1 v2 v3 v4 v5 => w_X4_findChain_b46 q (fun S v0 v1 v2 v3 v4 => w_X4_findChain_b37 q t S v0 v1 v2 v3 v4) t' S v0 v1 v2 v3 v4 v5) t'' s.1 a (nI fr) (nI to) (nI n) (nI r) (nI p) (nI s.2.2)) (fun s => s.2.2 ≤ n ∧ St Γ Φ s.1 ∧ (∀ p o, p < n → o < n → aV s.1 (ρa 7) (8 * p + o) = slV B C p o) ∧ (∀ p, p < n → aV s.1 (ρa 8) p = nI (clp (s.2.1 p))) ∧ chI n (dk n to B W n) (dk n to B W r) s.2.1 ∧ (∀ p', p' < p → s.2.1 p' ≤ dk n to B W (r + 1) p') ∧ (p ≠ to → s.2.1 p ≤ rlx B W (dk n to B W r) p s.2.2)) (fun s => n - s.2.2) ?_ (S, E, 0) ⟨Nat.zero_le _, h, hs, hg, hI, hl, fun _ => (hI p (by omega)).1.2.2⟩
      rintro t'' ⟨S, E, o⟩ ⟨ho, h, hs, hg, hI, hl, hx⟩ ih''
      dsimp only at ho h hs hg hI hl hx ih'' ⊢
      obtain ⟨⟨p1, p2, p3⟩, p4⟩ := hI p (by omega)
      have eb : ∀ p, p < n → E p = 100000000 ∨ E p ≤ 130000 := fun p hp => chI_b hn hI hp
      rw [w_X4_findChain_b55, nI_leI (by omega) (by omega)]
      refine ⟨fun c3 y ey => ?_, fun c3 => E_gP_4_8 h ha (fun _ => E_gP_4_8 h ha (fun _ => T_aI_20 h g8 ⟨by rw [nI_toInt (by omega)]; omega, by rw [nI_toInt (by omega)]; omega⟩ (fun v ev _ => T_oK_4 h ha (kx_toGoBy (E := E) h ha hC (by omega) (by omega) (hs p o (by omega) (by omega)) (hg o (by omega)) (eb o (by omega)) (T_sI_20 h hf g8 h508 ⟨by rw [nI_toInt (by omega)]; omega, by rw [nI_toInt (by omega)]; omega⟩ (fun S' h' _ s2 _ s4 y ey => ?_))))))⟩
      · rw [ey, nI_1]
        refine ih' (S, E, p + 1) ⟨by dsimp only; omega, h, hs, hg, hI, fun p' hp' => ?_⟩ (by dsimp only; omega)
        dsimp only at hp' ⊢
        by_cases cp : p' = p
        · rw [cp]
          by_cases ct : p = to
          · rw [ct, dk_to] at p3
            rw [ct, dk_to]
            exact p3
          · rw [dk, if_neg ct, show n = o by omega]
            have := hx ct
            rw [show n = o by omega] at this
            exact this
        · exact hl p' (by omega)
      · obtain ⟨⟨t1, t2, t3⟩, t4⟩ := hI o (by omega)
        have low : dk n to B W n p ≤ min (E p) (rwv B (w1C 16 C) E p o) := by
          rw [← eW]
          by_cases ct : p = to
          · rw [ct, dk_to]
            exact Nat.zero_le _
          · have hst := dk_st (n := n) (to := to) (b := B) (wt := W) W1 (show p < n by omega) (show o < n by omega) ct
            have hmo := bfc_mono (b := B) (wt := W) (D := dk n to B W n) (D' := E) (p := p) (o := o) t2 t1
            have hmin := rwv_min (b := B) (wt := W) (o := o) p1
            omega
        have nw := chI_step hC hI (show p < n by omega) (show o < n by omega) low
        have ev' : v = nI (clp (E p)) := by rw [ev, nI_clamp (by omega), hg p (by omega)]
        have rb := rwv_b (B := B) (p := p) hC (eb o (by omega))
        have pb := eb p (by omega)
        obtain ⟨R, eR⟩ : ∃ R, R = rwv B (w1C 16 C) E p o := ⟨_, rfl⟩
        have hR : R ≤ 100000000 := by rw [eR]; omega
        rw [← eR] at nw rb low s4
        have mn : (if nI (clp R) < v then nI (clp R) else v) = nI (clp (min (E p) R)) := by
          have lt : nI (clp R) < nI (clp (E p)) ↔ R < E p := by
            rw [Int32.lt_iff_toInt_lt]
            unfold clp
            rw [nI_toInt (by split <;> omega), nI_toInt (by split <;> omega)]
            split <;> split <;> omega
          rw [ev']
          by_cases c4 : R < E p
          · rw [if_pos (lt.mpr c4), Nat.min_eq_right (by omega)]
          · rw [if_neg (fun z => c4 (lt.mp z)), Nat.min_eq_left (by omega)]
        rw [mn, nI_clamp (by omega)] at s4
        rw [ey, nI_1]
        refine ih'' (S', (fun i => if i = p then min (E p) R else E i), o + 1) ⟨by dsimp only; omega, h', fun p' o' hp' ho' => by rw [s2 _ _ n78]; exact hs p' o' hp' ho', fun p' hp' => ?_, nw, fun p' hp' => ?_, fun ct => ?_⟩ (by dsimp only; omega)
        · dsimp only
          rw [s4]
          by_cases cp : p' = p
          · rw [if_pos cp, if_pos cp]
          · rw [if_neg cp, if_neg cp]
            exact hg p' hp'
        · dsimp only
          rw [if_neg (by omega)]
          exact hl p' hp'
        · dsimp only
          rw [if_pos rfl, rlx]
          have hmo2 := bfc_mono (b := B) (wt := W) (D := E) (D' := dk n to B W r) (p := p) (o := o) t3 (dk_F r o)
          have hmin := rwv_min (b := B) (wt := W) (o := o) p1
          rw [eW, ← eR, ← eW] at hmin
          have := hx ct
          omega
    · dsimp only
      have le := dk_le (n := n) (to := to) (b := B) (wt := W) (i := 0) (p := p) n
      rw [Nat.zero_add] at le
      refine ⟨⟨dk_F 0 p, le, Nat.le_refl _⟩, fun hF => ?_⟩
      rw [dk] at hF ⊢
      split at hF
      · rename_i e
        rw [if_pos e]
        exact Nat.zero_le _
      · omega
  refine loop_m (σ := hS × Nat) (fun t s => w_X4_findChain_b3 q t s.1 a (nI fr) (nI to) (nI n) (nI s.2)) (fun s => s.2 ≤ n ∧ St Γ Φ s.1 ∧ (∀ p o, p < n → o < n → aV s.1 (ρa 7) (8 * p + o) = slV B C p o) ∧ ∀ p, p < s.2 → aV s.1 (ρa 8) p = nI (clp (dk n to B W 0 p))) (fun s => n - s.2) ?_ (S, 0) ⟨Nat.zero_le _, h, hs, fun p hp => absurd hp (Nat.not_lt_zero _)⟩
  rintro t ⟨S, j⟩ ⟨hj, h, hs, hg⟩ ih
  dsimp only at hj h hs hg ih ⊢
  rw [w_X4_findChain_b3, nI_leI (by omega) (by omega), nI_eq (by omega) (by omega)]
  have k27 : ∀ v : Nat, j < n → v = clp (dk n to B W 0 j) → w_X4_findChain_b27 q (fun S v0 v1 v2 v3 v4 => w_X4_findChain_b3 q t S v0 v1 v2 v3 v4) S a (nI fr) (nI to) (nI n) (nI j) (nI v) (nI j) (ρa 8) := by
    intro v hjn ev
    unfold w_X4_findChain_b27
    refine T_sI_20 h hf g8 h508 ⟨by rw [nI_toInt (by omega)]; omega, by rw [nI_toInt (by omega)]; omega⟩ (fun S' h' _ s2 _ s4 y ey => ?_)
    rw [ey, nI_1]
    rw [nI_clamp (by omega)] at s4
    refine ih (S', j + 1) ⟨by dsimp only; omega, h', fun p' o' hp' ho' => by rw [s2 _ _ n78]; exact hs p' o' hp' ho', fun p hp => ?_⟩ (by dsimp only; omega)
    dsimp only at hp ⊢
    rw [s4]
    by_cases cp : p = j
    · rw [if_pos cp, cp, ev]
    · rw [if_neg cp]
      exact hg p (by omega)
  refine ⟨fun c => k37 S h hs (fun p hp => hg p (by omega)), fun c => E_gP_4_8 h ha (fun _ => ⟨fun ct => ?_, fun ct => ?_⟩)⟩
  · exact k27 1000000 (by omega) (by rw [dk, if_neg ct]; rfl)
  · exact k27 0 (by omega) (by rw [dk, if_pos ct]; rfl)
end CK
