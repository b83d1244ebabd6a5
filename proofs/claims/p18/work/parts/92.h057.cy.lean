/-! WHAT THE CLASS ASKS THE LAW, EXACTLY -/
section CY
variable {Γ : kG} {Φ : kF} {S : hS} {a b c n i : Nat} {ρ ρa : Nat → Nat} {cs : List pCl}
theorem tx_len {S1 : hS} {d m : Nat} {ρd : Nat → Nat} (h1 : St Γ Φ S1) (hd : Γ d = some (10, 19, c, m, ρd)) (hx : txR S1 d ρd (cs.map lwX)) (ho : okL cs) : cs.length ≤ c ∧ cs.length ≤ 12 ∧ ∀ j, j < cs.length → aV S1 (ρd 3) j = nI (clA cs j).1 := by
  have l12 := ho.1.1
  rw [List.length_map] at l12
  refine ⟨?_, l12, fun j hj => ?_⟩
  · obtain ⟨b0, b1, b2, b3, b4, b5, b6, eb, r0, r1, -⟩ := h1.c10 hd
    dsimp only at r0 r1
    have f0 : fI S1 d 0 = b0 := fI_of (fv_of eb rfl)
    have x1 : fI S1 d 0 = nI (cs.map lwX).length := hx.1
    have := congrArg Int32.toInt (f0.symm.trans x1)
    rw [nI_toInt (by rw [List.length_map]; omega), List.length_map] at this
    omega
  · have hj2 : j < (cs.map lwX).length := by rw [List.length_map]; exact hj
    have hjm : j < (xMk (cs.map lwX) 0).length := by rw [xMk_len]; exact hj2
    have := (hx.2.2.1 j hjm).1
    rw [(xMk_at (cs.map lwX) 0 j hjm hj2).1, clA_map hj hj2] at this
    exact this
theorem hasK_iff {k : Nat} : hasK cs k = true ↔ ∃ j, j < cs.length ∧ (clA cs j).1 = k := by
  unfold hasK
  rw [List.any_eq_true]
  constructor
  · rintro ⟨c, hc, e⟩
    obtain ⟨j, hj, rfl⟩ := List.mem_iff_getElem.mp hc
    exact ⟨j, hj, by rw [clA_at hj]; exact of_decide_eq_true e⟩
  · rintro ⟨j, hj, e⟩
    exact ⟨_, clA_mem hj, decide_eq_true e⟩
theorem kx_hasKind {q : Int32 → hS → Prop} {d m k : Nat} {ρd : Nat → Nat} {vk : Int32} (h : St Γ Φ S) (hd : Γ d = some (10, 19, c, m, ρd)) (hx : txR S d ρd (cs.map lwX)) (ho : okL cs) (hk : k < 5) (ek : vk = nI k) (k1 : hasK cs k = true → q 1 S) (k0 : ¬ hasK cs k = true → q 0 S) : w_X10_hasKind q S d vk := by
  subst ek
  obtain ⟨lc, l12, kd⟩ := tx_len h hd hx ho
  obtain ⟨hc12, -⟩ := T_tx h hd
  have x1 : fI S d 0 = nI (cs.map lwX).length := hx.1
  rw [List.length_map] at x1
  unfold w_X10_hasKind
  refine loop_m (σ := Nat) (fun t s => w_X10_hasKind_b2 q t S d (nI k) (nI s)) (fun s => s ≤ cs.length ∧ ∀ j, j < s → (clA cs j).1 ≠ k) (fun s => cs.length - s) ?_ 0 ⟨Nat.zero_le _, fun j hj => by omega⟩
  rintro t j ⟨g1, g2⟩ ih
  rw [w_X10_hasKind_b2]
  refine T_gI_10_0 h hd (fun x4 e4 _ => ?_)
  rw [e4, x1, nI_leI (by omega) (by omega)]
  refine ⟨fun z => k0 (fun y => ?_), fun z => E_gP_10_3 h hd (fun hk3 => T_aI_20 h hk3 (by rw [nI_toInt (by omega)]; omega) (fun x15 e15 _ => ?_))⟩
  · obtain ⟨j', y1, y2⟩ := hasK_iff.mp y
    exact g2 j' (by omega) y2
  · have c5 := (ho.2.1 _ (clA_mem (cs := cs) (n := j) (by omega))).1
    rw [nI_clamp (by omega), kd j (by omega)] at e15
    rw [e15, nI_eq (by omega) (by omega)]
    refine ⟨fun z1 y ey => ?_, fun z1 => k1 (hasK_iff.mpr ⟨j, by omega, z1⟩)⟩
    rw [ey, nI_1]
    refine ih (j + 1) ⟨by omega, fun j' hj' => ?_⟩ (by omega)
    by_cases e : j' = j
    · subst e; exact z1
    · exact g2 j' (by omega)
theorem kx_someHolds {q : Int32 → hS → Prop} {k : Nat} {e : Nat → Int} {v1 : Option Nat} {vk : Int32} (h : St Γ Φ S) (hf : fre Γ Φ [700]) (ha : Γ a = some (0, 0, 0, 0, ρa)) (hl : lwIn Γ S v1 cs) (ho : okL cs) (hk : 3 ≤ k ∧ k < 5) (ek : vk = nI k) (hw : ∀ w, w < 9 → (aV S (ρa 1) w).toInt = e w ∧ -1000000000 ≤ e w ∧ e w ≤ 1000000000) (ky : (tellL cs k e).isSome = true → ∀ S', St Γ Φ S' → sam Γ [700] S S' → q 1 S') (kn : ¬ (tellL cs k e).isSome = true → ∀ S', St Γ Φ S' → sam Γ [700] S S' → q 0 S') : w_X0_someHolds q S a v1 vk := by
  subst ek
  have hfr := frz_fre (S := S) hf (fun _ x => x)
  have hst := frz_St (L := [700]) h
  have back : ∀ S', St Γ (frz Γ Φ S [700]) S' → St Γ Φ S' ∧ sam Γ [700] S S' := fun S' h' => frz_un h h'
  generalize frz Γ Φ S [700] = Ψ at hfr hst back
  obtain ⟨ha0, ha1⟩ : Γ (ρa 0) = some (6, 6, 0, 0, bk 0 ρa) ∧ Γ (ρa 1) = some (20, 101, 9, 0, k0) := ⟨(P_0_0 hst ha).2, (P_0_1 hst ha).2⟩
  have sm := lastN_some (cs := cs) (k := k) (e := e) (fun c hc => (ho.2.1 c hc).2.2.2) hk.1 cs.length (Nat.le_refl _)
  have l12 := ho.1.1
  rw [List.length_map] at l12
  have loop : ∀ (N : Int32), N = nI cs.length → ∃ t, w_X0_someHolds_b16 q t S a v1 (nI k) N 0 := by
    intro N eN
    subst eN
    refine loop_m (σ := hS × Nat) (fun t s => w_X0_someHolds_b16 q t s.1 a v1 (nI k) (nI cs.length) (nI s.2)) (fun s => St Γ Ψ s.1 ∧ s.2 ≤ cs.length ∧ ∀ j, j < s.2 → ¬ ((clA cs j).1 = k ∧ wgV (clA cs j).2.2 e = some 1)) (fun s => cs.length - s.2) ?_ (S, 0) ⟨hst, Nat.zero_le _, fun j hj => by dsimp only at hj; omega⟩
    rintro t ⟨S1, n⟩ ⟨h1, hn, en⟩ ih
    dsimp only at h1 hn en ih ⊢
    obtain ⟨g1, m1⟩ := back S1 h1
    rw [w_X0_someHolds_b16]
    rw [nI_leI (by omega) (by omega)]
    refine ⟨fun z => kn (fun y => ?_) S1 g1 m1, fun z => ?_⟩
    · obtain ⟨j, y1, y2⟩ := sm.mp y
      exact en j (by omega) y2
    · rcases hl with ⟨-, ec⟩ | hl'
      · subst ec
        simp at z
      · rcases lwIn.sm (Or.inr hl') h m1 (by decide) with ⟨ev, -⟩ | ⟨d, c, m, ρd, ev, hd, hx⟩
        · obtain ⟨d, _, _, _, ev', -⟩ := hl'
          rw [ev'] at ev
          cases ev
        · subst ev
          refine ⟨d, rfl, ?_⟩
          obtain ⟨lc, -, kd⟩ := tx_len h1 hd hx ho
          obtain ⟨hc12, -⟩ := T_tx h1 hd
          have hj : n < cs.length := by omega
          have hj2 : n < (cs.map lwX).length := by rw [List.length_map]; exact hj
          have ecl := clA_map hj hj2
          have hc5 := (ho.2.1 _ (clA_mem hj)).1
          refine E_gP_10_3 h1 hd (fun hk3 => T_aI_20 h1 hk3 (by rw [nI_toInt (by omega)]; omega) (fun x40 e40 _ => ?_))
          rw [nI_clamp (by omega), kd n hj] at e40
          rw [e40, nI_eq (by omega) (by omega)]
          have nxt : ∀ S2, St Γ Ψ S2 → ¬ ((clA cs n).1 = k ∧ wgV (clA cs n).2.2 e = some 1) → w_X0_someHolds_b54 q (fun S v0 v1 v2 v3 v4 => w_X0_someHolds_b16 q t S v0 v1 v2 v3 v4) S2 a (some d) (nI k) (nI cs.length) (nI n) := by
            intro S2 h2 hno y ey
            rw [ey, nI_1]
            refine ih (S2, n + 1) ⟨h2, by dsimp only; omega, fun j hj' => ?_⟩ (by dsimp only; omega)
            dsimp only at hj'
            by_cases e : j = n
            · subst e; exact hno
            · exact en j (by omega)
          have wds : ∀ w, w < 9 → (aV S1 (ρa 1) w).toInt = e w ∧ -1000000000 ≤ e w ∧ e w ≤ 1000000000 := by
            intro w hw'
            rw [aV_cell (m1.at h ha1 (by simp))]
            exact hw w hw'
          refine ⟨fun z1 => nxt S1 h1 (fun z2 => z1 z2.1), fun z1 => E_gP_0_0 h1 ha (fun _ => E_gP_0_1 h1 ha (fun _ => T_oK_6 h1 ha0 (kx_X6_weigh (j := n) (i := 3) h1 hfr ha0 hd (Or.inr rfl) ha1 (by decide) (by decide) hx ho.1 hj2 (by omega) rfl rfl wds (fun e3 S2 h2 _ => ⟨fun _ => nxt S2 h2 ?_, fun z => absurd z (by decide)⟩) (fun v r S2 e3 er hb2 h2 _ => ⟨fun z => nxt S2 h2 ?_, fun z => ?_⟩))))⟩
          · rw [ecl] at e3
            intro z2
            have : wgV (clA cs n).2.2 e = none := e3
            rw [this] at z2
            cases z2.2
          · rw [ecl] at e3
            intro z2
            have e3 : wgV (clA cs n).2.2 e = some v := e3
            rw [e3] at z2
            have := Option.some.inj z2.2
            exact z (Int32.toInt_inj.mp (by rw [er, this]; decide))
          · rw [ecl] at e3
            have e3 : wgV (clA cs n).2.2 e = some v := e3
            have v1 : v = 1 := by rw [← er, z]; decide
            subst v1
            obtain ⟨g2, m2⟩ := back S2 h2
            exact ky (sm.mpr ⟨n, hj, z1, e3⟩) S2 g2 m2
  unfold w_X0_someHolds w_X0_someHolds_b12
  refine ⟨fun z => ?_, fun d ed => ?_⟩
  · subst z
    rcases hl with ⟨-, ec⟩ | ⟨d, _, _, _, ev, -⟩
    · subst ec
      exact loop 0 rfl
    · cases ev
  · subst ed
    rcases hl with ⟨ev, -⟩ | ⟨d', c, m, ρd, ev, hd, hx⟩
    · cases ev
    · cases ev
      refine T_gI_10_0 h hd (fun x20 e20 _ => ?_)
      have x1 : fI S d 0 = nI (cs.map lwX).length := hx.1
      rw [e20, x1, List.length_map]
      exact loop _ rfl
theorem env_b {f : Nat → Int32} (hB : rB f) {p : Int} {h : Nat} {y t : Int} (hp : p = -1 ∨ (0 ≤ p ∧ p < iR f 1)) (hh : (h : Int) < iR f 0) (hy : -1 ≤ y ∧ y ≤ 10000) (ht : -1 ≤ t ∧ t ≤ 10000) {w : Nat} : -1000000000 ≤ envL f p h y t w ∧ envL f p h y t w ≤ 1000000000 := by
  have b1 := rB_1 hB
  have b0 := rB_0 hB
  unfold envL
  split
  · omega
  split
  · split
    · omega
    · have := rB_g hB (i := 146 + p.toNat) (by omega); omega
  split
  · split
    · omega
    · have := rB_g hB (i := 14 + p.toNat) (by omega); omega
  split
  · omega
  split
  · have := rB_g hB (i := 8 + h) (by omega); omega
  split
  · split
    · omega
    · have := rB_g hB (i := 30 + 6 * p.toNat + h) (by omega)
      have := rB_g hB (i := 78 + 6 * p.toNat + h) (by omega)
      omega
  split
  · omega
  split
  · omega
  · have := rB_g hB (i := 7) (by omega); omega
/-- the asker over a suburb with laws -/
def askS (Γ : kG) (S : hS) (a b i : Nat) (ρa ρ : Nat → Nat) (L : Nat → List pCl) : Prop := Γ a = some (0, 0, 0, 0, ρa) ∧ Γ b = some (8, 8 + 10000 * i, i, 0, ρ) ∧ rB (sV S b ρ) ∧ lwsS Γ S ρ L (iR (sV S b ρ) 3) ∧ okL (csF (sV S b ρ) L)
theorem askS.sm {S' : hS} {A : List Nat} {L : Nat → List pCl} (h : askS Γ S a b i ρa ρ L) (hs : St Γ Φ S) (hm : sam Γ A S S') (hA : ∀ x ∈ A, x = 101 ∨ x = 700 ∨ x = 202) : askS Γ S' a b i ρa ρ L ∧ sV S' b ρ = sV S b ρ := by
  obtain ⟨h1, h2, h3, h4, h5⟩ := h
  have no : ∀ y, y ≠ 101 → y ≠ 700 → y ≠ 202 → y ∉ A := fun y y1 y2 y3 hy => by rcases hA y hy with z | z | z <;> omega
  have e : sV S' b ρ = sV S b ρ := sV_sam hs h2 hm ⟨no _ (by omega) (by omega) (by omega), no _ (by omega) (by omega) (by omega), no _ (by omega) (by omega) (by omega), no _ (by omega) (by omega) (by omega), no _ (by omega) (by omega) (by omega), no _ (by omega) (by omega) (by omega), no _ (by omega) (by omega) (by omega), no _ (by omega) (by omega) (by omega), no _ (by omega) (by omega) (by omega), no _ (by omega) (by omega) (by omega), no _ (by omega) (by omega) (by omega), no _ (by omega) (by omega) (by omega), no _ (by omega) (by omega) (by omega), no _ (by omega) (by omega) (by omega)⟩
  refine ⟨⟨h1, h2, by rw [e]; exact h3, ?_, by rw [e]; exact h5⟩, e⟩
  rw [e]
  exact h4.sm hs h2 hm ⟨no _ (by omega) (by omega) (by omega), no _ (by omega) (by omega) (by omega), no _ (by omega) (by omega) (by omega), no _ (by omega) (by omega) (by omega), no _ (by omega) (by omega) (by omega), no _ (by omega) (by omega) (by omega)⟩
theorem sam2 {A B : List Nat} {S1 S2 : hS} (h : sam Γ A S S1) (h' : sam Γ B S1 S2) : sam Γ (A ++ B) S S2 := (h.le (fun x hx => List.mem_append.mpr (Or.inl hx))).tr (h'.le (fun x hx => List.mem_append.mpr (Or.inr hx)))
theorem kx_tell {q : Int32 → hS → Prop} {L : Nat → List pCl} {k hh : Nat} {p t : Int} {v2 v3 v4 vk : Int32} (h : St Γ Φ S) (hf : fre Γ Φ [101, 700]) (hA : askS Γ S a b i ρa ρ L) (hk : k ≤ 2) (ek : vk = nI k) (e2 : v2.toInt = p) (hp : p = -1 ∨ (0 ≤ p ∧ p < iR (sV S b ρ) 1)) (e3 : v3 = nI hh) (hh' : (hh : Int) < iR (sV S b ρ) 0) (e4 : v4.toInt = t) (ht : -1 ≤ t ∧ t ≤ 8) (kq : ∀ (r : Int32) S', r.toInt = toldL (csF (sV S b ρ) L) k (envL (sV S b ρ) p hh (iR (sV S b ρ) 5) t) → St Γ Φ S' → sam Γ [101, 700] S S' → q r S') : oK S a 0 ∧ w_X0_setWords (fun S => oK S b 8 ∧ w_X8_lawInForce (fun x10 S => oK S a 0 ∧ w_X0_lastTold (fun x14 S => q x14 S) S a x10 vk) S b) S a b v2 v3 v4 := by
  obtain ⟨ha, hb, hB, hL, hO⟩ := hA
  have y5 := hB.1 5 (by omega)
  rw [show rHi 5 = 999 by decide, show rLo 5 = 0 by decide] at y5
  refine T_oK_0 h ha (kx_X0_setWords h (hf.sub (by simp)) ha hb hB e2 hp e3 hh' e4 (fun S1 h1 m1 w1 => ?_))
  obtain ⟨⟨-, -, hB1, hL1, hO1⟩, e1⟩ := askS.sm (Φ := Φ) ⟨ha, hb, hB, hL, hO⟩ h m1 (by simp)
  refine T_oK_8 h1 hb (kx_lawInForce h1 hb hB1 hL1 (fun v hv => T_oK_0 h1 ha (kx_lastTold h1 (hf.sub (by simp)) ha hv hO1 hk ek (e := envL (sV S b ρ) p hh (iR (sV S b ρ) 5) t) (fun w hw => ⟨w1 w hw, env_b hB hp hh' (by omega) (by omega)⟩) (fun r S2 er h2 m2 => kq r S2 ?_ h2 ((sam2 m1 m2).le (by simp))))))
  rw [er, e1]
theorem kx_tiring {q : Int32 → hS → Prop} {L : Nat → List pCl} {p hh : Nat} {v2 v3 : Int32} (h : St Γ Φ S) (hf : fre Γ Φ [101, 700]) (hA : askS Γ S a b i ρa ρ L) (e2 : v2 = nI p) (hp : (p : Int) < iR (sV S b ρ) 1) (e3 : v3 = nI hh) (hh' : (hh : Int) < iR (sV S b ρ) 0) (kq : ∀ (r : Int32) S', r.toInt = tiresR (sV S b ρ) (csF (sV S b ρ) L) p hh → St Γ Φ S' → sam Γ [101, 700] S S' → q r S') : w_X0_tiring q S a b v2 v3 := by
  have b1 := rB_1 hA.2.2.1
  exact kx_tell h hf hA (k := 0) (by omega) rfl (p := p) (by rw [e2, nI_toInt (by omega)]) (Or.inr ⟨by omega, hp⟩) e3 hh' (t := -1) (by decide) (by omega) kq
theorem kx_price {q : Int32 → hS → Prop} {L : Nat → List pCl} {p o hh : Nat} {v2 v3 v4 : Int32} (h : St Γ Φ S) (hf : fre Γ Φ [101, 700]) (hA : askS Γ S a b i ρa ρ L) (e2 : v2 = nI p) (hp : (p : Int) < iR (sV S b ρ) 1) (eo : v3 = nI o) (ho : (o : Int) < iR (sV S b ρ) 1) (e3 : v4 = nI hh) (hh' : (hh : Int) < iR (sV S b ρ) 0) (kq : ∀ (r : Int32) S', r.toInt = costsR (sV S b ρ) (csF (sV S b ρ) L) p o hh → St Γ Φ S' → sam Γ [101, 700] S S' → q r S') : w_X0_price q S a b v2 v3 v4 := by
  have b1 := rB_1 hA.2.2.1
  exact kx_tell h hf hA (k := 1) (by omega) rfl (p := p) (by rw [e2, nI_toInt (by omega)]) (Or.inr ⟨by omega, hp⟩) e3 hh' (t := o) (by rw [eo, nI_toInt (by omega)]) (by omega) kq
theorem kx_isBarred {q : Int32 → hS → Prop} {L : Nat → List pCl} {p o hh : Nat} {v2 v3 v4 : Int32} (h : St Γ Φ S) (hf : fre Γ Φ [101, 700]) (hA : askS Γ S a b i ρa ρ L) (e2 : v2 = nI p) (hp : (p : Int) < iR (sV S b ρ) 1) (eo : v3 = nI o) (ho : (o : Int) < iR (sV S b ρ) 1) (e3 : v4 = nI hh) (hh' : (hh : Int) < iR (sV S b ρ) 0) (k1 : barredR (sV S b ρ) (csF (sV S b ρ) L) p o hh = true → ∀ S', St Γ Φ S' → sam Γ [101, 700] S S' → q 1 S') (k0 : ¬ barredR (sV S b ρ) (csF (sV S b ρ) L) p o hh = true → ∀ S', St Γ Φ S' → sam Γ [101, 700] S S' → q 0 S') : w_X0_isBarred q S a b v2 v3 v4 := by
  obtain ⟨ha, hb, hB, hL, hO⟩ := hA
  have b1 := rB_1 hB
  have y5 := hB.1 5 (by omega)
  rw [show rHi 5 = 999 by decide, show rLo 5 = 0 by decide] at y5
  unfold w_X0_isBarred
  refine T_oK_0 h ha (kx_X0_setWords h (hf.sub (by simp)) ha hb hB (p := p) (by rw [e2, nI_toInt (by omega)]) (Or.inr ⟨by omega, hp⟩) e3 hh' (t := o) (by rw [eo, nI_toInt (by omega)]) (fun S1 h1 m1 w1 => ?_))
  obtain ⟨⟨-, -, hB1, hL1, hO1⟩, e1⟩ := askS.sm (Φ := Φ) ⟨ha, hb, hB, hL, hO⟩ h m1 (by simp)
  refine T_oK_8 h1 hb (kx_lawInForce h1 hb hB1 hL1 (fun v hv => T_oK_0 h1 ha (kx_someHolds h1 (hf.sub (by simp)) ha hv hO1 (k := 4) (by omega) rfl (e := envL (sV S b ρ) p hh (iR (sV S b ρ) 5) o) (fun w hw => ⟨w1 w hw, env_b hB (Or.inr ⟨by omega, hp⟩) hh' (by omega) (by omega)⟩) (fun z S2 h2 m2 => ⟨Or.inr rfl, k1 ?_ S2 h2 ((sam2 m1 m2).le (by simp))⟩) (fun z S2 h2 m2 => ⟨Or.inl rfl, k0 ?_ S2 h2 ((sam2 m1 m2).le (by simp))⟩))))
  · rw [e1] at z; exact z
  · rw [e1] at z; exact z
theorem kx_worthIn {q : Int32 → hS → Prop} {L : Nat → List pCl} {hh : Nat} {y : Int} {v2 v3 : Int32} (h : St Γ Φ S) (hf : fre Γ Φ [101, 700]) (hA : askS Γ S a b i ρa ρ L) (e3 : v2 = nI hh) (hh' : (hh : Int) < iR (sV S b ρ) 0) (ey : v3.toInt = y) (hy : 0 ≤ y ∧ y ≤ 10000) (kq : ∀ (r : Int32) S', r.toInt = worthR (sV S b ρ) (csF (sV S b ρ) L) hh y → St Γ Φ S' → sam Γ [101, 700] S S' → q r S') : w_X0_worthIn q S a b v2 v3 := by
  obtain ⟨ha, hb, hB, hL, hO⟩ := hA
  have y5 := hB.1 5 (by omega)
  rw [show rHi 5 = 999 by decide, show rLo 5 = 0 by decide] at y5
  unfold w_X0_worthIn
  refine T_oK_0 h ha (kx_X0_setWords h (hf.sub (by simp)) ha hb hB (p := -1) (by decide) (Or.inl rfl) e3 hh' (t := -1) (by decide) (fun S1 h1 m1 w1 => ?_))
  obtain ⟨hA1, e1⟩ := askS.sm (Φ := Φ) ⟨ha, hb, hB, hL, hO⟩ h m1 (by simp)
  refine E_gP_0_1 h1 ha (fun ka => T_sI_20 (frz_St (L := [101]) h1) (frz_fre (hf.sub (by simp)) (fun _ x => x)) ka (by simp) (by decide) (fun S2 h2 s2 a2 o2 v2' => ?_))
  obtain ⟨h2, m2⟩ := frz_un h1 h2
  obtain ⟨⟨-, -, hB2, hL2, hO2⟩, e2⟩ := hA1.sm h1 m2 (by simp)
  refine T_oK_8 h2 hb (kx_lawInForce h2 hb hB2 hL2 (fun v hv => T_oK_0 h2 ha (kx_lastTold h2 (hf.sub (by simp)) ha hv hO2 (k := 2) (by omega) rfl (e := envL (sV S b ρ) (-1) hh y (-1)) (fun w hw => ⟨?_, env_b hB (Or.inl rfl) hh' (by omega) (by omega)⟩) (fun r S3 er h3 m3 => kq r S3 ?_ h3 ((sam2 (sam2 m1 m2) m3).le (by simp))))))
  · rw [v2', show (6 : Int32).toNatClampNeg = 6 by decide]
    by_cases z : w = 6
    · subst z
      rw [if_pos rfl, ey]
      rfl
    · rw [if_neg z, w1 w hw]
      unfold envL
      repeat' (split; first | rfl | omega)
      rfl
  · rw [er, e2, e1]
    rfl
theorem kx_opensTo {q : Int32 → hS → Prop} {L : Nat → List pCl} {p hh : Nat} {v2 v3 : Int32} (h : St Γ Φ S) (hf : fre Γ Φ [101, 700]) (hA : askS Γ S a b i ρa ρ L) (e2 : v2 = nI p) (hp : (p : Int) < iR (sV S b ρ) 1) (e3 : v3 = nI hh) (hh' : (hh : Int) < iR (sV S b ρ) 0) (k1 : opensR (sV S b ρ) (csF (sV S b ρ) L) p hh = true → ∀ S', St Γ Φ S' → sam Γ [101, 700] S S' → q 1 S') (k0 : ¬ opensR (sV S b ρ) (csF (sV S b ρ) L) p hh = true → ∀ S', St Γ Φ S' → sam Γ [101, 700] S S' → q 0 S') : w_X0_opensTo q S a b v2 v3 := by
  obtain ⟨ha, hb, hB, hL, hO⟩ := hA
  have b1 := rB_1 hB
  have b0 := rB_0 hB
  have y5 := hB.1 5 (by omega)
  rw [show rHi 5 = 999 by decide, show rLo 5 = 0 by decide] at y5
  have rf : sam Γ [101, 700] S S := sam.rf
  -- no clause of "opens"
  have b20 : ¬ hasK (csF (sV S b ρ) L) 3 = true → w_X0_opensTo_b20 q S b v3 := by
    intro nk
    have eo : opensR (sV S b ρ) (csF (sV S b ρ) L) p hh = decide (iR (sV S b ρ) (8 + hh) < 10) := if_neg nk
    rw [eo] at k1 k0
    unfold w_X0_opensTo_b20
    refine T_oK_8 h hb (hH_y h hb (by rw [e3, nI_toInt (by omega)]; omega) ⟨fun z => absurd z (by decide), fun _ => E_gP_8_0 h hb (fun hg => E_gP_2_2 h hg (fun _ => V_aI_w h hb (m := hh) (by rw [e3, nI_toInt (by omega)]) (by omega) ⟨fun z => k0 (fun y => ?_) S h rf, fun z => k1 (decide_eq_true ?_) S h rf⟩))⟩)
    · rw [Int32.le_iff_toInt_le, show (10 : Int32).toInt = 10 by decide] at z
      have := of_decide_eq_true y
      unfold iR at this
      omega
    · rw [Int32.le_iff_toInt_le, show (10 : Int32).toInt = 10 by decide] at z
      unfold iR
      omega
  unfold w_X0_opensTo
  refine T_oK_8 h hb (kx_lawInForce h hb hB hL (fun v hv => ⟨fun z => b20 ?_, fun d ed => ?_⟩))
  · subst z
    rcases hv with ⟨-, ec⟩ | ⟨d, _, _, _, ev, -⟩
    · rw [ec]; decide
    · cases ev
  · subst ed
    rcases id hv with ⟨ev, -⟩ | ⟨d', c, m, ρd, ev, hd, hx⟩
    · cases ev
    · cases ev
      refine T_oK_10 h hd (kx_hasKind h hd hx hO (k := 3) (by omega) rfl (fun hk => ⟨fun _ => ?_, fun z => absurd z (by decide)⟩) (fun hk => ⟨fun z => absurd rfl z, fun _ => b20 hk⟩))
      have eo : opensR (sV S b ρ) (csF (sV S b ρ) L) p hh = (tellL (csF (sV S b ρ) L) 3 (envL (sV S b ρ) p hh (iR (sV S b ρ) 5) (-1))).isSome := if_pos hk
      rw [eo] at k1 k0
      refine T_oK_0 h ha (kx_X0_setWords h (hf.sub (by simp)) ha hb hB (p := p) (by rw [e2, nI_toInt (by omega)]) (Or.inr ⟨by omega, hp⟩) e3 hh' (t := -1) (by decide) (fun S1 h1 m1 w1 => ?_))
      have hv1 := hv.sm h m1 (by decide)
      exact T_oK_0 h1 ha (kx_someHolds h1 (hf.sub (by simp)) ha hv1 hO (k := 3) (by omega) rfl (e := envL (sV S b ρ) p hh (iR (sV S b ρ) 5) (-1)) (fun w hw => ⟨w1 w hw, env_b hB (Or.inr ⟨by omega, hp⟩) hh' (by omega) (by omega)⟩) (fun z S2 h2 m2 => ⟨Or.inr rfl, k1 z S2 h2 ((sam2 m1 m2).le (by simp))⟩) (fun z S2 h2 m2 => ⟨Or.inl rfl, k0 z S2 h2 ((sam2 m1 m2).le (by simp))⟩))
end CY
