/-! THE LAW IN FORCE IN THE CLASS, EXACTLY -/
/-- the laws of a suburb, by its book -/
def lwsS (Γ : kG) (S : hS) (ρ : Nat → Nat) (L : Nat → List pCl) (n : Int) : Prop := ∀ i : Nat, (i : Int) < n → ∃ b c m ρb, aO S (ρ 15) i = some b ∧ Γ b = some (10, 19, c, m, ρb) ∧ txR S b ρb ((L i).map lwX)
def csF (f : Nat → Int32) (L : Nat → List pCl) : List pCl := if iR f 4 < 0 then [] else L (iR f 4).toNat
theorem nI_m1z {n : Nat} (hn : n < 2 ^ 31) : nI n - 1 < 0 ↔ n = 0 := by
  by_cases c : n = 0
  · subst c
    exact ⟨fun _ => rfl, fun _ => by decide⟩
  · rw [nI_s1 (by omega)]
    exact ⟨fun z => absurd z (nI_ltz (by omega)), fun z => absurd z c⟩
section CR2
variable {Γ : kG} {Φ : kF} {S : hS} {a b c n i : Nat} {ρ ρa : Nat → Nat} {cs : List pCl}
theorem lwsS.sm {S' : hS} {A : List Nat} {L : Nat → List pCl} {n : Int} (h : lwsS Γ S ρ L n) (hs : St Γ Φ S) (hb : Γ b = some (8, 8 + 10000 * i, i, 0, ρ)) (hm : sam Γ A S S') (hA : 915 + 10000 * i ∉ A ∧ 19 ∉ A ∧ 1112 ∉ A ∧ 1113 ∉ A ∧ 1114 ∉ A ∧ 1115 ∉ A) : lwsS Γ S' ρ L n := by
  intro j hj
  obtain ⟨d, c, m, ρd, e1, e2, e3⟩ := h j hj
  obtain ⟨l0, l1, l2, l3, l4, l5⟩ := hA
  refine ⟨d, c, m, ρd, by rw [aO_cell (hm.at hs (P_8_15 hs hb).2 l0)]; exact e1, e2, ?_⟩
  have w0 := hm.at hs e2 l1
  have w1 := hm.at hs (P_10_3 hs e2).2 l2
  have w2 := hm.at hs (P_10_4 hs e2).2 l3
  have w3 := hm.at hs (P_10_5 hs e2).2 l4
  have w4 := hm.at hs (P_10_6 hs e2).2 l5
  exact TXT_congr e3 (fun j => fI_cell w0 j) (funext fun j => aV_cell w1 j) (funext fun j => aV_cell w2 j) (funext fun j => aV_cell w3 j) (funext fun j => aV_cell w4 j)
theorem kx_lawInForce {q : Option Nat → hS → Prop} {L : Nat → List pCl} (h : St Γ Φ S) (hb : Γ b = some (8, 8 + 10000 * i, i, 0, ρ)) (hB : rB (sV S b ρ)) (hL : lwsS Γ S ρ L (iR (sV S b ρ) 3)) (k : ∀ v, lwIn Γ S v (csF (sV S b ρ) L) → q v S) : w_X8_lawInForce q S b := by
  have h3 := hB.1 3 (by omega)
  have h4 := hB.2.1
  have l3 : rHi 3 = 6 := by decide
  have z3 : rLo 3 = 0 := by decide
  rw [l3, z3] at h3
  unfold w_X8_lawInForce
  refine V_gI_16 h hb ⟨fun z => k none (Or.inl ⟨rfl, ?_⟩), fun z => V_gI_16 h hb (V_gI_14 h hb (fun _ => ⟨fun z2 => ?_, fun z2 => V_gI_16 h hb ⟨fun z3 => ?_, fun z3 => E_gP_8_15 h hb (fun hk => V_gI_16 h hb (T_aR_28 h hk ?_ (fun x ex _ => k x ?_)))⟩⟩))⟩
  · rw [Int32.lt_iff_toInt_lt, z0I] at z
    exact if_pos z
  · rw [Int32.le_iff_toInt_le] at z2
    unfold iR at h4
    omega
  · rw [Int32.le_iff_toInt_le, show (6 : Int32).toInt = 6 by decide] at z3
    unfold iR at h4 h3
    omega
  · rw [Int32.lt_iff_toInt_lt, z0I] at z
    unfold iR at h4 h3
    omega
  · rw [Int32.lt_iff_toInt_lt, z0I] at z
    have z' : ¬ iR (sV S b ρ) 4 < 0 := z
    obtain ⟨d, c, m, ρd, e1, e2, e3⟩ := hL (iR (sV S b ρ) 4).toNat (by omega)
    right
    refine ⟨d, c, m, ρd, ?_, e2, ?_⟩
    · rw [ex]
      exact e1
    · unfold csF
      rw [if_neg z']
      exact e3
theorem kx_lastTold {q : Int32 → hS → Prop} {k : Nat} {e : Nat → Int} {v1 : Option Nat} {vk : Int32} (h : St Γ Φ S) (hf : fre Γ Φ [700]) (ha : Γ a = some (0, 0, 0, 0, ρa)) (hl : lwIn Γ S v1 cs) (ho : okL cs) (hk : k ≤ 2) (ek : vk = nI k) (hw : ∀ w, w < 9 → (aV S (ρa 1) w).toInt = e w ∧ -1000000000 ≤ e w ∧ e w ≤ 1000000000) (kq : ∀ (r : Int32) S', r.toInt = toldL cs k e → St Γ Φ S' → sam Γ [700] S S' → q r S') : w_X0_lastTold q S a v1 vk := by
  subst ek
  have hfr := frz_fre (S := S) hf (fun _ x => x)
  have hst := frz_St (L := [700]) h
  have back : ∀ S', St Γ (frz Γ Φ S [700]) S' → St Γ Φ S' ∧ sam Γ [700] S S' := fun S' h' => frz_un h h'
  generalize frz Γ Φ S [700] = Ψ at hfr hst back
  obtain ⟨ha0, ha1⟩ : Γ (ρa 0) = some (6, 6, 0, 0, bk 0 ρa) ∧ Γ (ρa 1) = some (20, 101, 9, 0, k0) := ⟨(P_0_0 hst ha).2, (P_0_1 hst ha).2⟩
  have loop : ∀ n, n ≤ cs.length → lastN cs k e n = tellL cs k e → ∃ t, w_X0_lastTold_b29 q t S a v1 (nI k) (nI n - 1) := by
    intro n0 hn0 en0
    refine loop_m (σ := hS × Nat) (fun t s => w_X0_lastTold_b29 q t s.1 a v1 (nI k) (nI s.2 - 1)) (fun s => St Γ Ψ s.1 ∧ s.2 ≤ cs.length ∧ lastN cs k e s.2 = tellL cs k e) (fun s => s.2) ?_ (S, n0) ⟨hst, hn0, en0⟩
    rintro t ⟨S1, n⟩ ⟨h1, hn, en⟩ ih
    dsimp only at h1 hn en ih ⊢
    obtain ⟨g1, m1⟩ := back S1 h1
    have l12 := ho.1.1
    rw [List.length_map] at l12
    rw [w_X0_lastTold_b29]
    rw [nI_m1z (by omega)]
    refine ⟨fun z => ?_, fun z => ?_⟩
    · subst z
      refine ⟨vp_in_nI (show k < 3 by omega) (by decide), ?_⟩
      have e0 : tellL cs k e = none := en.symm
      rw [nI_clamp (by omega)]
      refine kq _ S1 ?_ g1 m1
      unfold toldL
      rw [e0]
      have : k = 0 ∨ k = 1 ∨ k = 2 := by omega
      rcases this with rfl | rfl | rfl <;> decide
    · rcases hl with ⟨-, ec⟩ | hl'
      · subst ec
        simp at hn
        omega
      · have hl1 := lwIn.sm (Or.inr hl') h m1 (by decide)
        rcases hl1 with ⟨ev, -⟩ | ⟨d, c, m, ρd, ev, hd, hx⟩
        · obtain ⟨d, _, _, _, ev', -⟩ := hl'
          rw [ev'] at ev
          cases ev
        · subst ev
          refine ⟨d, rfl, ?_⟩
          have hj : n - 1 < cs.length := by omega
          have hj2 : n - 1 < (cs.map lwX).length := by rw [List.length_map]; exact hj
          have hjm : n - 1 < (xMk (cs.map lwX) 0).length := by rw [xMk_len]; exact hj2
          have ecl := clA_map hj hj2
          have ekd : aV S1 (ρd 3) (n - 1) = nI (clA cs (n - 1)).1 := by
            have := (hx.2.2.1 (n - 1) hjm).1
            rw [(xMk_at (cs.map lwX) 0 (n - 1) hjm hj2).1, ecl] at this
            exact this
          have hc5 := (ho.2.1 _ (clA_mem hj)).1
          obtain ⟨hc12, -⟩ := T_tx h1 hd
          have lc : (cs.map lwX).length ≤ c := by
            obtain ⟨b0, b1, b2, b3, b4, b5, b6, eb, r0, r1, -⟩ := h1.c10 hd
            dsimp only at r0 r1
            have f0 : fI S1 d 0 = b0 := fI_of (fv_of eb rfl)
            have x1 : fI S1 d 0 = nI (cs.map lwX).length := hx.1
            have := congrArg Int32.toInt (f0.symm.trans x1)
            rw [nI_toInt (by rw [List.length_map]; omega)] at this
            omega
          rw [List.length_map] at lc
          rw [nI_s1 (by omega)]
          refine E_gP_10_3 h1 hd (fun hk3 => T_aI_20 h1 hk3 (by rw [nI_toInt (by omega)]; omega) (fun x40 e40 _ => ?_))
          rw [nI_clamp (by omega), ekd] at e40
          rw [e40, nI_eq (by omega) (by omega)]
          have nxt : ∀ S2, St Γ Ψ S2 → holdC (clA cs (n - 1)) k e = none → w_X0_lastTold_b103 q (fun S v0 v1 v2 v4 => w_X0_lastTold_b29 q t S v0 v1 v2 v4) S2 a (some d) (nI k) (nI (n - 1)) := by
            intro S2 h2 hno y ey
            rw [ey, nI_am1]
            refine ih (S2, n - 1) ⟨h2, by dsimp only; omega, ?_⟩ (by dsimp only; omega)
            dsimp only
            rw [← en, show n = (n - 1) + 1 by omega, lastN, Nat.add_sub_cancel, hno]
          have wds : ∀ S2, St Γ Ψ S2 → ∀ w, w < 9 → (aV S2 (ρa 1) w).toInt = e w ∧ -1000000000 ≤ e w ∧ e w ≤ 1000000000 := by
            intro S2 h2 w hw'
            rw [aV_cell ((back S2 h2).2.at h ha1 (by simp))]
            exact hw w hw'
          have txs : ∀ S2, St Γ Ψ S2 → txR S2 d ρd (cs.map lwX) := by
            intro S2 h2
            rcases lwIn.sm (Or.inr hl') h (back S2 h2).2 (by decide) with ⟨z, -⟩ | ⟨d', c', m', ρd', ed, hd', hx'⟩
            · cases z
            · cases ed
              rw [hd] at hd'
              cases hd'
              exact hx'
          refine ⟨fun z1 => nxt S1 h1 (if_neg (fun z2 => z1 z2.1)), fun z1 => E_gP_0_0 h1 ha (fun _ => E_gP_0_1 h1 ha (fun _ => T_oK_6 h1 ha0 (kx_X6_weigh (j := n - 1) (i := 3) h1 hfr ha0 hd (Or.inr rfl) ha1 (by decide) (by decide) hx ho.1 hj2 (by omega) rfl rfl (wds S1 h1) (fun e3 S2 h2 _ => ⟨fun _ => nxt S2 h2 ?_, fun z => absurd z (by decide)⟩) (fun v r S2 e3 er hb2 h2 _ => ⟨fun z => nxt S2 h2 ?_, fun z => ?_⟩))))⟩
          · rw [ecl] at e3
            refine if_neg (fun z2 => ?_)
            have : wgV (clA cs (n - 1)).2.2 e = none := e3
            rw [this] at z2
            cases z2.2
          · rw [ecl] at e3
            refine if_neg (fun z2 => z ?_)
            have e3 : wgV (clA cs (n - 1)).2.2 e = some v := e3
            rw [e3] at z2
            have := Option.some.inj z2.2
            exact Int32.toInt_inj.mp (by rw [er, this]; decide)
          · rw [ecl] at e3
            have e3 : wgV (clA cs (n - 1)).2.2 e = some v := e3
            have v1 : v = 1 := by rw [← er, z]; decide
            subst v1
            refine E_gP_0_0 h2 ha (fun _ => E_gP_0_1 h2 ha (fun _ => T_oK_6 h2 ha0 (kx_X6_weigh (j := n - 1) (i := 0) h2 hfr ha0 hd (Or.inr rfl) ha1 (by decide) (by decide) (txs S2 h2) ho.1 hj2 (by omega) rfl rfl (wds S2 h2) (fun e4 S3 h3 _ => ⟨fun _ => nxt S3 h3 ?_, fun z => absurd rfl z⟩) (fun v r2 S3 e4 er2 hb3 h3 _ => ⟨fun z => ?_, fun z => ?_⟩))))
            · rw [ecl] at e4
              have e4 : wgV (clA cs (n - 1)).2.1 e = none := e4
              unfold holdC
              rw [if_pos ⟨z1, e3⟩]
              exact e4
            · have := congrArg Int32.toInt z
              rw [er2, show (2000000000 : Int32).toInt = 2000000000 by decide] at this
              omega
            · rw [ecl] at e4
              have e4 : wgV (clA cs (n - 1)).2.1 e = some v := e4
              have et : tellL cs k e = some v := by
                rw [← en, show n = (n - 1) + 1 by omega, lastN]
                unfold holdC
                rw [if_pos ⟨z1, e3⟩, e4]
              obtain ⟨g3, m3⟩ := back S3 h3
              refine ⟨vp_in_nI (show k < 3 by omega) (by decide), kq _ S3 ?_ g3 m3⟩
              rw [nI_clamp (by omega)]
              have hm0 : (nI (([20, 999, 99] : List Nat).getD k 0)).toInt = mstK k := by
                have : k = 0 ∨ k = 1 ∨ k = 2 := by omega
                rcases this with rfl | rfl | rfl <;> decide
              rw [clI_in (by rw [hm0]; omega), hm0, er2]
              unfold toldL
              rw [et]
              rfl
  unfold w_X0_lastTold w_X0_lastTold_b25
  have l2 : nI k ≤ (2 : Int32) ↔ k ≤ 2 := nI_leI (b := 2) (by omega) (by omega)
  rw [l2]
  refine ⟨fun z => absurd z (nI_ltz (by omega)), fun _ => ⟨fun _ => ⟨fun z => ?_, fun d ed => ?_⟩, fun z => absurd hk z⟩⟩
  · subst z
    rcases hl with ⟨-, ec⟩ | ⟨d, _, _, _, ev, -⟩
    · subst ec
      have := loop 0 (by simp) rfl
      exact this
    · cases ev
  · subst ed
    rcases hl with ⟨ev, -⟩ | ⟨d', c, m, ρd, ev, hd, hx⟩
    · cases ev
    · cases ev
      refine T_gI_10_0 h hd (fun x20 e20 _ => ?_)
      have x1 : fI S d 0 = nI (cs.map lwX).length := hx.1
      rw [e20, x1, List.length_map]
      exact loop cs.length (Nat.le_refl _) rfl
end CR2
