/-! RINGBELL, CANBUY, SELLRING -/
section DF
variable {Γ : kG} {Φ : kF} {S : hS} {a b d g i u : Nat} {ρ ρd ρg : Nat → Nat} {us : uL} {L : Nat → List pCl}
theorem askS.sm2 {S' : hS} {ρa : Nat → Nat} (h : askS Γ S a b i ρa ρ L) (hs : St Γ Φ S) (hm : sam Γ [101, 700] S S') : askS Γ S' a b i ρa ρ L ∧ sV S' b ρ = sV S b ρ := h.sm hs hm (by simp)
theorem kx_X1_ringBell {q : Int32 → hS → Prop} {lg : Option Nat} {v3 v4 : Int32} (h : St Γ Φ S) (hf : fre Γ Φ (dbNm i)) (hd : Γ d = some (1, 1, 0, 0, ρd)) (hi : i < 10) (hA : askS Γ S (ρd 0) b i (bk 0 ρd) ρ L) (hl : lgI ρg Γ Φ S u lg us) (kb : ¬ ((0 ≤ v3.toInt ∧ v3.toInt < iR (sV S b ρ) 1) ∧ (0 ≤ v4.toInt ∧ v4.toInt < iR (sV S b ρ) 0)) → q (-2) S) (kn : ∀ p hh : Nat, v3 = nI p → v4 = nI hh → (p : Int) < iR (sV S b ρ) 1 → (hh : Int) < iR (sV S b ρ) 0 → ¬ (liveR (sV S b ρ) p = true ∧ 1 ≤ leftR (sV S b ρ) p hh) → q (-3) S) (kk : ∀ p hh : Nat, v3 = nI p → v4 = nI hh → (p : Int) < iR (sV S b ρ) 1 → (hh : Int) < iR (sV S b ρ) 0 → liveR (sV S b ρ) p = true → 1 ≤ leftR (sV S b ρ) p hh → ∀ Γ' S', gro Γ Φ Γ' → St Γ' Φ S' → lgJ ρg Γ' S S' lg (pushU us (0, sV S b ρ)) → sam Γ (deNm i) S S' → sV S' b ρ = ringF (sV S b ρ) (csF (sV S b ρ) L) p hh → q (if opensR (sV S b ρ) (csF (sV S b ρ) L) p hh = true then 1 else 0) S') : w_X1_ringBell q S u d b lg v3 v4 := by
  obtain ⟨-, hb, hB, -, -⟩ := id hA
  have b1 := rB_1 hB
  have b0 := rB_0 hB
  unfold w_X1_ringBell
  refine T_oK_8 h hb ?_
  by_cases c1 : 0 ≤ v3.toInt ∧ v3.toInt < iR (sV S b ρ) 1
  rotate_left
  · exact hP_n h hb c1 ⟨fun _ => kb (fun z => c1 z.1), fun z => absurd rfl z⟩
  refine hP_y h hb c1 ⟨fun z => absurd z (by decide), fun _ => T_oK_8 h hb ?_⟩
  by_cases c2 : 0 ≤ v4.toInt ∧ v4.toInt < iR (sV S b ρ) 0
  rotate_left
  · exact hH_n h hb c2 ⟨fun z => absurd rfl z, fun _ => kb (fun z => c2 z.2)⟩
  obtain ⟨p, ep, hp, p8⟩ := pN c1 hB
  obtain ⟨hh, eh, hh', h6⟩ := hN c2 hB
  have kn' := kn p hh ep eh hp hh'
  have kk' := kk p hh ep eh hp hh'
  subst ep
  subst eh
  refine hH_y h hb c2 ⟨fun _ => T_oK_8 h hb (kx_lives h hb b1 rfl hp (fun lv => ⟨fun z => absurd z (by decide), fun _ => T_oK_8 h hb (kx_leftOf h hb hB rfl rfl hp hh' (fun r er => ?_))⟩) (fun lv => ⟨fun _ => kn' (fun z => lv (of_decide_eq_true z.1)), fun z => absurd rfl z⟩)), fun z => absurd z (by decide)⟩
  have e1 : (1 : Int32) ≤ r ↔ 1 ≤ leftR (sV S b ρ) p hh := by rw [Int32.le_iff_toInt_le, er]; rfl
  rw [e1]
  refine ⟨fun hle => ?_, fun hle => kn' (fun z => hle z.2)⟩
  refine E_gP_8_0 h hb (fun _ => ⟨u, 0, rfl, kx_deed (L := L) h hf hb hi hl (kd := 0) (by omega) rfl (fun Γ1 Ψ S1 g1 h1 f1 back as1 ev1 => ?_)⟩)
  have kk2 := kk' (decide_eq_true lv) hle Γ1
  have hA1 := as1 hA
  have hd1 := g1.1 _ _ hd
  have hb1 := hA1.2.1
  refine E_gP_1_0 h1 hd1 (fun k0 => T_oK_0 h1 k0 ?_)
  -- behind the opening
  have rest : ∀ (S2 : hS) (o : Int32), St Γ1 Ψ S2 → sam Γ1 [101, 700] S1 S2 → (∀ S', St Γ1 Ψ S' → sV S' b ρ = ringF (sV S b ρ) (csF (sV S b ρ) L) p hh → (o = 0 → q 0 S') ∧ (¬ o = 0 → q 1 S')) → gP S2 d 1 0 (fun x65 => oK S2 x65 0 ∧ w_X0_tiring (fun x72 S => gP S b 8 0 (fun x78 => gP S x78 2 1 (fun x81 => w_X11_slot (fun x87 S => aI S x81 x87 (fun x91 => sI S x81 x87 (x91 + 1) (fun S => gP S b 8 0 (fun x96 => gP S x96 2 2 (fun x99 => gP S b 8 0 (fun x105 => gP S x105 2 2 (fun x108 => aI S x108 (nI hh) (fun x113 => sI S x99 (nI hh) (if 99 < (x113 + x72) then 99 else (x113 + x72)) (fun S => (o = 0 → q 0 S) ∧ (¬ o = 0 → q 1 S)))))))))) S (nI p) (nI hh)))) S2 x65 b (nI p) (nI hh)) := by
    intro S2 o h2 m2 kf
    obtain ⟨hA2, ev2⟩ := hA1.sm2 h1 m2
    refine E_gP_1_0 h2 hd1 (fun k0' => T_oK_0 h2 k0' (kx_tiring h2 (f1.sub (by simp [dbNm])) hA2 rfl (by rw [ev2, ev1]; exact hp) rfl (by rw [ev2, ev1]; exact hh') (fun r3 S3 er3 h3 m3 => ?_)))
    obtain ⟨hA3, ev3⟩ := hA2.sm2 h2 m3
    rw [ev2, ev1] at er3 ev3
    generalize sV S b ρ = f at *
    have u1 := rB_u hB (j := p * 6 + hh) (by omega)
    have w1 := rB_w hB h6
    have t1 := tires_in (f := f) (cs := csF f L) (p := p) (h := hh)
    refine E_gP_8_0 h3 hb1 (fun hg => E_gP_2_1 h3 hg (fun _ => kx_slot (V_aI_u h3 hb1 (nI_toInt (by omega)) (by omega) (V_sI_u h3 hb1 f1 (by simp [dbNm]) (nI_toInt (by omega)) (by omega) (fun S4 h4 e4 => E_gP_8_0 h4 hb1 (fun hg4 => E_gP_2_2 h4 hg4 (fun _ => E_gP_8_0 h4 hb1 (fun hg5 => E_gP_2_2 h4 hg5 (fun _ => V_aI_w h4 hb1 (nI_toInt (by omega)) (by omega) (V_sI_w h4 hb1 f1 (by simp [dbNm]) (nI_toInt (by omega)) (by omega) (fun S5 h5 e5 => kf S5 h5 ?_)))))))))))
    rw [e5, e4, ev3]
    unfold ringF
    rw [upd_ne _ _ (show 8 + hh ≠ 78 + (p * 6 + hh) by omega), wI_min, show 78 + (p * 6 + hh) = 78 + 6 * p + hh by omega]
    rw [show 78 + (p * 6 + hh) = 78 + 6 * p + hh by omega] at u1
    have a1 : f (78 + 6 * p + hh) + 1 = wI (iR f (78 + 6 * p + hh) + 1) := wI_add rfl (by decide) (by omega) (by omega)
    have a2 : (f (8 + hh) + r3).toInt = iR f (8 + hh) + tiresR f (csF f L) p hh := by
      rw [fb_addI (by rw [er3, iR_i]; omega) (by rw [er3, iR_i]; omega), er3, iR_i]
    rw [a1, a2]
    rfl
  refine kx_opensTo h1 (f1.sub (by simp [dbNm])) hA1 rfl (by rw [ev1]; exact hp) rfl (by rw [ev1]; exact hh') (fun z S2 h2 m2 => rest S2 1 h2 m2 (fun S' h' ev' => ⟨fun y => absurd y (by decide), fun _ => ?_⟩)) (fun z S2 h2 m2 => rest S2 0 h2 m2 (fun S' h' ev' => ⟨fun _ => ?_, fun y => absurd rfl y⟩))
  · obtain ⟨x1, x2, x3⟩ := back S' h'
    rw [ev1] at z
    have := kk2 S' g1 x1 x2 x3 ev'
    rw [if_pos z] at this
    exact this
  · obtain ⟨x1, x2, x3⟩ := back S' h'
    rw [ev1] at z
    have := kk2 S' g1 x1 x2 x3 ev'
    rw [if_neg z] at this
    exact this
theorem kx_X1_canBuy {q : Int32 → hS → Prop} {p o hh : Nat} {v2 v3 v4 : Int32} (h : St Γ Φ S) (hf : fre Γ Φ [101, 700]) (hd : Γ d = some (1, 1, 0, 0, ρd)) (hA : askS Γ S (ρd 0) b i (bk 0 ρd) ρ L) (e2 : v2 = nI p) (e3 : v3 = nI o) (e4 : v4 = nI hh) (hp : (p : Int) < iR (sV S b ρ) 1) (ho : (o : Int) < iR (sV S b ρ) 1) (hh' : (hh : Int) < iR (sV S b ρ) 0) (k1 : canBuyR (sV S b ρ) (csF (sV S b ρ) L) p o hh = true → ∀ S', St Γ Φ S' → sam Γ [101, 700] S S' → q 1 S') (k0 : ¬ canBuyR (sV S b ρ) (csF (sV S b ρ) L) p o hh = true → ∀ S', St Γ Φ S' → sam Γ [101, 700] S S' → q 0 S') : w_X1_canBuy q S d b v2 v3 v4 := by
  subst e2
  subst e3
  subst e4
  obtain ⟨-, hb, hB, -, -⟩ := id hA
  have b1 := rB_1 hB
  have b0 := rB_0 hB
  have ex : canBuyR (sV S b ρ) (csF (sV S b ρ) L) p o hh = true ↔ iR (sV S b ρ) (22 + p) = 0 ∧ iR (sV S b ρ) (22 + o) = 0 ∧ iR (sV S b ρ) (30 + 6 * o + hh) < 99 ∧ ¬ barredR (sV S b ρ) (csF (sV S b ρ) L) p o hh = true ∧ costsR (sV S b ρ) (csF (sV S b ρ) L) p o hh ≤ iR (sV S b ρ) (14 + o) := by
    unfold canBuyR liveR
    simp only [Bool.and_eq_true, decide_eq_true_eq, Bool.not_eq_true', Bool.not_eq_true]
    constructor
    · rintro ⟨⟨⟨⟨x1, x2⟩, x3⟩, x4⟩, x5⟩; exact ⟨x1, x2, x3, x4, x5⟩
    · rintro ⟨x1, x2, x3, x4, x5⟩; exact ⟨⟨⟨⟨x1, x2⟩, x3⟩, x4⟩, x5⟩
  rw [ex] at k1 k0
  have no : ¬ (iR (sV S b ρ) (22 + p) = 0 ∧ iR (sV S b ρ) (22 + o) = 0 ∧ iR (sV S b ρ) (30 + 6 * o + hh) < 99 ∧ ¬ barredR (sV S b ρ) (csF (sV S b ρ) L) p o hh = true ∧ costsR (sV S b ρ) (csF (sV S b ρ) L) p o hh ≤ iR (sV S b ρ) (14 + o)) → q 0 S := fun z => k0 z S h sam.rf
  unfold w_X1_canBuy
  refine T_oK_8 h hb (kx_lives h hb b1 rfl hp (fun l1 => ⟨fun z => absurd z (by decide), fun _ => T_oK_8 h hb (kx_lives h hb b1 rfl ho (fun l2 => ⟨fun z => absurd z (by decide), fun _ => T_oK_8 h hb (kx_rightsOf h hb hB rfl rfl ho hh' (fun r er => ?_))⟩) (fun l2 => ⟨fun _ => no (fun z => l2 z.2.1), fun z => absurd rfl z⟩))⟩) (fun l1 => ⟨fun _ => no (fun z => l1 z.1), fun z => absurd rfl z⟩))
  have e1 : (99 : Int32) ≤ r ↔ 99 ≤ iR (sV S b ρ) (30 + 6 * o + hh) := by rw [Int32.le_iff_toInt_le, er]; rfl
  rw [e1]
  refine ⟨fun z => no (fun y => by omega), fun hr => E_gP_1_0 h hd (fun ka => T_oK_0 h ka (kx_isBarred h hf hA rfl hp rfl ho rfl hh' (fun z S1 h1 m1 => ⟨fun _ => k0 (fun y => y.2.2.2.1 z) S1 h1 m1, fun y => absurd y (by decide)⟩) (fun nb S1 h1 m1 => ⟨fun y => absurd rfl y, fun _ => ?_⟩)))⟩
  obtain ⟨hA1, ev1⟩ := hA.sm2 h m1
  refine E_gP_8_0 h1 hb (fun hg => E_gP_2_3 h1 hg (fun _ => V_aI_m h1 hb (nI_toInt (by omega)) (by omega) (E_gP_1_0 h1 hd (fun ka => T_oK_0 h1 ka (kx_price h1 hf hA1 rfl (by rw [ev1]; exact hp) rfl (by rw [ev1]; exact ho) rfl (by rw [ev1]; exact hh') (fun r2 S2 er2 h2 m2 => ?_))))))
  rw [ev1] at er2 ⊢
  have e3 : sV S b ρ (14 + o) < r2 ↔ iR (sV S b ρ) (14 + o) < costsR (sV S b ρ) (csF (sV S b ρ) L) p o hh := by rw [Int32.lt_iff_toInt_lt, er2]; rfl
  rw [e3]
  exact ⟨fun z => k0 (fun y => by omega) S2 h2 (m1.tr m2), fun z => k1 ⟨l1, l2, by omega, nb, by omega⟩ S2 h2 (m1.tr m2)⟩
theorem kx_X1_sellRing {q : Int32 → hS → Prop} {lg : Option Nat} {v3 v4 v5 : Int32} (h : St Γ Φ S) (hf : fre Γ Φ (dbNm i)) (hd : Γ d = some (1, 1, 0, 0, ρd)) (hi : i < 10) (hA : askS Γ S (ρd 0) b i (bk 0 ρd) ρ L) (hl : lgI ρg Γ Φ S u lg us) (ke : v3 = v4 → q (-1) S) (kb : ¬ v3 = v4 → ¬ ((0 ≤ v3.toInt ∧ v3.toInt < iR (sV S b ρ) 1) ∧ (0 ≤ v4.toInt ∧ v4.toInt < iR (sV S b ρ) 1) ∧ (0 ≤ v5.toInt ∧ v5.toInt < iR (sV S b ρ) 0)) → q (-2) S) (kn : ∀ p o hh : Nat, ¬ v3 = v4 → v3 = nI p → v4 = nI o → v5 = nI hh → (p : Int) < iR (sV S b ρ) 1 → (o : Int) < iR (sV S b ρ) 1 → (hh : Int) < iR (sV S b ρ) 0 → ¬ (1 ≤ leftR (sV S b ρ) p hh ∧ canBuyR (sV S b ρ) (csF (sV S b ρ) L) p o hh = true) → ∀ S', St Γ Φ S' → sam Γ [101, 700] S S' → q (-3) S') (kk : ∀ p o hh : Nat, p ≠ o → v3 = nI p → v4 = nI o → v5 = nI hh → (p : Int) < iR (sV S b ρ) 1 → (o : Int) < iR (sV S b ρ) 1 → (hh : Int) < iR (sV S b ρ) 0 → 1 ≤ leftR (sV S b ρ) p hh → canBuyR (sV S b ρ) (csF (sV S b ρ) L) p o hh = true → ∀ Γ' S', gro Γ Φ Γ' → St Γ' Φ S' → lgJ ρg Γ' S S' lg (pushU us (1, sV S b ρ)) → sam Γ (deNm i) S S' → sV S' b ρ = sellF (sV S b ρ) (csF (sV S b ρ) L) p o hh → q (wI (costsR (sV S b ρ) (csF (sV S b ρ) L) p o hh)) S') : w_X1_sellRing q S u d b lg v3 v4 v5 := by
  obtain ⟨-, hb, hB, -, -⟩ := id hA
  have b1 := rB_1 hB
  have b0 := rB_0 hB
  unfold w_X1_sellRing
  refine ⟨fun ne => T_oK_8 h hb ?_, ke⟩
  have kb' := kb ne
  by_cases c1 : 0 ≤ v3.toInt ∧ v3.toInt < iR (sV S b ρ) 1
  rotate_left
  · exact hP_n h hb c1 ⟨fun _ => kb' (fun z => c1 z.1), fun z => absurd rfl z⟩
  refine hP_y h hb c1 ⟨fun z => absurd z (by decide), fun _ => T_oK_8 h hb ?_⟩
  by_cases c2 : 0 ≤ v4.toInt ∧ v4.toInt < iR (sV S b ρ) 1
  rotate_left
  · exact hP_n h hb c2 ⟨fun _ => kb' (fun z => c2 z.2.1), fun z => absurd rfl z⟩
  refine hP_y h hb c2 ⟨fun z => absurd z (by decide), fun _ => T_oK_8 h hb ?_⟩
  by_cases c3 : 0 ≤ v5.toInt ∧ v5.toInt < iR (sV S b ρ) 0
  rotate_left
  · exact hH_n h hb c3 ⟨fun z => absurd rfl z, fun _ => kb' (fun z => c3 z.2.2)⟩
  obtain ⟨p, ep, hp, p8⟩ := pN c1 hB
  obtain ⟨o, eo, ho, o8⟩ := pN c2 hB
  obtain ⟨hh, eh, hh', h6⟩ := hN c3 hB
  have kn' := kn p o hh ne ep eo eh hp ho hh'
  have po : p ≠ o := fun z => ne (by rw [ep, eo, z])
  have kk' := kk p o hh po ep eo eh hp ho hh'
  subst ep
  subst eo
  subst eh
  refine hH_y h hb c3 ⟨fun _ => T_oK_8 h hb (kx_leftOf h hb hB rfl rfl hp hh' (fun r er => ?_)), fun z => absurd z (by decide)⟩
  have e1 : r < (1 : Int32) ↔ leftR (sV S b ρ) p hh < 1 := by rw [Int32.lt_iff_toInt_lt, er]; rfl
  rw [e1]
  have dbs : ∀ x ∈ [101, 700], x ∈ deNm i := fun x hx => dbNm_sub (by
    simp only [List.mem_cons, List.not_mem_nil, or_false] at hx
    rcases hx with rfl | rfl <;> simp [dbNm])
  refine ⟨fun z => kn' (fun y => by omega) S h sam.rf, fun hle => T_oK_1 h hd (kx_X1_canBuy h (hf.sub (by simp [dbNm])) hd hA rfl rfl rfl hp ho hh' (fun cb S0 h0 m0 => ⟨fun _ => ?_, fun z => absurd z (by decide)⟩) (fun cb S0 h0 m0 => ⟨fun z => absurd rfl z, fun _ => kn' (fun y => cb y.2) S0 h0 m0⟩))⟩
  obtain ⟨hA0, ev0⟩ := hA.sm2 h m0
  have n101 : ∀ j, j < 16 → ∀ x ∈ leN (10 + j), x ∉ [101, 700] := fun j hj x hx => by
    simp only [leN, List.mem_cons, List.not_mem_nil, or_false] at hx ⊢
    omega
  have hl0 : lgI ρg Γ Φ S0 u lg us := fun g hg => by
    obtain ⟨x1, x2, x3, x4⟩ := hl g hg
    refine ⟨x1, ?_, x3, x4.sm h x1 m0 ⟨by simp, by simp, by simp, n101⟩⟩
    have w := m0.at h x1 (by simp)
    have w2 := m0.at h (P_3_0 h x1).2 (by simp)
    have q1 := (lgN_e (S' := S) h0 x1).2
    have q2 := (lgN_e (S' := S) h x1).2
    rw [q1, fI_cell w, aO_cell w2, ← q2]
    exact x2
  refine E_gP_8_0 h0 hb (fun _ => ⟨u, 0, rfl, kx_deed (L := L) h0 hf hb hi hl0 (kd := 1) (by omega) rfl (fun Γ1 Ψ S1 g1 h1 f1 back as1 ev1 => ?_)⟩)
  rw [ev0] at ev1
  have hA1 := as1 hA0
  have hd1 := g1.1 _ _ hd
  have hb1 := hA1.2.1
  refine E_gP_1_0 h1 hd1 (fun ka => T_oK_0 h1 ka (kx_price h1 (f1.sub (by simp [dbNm])) hA1 rfl (by rw [ev1]; exact hp) rfl (by rw [ev1]; exact ho) rfl (by rw [ev1]; exact hh') (fun r3 S3 er3 h3 m3 => ?_)))
  obtain ⟨hA3, ev3⟩ := hA1.sm2 h1 m3
  rw [ev1] at er3 ev3
  have kk2 : ∀ S', St Γ1 Ψ S' → sV S' b ρ = sellF (sV S b ρ) (csF (sV S b ρ) L) p o hh → q r3 S' := by
    intro S' h' ev'
    obtain ⟨x1, x2, x3⟩ := back S' h'
    rw [ev0] at x2
    rw [wI_of er3]
    refine kk' (by omega) cb Γ1 S' g1 x1 (fun g hg => ?_) ((m0.le dbs).tr x3) ev'
    obtain ⟨y1, y2⟩ := x2 g hg
    refine ⟨?_, y2⟩
    have x1' := (hl g hg).1
    have w := m0.at h x1' (by simp)
    have w2 := m0.at h (P_3_0 h x1').2 (by simp)
    have q1 := lgN_e (S' := S) h0 x1'
    have q2 := lgN_e (S' := S) h x1'
    rw [q1.1, q1.2, fI_cell w, aO_cell w2, ← q2.2, cN_congr 16 (fun j _ => aO_cell w2 j), ← q2.1] at y1
    exact y1
  generalize sV S b ρ = f at *
  have r1 := rB_r hB (j := p * 6 + hh) (by omega)
  have r2 := rB_r hB (j := o * 6 + hh) (by omega)
  have m1 := rB_m hB p8
  have m2 := rB_m hB o8
  have t1 := costs_in (f := f) (cs := csF f L) (p := p) (o := o) (h := hh)
  refine E_gP_8_0 h3 hb1 (fun hg => E_gP_2_0 h3 hg (fun _ => kx_slot (V_aI_r h3 hb1 (nI_toInt (by omega)) (by omega) (V_sI_r h3 hb1 f1 (by simp [dbNm]) (nI_toInt (by omega)) (by omega) (fun S4 h4 e4 => E_gP_2_0 h4 hg (fun _ => kx_slot (V_aI_r h4 hb1 (nI_toInt (by omega)) (by omega) (V_sI_r h4 hb1 f1 (by simp [dbNm]) (nI_toInt (by omega)) (by omega) (fun S5 h5 e5 => E_gP_2_3 h5 hg (fun _ => V_aI_m h5 hb1 (nI_toInt (by omega)) (by omega) (V_sI_m h5 hb1 f1 (by simp [dbNm]) (nI_toInt (by omega)) (by omega) (fun S6 h6' e6 => E_gP_2_3 h6' hg (fun _ => E_gP_2_3 h6' hg (fun _ => V_aI_m h6' hb1 (nI_toInt (by omega)) (by omega) (V_sI_m h6' hb1 f1 (by simp [dbNm]) (nI_toInt (by omega)) (by omega) (fun S7 h7 e7 => kk2 S7 h7 ?_))))))))))))))))
  rw [e7, e6, e5, e4, ev3]
  unfold sellF
  rw [show 30 + (p * 6 + hh) = 30 + 6 * p + hh by omega] at r1 ⊢
  rw [show 30 + (o * 6 + hh) = 30 + 6 * o + hh by omega] at r2 ⊢
  rw [upd_ne _ _ (show 14 + p ≠ 14 + o by omega), upd_ne _ _ (show 14 + p ≠ 30 + 6 * o + hh by omega), upd_ne _ _ (show 14 + p ≠ 30 + 6 * p + hh by omega), upd_ne _ _ (show 14 + o ≠ 30 + 6 * o + hh by omega), upd_ne _ _ (show 14 + o ≠ 30 + 6 * p + hh by omega), upd_ne _ _ (show 30 + 6 * o + hh ≠ 30 + 6 * p + hh by omega)]
  have a1 : f (30 + 6 * p + hh) - 1 = wI (iR f (30 + 6 * p + hh) - 1) := wI_sub rfl (by decide) (by omega) (by omega)
  have a2 : f (30 + 6 * o + hh) + 1 = wI (iR f (30 + 6 * o + hh) + 1) := wI_add rfl (by decide) (by omega) (by omega)
  have a3 : f (14 + o) - r3 = wI (iR f (14 + o) - costsR f (csF f L) p o hh) := wI_sub rfl er3 (by omega) (by omega)
  have a4 : (f (14 + p) + r3).toInt = iR f (14 + p) + costsR f (csF f L) p o hh := by
    rw [fb_addI (by rw [er3, iR_i]; omega) (by rw [er3, iR_i]; omega), er3, iR_i]
  rw [wI_min, a1, a2, a3, a4]
  rfl
end DF
