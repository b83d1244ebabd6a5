/-! THE CHEAPEST CHAIN, THE CLASS'S QUESTION -/
def cbN (T : aS) (e p o : Nat) : Bool := decide (p ≠ o) && canBuyR T.1.1 (csF T.1.1 T.1.2) p o e
def coN (T : aS) (e p o : Nat) : Nat := (costsR T.1.1 (csF T.1.1 T.1.2) p o e).toNat
def chD (T : aS) (e to : Nat) : Nat → Nat := dR (nPR T.1.1) to (cbN T e) (coN T e)
def chA (T : aS) (e to fr : Nat) (i : Int32) : Int32 := if chD T e to fr = 100000000 then -1 else if i = -1 then nI (chD T e to fr / 100) else if i.toInt < (chD T e to fr % 100 : Nat) then nI (sqR (nPR T.1.1) (cbN T e) (coN T e) (chD T e to) fr (i.toInt.toNat + 1)) else -1
def spChain (a b c i : Int32) (T : aS) : Int32 := if (0 ≤ a.toInt ∧ a.toInt < iR T.1.1 1) ∧ (0 ≤ b.toInt ∧ b.toInt < iR T.1.1 1) ∧ a ≠ b ∧ (0 ≤ c.toInt ∧ c.toInt < iR T.1.1 0) ∧ -1 ≤ i.toInt ∧ 1 ≤ leftR T.1.1 a.toInt.toNat c.toInt.toNat then chA T c.toInt.toNat b.toInt.toNat a.toInt.toNat i else -1
theorem coN_e (T : aS) (e p o : Nat) : costsR T.1.1 (csF T.1.1 T.1.2) p o e = (coN T e p o : Int) ∧ coN T e p o ≤ 999 := by
  have := toldL_in (cs := csF T.1.1 T.1.2) (k := 1) (e := envL T.1.1 p e (iR T.1.1 5) o) (by omega)
  rw [show (mstK 1 : Int) = 999 by decide] at this
  unfold coN costsR
  omega
section CL
variable {Γ : kG} {Φ : kF} {S : hS} {x : Nat} {ρ : Nat → Nat} {rs : Nat} {T : aS} {L : List Nat}
theorem kx_setSales {q : hS → Prop} {e : Nat} (hs : St Γ Φ S) (hf : fre Γ Φ L) (hL : ∀ x ∈ [101, 700, 4, 507, 508, 509], x ∈ L) (hC : ∀ S', St Γ Φ S' → CR Γ S' x ρ rs T) (he : (e : Int) < iR T.1.1 0) (k : ∀ S', St Γ Φ S' → (∀ p o, p < nPR T.1.1 → o < nPR T.1.1 → aV S' (bk 8 ρ 7) (8 * p + o) = slV (cbN T e) (coN T e) p o) → q S') : w_X11_setSales q S x (nI e) := by
  have hA := hC S hs
  have b1 := rB_1 hA.2.1.2.2.1
  have hP : nPR T.1.1 ≤ 8 := by unfold nPR; omega
  have iP : iR T.1.1 1 = nPR T.1.1 := by unfold nPR; omega
  have e1 : T.1.1 1 = nI (nPR T.1.1) := by
    apply Int32.toInt_inj.mp
    have : iR T.1.1 1 = (T.1.1 1).toInt := rfl
    rw [nI_toInt (by omega)]; omega
  have g7 := (P_4_7 hs (P_11_8 hs hA.1).2).2
  refine loop_m (σ := hS × Nat) (fun t s => w_X11_setSales_b2 q t s.1 x (nI e) (nI s.2)) (fun s => s.2 ≤ nPR T.1.1 ∧ St Γ Φ s.1 ∧ ∀ p o, p < s.2 → o < nPR T.1.1 → aV s.1 (bk 8 ρ 7) (8 * p + o) = slV (cbN T e) (coN T e) p o) (fun s => nPR T.1.1 - s.2) ?_ (S, 0) ⟨Nat.zero_le _, hs, fun p o hp ho => absurd hp (Nat.not_lt_zero _)⟩
  rintro t ⟨S, p⟩ ⟨hp, hs, hw⟩ ih
  dsimp only at hp hs hw ih ⊢
  obtain ⟨t1, t2, t3, t4, t5⟩ := (hC S hs).2.1
  rw [w_X11_setSales_b2]
  refine E_gP_11_0 hs (hC S hs).1 (fun _ => V_gI_4 hs t1 (fun _ => ?_))
  rw [t2, e1, nI_leI (by omega) (by omega)]
  refine ⟨fun c => k S hs (fun p' o' hp' ho' => hw p' o' (by omega) ho'), fun c => ?_⟩
  refine loop_m (σ := hS × Nat) (fun t' s => w_X11_setSales_b15 q (fun S v0 v1 v2 => w_X11_setSales_b2 q t S v0 v1 v2) t' s.1 x (nI e) (nI p) (nI s.2)) (fun s => s.2 ≤ nPR T.1.1 ∧ St Γ Φ s.1 ∧ (∀ p' o, p' < p → o < nPR T.1.1 → aV s.1 (bk 8 ρ 7) (8 * p' + o) = slV (cbN T e) (coN T e) p' o) ∧ ∀ o, o < s.2 → aV s.1 (bk 8 ρ 7) (8 * p + o) = slV (cbN T e) (coN T e) p o) (fun s => nPR T.1.1 - s.2) ?_ (S, 0) ⟨Nat.zero_le _, hs, hw, fun o ho => absurd ho (Nat.not_lt_zero _)⟩
  rintro t' ⟨S, o⟩ ⟨ho, hs, hw, hv⟩ ih'
  dsimp only at ho hs hw hv ih' ⊢
  have h := hC S hs
  obtain ⟨t1, t2, t3, t4, t5⟩ := h.2.1
  rw [w_X11_setSales_b15]
  refine E_gP_11_0 hs h.1 (fun _ => V_gI_4 hs t1 (fun _ => ?_))
  rw [t2, e1, nI_leI (by omega) (by omega), nI_eq (by omega) (by omega)]
  -- what is written
  have k67 : ∀ (S1 : hS) (v : Int32), o < nPR T.1.1 → St Γ Φ S1 → (∀ j, aV S1 (bk 8 ρ 7) j = aV S (bk 8 ρ 7) j) → v = slV (cbN T e) (coN T e) p o → w_X11_setSales_b67 q (fun S v0 v1 v2 => w_X11_setSales_b2 q t S v0 v1 v2) (fun S v0 v1 v2 v3 => w_X11_setSales_b15 q (fun S v0 v1 v2 => w_X11_setSales_b2 q t S v0 v1 v2) t' S v0 v1 v2 v3) S1 x (nI e) (nI p) (nI o) v := by
    intro S1 v hol s1 ea ev
    unfold w_X11_setSales_b67
    rw [lit_nI 8, nImul, nIadd, show p * 8 + o = 8 * p + o by omega]
    refine E_gP_11_8 s1 h.1 (fun k8 => E_gP_4_7 s1 k8 (fun _ => T_sI_20 s1 hf g7 (hL 507 (by simp)) ⟨by rw [nI_toInt (by omega)]; omega, by rw [nI_toInt (by omega)]; omega⟩ (fun S' h' _ _ _ s4 y ey => ?_)))
    rw [nI_clamp (by omega)] at s4
    rw [ey, nI_1]
    refine ih' (S', o + 1) ⟨by dsimp only; omega, h', fun p' o' hp' ho' => ?_, fun o' ho' => ?_⟩ (by dsimp only; omega)
    · dsimp only
      rw [s4, if_neg (by omega), ea]
      exact hw p' o' hp' ho'
    · dsimp only at ho' ⊢
      rw [s4]
      by_cases c : o' = o
      · rw [if_pos (by omega), ev, c]
      · rw [if_neg (by omega), ea]
        exact hv o' (by omega)
  have hf2 : fre Γ Φ [101, 700] := hf.sub (fun z hz => hL z (by simp at hz; rcases hz with rfl | rfl <;> simp))
  refine ⟨fun c2 y ey => ?_, fun c2 => ⟨fun c3 => k67 S _ (by omega) hs (fun _ => rfl) ?_, fun c3 => E_gP_11_7 hs h.1 (fun k7 => E_gP_11_0 hs h.1 (fun _ => T_oK_1 hs k7 (kx_X1_canBuy hs hf2 k7 (h.2.1.ask (P_1_0 hs k7).2) rfl rfl rfl (by rw [t2]; omega) (by rw [t2]; omega) (by rw [t2]; exact he) (fun cb S1 s1 m1 => ⟨fun z => absurd z (by decide), fun _ => ?_⟩) (fun cb S1 s1 m1 => ⟨fun _ => k67 S1 _ (by omega) s1 (fun j => aV_cell (m1.at hs g7 (by decide)) j) ?_, fun z => absurd rfl z⟩))))⟩⟩
  · rw [ey, nI_1]
    refine ih (S, p + 1) ⟨by dsimp only; omega, hs, fun p' o' hp' ho' => ?_⟩ (by dsimp only; omega)
    dsimp only at hp' ⊢
    by_cases cp : p' = p
    · rw [cp]; exact hv o' (by omega)
    · exact hw p' o' (by omega) ho'
  · unfold slV cbN
    rw [if_neg (by rw [Bool.and_eq_true, decide_eq_true_eq]; exact fun z => z.1 c3)]
  · have hcr := hC S1 s1
    obtain ⟨u1, u2, u3, u4, u5⟩ := hcr.2.1
    refine E_gP_11_6 s1 h.1 (fun k6 => E_gP_11_0 s1 h.1 (fun _ => T_oK_0 s1 k6 (kx_price s1 hf2 (hcr.2.1.ask k6) rfl (by rw [u2]; omega) rfl (by rw [u2]; omega) rfl (by rw [u2]; exact he) (fun r S2 er s2 m2 => k67 S2 _ (by omega) s2 (fun j => ?_) ?_))))
    · rw [aV_cell (m2.at s1 g7 (by decide)) j, aV_cell (m1.at hs g7 (by decide)) j]
    · rw [t2] at cb
      unfold slV cbN
      rw [if_pos (by rw [Bool.and_eq_true, decide_eq_true_eq]; exact ⟨c3, cb⟩)]
      apply Int32.toInt_inj.mp
      rw [er, u2, (coN_e T e p o).1, nI_toInt (by have := (coN_e T e p o).2; omega)]
  · rw [t2] at cb
    unfold slV cbN
    rw [if_neg (by rw [Bool.and_eq_true, decide_eq_true_eq]; exact fun z => cb z.2)]
theorem cx_chain {q : Int32 → hS → Prop} {a b c d : Int32} (hs : St Γ Φ S) (hf : fre Γ Φ L) (hL : ∀ x ∈ [101, 700, 4, 507, 508, 509], x ∈ L) (hC : ∀ S', St Γ Φ S' → CR Γ S' x ρ rs T) (k : ∀ S', St Γ Φ S' → q (spChain a b c d T) S') : w_X11_chain q S x a b c d := by
  have h := hC S hs
  obtain ⟨t1, t2, t3, t4, t5⟩ := h.2.1
  have b0 := rB_0 t3
  have b1 := rB_1 t3
  have hP : nPR T.1.1 ≤ 8 := by unfold nPR; omega
  have iP : iR T.1.1 1 = nPR T.1.1 := by unfold nPR; omega
  have e1 : T.1.1 1 = nI (nPR T.1.1) := by
    apply Int32.toInt_inj.mp
    have : iR T.1.1 1 = (T.1.1 1).toInt := rfl
    rw [nI_toInt (by omega)]; omega
  have i0 : (sV S (ρ 0) (bk 0 ρ) 0).toInt = iR T.1.1 0 := by rw [t2]; rfl
  have i1 : (sV S (ρ 0) (bk 0 ρ) 1).toInt = iR T.1.1 1 := by rw [t2]; rfl
  have zm : (-1 : Int32).toInt = -1 := by decide
  have z0 : (0 : Int32).toInt = 0 := by decide
  have z1 : (1 : Int32).toInt = 1 := by decide
  unfold spChain at k
  unfold w_X11_chain
  refine E_gP_11_0 hs h.1 (fun _ => T_oK_8 hs t1 (kx_X8_hasPerson hs t1 (fun np => ⟨fun _ => ?_, fun z => absurd rfl z⟩) (fun p1 p2 _ => ⟨fun z => absurd z (by decide), fun _ => E_gP_11_0 hs h.1 (fun _ => T_oK_8 hs t1 (kx_X8_hasPerson hs t1 (fun np => ⟨fun _ => ?_, fun z => absurd rfl z⟩) (fun o1 o2 _ => ⟨fun z => absurd z (by decide), fun _ => ⟨fun ce => ?_, fun ce => E_gP_11_0 hs h.1 (fun _ => T_oK_8 hs t1 (kx_X8_hasHouse hs t1 (fun nh => ⟨fun z => absurd rfl z, fun _ => ?_⟩) (fun h1 h2 _ => ⟨fun _ => ?_, fun z => absurd z (by decide)⟩)))⟩⟩)))⟩)))
  · have := k S hs
    rw [if_neg (fun z => np (by rw [i1]; exact z.1))] at this
    exact this
  · have := k S hs
    rw [if_neg (fun z => np (by rw [i1]; exact z.2.1))] at this
    exact this
  · have := k S hs
    rw [if_neg (fun z => z.2.2.1 ce)] at this
    exact this
  · have := k S hs
    rw [if_neg (fun z => nh (by rw [i0]; exact z.2.2.2.1))] at this
    exact this
  · rw [i0] at h2
    rw [i1] at p2 o2
    obtain ⟨e, he, rfl⟩ := pIx 6 (by omega) h1 (by omega)
    obtain ⟨fr, hfr, rfl⟩ := pIx 8 (by omega) p1 (by omega)
    obtain ⟨to, hto, rfl⟩ := pIx 8 (by omega) o1 (by omega)
    have te : (nI e).toInt.toNat = e := by rw [nI_toInt (by omega)]; omega
    have tf : (nI fr).toInt.toNat = fr := by rw [nI_toInt (by omega)]; omega
    have tt : (nI to).toInt.toNat = to := by rw [nI_toInt (by omega)]; omega
    rw [te, tf, tt] at k
    have h2' := h2
    have p2' := p2
    have o2' := o2
    rw [nI_toInt (by omega)] at h2' p2' o2'
    refine E_gP_11_0 hs h.1 (fun _ => T_oK_8 hs t1 (kx_leftOf hs t1 (by rw [t2]; exact t3) rfl rfl (by rw [t2]; exact p2') (by rw [t2]; exact h2') (fun r er => ⟨fun c1 => T_oK_11 hs h.1 (kx_setSales hs hf hL hC h2' (fun S1 s1 hsl => ?_)), fun c1 => ?_⟩)))
    · rw [t2] at er
      have hl : 1 ≤ leftR T.1.1 fr e := by
        rw [Int32.le_iff_toInt_le, er, z1] at c1
        exact c1
      have k' : ∀ S', St Γ Φ S' → -1 ≤ d.toInt → q (chA T e to fr d) S' := by
        intro S' h' hd
        have := k S' h'
        rw [if_pos ⟨⟨p1, p2⟩, ⟨o1, o2⟩, ce, ⟨h1, h2⟩, hd, hl⟩] at this
        exact this
      have kn : ∀ S', St Γ Φ S' → ¬ -1 ≤ d.toInt → q (-1) S' := by
        intro S' h' hd
        have := k S' h'
        rw [if_neg (fun z => hd z.2.2.2.2.1)] at this
        exact this
      obtain ⟨u1, u2, u3, u4, u5⟩ := (hC S1 s1).2.1
      refine E_gP_11_8 s1 h.1 (fun k8 => E_gP_11_0 s1 h.1 (fun _ => V_gI_4 s1 u1 (fun _ => T_oK_4 s1 k8 ?_)))
      rw [u2, e1]
      refine kx_findChain s1 hf (hL 4 (by simp)) (hL 508 (by simp)) (hL 509 (by simp)) k8 (fun p o => (coN_e T e p o).2) hP (by omega) (by omega) hsl (fun cF S2 s2 => ⟨fun _ => ?_, fun z => absurd rfl z⟩) (fun cF S2 s2 h10 hr => ⟨fun z => ?_, fun _ => ⟨fun cd => ⟨fun c0 => ?_, fun c0 => E_gP_11_8 s2 h.1 (fun k8 => T_gI_4_10 s2 k8 (fun v ev _ => ⟨fun c2 => ?_, fun c2 => E_gP_11_8 s2 h.1 (fun k8 => E_gP_4_9 s2 k8 (fun g9 => ?_))⟩))⟩, fun cd => ?_⟩⟩)
      · by_cases hd : -1 ≤ d.toInt
        · have := k' S2 s2 hd
          unfold chA chD at this
          rw [if_pos cF] at this
          exact this
        · exact kn S2 s2 hd
      · have hD : fxD (nPR T.1.1) to (cbN T e) (w1C 100 (coN T e)) (dR (nPR T.1.1) to (cbN T e) (coN T e)) := dR_fx
        have hb := fxD_b (fun p o => (coN_e T e p o).2) hP hD fr (by omega) cF
        have h7 := fxD_7 (c := coN T e) hP hD (show fr < nPR T.1.1 by omega) cF
        have := congrArg Int32.toInt z
        rw [nI_toInt (by omega), zm] at this
        omega
      · rw [Int32.lt_iff_toInt_lt, z0] at c0
        refine kn S2 s2 (fun z => cd (Int32.toInt_inj.mp ?_))
        rw [zm]
        omega
      · rw [Int32.lt_iff_toInt_lt, z0] at c0
        rw [Int32.le_iff_toInt_le, ev, h10, nI_toInt (by omega)] at c2
        have := k' S2 s2 (by omega)
        unfold chA chD at this
        rw [if_neg (by omega), if_neg cd, if_neg (by omega)] at this
        exact this
      · rw [Int32.lt_iff_toInt_lt, z0] at c0
        have hD : fxD (nPR T.1.1) to (cbN T e) (w1C 100 (coN T e)) (dR (nPR T.1.1) to (cbN T e) (coN T e)) := dR_fx
        have h7 := fxD_7 (c := coN T e) hP hD (show fr < nPR T.1.1 by omega) cF
        rw [Int32.le_iff_toInt_le, ev, h10, nI_toInt (by omega)] at c2
        obtain ⟨dd, hdd, rfl⟩ := pIx 8 (by omega) (show 0 ≤ d.toInt by omega) (by omega)
        rw [nI_toInt (by omega)] at c2
        refine T_aI_20 s2 g9 ⟨by rw [nI_toInt (by omega)]; omega, by rw [nI_toInt (by omega)]; omega⟩ (fun w ew _ => ?_)
        rw [nI_clamp (by omega), hr dd (by omega)] at ew
        have := k' S2 s2 (by rw [nI_toInt (by omega)]; omega)
        unfold chA chD at this
        rw [if_neg (by omega), if_neg cd, nI_toInt (by omega), if_pos (by omega), show ((dd : Int)).toNat = dd by omega] at this
        rw [ew]
        exact this
      · have := k' S2 s2 (by rw [cd, zm]; omega)
        unfold chA chD at this
        rw [if_neg (by omega), if_pos cd] at this
        exact this
    · rw [t2] at er
      have := k S hs
      rw [Int32.le_iff_toInt_le, er, z1] at c1
      rw [if_neg (fun z => c1 z.2.2.2.2.2)] at this
      exact this
end CL
