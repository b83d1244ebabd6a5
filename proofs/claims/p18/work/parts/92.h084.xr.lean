/-! MORE QUESTIONS AS CALLS -/
def spDrawn (a b : Int32) (T : aS) : Int32 := if 0 ≤ a.toInt ∧ a.toInt < (T.2.2.2.2.1 3).toInt ∧ 0 ≤ b.toInt ∧ b.toInt < (T.2.2.2.2.1 4).toInt then T.2.2.2.2.2.2 (6 * a.toInt.toNat + b.toInt.toNat) else -1
def spCount (k : Int32) (T : aS) : Int32 := if k.toInt = 0 then T.1.1 0 else if k.toInt = 1 then T.1.1 1 else if k.toInt = 2 then nI (aliveR T.1.1 (nPR T.1.1)) else if k.toInt = 3 then T.1.1 2 else if k.toInt = 4 then T.1.1 3 else if k.toInt = 5 then nI T.2.2.1.length else if k.toInt = 6 then nI T.2.2.2.1.2 else if k.toInt = 7 then T.2.2.2.2.2.1 1 else if k.toInt = 8 then T.2.2.2.2.2.1 2 else if k.toInt = 9 then T.2.2.2.2.2.1 3 else if k.toInt = 10 then T.2.2.2.2.2.1 5 else if k.toInt = 11 then T.2.2.2.2.2.1 6 else if k.toInt = 12 then T.1.1 4 else if k.toInt = 13 then T.1.1 5 else if k.toInt = 14 then T.1.1 6 else if k.toInt = 15 then T.1.1 7 else -1
section XR
variable {Γ Γ' : kG} {Φ : kF} {S S' : hS} {x a b b' c n i i' rs o j d : Nat} {ρ ρ' ρg β ρa ρd : Nat → Nat} {A : List Nat} {T : aS} {t : sW} {tx : Nat → Nat}
theorem cx_asks {q : Int32 → hS → Prop} {v w u y : Int32} (h : CR Γ S x ρ rs T) (hs : St Γ Φ S) (hf : fre Γ Φ [101, 700]) (k : ∀ S', St Γ Φ S' → CR Γ S' x ρ rs T → q (spAsks v w u y T) S') : w_X11_asks q S x v w u y := by
  have hx := h.1
  have t1 := h.2.1.1
  have t2 := h.2.1.2.1
  have hB := h.2.1.2.2.1
  have hB' : rB (sV S (ρ 0) (bk 0 ρ)) := by rw [t2]; exact hB
  have b1 := rB_1 hB
  have b0 := rB_0 hB
  unfold w_X11_asks
  refine E_gP_11_0 hs hx (fun k0 => T_oK_8 hs k0 ?_)
  by_cases c : 0 ≤ v.toInt ∧ v.toInt < iR T.1.1 1
  rotate_left
  · have e0 : spAsks v w u y T = -1 := if_pos (fun z => c z.1)
    rw [e0] at k
    exact hP_n hs t1 (by rw [t2]; exact c) ⟨fun _ => k S hs h, fun z => absurd rfl z⟩
  refine hP_y hs t1 (by rw [t2]; exact c) ⟨fun z => absurd z (by decide), fun _ => E_gP_11_0 hs hx (fun k0 => T_oK_8 hs k0 ?_)⟩
  by_cases c2 : 0 ≤ w.toInt ∧ w.toInt < iR T.1.1 1
  rotate_left
  · have e0 : spAsks v w u y T = -1 := if_pos (fun z => c2 z.2.1)
    rw [e0] at k
    exact hP_n hs t1 (by rw [t2]; exact c2) ⟨fun _ => k S hs h, fun z => absurd rfl z⟩
  refine hP_y hs t1 (by rw [t2]; exact c2) ⟨fun z => absurd z (by decide), fun _ => ⟨fun z => ?_, fun c4 => E_gP_11_0 hs hx (fun k0 => T_oK_8 hs k0 ?_)⟩⟩
  · have e0 : spAsks v w u y T = -1 := if_pos (fun z2 => z2.2.2.1 z)
    rw [e0] at k
    exact k S hs h
  by_cases c3 : 0 ≤ u.toInt ∧ u.toInt < iR T.1.1 0
  rotate_left
  · have e0 : spAsks v w u y T = -1 := if_pos (fun z => c3 z.2.2.2)
    rw [e0] at k
    exact hH_n hs t1 (by rw [t2]; exact c3) ⟨fun z => absurd rfl z, fun _ => k S hs h⟩
  obtain ⟨ev, hv⟩ := nT c
  obtain ⟨ew, hw⟩ := nT c2
  obtain ⟨eu, hu⟩ := nT c3
  refine hH_y hs t1 (by rw [t2]; exact c3) ⟨fun _ y42 e42 => ?_, fun z => absurd z (by decide)⟩
  subst e42
  unfold spAsks at k
  rw [if_neg (fun z => z ⟨c, c2, c4, c3⟩)] at k
  generalize v.toInt.toNat = p at ev hv k
  generalize w.toInt.toNat = o at ew hw k
  generalize u.toInt.toNat = g at eu hu k
  subst ev
  subst ew
  subst eu
  have hv' : (p : Int) < iR (sV S (ρ 0) (bk 0 ρ)) 1 := by rw [t2]; exact hv
  have hw' : (o : Int) < iR (sV S (ρ 0) (bk 0 ρ)) 1 := by rw [t2]; exact hw
  have hu' : (g : Int) < iR (sV S (ρ 0) (bk 0 ρ)) 0 := by rw [t2]; exact hu
  refine ⟨fun z => ?_, fun z => ?_, fun z => ?_, fun z => ?_⟩
  · rw [if_pos z] at k
    refine E_gP_11_6 hs hx (fun k6 => E_gP_11_0 hs hx (fun _ => T_oK_0 hs k6 (kx_price hs hf (h.2.1.ask k6) rfl hv' rfl hw' rfl hu' (fun r S1 er s1 m1 => ?_))))
    rw [t2] at er
    rw [wI_of er]
    exact k S1 s1 (h.wd hs m1)
  · rw [if_neg (by omega), if_pos z] at k
    refine E_gP_11_6 hs hx (fun k6 => E_gP_11_0 hs hx (fun _ => T_oK_0 hs k6 (kx_isBarred hs hf (h.2.1.ask k6) rfl hv' rfl hw' rfl hu' (fun y S1 s1 m1 => ⟨fun z => absurd z (by decide), fun _ => ?_⟩) (fun y S1 s1 m1 => ⟨fun _ => ?_, fun z => absurd rfl z⟩))))
    · rw [t2] at y
      rw [if_pos y] at k
      exact k S1 s1 (h.wd hs m1)
    · rw [t2] at y
      rw [if_neg y] at k
      exact k S1 s1 (h.wd hs m1)
  · rw [if_neg (by omega), if_neg (by omega), if_pos z] at k
    have no : ∀ S1, St Γ Φ S1 → CR Γ S1 x ρ rs T → ¬ (1 ≤ leftR T.1.1 p g ∧ canBuyR T.1.1 (csF T.1.1 T.1.2) p o g = true) → q 0 S1 := fun S1 s1 c1 z1 => by
      rw [if_neg z1] at k
      exact k S1 s1 c1
    refine T_oK_11 hs hx ?_
    unfold w_X11_canSell
    refine E_gP_11_0 hs hx (fun k0 => T_oK_8 hs k0 (kx_leftOf hs t1 hB' rfl rfl hv' hu' (fun r er => ?_)))
    rw [t2] at er
    have e1 : r < (1 : Int32) ↔ leftR T.1.1 p g < 1 := by rw [Int32.lt_iff_toInt_lt, er]; rfl
    rw [e1]
    refine ⟨fun z1 => ⟨fun _ => no S hs h (fun y => by omega), fun y => absurd rfl y⟩, fun z1 => E_gP_11_7 hs hx (fun k7 => E_gP_11_0 hs hx (fun _ => T_oK_1 hs k7 (kx_X1_canBuy hs hf k7 (h.2.1.ask (P_1_0 hs k7).2) rfl rfl rfl hv' hw' hu' (fun cb S1 s1 m1 => ⟨fun y => absurd y (by decide), fun _ => ⟨fun y => absurd y (by decide), fun _ => ?_⟩⟩) (fun cb S1 s1 m1 => ⟨fun _ => ⟨fun _ => no S1 s1 (h.wd hs m1) (fun y => cb (by rw [t2]; exact y.2)), fun y => absurd rfl y⟩, fun y => absurd rfl y⟩))))⟩
    rw [t2] at cb
    rw [if_pos ⟨by omega, cb⟩] at k
    exact k S1 s1 (h.wd hs m1)
  · rw [if_neg (by omega), if_neg (by omega), if_neg (by omega)] at k
    exact k S hs h
theorem cx_drawn {q : Int32 → hS → Prop} {v w : Int32} (h : CR Γ S x ρ rs T) (hs : St Γ Φ S) (k : q (spDrawn v w T) S) : w_X11_drawn q S x v w := by
  have hx := h.1
  have s3 : fI S x 11 = T.2.2.2.2.1 3 := h.2.2.2.2.2.1 3 (by omega)
  have s4 : fI S x 12 = T.2.2.2.2.1 4 := h.2.2.2.2.2.1 4 (by omega)
  unfold w_X11_drawn
  unfold spDrawn at k
  rw [Int32.lt_iff_toInt_lt, z0I]
  refine ⟨fun c => ?_, fun c => T_gI_11_11 hs hx (fun x6 e6 r6 => ?_)⟩
  · rw [if_neg (by omega)] at k
    exact k
  rw [s3] at e6
  subst e6
  rw [Int32.le_iff_toInt_le, Int32.lt_iff_toInt_lt, z0I]
  refine ⟨fun c2 => ?_, fun c2 => ⟨fun c3 => ?_, fun c3 => T_gI_11_12 hs hx (fun x18 e18 r18 => ?_)⟩⟩
  · rw [if_neg (by omega)] at k
    exact k
  · rw [if_neg (by omega)] at k
    exact k
  rw [s4] at e18
  subst e18
  rw [Int32.lt_iff_toInt_lt]
  refine ⟨fun c4 => ?_, fun c4 => ?_⟩
  · rw [if_pos ⟨by omega, by omega, by omega, c4⟩] at k
    have ev : v = nI v.toInt.toNat := by apply Int32.toInt_inj.mp; rw [nI_toInt (by omega)]; omega
    have ew : w = nI w.toInt.toNat := by apply Int32.toInt_inj.mp; rw [nI_toInt (by omega)]; omega
    have lv : v.toInt.toNat < 8 := by omega
    have lw : w.toInt.toNat < 6 := by omega
    generalize v.toInt.toNat = p at ev k lv
    generalize w.toInt.toNat = g at ew k lw
    subst ev
    subst ew
    refine E_gP_11_10 hs hx (fun kd => kx_slot (T_aI_20 hs kd (by rw [nI_toInt (by omega)]; omega) (fun y ey _ => ?_)))
    rw [nI_clamp (by omega), h.2.2.2.2.2.2.2.1 _ (by omega), show p * 6 + g = 6 * p + g by omega] at ey
    rw [ey]
    exact k
  · rw [if_neg (by omega)] at k
    exact k
theorem cx_count {q : Int32 → hS → Prop} {v : Int32} (h : CR Γ S x ρ rs T) (hs : St Γ Φ S) (k : q (spCount v T) S) : w_X11_count q S x v := by
  have hx := h.1
  have t1 := h.2.1.1
  have t2 := h.2.1.2.1
  have b1 := rB_1 h.2.1.2.2.1
  have k3 := (P_11_3 hs hx).2
  have k4 := (P_11_4 hs hx).2
  have k16 := (P_11_16 hs hx).2
  have rf : ∀ (j : Nat) (y : Int32), j < 7 → y = nI j → q (T.2.2.2.2.2.1 j) S → gP S x 11 16 (fun x137 => aI S x137 y (fun x141 => q x141 S)) := fun j y hj ey kk => by
    subst ey
    refine E_gP_11_16 hs hx (fun _ => T_aI_20 hs k16 (by rw [nI_toInt (by omega)]; omega) (fun z ez _ => ?_))
    rw [nI_clamp (by omega), h.2.2.2.2.2.2.1 j hj] at ez
    rw [ez]
    exact kk
  unfold w_X11_count
  intro y ey
  subst ey
  unfold spCount at k
  refine ⟨fun z => ?_, fun z => ?_, fun z => ?_, fun z => ?_, fun z => ?_, fun z => ?_, fun z => ?_, fun z => ?_, fun z => ?_, fun z => ?_, fun z => ?_, fun z => ?_, fun z => ?_, fun z => ?_, fun z => ?_, fun z => ?_, fun z => ?_⟩
  · rw [if_pos z] at k
    refine E_gP_11_0 hs hx (fun _ => V_gI_1 hs t1 (fun _ => ?_))
    rw [t2]; exact k
  · rw [if_neg (by omega), if_pos z] at k
    refine E_gP_11_0 hs hx (fun _ => V_gI_4 hs t1 (fun _ => ?_))
    rw [t2]; exact k
  · rw [if_neg (by omega), if_neg (by omega), if_pos z] at k
    refine E_gP_11_0 hs hx (fun k0 => T_oK_8 hs k0 (kx_livingPeople hs t1 (by rw [t2]; exact b1) ?_))
    rw [t2]; exact k
  · rw [if_neg (by omega), if_neg (by omega), if_neg (by omega), if_pos z] at k
    refine E_gP_11_0 hs hx (fun _ => V_gI_9 hs t1 (fun _ => ?_))
    rw [t2]; exact k
  · rw [if_neg (by omega), if_neg (by omega), if_neg (by omega), if_neg (by omega), if_pos z] at k
    refine E_gP_11_0 hs hx (fun _ => V_gI_14 hs t1 (fun _ => ?_))
    rw [t2]; exact k
  · rw [if_neg (by omega), if_neg (by omega), if_neg (by omega), if_neg (by omega), if_neg (by omega), if_pos z] at k
    obtain ⟨nx, y1, y2, y3, y4, y5⟩ := h.2.2.2.1
    refine E_gP_11_3 hs hx (fun _ => T_gI_3_3 hs k3 (fun w ew _ => ?_))
    rw [ew, y4]; exact k
  · rw [if_neg (by omega), if_neg (by omega), if_neg (by omega), if_neg (by omega), if_neg (by omega), if_neg (by omega), if_pos z] at k
    refine E_gP_11_4 hs hx (fun _ => T_gI_9_1 hs k4 (fun w ew _ => ?_))
    rw [ew, h.2.2.2.2.1.1]; exact k
  · rw [if_neg (by omega), if_neg (by omega), if_neg (by omega), if_neg (by omega), if_neg (by omega), if_neg (by omega), if_neg (by omega), if_pos z] at k
    exact rf 1 1 (by omega) rfl k
  · rw [if_neg (by omega), if_neg (by omega), if_neg (by omega), if_neg (by omega), if_neg (by omega), if_neg (by omega), if_neg (by omega), if_neg (by omega), if_pos z] at k
    exact rf 2 2 (by omega) rfl k
  · rw [if_neg (by omega), if_neg (by omega), if_neg (by omega), if_neg (by omega), if_neg (by omega), if_neg (by omega), if_neg (by omega), if_neg (by omega), if_neg (by omega), if_pos z] at k
    exact rf 3 3 (by omega) rfl k
  · rw [if_neg (by omega), if_neg (by omega), if_neg (by omega), if_neg (by omega), if_neg (by omega), if_neg (by omega), if_neg (by omega), if_neg (by omega), if_neg (by omega), if_neg (by omega), if_pos z] at k
    exact rf 5 5 (by omega) rfl k
  · rw [if_neg (by omega), if_neg (by omega), if_neg (by omega), if_neg (by omega), if_neg (by omega), if_neg (by omega), if_neg (by omega), if_neg (by omega), if_neg (by omega), if_neg (by omega), if_neg (by omega), if_pos z] at k
    exact rf 6 6 (by omega) rfl k
  · rw [if_neg (by omega), if_neg (by omega), if_neg (by omega), if_neg (by omega), if_neg (by omega), if_neg (by omega), if_neg (by omega), if_neg (by omega), if_neg (by omega), if_neg (by omega), if_neg (by omega), if_neg (by omega), if_pos z] at k
    refine E_gP_11_0 hs hx (fun _ => V_gI_16 hs t1 ?_)
    rw [t2]; exact k
  · rw [if_neg (by omega), if_neg (by omega), if_neg (by omega), if_neg (by omega), if_neg (by omega), if_neg (by omega), if_neg (by omega), if_neg (by omega), if_neg (by omega), if_neg (by omega), if_neg (by omega), if_neg (by omega), if_neg (by omega), if_pos z] at k
    refine E_gP_11_0 hs hx (fun _ => E_gP_8_0 hs t1 (fun _ => V_gI_y hs t1 ?_))
    rw [t2]; exact k
  · rw [if_neg (by omega), if_neg (by omega), if_neg (by omega), if_neg (by omega), if_neg (by omega), if_neg (by omega), if_neg (by omega), if_neg (by omega), if_neg (by omega), if_neg (by omega), if_neg (by omega), if_neg (by omega), if_neg (by omega), if_neg (by omega), if_pos z] at k
    refine E_gP_11_0 hs hx (fun _ => V_gI_12 hs t1 ?_)
    rw [t2]; exact k
  · rw [if_neg (by omega), if_neg (by omega), if_neg (by omega), if_neg (by omega), if_neg (by omega), if_neg (by omega), if_neg (by omega), if_neg (by omega), if_neg (by omega), if_neg (by omega), if_neg (by omega), if_neg (by omega), if_neg (by omega), if_neg (by omega), if_neg (by omega), if_pos z] at k
    refine E_gP_11_0 hs hx (fun _ => V_gI_13 hs t1 ?_)
    rw [t2]; exact k
  · rw [if_neg (by omega), if_neg (by omega), if_neg (by omega), if_neg (by omega), if_neg (by omega), if_neg (by omega), if_neg (by omega), if_neg (by omega), if_neg (by omega), if_neg (by omega), if_neg (by omega), if_neg (by omega), if_neg (by omega), if_neg (by omega), if_neg (by omega), if_neg (by omega)] at k
    exact k
theorem cx_status {q : Int32 → hS → Prop} (h : CR Γ S x ρ rs T) (hs : St Γ Φ S) (k : q (T.2.2.2.2.1 2) S) : w_X11_status q S x := T_gI_11_17 hs h.1 (fun y ey _ => by
  have := h.2.2.2.2.2.1 2 (by omega)
  rw [ey, show fI S x 17 = T.2.2.2.2.1 2 from this]
  exact k)
theorem cx_fault {q : Int32 → hS → Prop} (h : CR Γ S x ρ rs T) (hs : St Γ Φ S) (k : q (T.2.2.2.2.1 0) S) : w_X11_fault q S x := T_gI_11_13 hs h.1 (fun y ey _ => by
  have := h.2.2.2.2.2.1 0 (by omega)
  rw [ey, show fI S x 13 = T.2.2.2.2.1 0 from this]
  exact k)
theorem cx_stopped {q : Int32 → hS → Prop} (h : CR Γ S x ρ rs T) (hs : St Γ Φ S) (k : q (T.2.2.2.2.1 1) S) : w_X11_stopped q S x := T_gI_11_14 hs h.1 (fun y ey _ => by
  have := h.2.2.2.2.2.1 1 (by omega)
  rw [ey, show fI S x 14 = T.2.2.2.2.1 1 from this]
  exact k)
theorem cx_rust {q : Int32 → hS → Prop} (h : CR Γ S x ρ rs T) (hs : St Γ Φ S) (k : q (nI rs) S) : w_X11_rust q S x := kx_X11_rust hs h.1 k
end XR
