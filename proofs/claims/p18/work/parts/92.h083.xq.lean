/-! PLAIN QUESTIONS AS CALLS -/
def allRR (f : Nat → Int32) (h : Nat) : Nat → Int
  | 0 => 0
  | n + 1 => allRR f h n + iR f (30 + 6 * n + h)
def spAt (a k : Int32) (T : aS) : Int32 := if ¬ (0 ≤ a.toInt ∧ a.toInt < iR T.1.1 0) then -1 else if k.toInt = 0 then T.1.1 (126 + a.toInt.toNat) else if k.toInt = 1 then T.1.1 (132 + a.toInt.toNat) else if k.toInt = 2 then T.1.1 (8 + a.toInt.toNat) else if k.toInt = 3 then wI (allRR T.1.1 a.toInt.toNat (nPR T.1.1)) else if k.toInt = 4 then wI (worthR T.1.1 (csF T.1.1 T.1.2) a.toInt.toNat (iR T.1.1 5)) else -1
def spOf (a k : Int32) (T : aS) : Int32 := if ¬ (0 ≤ a.toInt ∧ a.toInt < iR T.1.1 1) then -1 else if k.toInt = 0 then T.1.1 (138 + a.toInt.toNat) else if k.toInt = 1 then T.1.1 (146 + a.toInt.toNat) else if k.toInt = 2 then T.1.1 (14 + a.toInt.toNat) else if k.toInt = 3 then T.1.1 (154 + a.toInt.toNat) else if k.toInt = 4 then T.1.1 (162 + a.toInt.toNat) else if k.toInt = 5 then (if liveR T.1.1 a.toInt.toNat = true then 1 else 0) else -1
def spHas (a b k : Int32) (T : aS) : Int32 := if ¬ ((0 ≤ a.toInt ∧ a.toInt < iR T.1.1 1) ∧ (0 ≤ b.toInt ∧ b.toInt < iR T.1.1 0)) then -1 else if k.toInt = 0 then T.1.1 (30 + 6 * a.toInt.toNat + b.toInt.toNat) else if k.toInt = 1 then T.1.1 (78 + 6 * a.toInt.toNat + b.toInt.toNat) else if k.toInt = 2 then wI (leftR T.1.1 a.toInt.toNat b.toInt.toNat) else if k.toInt = 3 then (if opensR T.1.1 (csF T.1.1 T.1.2) a.toInt.toNat b.toInt.toNat = true then 1 else 0) else if k.toInt = 4 then wI (tiresR T.1.1 (csF T.1.1 T.1.2) a.toInt.toNat b.toInt.toNat) else -1
def spAsks (a b c k : Int32) (T : aS) : Int32 := if ¬ ((0 ≤ a.toInt ∧ a.toInt < iR T.1.1 1) ∧ (0 ≤ b.toInt ∧ b.toInt < iR T.1.1 1) ∧ a ≠ b ∧ (0 ≤ c.toInt ∧ c.toInt < iR T.1.1 0)) then -1 else if k.toInt = 0 then wI (costsR T.1.1 (csF T.1.1 T.1.2) a.toInt.toNat b.toInt.toNat c.toInt.toNat) else if k.toInt = 1 then (if barredR T.1.1 (csF T.1.1 T.1.2) a.toInt.toNat b.toInt.toNat c.toInt.toNat = true then 1 else 0) else if k.toInt = 2 then (if 1 ≤ leftR T.1.1 a.toInt.toNat c.toInt.toNat ∧ canBuyR T.1.1 (csF T.1.1 T.1.2) a.toInt.toNat b.toInt.toNat c.toInt.toNat = true then 1 else 0) else -1
section XQ
variable {Γ Γ' : kG} {Φ : kF} {S S' : hS} {x a b b' c n i i' rs o j d : Nat} {ρ ρ' ρg β ρa ρd : Nat → Nat} {A : List Nat} {T : aS} {t : sW} {tx : Nat → Nat}
set_option maxRecDepth 16384 in
theorem CR.wd (h : CR Γ S x ρ rs T) (hs : St Γ Φ S) (hm : sam Γ [101, 700] S S') : CR Γ S' x ρ rs T := h.sm hs gro_rf hm (by decide)
theorem nT {v : Int32} {m : Int} (h : 0 ≤ v.toInt ∧ v.toInt < m) : v = nI v.toInt.toNat ∧ (v.toInt.toNat : Int) < m := by
  have r := fb_rng v
  refine ⟨?_, by omega⟩
  apply Int32.toInt_inj.mp
  rw [nI_toInt (by omega)]
  omega
theorem kx_allRightsTo {q : Int32 → hS → Prop} {p : Nat} {v : Int32} (h : St Γ Φ S) (hb : Γ b = some (8, 8 + 10000 * i, i, 0, ρ)) (hB : rB (sV S b ρ)) (ev : v = nI p) (hp : (p : Int) < iR (sV S b ρ) 0) (k : ∀ r : Int32, r.toInt = allRR (sV S b ρ) p (nPR (sV S b ρ)) → q r S) : w_X8_allRightsTo q S b v := by
  subst ev
  have b1 := rB_1 hB
  have b0 := rB_0 hB
  have bnd : ∀ n, n ≤ 8 → 0 ≤ allRR (sV S b ρ) p n ∧ allRR (sV S b ρ) p n ≤ 99 * n := by
    intro n
    induction n with
    | zero => intro _; exact ⟨Int.le_refl _, Int.le_refl _⟩
    | succ n ih =>
      intro hn
      have ih := ih (by omega)
      have r := rB_r hB (j := 6 * n + p) (by omega)
      rw [show 30 + (6 * n + p) = 30 + 6 * n + p by omega] at r
      rw [allRR]
      omega
  have loop : ∀ t n (x : Int32), n + t = nPR (sV S b ρ) → x.toInt = allRR (sV S b ρ) p n → w_X8_allRightsTo_b4 q (t + 1) S b (nI p) x (nI n) := by
    intro t
    induction t with
    | zero =>
      intro n x hn ex
      unfold w_X8_allRightsTo_b4
      refine V_gI_4 h hb (fun _ => ?_)
      have : sV S b ρ 1 ≤ nI n := by rw [Int32.le_iff_toInt_le, nI_toInt (by unfold nPR at hn; omega)]; unfold nPR iR at hn; unfold iR at b1; omega
      refine ⟨fun _ => k x ?_, fun z => absurd this z⟩
      rw [ex, show n = nPR (sV S b ρ) by omega]
    | succ t ih =>
      intro n x hn ex
      have n8 : n < 8 := by unfold nPR at hn; omega
      have hn2 : (n : Int) < iR (sV S b ρ) 1 := by unfold nPR at hn; omega
      unfold w_X8_allRightsTo_b4
      refine V_gI_4 h hb (fun _ => ?_)
      have ng : ¬ sV S b ρ 1 ≤ nI n := by rw [Int32.le_iff_toInt_le, nI_toInt (by omega)]; unfold iR at hn2; omega
      refine ⟨fun z => absurd z ng, fun _ => T_oK_8 h hb (kx_rightsOf h hb hB rfl rfl hn2 hp (fun r er y20 e20 y21 e21 => ?_))⟩
      subst e20
      subst e21
      rw [nI_1]
      have a := bnd n (by omega)
      have r' := rB_r hB (j := 6 * n + p) (by omega)
      rw [show 30 + (6 * n + p) = 30 + 6 * n + p by omega] at r'
      have er' : r.toInt = iR (sV S b ρ) (30 + 6 * n + p) := by rw [er]; rfl
      refine ih (n + 1) _ (by omega) ?_
      rw [fb_addI (by omega) (by omega), ex, er']
      rfl
  unfold w_X8_allRightsTo
  exact ⟨nPR (sV S b ρ) + 1, loop (nPR (sV S b ρ)) 0 0 (by omega) rfl⟩
theorem cx_at {q : Int32 → hS → Prop} {v w : Int32} (h : CR Γ S x ρ rs T) (hs : St Γ Φ S) (hf : fre Γ Φ [101, 700]) (k : ∀ S', St Γ Φ S' → CR Γ S' x ρ rs T → q (spAt v w T) S') : w_X11_at q S x v w := by
  have hx := h.1
  have t1 := h.2.1.1
  have t2 := h.2.1.2.1
  have hB := h.2.1.2.2.1
  have hB' : rB (sV S (ρ 0) (bk 0 ρ)) := by rw [t2]; exact hB
  have b0 := rB_0 hB
  have y5 := hB.1 5 (by omega)
  rw [show rHi 5 = 999 by decide, show rLo 5 = 0 by decide] at y5
  unfold w_X11_at
  refine E_gP_11_0 hs hx (fun k0 => T_oK_8 hs k0 ?_)
  by_cases c : 0 ≤ v.toInt ∧ v.toInt < iR T.1.1 0
  rotate_left
  · have e0 : spAt v w T = -1 := if_pos c
    rw [e0] at k
    exact hH_n hs t1 (by rw [t2]; exact c) ⟨fun z => absurd rfl z, fun _ => k S hs h⟩
  obtain ⟨ev, hv⟩ := nT c
  refine hH_y hs t1 (by rw [t2]; exact c) ⟨fun _ y14 e14 => ?_, fun z => absurd z (by decide)⟩
  subst e14
  unfold spAt at k
  rw [if_neg (fun z => z c)] at k
  generalize v.toInt.toNat = p at ev hv k
  subst ev
  refine ⟨fun z => ?_, fun z => ?_, fun z => ?_, fun z => ?_, fun z => ?_, fun z => ?_⟩
  · rw [if_pos z] at k
    refine E_gP_11_0 hs hx (fun _ => E_gP_8_2 hs t1 (fun _ => V_aI_p hs t1 (nI_toInt (by omega)) (by omega) ?_))
    rw [t2]
    exact k S hs h
  · rw [if_neg (by omega), if_pos z] at k
    refine E_gP_11_0 hs hx (fun _ => E_gP_8_3 hs t1 (fun _ => V_aI_b hs t1 (nI_toInt (by omega)) (by omega) ?_))
    rw [t2]
    exact k S hs h
  · rw [if_neg (by omega), if_neg (by omega), if_pos z] at k
    refine E_gP_11_0 hs hx (fun _ => E_gP_8_0 hs t1 (fun kg => E_gP_2_2 hs kg (fun _ => V_aI_w hs t1 (nI_toInt (by omega)) (by omega) ?_)))
    rw [t2]
    exact k S hs h
  · rw [if_neg (by omega), if_neg (by omega), if_neg (by omega), if_pos z] at k
    refine E_gP_11_0 hs hx (fun k0 => T_oK_8 hs k0 (kx_allRightsTo hs t1 hB' rfl (by rw [t2]; exact hv) (fun r er => ?_)))
    rw [t2] at er
    rw [wI_of er]
    exact k S hs h
  · rw [if_neg (by omega), if_neg (by omega), if_neg (by omega), if_neg (by omega), if_pos z] at k
    refine E_gP_11_6 hs hx (fun k6 => E_gP_11_0 hs hx (fun _ => E_gP_11_0 hs hx (fun _ => E_gP_8_0 hs t1 (fun _ => V_gI_y hs t1 (T_oK_0 hs k6 (kx_worthIn hs hf (h.2.1.ask k6) rfl (by rw [t2]; exact hv) (y := iR T.1.1 5) (by rw [t2]; rfl) (by omega) (fun r S1 er s1 m1 => ?_)))))))
    rw [t2] at er
    rw [wI_of er]
    exact k S1 s1 (h.wd hs m1)
  · rw [if_neg (by omega), if_neg (by omega), if_neg (by omega), if_neg (by omega), if_neg (by omega)] at k
    exact k S hs h
theorem cx_of {q : Int32 → hS → Prop} {v w : Int32} (h : CR Γ S x ρ rs T) (hs : St Γ Φ S) (k : ∀ S', St Γ Φ S' → CR Γ S' x ρ rs T → q (spOf v w T) S') : w_X11_of q S x v w := by
  have hx := h.1
  have t1 := h.2.1.1
  have t2 := h.2.1.2.1
  have hB := h.2.1.2.2.1
  have b1 := rB_1 hB
  unfold w_X11_of
  refine E_gP_11_0 hs hx (fun k0 => T_oK_8 hs k0 ?_)
  by_cases c : 0 ≤ v.toInt ∧ v.toInt < iR T.1.1 1
  rotate_left
  · have e0 : spOf v w T = -1 := if_pos c
    rw [e0] at k
    exact hP_n hs t1 (by rw [t2]; exact c) ⟨fun z => absurd rfl z, fun _ => k S hs h⟩
  obtain ⟨ev, hv⟩ := nT c
  refine hP_y hs t1 (by rw [t2]; exact c) ⟨fun _ y14 e14 => ?_, fun z => absurd z (by decide)⟩
  subst e14
  unfold spOf at k
  rw [if_neg (fun z => z c)] at k
  generalize v.toInt.toNat = p at ev hv k
  subst ev
  refine ⟨fun z => ?_, fun z => ?_, fun z => ?_, fun z => ?_, fun z => ?_, fun z => ?_, fun z => ?_⟩
  · rw [if_pos z] at k
    refine E_gP_11_0 hs hx (fun _ => E_gP_8_5 hs t1 (fun _ => V_aI_h hs t1 (nI_toInt (by omega)) (by omega) ?_))
    rw [t2]
    exact k S hs h
  · rw [if_neg (by omega), if_pos z] at k
    refine E_gP_11_0 hs hx (fun _ => E_gP_8_6 hs t1 (fun _ => V_aI_a hs t1 (nI_toInt (by omega)) (by omega) ?_))
    rw [t2]
    exact k S hs h
  · rw [if_neg (by omega), if_neg (by omega), if_pos z] at k
    refine E_gP_11_0 hs hx (fun _ => E_gP_8_0 hs t1 (fun kg => E_gP_2_3 hs kg (fun _ => V_aI_m hs t1 (nI_toInt (by omega)) (by omega) ?_)))
    rw [t2]
    exact k S hs h
  · rw [if_neg (by omega), if_neg (by omega), if_neg (by omega), if_pos z] at k
    refine E_gP_11_0 hs hx (fun _ => E_gP_8_7 hs t1 (fun _ => V_aI_n hs t1 (nI_toInt (by omega)) (by omega) ?_))
    rw [t2]
    exact k S hs h
  · rw [if_neg (by omega), if_neg (by omega), if_neg (by omega), if_neg (by omega), if_pos z] at k
    refine E_gP_11_0 hs hx (fun _ => E_gP_8_8 hs t1 (fun _ => V_aI_e hs t1 (nI_toInt (by omega)) (by omega) ?_))
    rw [t2]
    exact k S hs h
  · rw [if_neg (by omega), if_neg (by omega), if_neg (by omega), if_neg (by omega), if_neg (by omega), if_pos z] at k
    refine E_gP_11_0 hs hx (fun k0 => T_oK_8 hs k0 (kx_lives hs t1 (by rw [t2]; exact b1) rfl (by rw [t2]; exact hv) (fun lv => ⟨fun y => absurd y (by decide), fun _ => ?_⟩) (fun lv => ⟨fun _ => ?_, fun y => absurd rfl y⟩)))
    · rw [t2] at lv
      rw [if_pos (show liveR T.1.1 p = true from decide_eq_true lv)] at k
      exact k S hs h
    · rw [t2] at lv
      rw [if_neg (show ¬ liveR T.1.1 p = true from fun y => lv (of_decide_eq_true y))] at k
      exact k S hs h
  · rw [if_neg (by omega), if_neg (by omega), if_neg (by omega), if_neg (by omega), if_neg (by omega), if_neg (by omega)] at k
    exact k S hs h
theorem cx_has {q : Int32 → hS → Prop} {v w u : Int32} (h : CR Γ S x ρ rs T) (hs : St Γ Φ S) (hf : fre Γ Φ [101, 700]) (k : ∀ S', St Γ Φ S' → CR Γ S' x ρ rs T → q (spHas v w u T) S') : w_X11_has q S x v w u := by
  have hx := h.1
  have t1 := h.2.1.1
  have t2 := h.2.1.2.1
  have hB := h.2.1.2.2.1
  have hB' : rB (sV S (ρ 0) (bk 0 ρ)) := by rw [t2]; exact hB
  have b1 := rB_1 hB
  have b0 := rB_0 hB
  unfold w_X11_has
  refine E_gP_11_0 hs hx (fun k0 => T_oK_8 hs k0 ?_)
  by_cases c : 0 ≤ v.toInt ∧ v.toInt < iR T.1.1 1
  rotate_left
  · have e0 : spHas v w u T = -1 := if_pos (fun z => c z.1)
    rw [e0] at k
    exact hP_n hs t1 (by rw [t2]; exact c) ⟨fun _ => k S hs h, fun z => absurd rfl z⟩
  refine hP_y hs t1 (by rw [t2]; exact c) ⟨fun z => absurd z (by decide), fun _ => E_gP_11_0 hs hx (fun k0 => T_oK_8 hs k0 ?_)⟩
  by_cases c2 : 0 ≤ w.toInt ∧ w.toInt < iR T.1.1 0
  rotate_left
  · have e0 : spHas v w u T = -1 := if_pos (fun z => c2 z.2)
    rw [e0] at k
    exact hH_n hs t1 (by rw [t2]; exact c2) ⟨fun z => absurd rfl z, fun _ => k S hs h⟩
  obtain ⟨ev, hv⟩ := nT c
  obtain ⟨ew, hw⟩ := nT c2
  refine hH_y hs t1 (by rw [t2]; exact c2) ⟨fun _ y25 e25 => ?_, fun z => absurd z (by decide)⟩
  subst e25
  unfold spHas at k
  rw [if_neg (fun z => z ⟨c, c2⟩)] at k
  generalize v.toInt.toNat = p at ev hv k
  generalize w.toInt.toNat = g at ew hw k
  subst ev
  subst ew
  have hv' : (p : Int) < iR (sV S (ρ 0) (bk 0 ρ)) 1 := by rw [t2]; exact hv
  have hw' : (g : Int) < iR (sV S (ρ 0) (bk 0 ρ)) 0 := by rw [t2]; exact hw
  refine ⟨fun z => ?_, fun z => ?_, fun z => ?_, fun z => ?_, fun z => ?_, fun z => ?_⟩
  · rw [if_pos z] at k
    refine E_gP_11_0 hs hx (fun k0 => T_oK_8 hs k0 (kx_rightsOf hs t1 hB' rfl rfl hv' hw' (fun r er => ?_)))
    rw [t2] at er
    rw [er]
    exact k S hs h
  · rw [if_neg (by omega), if_pos z] at k
    refine E_gP_11_0 hs hx (fun k0 => T_oK_8 hs k0 (kx_usedOf hs t1 hB' rfl rfl hv' hw' (fun r er => ?_)))
    rw [t2] at er
    rw [er]
    exact k S hs h
  · rw [if_neg (by omega), if_neg (by omega), if_pos z] at k
    refine E_gP_11_0 hs hx (fun k0 => T_oK_8 hs k0 (kx_leftOf hs t1 hB' rfl rfl hv' hw' (fun r er => ?_)))
    rw [t2] at er
    rw [wI_of er]
    exact k S hs h
  · rw [if_neg (by omega), if_neg (by omega), if_neg (by omega), if_pos z] at k
    refine E_gP_11_6 hs hx (fun k6 => E_gP_11_0 hs hx (fun _ => T_oK_0 hs k6 (kx_opensTo hs hf (h.2.1.ask k6) rfl hv' rfl hw' (fun y S1 s1 m1 => ⟨fun z => absurd z (by decide), fun _ => ?_⟩) (fun y S1 s1 m1 => ⟨fun _ => ?_, fun z => absurd rfl z⟩))))
    · rw [t2] at y
      rw [if_pos y] at k
      exact k S1 s1 (h.wd hs m1)
    · rw [t2] at y
      rw [if_neg y] at k
      exact k S1 s1 (h.wd hs m1)
  · rw [if_neg (by omega), if_neg (by omega), if_neg (by omega), if_neg (by omega), if_pos z] at k
    refine E_gP_11_6 hs hx (fun k6 => E_gP_11_0 hs hx (fun _ => T_oK_0 hs k6 (kx_tiring hs hf (h.2.1.ask k6) rfl hv' rfl hw' (fun r S1 er s1 m1 => ?_))))
    rw [t2] at er
    rw [wI_of er]
    exact k S1 s1 (h.wd hs m1)
  · rw [if_neg (by omega), if_neg (by omega), if_neg (by omega), if_neg (by omega), if_neg (by omega)] at k
    exact k S hs h
end XQ
