/-! A ROUND OF VISITS, THE CLASS'S QUESTION -/
def vfV (F : Nat → Int32) (p n : Nat) : vtS := viS F p n 6 0 (fun _ => 0) 0 (0, 0, fun _ => 0)
def spVisits (a b c : Int32) (T : aS) : Int32 := if ((0 ≤ a.toInt ∧ a.toInt < iR T.1.1 1) ∧ liveR T.1.1 a.toInt.toNat = true) ∧ (0 ≤ b.toInt ∧ b.toInt ≤ 99) ∧ -1 ≤ c.toInt then (if c = -1 then nI (vfV T.1.1 a.toInt.toNat b.toInt.toNat).1 else if c.toInt < (vfV T.1.1 a.toInt.toNat b.toInt.toNat).1 then nI ((vfV T.1.1 a.toInt.toNat b.toInt.toNat).2.2 c.toInt.toNat) else -1) else -1
section VC
variable {Γ : kG} {Φ : kF} {S : hS} {x : Nat} {ρ : Nat → Nat} {rs : Nat} {T : aS} {L : List Nat}
theorem cx_visits {q : Int32 → hS → Prop} {a b c : Int32} (hs : St Γ Φ S) (hf : fre Γ Φ L) (h4 : 4 ∈ L) (h500 : 500 ∈ L) (h503 : 503 ∈ L) (h : CR Γ S x ρ rs T) (k : ∀ S', St Γ Φ S' → q (spVisits a b c T) S') : w_X11_visits q S x a b c := by
  obtain ⟨t1, t2, t3, t4, t5⟩ := h.2.1
  have b1 := rB_1 t3
  have z0 : (0 : Int32).toInt = 0 := by decide
  have zm : (-1 : Int32).toInt = -1 := by decide
  have z99 : (99 : Int32).toInt = 99 := by decide
  have i1 : iR (sV S (ρ 0) (bk 0 ρ)) 1 = iR T.1.1 1 := by rw [t2]
  unfold spVisits at k
  unfold w_X11_visits
  refine E_gP_11_0 hs h.1 (fun _ => T_oK_8 hs t1 ?_)
  by_cases ca : 0 ≤ a.toInt ∧ a.toInt < iR T.1.1 1
  · obtain ⟨p, hp, rfl⟩ := pIx 8 (by omega) ca.1 (by omega)
    have tp : (nI p).toInt.toNat = p := by rw [nI_toInt (by omega)]; omega
    rw [tp] at k
    have ca' := ca
    rw [nI_toInt (by omega)] at ca'
    refine kx_lives hs t1 (by rw [i1]; exact b1) rfl (by rw [i1]; exact ca'.2) (fun lp => ⟨fun z => absurd z (by decide), fun _ => kx_isWithin (fun nw => ⟨fun z => absurd rfl z, fun _ => ?_⟩) (fun hw => ⟨fun _ => ?_, fun z => absurd z (by decide)⟩)⟩) (fun np => ⟨fun _ => ?_, fun z => absurd rfl z⟩)
    · have kk := k S hs
      rw [if_neg (fun z => nw (by rw [z99]; exact z.2.1))] at kk
      exact kk
    · rw [z99] at hw
      rw [t2] at lp
      have lv : liveR T.1.1 p = true := by
        unfold liveR
        rw [decide_eq_true_eq]
        exact lp
      obtain ⟨n, hn, rfl⟩ := pIx 100 (by omega) hw.1 (by omega)
      have tn : (nI n).toInt.toNat = n := by rw [nI_toInt (by omega)]; omega
      rw [tn] at k
      refine E_gP_11_8 hs h.1 (fun k8 => E_gP_11_0 hs h.1 (fun _ => T_oK_4 hs k8 ?_))
      have g3 := (P_4_3 hs k8).2
      have fin : ∀ S', wkI Γ Φ (ρ 8) (ρ 0) (bk 0 ρ) (bk 8 ρ) T.1.1 n S' (vfV T.1.1 p n) 0 (fun _ => 0) → (¬ c = (-1) → (c < 0 → q (-1) S') ∧ (¬ c < 0 → gP S' x 11 8 (fun x54 => gI S' x54 4 4 (fun x57 => (x57 ≤ c → q (-1) S') ∧ (¬ x57 ≤ c → gP S' x 11 8 (fun x64 => gP S' x64 4 3 (fun x67 => aI S' x67 c (fun x71 => q x71 S')))))))) ∧ (c = (-1) → gP S' x 11 8 (fun x41 => gI S' x41 4 4 (fun x44 => q x44 S'))) := by
        rintro S' ⟨h', _, ⟨_, f4, _⟩, hbd, hr, _⟩
        have bd := hbd.1
        have kk := k S' h'
        refine ⟨fun cm => ⟨fun c0 => ?_, fun c0 => E_gP_11_8 h' h.1 (fun k8 => T_gI_4_4 h' k8 (fun v ev _ => ⟨fun c1 => ?_, fun c1 => E_gP_11_8 h' h.1 (fun k8 => E_gP_4_3 h' k8 (fun _ => ?_))⟩))⟩, fun cm => E_gP_11_8 h' h.1 (fun k8 => T_gI_4_4 h' k8 (fun v ev _ => ?_))⟩
        · rw [Int32.lt_iff_toInt_lt, z0] at c0
          rw [if_neg (fun z => cm (Int32.toInt_inj.mp (by rw [zm]; omega)))] at kk
          exact kk
        · rw [Int32.lt_iff_toInt_lt, z0] at c0
          rw [ev, f4, Int32.le_iff_toInt_le, nI_toInt (by omega)] at c1
          rw [if_pos ⟨⟨ca, lv⟩, hw, by omega⟩, if_neg cm, if_neg (by omega)] at kk
          exact kk
        · rw [Int32.lt_iff_toInt_lt, z0] at c0
          rw [ev, f4, Int32.le_iff_toInt_le, nI_toInt (by omega)] at c1
          obtain ⟨cc, hcc, rfl⟩ := pIx 6 (by omega) (show 0 ≤ c.toInt by omega) (by omega)
          rw [nI_toInt (by omega)] at c1
          rw [if_pos ⟨⟨ca, lv⟩, hw, by rw [nI_toInt (by omega)]; omega⟩, if_neg cm, nI_toInt (by omega), if_pos (by omega), show ((cc : Int)).toNat = cc by omega] at kk
          refine T_aI_20 h' g3 ⟨by rw [nI_toInt (by omega)]; omega, by rw [nI_toInt (by omega)]; omega⟩ (fun w ew _ => ?_)
          rw [nI_clamp (by omega), hr cc (by omega)] at ew
          rw [ew]
          exact kk
        · rw [ev, f4]
          rw [if_pos ⟨⟨ca, lv⟩, hw, by rw [cm, zm]; omega⟩, if_pos cm] at kk
          exact kk
      unfold w_X4_findVisits
      refine T_pI_4_1 hs hf k8 h4 (fun S1 h1 p1 x1 q1 => T_pI_4_4 h1 hf k8 h4 ⟨by decide, by decide⟩ (fun S2 h2 p2 x2 q2 => T_pI_4_2 h2 hf k8 h4 (fun S3 h3 p3 x3 q3 => T_oK_8 h3 t1 ?_)))
      have sv3 : sV S3 (ρ 0) (bk 0 ρ) = T.1.1 := by rw [sV_pl h2 k8 t1 x3 q3, sV_pl h1 k8 t1 x2 q2, sV_pl hs k8 t1 x1 q1]; exact t2
      refine hP_y h3 t1 (by rw [sv3]; exact ca) ⟨fun z => absurd z (by decide), fun _ => E_gP_8_5 h3 t1 (fun _ => V_aI_h h3 t1 (nI_toInt (by omega)) (by omega) (T_oK_4 h3 k8 ?_))⟩
      rw [sv3]
      unfold w_X4_walk
      have e138 : T.1.1 (138 + p) = frV T.1.1 p (fun _ => 0) 0 := by
        unfold frV
        rw [if_pos rfl]
      rw [e138]
      refine kx_walk (F := T.1.1) (n := n) (p := p) hf h4 h500 h503 k8 t1 t3 ca'.2 (by omega) 8 S3 _ 0 0 0 (fun _ => 0) (0, 0, fun _ => 0) ⟨h3, sv3, ⟨?_, ?_, ?_⟩, ⟨Nat.zero_le _, Nat.zero_le _, fun j hj => absurd hj (Nat.not_lt_zero _)⟩, fun j hj => absurd hj (Nat.not_lt_zero _), fun j hj => absurd hj (Nat.not_lt_zero _)⟩ (by omega) (by omega) (Nat.zero_le _) (by omega) (fun j hj => absurd hj (Nat.not_lt_zero _)) (fun y hy => ?_) (fun S' hw' => ?_)
      · rw [fI_x x3 (by omega), fI_x x2 (by omega)]
        exact p1
      · rw [fI_x x3 (by omega)]
        exact p2
      · exact p3
      · rw [Nat.zero_testBit]
        exact ⟨fun z => (by cases z), fun ⟨j, hj, _⟩ => absurd hj (Nat.not_lt_zero _)⟩
      · have eb : bvU 0 0 (fun _ : Nat => 0) (0, 0, fun _ => 0) = (0, 0, fun _ => 0) := if_neg (fun z => by
          rcases z with z | z
          · exact absurd z (Nat.lt_irrefl _)
          · exact absurd z.2 (Nat.lt_irrefl _))
        rw [eb] at hw'
        exact fin S' hw'
    · rw [t2] at np
      have kk := k S hs
      rw [if_neg (fun z => np (by have := z.1.2; unfold liveR at this; rw [decide_eq_true_eq] at this; exact this))] at kk
      exact kk
  · unfold w_X8_lives
    refine T_oK_8 hs t1 (hP_n hs t1 (by rw [i1]; exact ca) ⟨fun _ => ⟨fun _ => ?_, fun z => absurd rfl z⟩, fun z => absurd rfl z⟩)
    have kk := k S hs
    rw [if_neg (fun z => ca z.1.1)] at kk
    exact kk
end VC
