/-! RINGS KEPT, THE CLASS'S QUESTION -/
def Wx (T : aS) (e y : Nat) : Nat := (worthR T.1.1 (csF T.1.1 T.1.2) e (iR T.1.1 5 + y)).toNat
theorem Wx_e (T : aS) (e y : Nat) : worthR T.1.1 (csF T.1.1 T.1.2) e (iR T.1.1 5 + y) = (Wx T e y : Int) ∧ Wx T e y ≤ 99 := by
  have := toldL_in (cs := csF T.1.1 T.1.2) (k := 2) (e := envL T.1.1 (-1) e (iR T.1.1 5 + y) (-1)) (by omega)
  rw [show (mstK 2 : Int) = 99 by decide] at this
  unfold Wx worthR
  omega
def spKeep (a b c d : Int32) (T : aS) : Int32 := if (0 ≤ a.toInt ∧ a.toInt < iR T.1.1 0) ∧ (0 ≤ b.toInt ∧ b.toInt ≤ 20) ∧ (1 ≤ c.toInt ∧ c.toInt ≤ 8) ∧ (-1 ≤ d.toInt ∧ d.toInt < c.toInt) then (if d = -1 then nI (Kv (Wx T a.toInt.toNat) c.toInt.toNat 0 b.toInt.toNat) else nI (chN (Wx T a.toInt.toNat) c.toInt.toNat d.toInt.toNat (lfK (Wx T a.toInt.toNat) c.toInt.toNat b.toInt.toNat d.toInt.toNat))) else -1
section KQ
variable {Γ : kG} {Φ : kF} {S : hS} {x : Nat} {ρ : Nat → Nat} {rs : Nat} {T : aS} {L : List Nat}
theorem cx_keep {q : Int32 → hS → Prop} {a b c d : Int32} (hs : St Γ Φ S) (hf : fre Γ Φ L) (hL : ∀ x ∈ [101, 700, 801, 802, 803], x ∈ L) (hC : ∀ S', St Γ Φ S' → CR Γ S' x ρ rs T) (k : ∀ S', St Γ Φ S' → q (spKeep a b c d T) S') : w_X11_keep q S x a b c d := by
  have h := hC S hs
  obtain ⟨t1, t2, t3, t4, t5⟩ := h.2.1
  have b0 := rB_0 t3
  have y5 := t3.1 5 (by omega)
  rw [show rLo 5 = 0 by decide, show rHi 5 = 999 by decide] at y5
  have i0 : (sV S (ρ 0) (bk 0 ρ) 0).toInt = iR T.1.1 0 := by rw [t2]; rfl
  have z0 : (0 : Int32).toInt = 0 := by decide
  have z1 : (1 : Int32).toInt = 1 := by decide
  have z8 : (8 : Int32).toInt = 8 := by decide
  have zm : (-1 : Int32).toInt = -1 := by decide
  have z20 : (20 : Int32).toInt = 20 := by decide
  unfold spKeep at k
  unfold w_X11_keep
  refine E_gP_11_0 hs h.1 (fun _ => T_oK_8 hs t1 (kx_X8_hasHouse hs t1 (fun nh => ⟨fun _ => ?_, fun z => absurd rfl z⟩) (fun h1 h2 h3 => ⟨fun z => absurd z (by decide), fun _ => kx_isWithin (fun nw => ⟨fun _ => ?_, fun z => absurd rfl z⟩) (fun hw => ⟨fun z => absurd z (by decide), fun _ => ⟨fun c1 => ?_, fun c1 => ⟨fun c2 => ⟨fun c3 => ?_, fun c3 => ⟨fun c4 => ?_, fun c4 => ?_⟩⟩, fun c2 => ?_⟩⟩⟩)⟩)))
  · have := k S hs
    rw [if_neg (fun z => nh (by rw [i0]; exact z.1))] at this
    exact this
  · have := k S hs
    rw [if_neg (fun z => nw (by rw [z20]; exact z.2.1))] at this
    exact this
  · have := k S hs
    rw [Int32.lt_iff_toInt_lt, z1] at c1
    rw [if_neg (fun z => by have := z.2.2.1.1; omega)] at this
    exact this
  · have := k S hs
    rw [Int32.lt_iff_toInt_lt, zm] at c3
    rw [if_neg (fun z => by have := z.2.2.2.1; omega)] at this
    exact this
  · rw [i0] at h2
    rw [Int32.lt_iff_toInt_lt, z1] at c1
    rw [Int32.le_iff_toInt_le, z8] at c2
    rw [Int32.lt_iff_toInt_lt, zm] at c3
    rw [Int32.lt_iff_toInt_lt] at c4
    rw [z20] at hw
    rw [if_pos ⟨⟨h1, h2⟩, hw, ⟨by omega, c2⟩, by omega, c4⟩] at k
    obtain ⟨e, he, rfl⟩ := pIx 6 (by omega) h1 (by omega)
    obtain ⟨K, hK, rfl⟩ := pIx 21 (by omega) hw.1 (by omega)
    obtain ⟨n, hn, rfl⟩ := pIx 9 (by omega) (show 0 ≤ c.toInt by omega) (by omega)
    rw [nI_toInt (by omega)] at h2 c1 c2 c4
    have te : (nI e).toInt.toNat = e := by rw [nI_toInt (by omega)]; omega
    have tK : (nI K).toInt.toNat = K := by rw [nI_toInt (by omega)]; omega
    have tn : (nI n).toInt.toNat = n := by rw [nI_toInt (by omega)]; omega
    rw [te, tK, tn] at k
    have W9 : ∀ y, Wx T e y ≤ 99 := fun y => (Wx_e T e y).2
    have g9 := fun S' (h' : St Γ Φ S') => (P_11_9 h' h.1).2
    have g1 := (P_7_1 hs (g9 S hs)).2
    refine loop_m (σ := hS × Nat) (fun t s => w_X11_keep_b50 q t s.1 x (nI e) (nI K) (nI n) d (nI s.2)) (fun s => s.2 ≤ n ∧ St Γ Φ s.1 ∧ ∀ y, y < s.2 → aV s.1 (bk 9 ρ 1) y = nI (Wx T e y)) (fun s => n - s.2) ?_ (S, 0) ⟨Nat.zero_le _, hs, fun y hy => absurd hy (Nat.not_lt_zero _)⟩
    rintro t ⟨S, y⟩ ⟨hy, hs, hw⟩ ih
    dsimp only at hy hs hw ih ⊢
    have h := hC S hs
    obtain ⟨t1, t2, t3, t4, t5⟩ := h.2.1
    rw [w_X11_keep_b50, nI_leI (by omega) (by omega)]
    refine ⟨fun cn => E_gP_11_9 hs h.1 (fun h9 => T_oK_7 hs h9 (kx_keepRings hs hf (hL 802 (by simp)) (hL 803 (by simp)) h9 (by omega) W9 (by omega) (fun y' hy' => hw y' (by omega)) (fun S' h' hU => ?_))), fun cn => E_gP_11_9 hs h.1 (fun h9 => E_gP_7_1 hs h9 (fun _ => E_gP_11_6 hs h.1 (fun h6 => E_gP_11_0 hs h.1 (fun _ => E_gP_11_0 hs h.1 (fun _ => E_gP_8_0 hs t1 (fun _ => V_gI_y hs t1 (T_oK_0 hs h6 (kx_worthIn hs (hf.sub (fun z hz => hL z (by simp at hz; rcases hz with rfl | rfl <;> simp))) (h.2.1.ask h6) rfl (by rw [t2]; exact h2) (y := iR T.1.1 5 + y) ?_ (by omega) (fun r S1 er s1 m1 => ?_)))))))))⟩
    · refine ⟨fun cd => ?_, fun cd => ?_⟩
      · rw [if_neg cd] at k
        have hd0 : 0 ≤ d.toInt := by
          by_cases z : d.toInt = -1
          · exact absurd (Int32.toInt_inj.mp (by rw [z, zm])) cd
          · omega
        obtain ⟨dd, hdd, rfl⟩ := pIx 8 (by omega) hd0 (by omega)
        rw [nI_toInt (by omega)] at c4
        have td : (nI dd).toInt.toNat = dd := by rw [nI_toInt (by omega)]; omega
        rw [td] at k
        refine E_gP_11_9 h' h.1 (fun h9 => E_gP_7_2 h' h9 (fun hg => T_aI_20 h' hg ⟨by rw [nI_toInt (by omega)]; omega, by rw [nI_toInt (by omega)]; omega⟩ (fun v ev _ => ?_)))
        rw [nI_clamp (by omega), hU dd (by omega)] at ev
        rw [ev]
        exact k S' h'
      · rw [if_pos cd] at k
        exact k S' h'
    · have i5 : (T.1.1 5).toInt = iR T.1.1 5 := rfl
      rw [t2, fb_addI (by rw [nI_toInt (by omega), i5]; omega) (by rw [nI_toInt (by omega), i5]; omega), nI_toInt (by omega), i5]
    · have er' : r = nI (Wx T e y) := by
        apply Int32.toInt_inj.mp
        rw [er, t2, (Wx_e T e y).1, nI_toInt (by have := W9 y; omega)]
      refine T_sI_20 s1 hf g1 (hL 801 (by simp)) ⟨by rw [nI_toInt (by omega)]; omega, by rw [nI_toInt (by omega)]; omega⟩ (fun S' h' _ _ _ s4 y91 e91 => ?_)
      rw [e91, nI_1]
      refine ih (S', y + 1) ⟨by dsimp only; omega, h', fun y' hy' => ?_⟩ (by dsimp only; omega)
      dsimp only at hy' ⊢
      rw [s4, nI_clamp (by omega)]
      by_cases cy : y' = y
      · rw [if_pos cy, er', cy]
      · rw [if_neg cy, aV_cell (m1.at hs g1 (by decide))]
        exact hw y' (by omega)
  · have := k S hs
    rw [Int32.lt_iff_toInt_lt] at c4
    rw [if_neg (fun z => c4 z.2.2.2.2)] at this
    exact this
  · have := k S hs
    rw [Int32.le_iff_toInt_le, z8] at c2
    rw [if_neg (fun z => c2 z.2.2.1.2)] at this
    exact this
end KQ
