/-! RIGHT, WILL, FEED, END AS CALLS -/
def spRight (a b c : Int32) (T : aS) : Int32 × aS := if ¬ inB c 0 99 then spRef 1 T else if ¬ ((0 ≤ a.toInt ∧ a.toInt < iR T.1.1 1) ∧ (0 ≤ b.toInt ∧ b.toInt < iR T.1.1 0)) then spRef 2 T else if ¬ (liveR T.1.1 a.toInt.toNat = true ∧ iR T.1.1 (78 + 6 * a.toInt.toNat + b.toInt.toNat) ≤ c.toInt) then spRef 3 T else spAcc (T.1.1 (30 + 6 * a.toInt.toNat + b.toInt.toNat)) (aCl (aTn (upd T.1.1 (30 + 6 * a.toInt.toNat + b.toInt.toNat) c) T))
def spWill (a b : Int32) (T : aS) : Int32 × aS := if ¬ (0 ≤ b.toInt ∧ b.toInt < 2 ^ nPR T.1.1) then spRef 1 T else if ¬ (0 ≤ a.toInt ∧ a.toInt < iR T.1.1 1) then spRef 2 T else if dB b a.toInt.toNat = 1 then spRef 1 T else spAcc (T.1.1 (162 + a.toInt.toNat)) (aTn (upd T.1.1 (162 + a.toInt.toNat) b) T)
def fdG (G : pG) (a b c d e : Int32) : pG := (fun i => (fo20 (fun i => nI (G.1 i)) G.2 a b c d e i).toNatClampNeg, G.2 + 20)
def aTp (G : pG) (T : aS) : aS := (T.1, T.2.1, T.2.2.1, G, T.2.2.2.2)
def spFeed (a b c d e : Int32) (T : aS) : Int32 × aS := if 380 < T.2.2.2.1.2 then (-1, T) else (nI (T.2.2.2.1.2 + 20), aTp (fdG T.2.2.2.1 a b c d e) T)
def spEnd (a : Int32) (T : aS) : Int32 × aS := if ¬ (0 ≤ a.toInt ∧ a.toInt ≤ T.2.2.2.1.2) then (-1, T) else (a, aTp (T.2.2.2.1.1, a.toInt.toNat) T)
theorem by255 (x : Int32) : ∃ n, n < 256 ∧ x &&& 255 = nI n := by
  refine ⟨(x.toBitVec &&& 255#32).toNat, ?_, ?_⟩
  · rw [BitVec.toNat_and]
    exact Nat.and_lt_two_pow (n := 8) _ (by decide)
  · apply Int32.toBitVec_inj.mp
    rw [Int32.toBitVec_and]
    show x.toBitVec &&& 255#32 = BitVec.ofNat 32 _
    rw [BitVec.ofNat_toNat, BitVec.setWidth_eq]
theorem fo4_by {f : Nat → Int32} {m : Nat} {v : Int32} (h : ∀ j, ∃ n, n < 256 ∧ f j = nI n) : ∀ j, ∃ n, n < 256 ∧ fo4 f m v j = nI n := by
  intro j
  unfold fo4 upd
  repeat' split
  all_goals first | exact by255 _ | exact h j
theorem fo4_on {f g : Nat → Int32} {m : Nat} {v : Int32} (h : ∀ j, j < 400 → f j = g j) : ∀ j, j < 400 → fo4 f m v j = fo4 g m v j := by
  intro j hj
  have := h j hj
  unfold fo4 upd
  repeat' split
  all_goals first | rfl | exact this
theorem fo20_by {f : Nat → Int32} {m : Nat} {a b c d e : Int32} (h : ∀ j, ∃ n, n < 256 ∧ f j = nI n) : ∀ j, ∃ n, n < 256 ∧ fo20 f m a b c d e j = nI n := fo4_by (fo4_by (fo4_by (fo4_by (fo4_by h))))
theorem fo20_on {f g : Nat → Int32} {m : Nat} {a b c d e : Int32} (h : ∀ j, j < 400 → f j = g j) : ∀ j, j < 400 → fo20 f m a b c d e j = fo20 g m a b c d e j := fo4_on (fo4_on (fo4_on (fo4_on (fo4_on h))))
section SR
variable {Γ Γ' : kG} {Φ : kF} {S S' : hS} {x a b b' c n i i' rs o : Nat} {ρ ρ' ρg β ρa : Nat → Nat} {A : List Nat} {T : aS} {t : sW} {tx : Nat → Nat}
theorem kx_usedOf {q : Int32 → hS → Prop} {p hh : Nat} {v w : Int32} (h : St Γ Φ S) (hb : Γ b = some (8, 8 + 10000 * i, i, 0, ρ)) (hB : rB (sV S b ρ)) (ev : v = nI p) (ew : w = nI hh) (hp : (p : Int) < iR (sV S b ρ) 1) (hh' : (hh : Int) < iR (sV S b ρ) 0) (k : ∀ r : Int32, r = sV S b ρ (78 + 6 * p + hh) → q r S) : w_X8_usedOf q S b v w := by
  subst ev
  subst ew
  have b1 := rB_1 hB
  have b0 := rB_0 hB
  unfold w_X8_usedOf
  refine T_oK_8 h hb (hP_y h hb (by rw [nI_toInt (by omega)]; omega) ⟨fun z => absurd z (by decide), fun _ => T_oK_8 h hb (hH_y h hb (by rw [nI_toInt (by omega)]; omega) ⟨fun z => absurd z (by decide), fun _ => E_gP_8_0 h hb (fun hg => E_gP_2_1 h hg (fun _ => kx_slot (V_aI_u h hb (nI_toInt (by omega)) (by omega) (k _ (by rw [show 78 + (p * 6 + hh) = 78 + 6 * p + hh by omega])))))⟩)⟩)
theorem kx_hasBit {q : Int32 → hS → Prop} {p : Nat} {v w : Int32} (hp : p < 8) (ev : v = nI p) (k1 : dB w p = 1 → q 1 S) (k0' : ¬ dB w p = 1 → q 0 S) : w_X11_hasBit q S w v := by
  subst ev
  unfold w_X11_hasBit
  rw [n31 p hp]
  have l31 : (31 : Int32) ≤ nI p ↔ 31 ≤ p := nI_leI (a := 31) (by omega) (by omega)
  rw [l31]
  unfold dB at k1 k0'
  exact ⟨fun z => absurd z (nI_ltz (by omega)), fun _ => ⟨fun z => by omega, fun _ => ⟨k0', k1⟩⟩⟩
theorem cx_right {q : Int32 → hS → Prop} {v w u : Int32} (h : CR Γ S x ρ rs T) (hs : St Γ Φ S) (hf : fre Γ Φ ([11, 1216, 3] ++ tnN)) (k : ∀ S', St Γ Φ S' → CR Γ S' x ρ rs (spRight v w u T).2 → q (spRight v w u T).1 S') : w_X11_right q S x v w u := by
  have hx := h.1
  have t1 := h.2.1.1
  have t2 := h.2.1.2.1
  have hB := h.2.1.2.2.1
  have hB' : rB (sV S (ρ 0) (bk 0 ρ)) := by rw [t2]; exact hB
  have b0 := rB_0 hB
  have b1 := rB_1 hB
  have frf : fre Γ Φ [11, 1216] := hf.sub (by decide)
  have c99 : (99 : Int32).toInt = 99 := by decide
  have b37 : spRight v w u T = spRef 2 T → w_X11_right_b37 q S x := fun e => by
    rw [e] at k
    exact T_oK_11 hs hx (cx_refuse h hs frf (n := 2) rfl (by omega) (fun S' s' _ c' => k S' s' c'))
  have b68 : spRight v w u T = spRef 3 T → w_X11_right_b68 q S x := fun e => by
    rw [e] at k
    exact T_oK_11 hs hx (cx_refuse h hs frf (n := 3) rfl (by omega) (fun S' s' _ c' => k S' s' c'))
  unfold w_X11_right
  refine isW (fun c1 => ⟨fun _ => E_gP_11_0 hs hx (fun k0 => T_oK_8 hs k0 ?_), fun z => absurd z (by decide)⟩) (fun c1 => ⟨fun z => absurd rfl z, fun _ => ?_⟩)
  rotate_left
  · have e0 : spRight v w u T = spRef 1 T := if_pos (fun z => c1 (by rw [c99]; exact z))
    rw [e0] at k
    exact T_oK_11 hs hx (cx_refuse h hs frf (n := 1) rfl (by omega) (fun S' s' _ c' => k S' s' c'))
  rw [c99] at c1
  have e1 : spRight v w u T = (if ¬ ((0 ≤ v.toInt ∧ v.toInt < iR T.1.1 1) ∧ (0 ≤ w.toInt ∧ w.toInt < iR T.1.1 0)) then spRef 2 T else if ¬ (liveR T.1.1 v.toInt.toNat = true ∧ iR T.1.1 (78 + 6 * v.toInt.toNat + w.toInt.toNat) ≤ u.toInt) then spRef 3 T else spAcc (T.1.1 (30 + 6 * v.toInt.toNat + w.toInt.toNat)) (aCl (aTn (upd T.1.1 (30 + 6 * v.toInt.toNat + w.toInt.toNat) u) T))) := if_neg (fun z => z c1)
  by_cases c2 : 0 ≤ v.toInt ∧ v.toInt < iR T.1.1 1
  rotate_left
  · exact hP_n hs t1 (by rw [t2]; exact c2) ⟨fun _ => b37 (by rw [e1]; exact if_pos (fun z => c2 z.1)), fun z => absurd rfl z⟩
  refine hP_y hs t1 (by rw [t2]; exact c2) ⟨fun z => absurd z (by decide), fun _ => E_gP_11_0 hs hx (fun k0 => T_oK_8 hs k0 ?_)⟩
  by_cases c3 : 0 ≤ w.toInt ∧ w.toInt < iR T.1.1 0
  rotate_left
  · exact hH_n hs t1 (by rw [t2]; exact c3) ⟨fun z => absurd rfl z, fun _ => b37 (by rw [e1]; exact if_pos (fun z => c3 z.2))⟩
  rw [if_neg (fun z => z ⟨c2, c3⟩)] at e1
  refine hH_y hs t1 (by rw [t2]; exact c3) ⟨fun _ => E_gP_11_0 hs hx (fun k0 => T_oK_8 hs k0 ?_), fun z => absurd z (by decide)⟩
  obtain ⟨p, ep⟩ : ∃ p, p = v.toInt.toNat := ⟨_, rfl⟩
  obtain ⟨g, eg⟩ : ∃ g, g = w.toInt.toNat := ⟨_, rfl⟩
  have ev : v = nI p := by apply Int32.toInt_inj.mp; rw [nI_toInt (by omega)]; omega
  have ew : w = nI g := by apply Int32.toInt_inj.mp; rw [nI_toInt (by omega)]; omega
  rw [← ep, ← eg] at e1
  have hp : (p : Int) < iR (sV S (ρ 0) (bk 0 ρ)) 1 := by rw [t2]; omega
  have hg : (g : Int) < iR (sV S (ρ 0) (bk 0 ρ)) 0 := by rw [t2]; omega
  refine kx_lives hs t1 (by rw [t2]; exact b1) ev hp (fun lv => ⟨fun z => absurd z (by decide), fun _ => E_gP_11_0 hs hx (fun k0 => T_oK_8 hs k0 (kx_usedOf hs t1 hB' ev ew hp hg (fun r er => ?_)))⟩) (fun lv => ⟨fun _ => b68 (by rw [e1]; exact if_pos (fun z => lv (by rw [t2]; exact of_decide_eq_true z.1))), fun z => absurd rfl z⟩)
  rw [t2] at er lv
  subst er
  rw [Int32.le_iff_toInt_le, iR_i]
  refine ⟨fun c4 => E_gP_11_0 hs hx (fun k0 => T_oK_8 hs k0 (kx_rightsOf hs t1 hB' ev ew hp hg (fun r2 er2 => ?_))), fun c4 => b68 (by rw [e1]; exact if_pos (fun z => c4 z.2))⟩
  rw [if_neg (fun z => z ⟨decide_eq_true lv, c4⟩)] at e1
  rw [e1] at k
  rw [t2] at er2
  subst er2
  subst ev
  subst ew
  refine E_gP_11_0 hs hx (fun _ => E_gP_8_0 hs t1 (fun kg => E_gP_2_0 hs kg (fun _ => kx_slot (V_sI_r (frz_St (L := tnN) hs) t1 (frz_fre2 (L' := tnN) (hf.sub (by decide)) (fun _ y => y)) (by decide) (m := p * 6 + g) (nI_toInt (by omega)) (by omega) (fun S1 s1' ev => ?_)))))
  obtain ⟨s1, m1⟩ := frz_un hs s1'
  rw [t2, show 30 + (p * 6 + g) = 30 + 6 * p + g by omega] at ev
  have hl := hi_r (j := 30 + 6 * p + g) (by omega)
  have hB2 : rB (upd T.1.1 (30 + 6 * p + g) u) := rB_set hB (by omega) (by rw [hl.1, hl.2]; exact c1) (fun _ _ => by rw [show 30 + 6 * p + g + 48 = 78 + 6 * p + g by omega]; exact c4) (fun _ _ => by omega)
  have h1 := h.tw hs m1 tnN_ok ev hB2 (upd_ne _ _ (by omega))
  exact E_gP_11_3 s1 hx (fun k3 => T_oK_3 s1 k3 (cx_clear h1 s1 (hf.sub (by decide)) (fun S2 s2 m2 h2 => T_oK_11 s2 hx (cx_accept h2 s2 (hf.sub (by decide)) (fun S3 s3 _ c3 => k S3 s3 c3)))))
theorem cx_will {q : Int32 → hS → Prop} {v w : Int32} (h : CR Γ S x ρ rs T) (hs : St Γ Φ S) (hf : fre Γ Φ ([11, 1216, 3] ++ tnN)) (k : ∀ S', St Γ Φ S' → CR Γ S' x ρ rs (spWill v w T).2 → q (spWill v w T).1 S') : w_X11_will q S x v w := by
  have hx := h.1
  have t1 := h.2.1.1
  have t2 := h.2.1.2.1
  have hB := h.2.1.2.2.1
  have b1 := rB_1 hB
  have frf : fre Γ Φ [11, 1216] := hf.sub (by decide)
  obtain ⟨n, en⟩ : ∃ n, n = nPR T.1.1 := ⟨_, rfl⟩
  have n8 : n ≤ 8 := by rw [en]; unfold nPR; omega
  have n256 : (2 : Int) ^ n ≤ 256 := by
    have : ∀ n, n < 9 → (2 : Int) ^ n ≤ 256 := by decide
    exact this n (by omega)
  have fn : T.1.1 1 = nI n := by
    apply Int32.toInt_inj.mp
    rw [nI_toInt (by omega), iR_i]
    rw [en]; unfold nPR
    omega
  have b50 : spWill v w T = spRef 1 T → w_X11_will_b50 q S x := fun e => by
    rw [e] at k
    exact T_oK_11 hs hx (cx_refuse h hs frf (n := 1) rfl (by omega) (fun S' s' _ c' => k S' s' c'))
  have b26 : ∀ z, ¬ (0 ≤ w.toInt ∧ w.toInt < 2 ^ nPR T.1.1) → w_X11_will_b26 q S x v w z := by
    intro z hn
    unfold w_X11_will_b26 w_X11_will_b31
    exact ⟨fun _ => b50 (if_pos hn), fun y => absurd y (by decide)⟩
  have mid : ∀ z : Int32, (z = 1 ∧ (0 ≤ v.toInt ∧ v.toInt < iR T.1.1 1) ∨ z = 0 ∧ ¬ (0 ≤ v.toInt ∧ v.toInt < iR T.1.1 1)) → (w < 0 → w_X11_will_b26 q S x v w z) ∧ (¬ w < 0 → gP S x 11 0 (fun x16 => gI S x16 8 4 (fun x19 => (w < (1 <<< (x19 &&& 31)) → w_X11_will_b31 q S x v w z 0) ∧ (¬ w < (1 <<< (x19 &&& 31)) → w_X11_will_b26 q S x v w z)))) := by
    intro z hz
    rw [Int32.lt_iff_toInt_lt, z0I]
    refine ⟨fun c => b26 z (fun y => by omega), fun c => E_gP_11_0 hs hx (fun _ => V_gI_4 hs t1 (fun _ => ?_))⟩
    rw [t2, fn, Int32.lt_iff_toInt_lt, shb9 n (by omega), en]
    refine ⟨fun c2 => ?_, fun c2 => b26 z (fun y => c2 y.2)⟩
    have e1 : spWill v w T = (if ¬ (0 ≤ v.toInt ∧ v.toInt < iR T.1.1 1) then spRef 2 T else if dB w v.toInt.toNat = 1 then spRef 1 T else spAcc (T.1.1 (162 + v.toInt.toNat)) (aTn (upd T.1.1 (162 + v.toInt.toNat) w) T)) := if_neg (fun y => y ⟨by omega, c2⟩)
    unfold w_X11_will_b31
    refine ⟨fun y => absurd rfl y, fun _ => ⟨fun z0 => ?_, fun z0 => ?_⟩⟩
    · have nv : ¬ (0 ≤ v.toInt ∧ v.toInt < iR T.1.1 1) := by
        rcases hz with ⟨y, _⟩ | ⟨_, y⟩
        · rw [y] at z0; exact absurd z0 (by decide)
        · exact y
      rw [if_pos nv] at e1
      rw [e1] at k
      unfold w_X11_will_b56
      exact ⟨fun y => absurd z0 y, fun _ => T_oK_11 hs hx (cx_refuse h hs frf (n := 2) rfl (by omega) (fun S' s' _ c' => k S' s' c'))⟩
    · have yv : 0 ≤ v.toInt ∧ v.toInt < iR T.1.1 1 := by
        rcases hz with ⟨_, y⟩ | ⟨y, _⟩
        · exact y
        · exact absurd y z0
      rw [if_neg (fun y => y yv)] at e1
      obtain ⟨p, ep⟩ : ∃ p, p = v.toInt.toNat := ⟨_, rfl⟩
      rw [← ep] at e1
      have ev : v = nI p := by apply Int32.toInt_inj.mp; rw [nI_toInt (by omega)]; omega
      refine kx_hasBit (p := p) (by omega) ev (fun d1 => ⟨fun y => absurd y (by decide), fun _ => b50 (by rw [e1]; exact if_pos d1)⟩) (fun d0 => ⟨fun _ => ?_, fun y => absurd rfl y⟩)
      rw [if_neg d0] at e1
      rw [e1] at k
      unfold w_X11_will_b56
      refine ⟨fun _ => E_gP_11_0 hs hx (fun _ => E_gP_8_8 hs t1 (fun _ => V_aI_e hs t1 (m := p) (by omega) (by omega) (E_gP_11_0 hs hx (fun _ => E_gP_8_8 hs t1 (fun _ => V_sI_e (frz_St (L := tnN) hs) t1 (frz_fre2 (L' := tnN) (hf.sub (by decide)) (fun _ y => y)) (by decide) (m := p) (by omega) (by omega) (fun S1 s1' ev1 => ?_)))))), fun y => absurd y z0⟩
      obtain ⟨s1, m1⟩ := frz_un hs s1'
      rw [t2] at ev1 ⊢
      have hl : ∀ p, p < 8 → rLo (162 + p) = 0 ∧ rHi (162 + p) = 255 := by decide
      have hl' := hl p (by omega)
      rw [← en] at c2
      have hB2 : rB (upd T.1.1 (162 + p) w) := rB_up hB (by omega) (by rw [hl'.1, hl'.2]; omega) (by omega) (fun z => by omega) (fun _ _ _ => by omega) (fun _ _ _ => by omega) (fun p' hp' ep' => by
        have : p' = p := by omega
        rw [this]; exact d0)
      exact T_oK_11 s1 hx (cx_accept (h.tw hs m1 tnN_ok ev1 hB2 (upd_ne _ _ (by omega))) s1 (hf.sub (by decide)) (fun S3 s3 _ c3 => k S3 s3 c3))
  unfold w_X11_will
  refine E_gP_11_0 hs hx (fun k0 => T_oK_8 hs k0 ?_)
  by_cases c : 0 ≤ v.toInt ∧ v.toInt < iR T.1.1 1
  · exact hP_y hs t1 (by rw [t2]; exact c) (mid 1 (Or.inl ⟨rfl, c⟩))
  · exact hP_n hs t1 (by rw [t2]; exact c) (mid 0 (Or.inr ⟨rfl, c⟩))
theorem CR.tp {G : pG} (h : CR Γ S x ρ rs T) (hs : St Γ Φ S) (hm : sam Γ [9, 1000] S S') (hG : tpS S' (ρ 4) (bk 4 ρ) G) : CR Γ S' x ρ rs (aTp G T) := by
  obtain ⟨hx, h1, h2, h3, h4, h5, h6, h7, h8⟩ := h
  exact ⟨hx, h1.sm hs gro_rf hm (by decide), h2.sm hs hx gro_rf hm (by decide), h3.sg hs (P_11_3 hs hx).2 gro_rf hm (by decide), hG, h5.sm hs hx hm (by decide), h6.sm hs hx hm (by decide), h7.sm hs hx hm (by decide), h8⟩
theorem cx_feed {q : Int32 → hS → Prop} {v w t e f : Int32} (h : CR Γ S x ρ rs T) (hs : St Γ Φ S) (hf : fre Γ Φ [9, 1000]) (k : ∀ S', St Γ Φ S' → CR Γ S' x ρ rs (spFeed v w t e f T).2 → q (spFeed v w t e f T).1 S') : w_X11_feed q S x v w t e f := by
  have hx := h.1
  obtain ⟨g1, g2, g3, g4⟩ := h.2.2.2.2.1
  have gby : ∀ j, ∃ n, n < 256 ∧ (fun i => nI (T.2.2.2.1.1 i)) j = nI n := fun j => ⟨_, g4 j, rfl⟩
  refine kx_X11_feed (frz_St (L := [9, 1000]) hs) (frz_fre hf (fun _ y => y)) hx g2 g1 (fun c => ?_) (fun c S1 s1' e1 e2 => ?_)
  · have e0 : spFeed v w t e f T = (-1, T) := if_pos c
    rw [e0] at k
    exact k S hs h
  · have e0 : spFeed v w t e f T = (nI (T.2.2.2.1.2 + 20), aTp (fdG T.2.2.2.1 v w t e f) T) := if_neg (by omega)
    rw [e0] at k
    obtain ⟨s1, m1⟩ := frz_un hs s1'
    refine k S1 s1 (h.tp hs m1 ⟨e1, by show T.2.2.2.1.2 + 20 ≤ 400; omega, fun i hi => ?_, fun i => ?_⟩)
    · obtain ⟨n, n1, n2⟩ := fo20_by (m := T.2.2.2.1.2) (a := v) (b := w) (c := t) (d := e) (e := f) gby i
      rw [e2, fo20_on (g := fun i => nI (T.2.2.2.1.1 i)) (fun j hj => g3 j hj) i hi]
      show _ = nI (fo20 (fun i => nI (T.2.2.2.1.1 i)) T.2.2.2.1.2 v w t e f i).toNatClampNeg
      rw [n2, nI_clamp (by omega)]
    · obtain ⟨n, n1, n2⟩ := fo20_by (m := T.2.2.2.1.2) (a := v) (b := w) (c := t) (d := e) (e := f) gby i
      show (fo20 (fun i => nI (T.2.2.2.1.1 i)) T.2.2.2.1.2 v w t e f i).toNatClampNeg < 256
      rw [n2, nI_clamp (by omega)]
      exact n1
theorem cx_end {q : Int32 → hS → Prop} {v : Int32} (h : CR Γ S x ρ rs T) (hs : St Γ Φ S) (hf : fre Γ Φ [9, 1000]) (k : ∀ S', St Γ Φ S' → CR Γ S' x ρ rs (spEnd v T).2 → q (spEnd v T).1 S') : w_X11_end q S x v := by
  have hx := h.1
  obtain ⟨g1, g2, g3, g4⟩ := h.2.2.2.2.1
  have gi : (fI S (ρ 4) 1).toInt = T.2.2.2.1.2 := by rw [g1, nI_toInt (by omega)]
  refine kx_X11_end (frz_St (L := [9, 1000]) hs) ((frz_fre hf (fun _ y => y)).sub (by simp)) hx (fun c => ?_) (fun c S1 s1' e1 e2 => ?_)
  · rw [gi] at c
    have e0 : spEnd v T = (-1, T) := if_pos c
    rw [e0] at k
    exact k S hs h
  · rw [gi] at c
    have e0 : spEnd v T = (v, aTp (T.2.2.2.1.1, v.toInt.toNat) T) := if_neg (fun z => z c)
    rw [e0] at k
    obtain ⟨s1, m1⟩ := frz_un hs s1'
    refine k S1 s1 (h.tp hs m1 ⟨?_, by show v.toInt.toNat ≤ 400; omega, fun i hi => by rw [e2]; exact g3 i hi, g4⟩)
    rw [e1]
    apply Int32.toInt_inj.mp
    show _ = (nI v.toInt.toNat).toInt
    rw [nI_toInt (by omega)]
    omega
end SR
