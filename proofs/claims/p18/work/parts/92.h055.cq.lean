/-! THE CLASS'S QUESTIONS TO A SUBURB AND TO THE LAW, EXACTLY -/
/-- the law's text in the class: none, or one that holds cs -/
def lwIn (Γ : kG) (S : hS) (v : Option Nat) (cs : List pCl) : Prop := (v = none ∧ cs = []) ∨ ∃ b c n ρb, v = some b ∧ Γ b = some (10, 19, c, n, ρb) ∧ txR S b ρb (cs.map lwX)
theorem iR_i {f : Nat → Int32} {i : Nat} : (f i).toInt = iR f i := rfl
theorem clI_in {x y : Int32} (hy : 0 ≤ y.toInt) : (if 0 < (if y < x then y else x) then (if y < x then y else x) else 0).toInt = clI x.toInt 0 y.toInt := by
  have e : (if y < x then y else x).toInt = if y.toInt < x.toInt then y.toInt else x.toInt := by
    by_cases c : y < x
    · rw [if_pos c, if_pos (Int32.lt_iff_toInt_lt.mp c)]
    · rw [if_neg c, if_neg (fun z => c (Int32.lt_iff_toInt_lt.mpr z))]
  generalize (if y < x then y else x) = m at e ⊢
  unfold clI
  by_cases d : 0 < m
  · have d2 := d
    rw [Int32.lt_iff_toInt_lt, z0I] at d2
    rw [if_pos d, e]
    split at e <;> split <;> (try split) <;> omega
  · have d2 := d
    rw [Int32.lt_iff_toInt_lt, z0I] at d2
    rw [if_neg d, z0I]
    split at e <;> split <;> (try split) <;> omega
section CQ
variable {Γ : kG} {Φ : kF} {S : hS} {a b c n i : Nat} {ρ ρa : Nat → Nat} {cs : List pCl}
theorem lwIn.sm {S' : hS} {L : List Nat} {v : Option Nat} (h : lwIn Γ S v cs) (hs : St Γ Φ S) (hm : sam Γ L S S') (hL : 19 ∉ L ∧ 1112 ∉ L ∧ 1113 ∉ L ∧ 1114 ∉ L ∧ 1115 ∉ L) : lwIn Γ S' v cs := by
  rcases h with z | ⟨b, c, n, ρb, e, hb, hx⟩
  · exact Or.inl z
  · obtain ⟨l0, l1, l2, l3, l4⟩ := hL
    refine Or.inr ⟨b, c, n, ρb, e, hb, ?_⟩
    have w0 := hm.at hs hb l0
    have w1 := hm.at hs (P_10_3 hs hb).2 l1
    have w2 := hm.at hs (P_10_4 hs hb).2 l2
    have w3 := hm.at hs (P_10_5 hs hb).2 l3
    have w4 := hm.at hs (P_10_6 hs hb).2 l4
    exact TXT_congr hx (fun j => fI_cell w0 j) (funext fun j => aV_cell w1 j) (funext fun j => aV_cell w2 j) (funext fun j => aV_cell w3 j) (funext fun j => aV_cell w4 j)
theorem hP_y {q : Int32 → hS → Prop} {v : Int32} (h : St Γ Φ S) (hb : Γ b = some (8, 8 + 10000 * i, i, 0, ρ)) (hv : 0 ≤ v.toInt ∧ v.toInt < iR (sV S b ρ) 1) (k : q 1 S) : w_X8_hasPerson q S b v := kx_X8_hasPerson h hb (fun z => absurd hv z) (fun _ _ _ => k)
theorem hP_n {q : Int32 → hS → Prop} {v : Int32} (h : St Γ Φ S) (hb : Γ b = some (8, 8 + 10000 * i, i, 0, ρ)) (hv : ¬ (0 ≤ v.toInt ∧ v.toInt < iR (sV S b ρ) 1)) (k : q 0 S) : w_X8_hasPerson q S b v := kx_X8_hasPerson h hb (fun _ => k) (fun z1 z2 _ => absurd ⟨z1, z2⟩ hv)
theorem hH_y {q : Int32 → hS → Prop} {v : Int32} (h : St Γ Φ S) (hb : Γ b = some (8, 8 + 10000 * i, i, 0, ρ)) (hv : 0 ≤ v.toInt ∧ v.toInt < iR (sV S b ρ) 0) (k : q 1 S) : w_X8_hasHouse q S b v := kx_X8_hasHouse h hb (fun z => absurd hv z) (fun _ _ _ => k)
theorem hH_n {q : Int32 → hS → Prop} {v : Int32} (h : St Γ Φ S) (hb : Γ b = some (8, 8 + 10000 * i, i, 0, ρ)) (hv : ¬ (0 ≤ v.toInt ∧ v.toInt < iR (sV S b ρ) 0)) (k : q 0 S) : w_X8_hasHouse q S b v := kx_X8_hasHouse h hb (fun _ => k) (fun z1 z2 _ => absurd ⟨z1, z2⟩ hv)
theorem rB_1 {f : Nat → Int32} (h : rB f) : 0 ≤ iR f 1 ∧ iR f 1 ≤ 8 := h.1 1 (by omega)
theorem rB_0 {f : Nat → Int32} (h : rB f) : 0 ≤ iR f 0 ∧ iR f 0 ≤ 6 := h.1 0 (by omega)
theorem rB_r {f : Nat → Int32} (h : rB f) {j : Nat} (hj : j < 48) : 0 ≤ iR f (30 + j) ∧ iR f (30 + j) ≤ 99 := by
  have := h.1 (30 + j) (by omega)
  unfold rLo rHi at this
  rw [if_neg (by omega), if_neg (by omega), if_neg (by omega), if_neg (by omega), if_neg (by omega), if_neg (by omega), if_neg (by omega), if_neg (by omega), if_neg (by omega), if_neg (by omega), if_neg (by omega), if_pos (by omega)] at this
  exact this
theorem rB_u {f : Nat → Int32} (h : rB f) {j : Nat} (hj : j < 48) : 0 ≤ iR f (78 + j) ∧ iR f (78 + j) ≤ 99 := by
  have := h.1 (78 + j) (by omega)
  unfold rLo rHi at this
  rw [if_neg (by omega), if_neg (by omega), if_neg (by omega), if_neg (by omega), if_neg (by omega), if_neg (by omega), if_neg (by omega), if_neg (by omega), if_neg (by omega), if_neg (by omega), if_neg (by omega), if_pos (by omega)] at this
  exact this
theorem rB_w {f : Nat → Int32} (h : rB f) {j : Nat} (hj : j < 6) : 0 ≤ iR f (8 + j) ∧ iR f (8 + j) ≤ 99 := by
  have := h.1 (8 + j) (by omega)
  unfold rLo rHi at this
  rw [if_neg (by omega), if_neg (by omega), if_neg (by omega), if_neg (by omega), if_neg (by omega), if_neg (by omega), if_neg (by omega), if_neg (by omega), if_pos (by omega)] at this
  exact this
theorem rB_m {f : Nat → Int32} (h : rB f) {j : Nat} (hj : j < 8) : 0 ≤ iR f (14 + j) ∧ iR f (14 + j) ≤ 999 := by
  have := h.1 (14 + j) (by omega)
  unfold rLo rHi at this
  rw [if_neg (by omega), if_neg (by omega), if_neg (by omega), if_neg (by omega), if_neg (by omega), if_neg (by omega), if_neg (by omega), if_neg (by omega), if_neg (by omega), if_pos (by omega)] at this
  exact this
theorem rB_g {f : Nat → Int32} (h : rB f) {i : Nat} (hi : i < 185) : -1 ≤ iR f i ∧ iR f i ≤ 1000 := by
  have h1 := h.1 i hi
  have l1 : -1 ≤ rLo i := by unfold rLo; split <;> omega
  have l2 : rHi i ≤ 1000 := by
    unfold rHi
    repeat' (split; omega)
    omega
  omega
/-- how much is left to a person of a house -/
def leftR (f : Nat → Int32) (p h : Nat) : Int := iR f (30 + 6 * p + h) - iR f (78 + 6 * p + h)
theorem kx_leftOf {q : Int32 → hS → Prop} {p hh : Nat} {v w : Int32} (h : St Γ Φ S) (hb : Γ b = some (8, 8 + 10000 * i, i, 0, ρ)) (hB : rB (sV S b ρ)) (ev : v = nI p) (ew : w = nI hh) (hp : (p : Int) < iR (sV S b ρ) 1) (hh' : (hh : Int) < iR (sV S b ρ) 0) (k : ∀ r : Int32, r.toInt = leftR (sV S b ρ) p hh → q r S) : w_X8_leftOf q S b v w := by
  subst ev
  subst ew
  have b1 := rB_1 hB
  have b0 := rB_0 hB
  have r := rB_r hB (j := p * 6 + hh) (by omega)
  have u := rB_u hB (j := p * 6 + hh) (by omega)
  unfold w_X8_leftOf
  refine T_oK_8 h hb (hP_y h hb (by rw [nI_toInt (by omega)]; omega) ⟨fun z => absurd z (by decide), fun _ => T_oK_8 h hb (hH_y h hb (by rw [nI_toInt (by omega)]; omega) ⟨fun _ => E_gP_8_0 h hb (fun hg => E_gP_2_0 h hg (fun _ => kx_slot (V_aI_r h hb (nI_toInt (by omega)) (by omega) (E_gP_8_0 h hb (fun hg2 => E_gP_2_1 h hg2 (fun _ => kx_slot (V_aI_u h hb (nI_toInt (by omega)) (by omega) (k _ ?_)))))))), fun z => absurd z (by decide)⟩)⟩)
  rw [fb_subI (by rw [iR_i, iR_i]; omega) (by rw [iR_i, iR_i]; omega)]
  unfold leftR
  rw [iR_i, iR_i, show 30 + (p * 6 + hh) = 30 + 6 * p + hh by omega, show 78 + (p * 6 + hh) = 78 + 6 * p + hh by omega]
theorem wds_put {S S' : hS} {A m : Nat} {x : Int32} {g : Nat → Int32} (hm : m < 2 ^ 31) {y : Int32} (ey : y = nI m) (v : ∀ j, aV S' A j = if j = y.toNatClampNeg then x else aV S A j) (hg : ∀ j, aV S A j = g j) : ∀ j, aV S' A j = (upd g m x) j := fun j => by
  rw [v, ey, nI_clamp hm]
  unfold upd
  rw [hg]
theorem kx_X0_setWords {q : hS → Prop} {p t : Int} {hh : Nat} {v2 v3 v4 : Int32} (h : St Γ Φ S) (hf : fre Γ Φ [101]) (ha : Γ a = some (0, 0, 0, 0, ρa)) (hb : Γ b = some (8, 8 + 10000 * i, i, 0, ρ)) (hB : rB (sV S b ρ)) (e2 : v2.toInt = p) (hp : p = -1 ∨ (0 ≤ p ∧ p < iR (sV S b ρ) 1)) (e3 : v3 = nI hh) (hh' : (hh : Int) < iR (sV S b ρ) 0) (e4 : v4.toInt = t) (k : ∀ S', St Γ Φ S' → sam Γ [101] S S' → (∀ w, w < 9 → (aV S' (ρa 1) w).toInt = envL (sV S b ρ) p hh (iR (sV S b ρ) 5) t w) → q S') : w_X0_setWords q S a b v2 v3 v4 := by
  subst e3
  have b1 := rB_1 hB
  have b0 := rB_0 hB
  have hfr := frz_fre (S := S) hf (fun _ x => x)
  have hst := frz_St (L := [101]) h
  have vv : ∀ S', St Γ (frz Γ Φ S [101]) S' → sV S' b ρ = sV S b ρ := fun S' h' => sV_sam h hb (frz_un h h').2 (by simp only [List.mem_cons, List.not_mem_nil, or_false]; omega)
  have k' : ∀ S', St Γ (frz Γ Φ S [101]) S' → (∀ w, w < 9 → (aV S' (ρa 1) w).toInt = envL (sV S b ρ) p hh (iR (sV S b ρ) 5) t w) → q S' := fun S' h' => k S' (frz_un h h').1 (frz_un h h').2
  generalize frz Γ Φ S [101] = Ψ at hfr hst vv k'
  generalize sV S b ρ = f at hB hp hh' b1 b0 vv k'
  have v0 := vv S hst
  obtain ⟨g0, hg0⟩ : ∃ g : Nat → Int32, ∀ j, aV S (ρa 1) j = g j := ⟨_, fun _ => rfl⟩
  have ka : Γ (ρa 1) = some (20, 101, 9, 0, k0) := (P_0_1 hst ha).2
  -- the last three
  have b113 : ∀ (S1 : hS) (g : Nat → Int32) (x : Int32), St Γ Ψ S1 → (∀ j, aV S1 (ρa 1) j = g j) → (∀ w, w < 5 → (g w).toInt = envL f p hh (iR f 5) t w) → x.toInt = envL f p hh (iR f 5) t 5 → w_X0_setWords_b113 q S1 a b v4 x 5 (ρa 1) := by
    intro S1 g x h1 hg he hx
    unfold w_X0_setWords_b113
    refine T_sI_20 h1 hfr ka (by simp) (by decide) (fun S2 h2 s2 a2 o2 w2 => E_gP_0_1 h2 ha (fun _ => E_gP_8_0 h2 hb (fun _ => V_gI_y h2 hb (T_sI_20 h2 hfr ka (by simp) (by decide) (fun S3 h3 s3 a3 o3 w3 => E_gP_0_1 h3 ha (fun _ => T_sI_20 h3 hfr ka (by simp) (by decide) (fun S4 h4 s4 a4 o4 w4 => E_gP_0_1 h4 ha (fun _ => V_gI_13 h4 hb (T_sI_20 h4 hfr ka (by simp) (by decide) (fun S5 h5 s5 a5 o5 w5 => k' S5 h5 ?_))))))))))
    have g2 := wds_put (m := 5) (by decide) rfl w2 hg
    have g3 := wds_put (m := 6) (by decide) rfl w3 g2
    have g4 := wds_put (m := 7) (by decide) rfl w4 g3
    have g5 := wds_put (m := 8) (by decide) rfl w5 g4
    intro w hw
    rw [g5, vv S2 h2, vv S4 h4]
    unfold upd
    have : w < 5 ∨ w = 5 ∨ w = 6 ∨ w = 7 ∨ w = 8 := by omega
    rcases this with z | rfl | rfl | rfl | rfl
    · rw [if_neg (by omega), if_neg (by omega), if_neg (by omega), if_neg (by omega)]
      exact he w z
    · exact hx
    · rfl
    · exact e4
    · rfl
  have b92 : ∀ (S1 : hS) (g : Nat → Int32) (x v5 : Int32), St Γ Ψ S1 → (∀ j, aV S1 (ρa 1) j = g j) → (∀ w, w < 4 → (g w).toInt = envL f p hh (iR f 5) t w) → x.toInt = envL f p hh (iR f 5) t 4 → (v5 = 0 ∧ p = -1 ∨ v5 = 1 ∧ 0 ≤ p ∧ p < iR f 1) → w_X0_setWords_b92 q S1 a b v2 (nI hh) v4 v5 x 4 (ρa 1) := by
    intro S1 g x v5 h1 hg he hx h5
    unfold w_X0_setWords_b92
    refine T_sI_20 h1 hfr ka (by simp) (by decide) (fun S2 h2 s2 a2 o2 w2 => E_gP_0_1 h2 ha (fun _ => ?_))
    have g2 := wds_put (m := 4) (by decide) rfl w2 hg
    have he2 : ∀ w, w < 5 → (upd g 4 x w).toInt = envL f p hh (iR f 5) t w := by
      intro w hw
      unfold upd
      by_cases z : w = 4
      · subst z; rw [if_pos rfl]; exact hx
      · rw [if_neg z]; exact he w (by omega)
    rcases h5 with ⟨z5, zp⟩ | ⟨z5, zp1, zp2⟩
    · subst z5
      refine ⟨fun _ => b113 S2 _ _ h2 g2 he2 ?_, fun z => absurd rfl z⟩
      rw [zp]
      rfl
    · subst z5
      refine ⟨fun z => absurd z (by decide), fun _ => T_oK_8 h2 hb (kx_leftOf h2 hb (by rw [vv S2 h2]; exact hB) (p := p.toNat) (hh := hh) ?_ rfl (by rw [vv S2 h2]; omega) (by rw [vv S2 h2]; exact hh') (fun r er => b113 S2 _ _ h2 g2 he2 ?_))⟩
      · apply Int32.toInt_inj.mp
        rw [e2, nI_toInt (by omega)]
        omega
      · rw [er, vv S2 h2]
        show _ = if p < 0 then -1 else iR f (30 + 6 * p.toNat + hh) - iR f (78 + 6 * p.toNat + hh)
        rw [if_neg (by omega)]
        rfl
  have b58 : ∀ (S1 : hS) (g : Nat → Int32) (x v5 : Int32), St Γ Ψ S1 → (∀ j, aV S1 (ρa 1) j = g j) → (∀ w, w < 2 → (g w).toInt = envL f p hh (iR f 5) t w) → x.toInt = envL f p hh (iR f 5) t 2 → (v5 = 0 ∧ p = -1 ∨ v5 = 1 ∧ 0 ≤ p ∧ p < iR f 1) → w_X0_setWords_b58 q S1 a b v2 (nI hh) v4 v5 x 2 (ρa 1) := by
    intro S1 g x v5 h1 hg he hx h5
    unfold w_X0_setWords_b58
    refine T_sI_20 h1 hfr ka (by simp) (by decide) (fun S2 h2 s2 a2 o2 w2 => E_gP_0_1 h2 ha (fun _ => T_sI_20 h2 hfr ka (by simp) (by decide) (fun S3 h3 s3 a3 o3 w3 => E_gP_0_1 h3 ha (fun _ => T_oK_8 h3 hb (hH_y h3 hb (by rw [vv S3 h3, nI_toInt (by omega)]; omega) ⟨fun z => absurd z (by decide), fun _ => E_gP_8_0 h3 hb (fun hgg => E_gP_2_2 h3 hgg (fun _ => V_aI_w h3 hb (nI_toInt (by omega)) (by omega) ?_))⟩)))))
    have g2 := wds_put (m := 2) (by decide) rfl w2 hg
    have g3 := wds_put (m := 3) (by decide) rfl w3 g2
    refine b92 S3 _ _ v5 h3 g3 (fun w hw => ?_) ?_ h5
    · unfold upd
      have : w < 2 ∨ w = 2 ∨ w = 3 := by omega
      rcases this with z | rfl | rfl
      · rw [if_neg (by omega), if_neg (by omega)]
        exact he w z
      · exact hx
      · show (nI hh).toInt = _
        rw [nI_toInt (by omega)]
        rfl
    · rw [vv S3 h3]
      rfl
  have b34 : ∀ (S1 : hS) (g : Nat → Int32) (x v5 : Int32), St Γ Ψ S1 → (∀ j, aV S1 (ρa 1) j = g j) → (∀ w, w < 1 → (g w).toInt = envL f p hh (iR f 5) t w) → x.toInt = envL f p hh (iR f 5) t 1 → (v5 = 0 ∧ p = -1 ∨ v5 = 1 ∧ 0 ≤ p ∧ p < iR f 1) → w_X0_setWords_b34 q S1 a b v2 (nI hh) v4 v5 x 1 (ρa 1) := by
    intro S1 g x v5 h1 hg he hx h5
    unfold w_X0_setWords_b34
    refine T_sI_20 h1 hfr ka (by simp) (by decide) (fun S2 h2 s2 a2 o2 w2 => E_gP_0_1 h2 ha (fun _ => ?_))
    have g2 := wds_put (m := 1) (by decide) rfl w2 hg
    have he2 : ∀ w, w < 2 → (upd g 1 x w).toInt = envL f p hh (iR f 5) t w := by
      intro w hw
      unfold upd
      by_cases z : w = 1
      · subst z; rw [if_pos rfl]; exact hx
      · rw [if_neg z]; exact he w (by omega)
    rcases id h5 with ⟨z5, zp⟩ | ⟨z5, zp1, zp2⟩
    · subst z5
      refine ⟨fun _ => b58 S2 _ _ _ h2 g2 he2 ?_ h5, fun z => absurd rfl z⟩
      rw [zp]
      rfl
    · subst z5
      refine ⟨fun z => absurd z (by decide), fun _ => E_gP_8_0 h2 hb (fun hgg => E_gP_2_3 h2 hgg (fun _ => V_aI_m h2 hb (m := p.toNat) (by rw [e2]; omega) (by omega) (b58 S2 _ _ _ h2 g2 he2 ?_ h5)))⟩
      rw [vv S2 h2]
      show _ = if p < 0 then -1 else iR f (14 + p.toNat)
      rw [if_neg (by omega)]
      rfl
  unfold w_X0_setWords
  have start : ∀ v5 : Int32, (v5 = 0 ∧ p = -1 ∨ v5 = 1 ∧ 0 ≤ p ∧ p < iR f 1) → gP S a 0 1 (fun x8 => sI S x8 0 v2 (fun S => gP S a 0 1 (fun x15 => (v5 = 0 → w_X0_setWords_b34 q S a b v2 (nI hh) v4 v5 (-1) 1 x15) ∧ (¬ v5 = 0 → gP S b 8 6 (fun x25 => aI S x25 v2 (fun x29 => w_X0_setWords_b34 q S a b v2 (nI hh) v4 v5 x29 1 x15)))))) := by
    intro v5 h5
    refine E_gP_0_1 hst ha (fun _ => T_sI_20 hst hfr ka (by simp) (by decide) (fun S2 h2 s2 a2 o2 w2 => E_gP_0_1 h2 ha (fun _ => ?_)))
    have g2 := wds_put (m := 0) (by decide) rfl w2 hg0
    have he2 : ∀ w, w < 1 → (upd g0 0 v2 w).toInt = envL f p hh (iR f 5) t w := by
      intro w hw
      have : w = 0 := by omega
      subst this
      exact e2
    rcases id h5 with ⟨z5, zp⟩ | ⟨z5, zp1, zp2⟩
    · subst z5
      refine ⟨fun _ => b34 S2 _ _ _ h2 g2 he2 ?_ h5, fun z => absurd rfl z⟩
      rw [zp]
      rfl
    · subst z5
      refine ⟨fun z => absurd z (by decide), fun _ => E_gP_8_6 h2 hb (fun _ => V_aI_a h2 hb (m := p.toNat) (by rw [e2]; omega) (by omega) (b34 S2 _ _ _ h2 g2 he2 ?_ h5))⟩
      rw [vv S2 h2]
      show _ = if p < 0 then -1 else iR f (146 + p.toNat)
      rw [if_neg (by omega)]
      rfl
  rcases hp with zp | ⟨zp1, zp2⟩
  · exact T_oK_8 hst hb (hP_n hst hb (by rw [e2]; omega) (start 0 (Or.inl ⟨rfl, zp⟩)))
  · exact T_oK_8 hst hb (hP_y hst hb (by rw [e2, v0]; exact ⟨zp1, zp2⟩) (start 1 (Or.inr ⟨rfl, zp1, zp2⟩)))
end CQ
