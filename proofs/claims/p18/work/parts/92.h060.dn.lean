/-! BITS; NOTES; SMALL QUESTIONS TO A SUBURB -/
def wI (z : Int) : Int32 := Int32.ofInt z
theorem wI_of {x : Int32} {z : Int} (h : x.toInt = z) : x = wI z := by
  unfold wI
  rw [← h]
  exact (fb_asI x).symm
theorem wI_i {z : Int} (h : -2147483648 ≤ z ∧ z < 2147483648) : (wI z).toInt = z := fb_ofI h.1 h.2
theorem dB_bit {d : Int32} {j : Nat} (hj : j < 8) : dB d j = if d.toBitVec.getLsbD j = true then 1 else 0 := by
  unfold dB
  apply Int32.toBitVec_inj.mp
  have e : (d >>> nI j &&& 1).toBitVec = (if d.toBitVec.getLsbD j = true then 1#32 else 0#32) := by
    have hs : (d >>> nI j).toBitVec = d.toBitVec.sshiftRight j := by
      rw [Int32.toBitVec_shiftRight]
      have : ∀ j, j < 8 → ((nI j).toBitVec.smod 32).toNat = j := by decide
      show d.toBitVec.sshiftRight ((nI j).toBitVec.smod 32).toNat = _
      rw [this j hj]
    rw [Int32.toBitVec_and, hs]
    show d.toBitVec.sshiftRight j &&& 1#32 = _
    apply BitVec.eq_of_getLsbD_eq
    intro i hi
    rw [BitVec.getLsbD_and, BitVec.getLsbD_sshiftRight, BitVec.getLsbD_one]
    by_cases c : i = 0
    · subst c
      rw [Nat.add_zero]
      by_cases z : d.toBitVec.getLsbD j = true
      · rw [if_pos z, z]
        simp
        omega
      · rw [if_neg z]
        have z' : d.toBitVec.getLsbD j = false := by simpa using z
        rw [z']
        simp
        omega
    · have e0 : (if d.toBitVec.getLsbD j = true then 1#32 else 0#32).getLsbD i = false := by
        split
        · rw [BitVec.getLsbD_one]
          simp [c]
        · simp
      rw [e0]
      have c' : ¬ 0 = i := fun z => c z.symm
      split <;> simp [c, c']
  rw [e]
  split <;> rfl
theorem bit_1 {p j : Nat} (hp : p < 8) : ((1 : Int32) <<< (nI p &&& 31)).toBitVec.getLsbD j = decide (j = p ∧ j < 32) := by
  rw [sh1 p (by omega)]
  show (BitVec.ofNat 32 (2 ^ p)).getLsbD j = _
  rw [BitVec.getLsbD_ofNat, Nat.testBit_two_pow]
  by_cases c : p = j
  · subst c
    simp
  · have : ¬ j = p := fun z => c z.symm
    simp [c, this]
theorem dB_or {d : Int32} {p j : Nat} (hp : p < 8) (hj : j < 8) : dB (d ||| ((1 : Int32) <<< (nI p &&& 31))) j = if j = p then 1 else dB d j := by
  rw [dB_bit hj, dB_bit hj, Int32.toBitVec_or, BitVec.getLsbD_or, bit_1 hp]
  by_cases c : j = p
  · subst c
    have : j < 32 := by omega
    simp [this]
  · simp [c]
theorem dB_an {d : Int32} {p j : Nat} (hp : p < 8) (hj : j < 8) : dB (d &&& (~~~ ((1 : Int32) <<< (nI p &&& 31)))) j = if j = p then 0 else dB d j := by
  rw [dB_bit hj, dB_bit hj, Int32.toBitVec_and, Int32.toBitVec_not, BitVec.getLsbD_and, BitVec.getLsbD_not, bit_1 hp]
  have : j < 32 := by omega
  by_cases c : j = p
  · subst c
    simp [this]
  · simp [c, this]
theorem dB_01 {d : Int32} {j : Nat} (hj : j < 8) : dB d j = 0 ∨ dB d j = 1 := by
  rw [dB_bit hj]
  split
  · exact Or.inr rfl
  · exact Or.inl rfl
theorem n31 : ∀ p, p < 8 → nI p &&& 31 = nI p := by decide
theorem leV_congr_len {us us' : uL} {k : Nat} (h : us.length = us'.length) (hk : k < us.length) : k < us'.length := by omega
section DN
variable {Γ : kG} {Φ : kF} {S : hS} {a b g i u : Nat} {ρ ρa ρg : Nat → Nat} {us : uL}
theorem lgS.cg {us' : uL} (h : lgS Γ S g ρg us) (hl : us'.length = us.length) (he : ∀ k, (h1 : k < us.length) → (h2 : k < us'.length) → (us'[k]).1 = (us[k]).1 ∧ ∀ j, inLe j → (us'[k]).2 j = (us[k]).2 j) : lgS Γ S g ρg us' := by
  obtain ⟨nx, h1, h2, h3, h4, h5⟩ := h
  refine ⟨nx, h1, by omega, h3, by rw [hl]; exact h4, fun k hk => ?_⟩
  have hk' : k < us.length := by omega
  obtain ⟨e1, e2, d, β, e3, e4, e5⟩ := h5 k hk'
  obtain ⟨x1, x2⟩ := he k hk' hk
  rw [hl]
  exact ⟨by rw [x1]; exact e1, by rw [x1]; exact e2, d, β, e3, e4, fun j hj => by rw [x2 j hj]; exact e5 j hj⟩
theorem push_cg {x y : Nat × (Nat → Int32)} (h1 : x.1 = y.1) (h2 : ∀ j, inLe j → x.2 j = y.2 j) (h : lgS Γ S g ρg (pushU us x)) : lgS Γ S g ρg (pushU us y) := by
  have key : ∀ (vs : uL), ∀ k, (h1' : k < (vs ++ [x]).length) → (h2' : k < (vs ++ [y]).length) → ((vs ++ [y])[k]).1 = ((vs ++ [x])[k]).1 ∧ ∀ j, inLe j → ((vs ++ [y])[k]).2 j = ((vs ++ [x])[k]).2 j := by
    intro vs k h1' h2'
    by_cases c : k < vs.length
    · rw [List.getElem_append_left c, List.getElem_append_left c]
      exact ⟨rfl, fun j _ => rfl⟩
    · have : k = vs.length := by rw [List.length_append, List.length_singleton] at h1'; omega
      subst this
      rw [List.getElem_append_right (Nat.le_refl _), List.getElem_append_right (Nat.le_refl _)]
      simp only [Nat.sub_self, List.getElem_cons_zero]
      exact ⟨h1.symm, fun j hj => (h2 j hj).symm⟩
  refine h.cg (by unfold pushU; simp) (fun k k1 k2 => ?_)
  unfold pushU at k1 k2 ⊢
  exact key _ k k1 k2
/-- a log, or none, that holds us -/
def lgI (ρg : Nat → Nat) (Γ : kG) (Φ : kF) (S : hS) (u : Nat) (lg : Option Nat) (us : uL) : Prop := ∀ g, lg = some g → Γ g = some (3, 3, 0, 0, ρg) ∧ lgF S g ≤ u ∧ lgFr Γ Φ ∧ lgS Γ S g ρg us
def lgJ (ρg : Nat → Nat) (Γ' : kG) (S S' : hS) (lg : Option Nat) (us : uL) : Prop := ∀ g, lg = some g → lgN S' g + lgF S g ≤ lgN S g ∧ lgS Γ' S' g ρg us
theorem kx_X1_note {q : hS → Prop} {lg : Option Nat} {kd : Nat} {t : Int32} (h : St Γ Φ S) (hb : Γ b = some (8, 8 + 10000 * i, i, 0, ρ)) (hi : i < 10) (hl : lgI ρg Γ Φ S u lg us) (kd3 : kd ≤ 3) (et : t = nI kd) (k : ∀ Γ' S', gro Γ Φ Γ' → St Γ' Φ S' → lgJ ρg Γ' S S' lg (pushU us (kd, sV S b ρ)) → sam Γ lgNm S S' → q S') : w_X1_note q S u lg t (ρ 0) := by
  unfold w_X1_note
  refine ⟨fun e => k Γ S gro_rf h (fun g hg => by rw [e] at hg; cases hg) sam.rf, fun g hg => ?_⟩
  obtain ⟨kg, hu, hf, hs⟩ := hl g hg
  refine ⟨u, 0, rfl, T_oK_3 h kg (kx_X3_push h kg (P_8_0 h hb).2 hi hf hu hs kd3 et (fun Γ' S' g' h' n' l' m' => k Γ' S' g' h' (fun g2 hg2 => ?_) m'))⟩
  rw [hg] at hg2
  cases hg2
  exact ⟨n', push_cg (x := (kd, leV S (ρ 0) (bk 0 ρ))) rfl (fun j hj => (sV_le hj).symm) l'⟩
theorem kx_lives {q : Int32 → hS → Prop} {p : Nat} {v : Int32} (h : St Γ Φ S) (hb : Γ b = some (8, 8 + 10000 * i, i, 0, ρ)) (b1 : 0 ≤ iR (sV S b ρ) 1 ∧ iR (sV S b ρ) 1 ≤ 8) (ev : v = nI p) (hp : (p : Int) < iR (sV S b ρ) 1) (k1 : iR (sV S b ρ) (22 + p) = 0 → q 1 S) (k0' : ¬ iR (sV S b ρ) (22 + p) = 0 → q 0 S) : w_X8_lives q S b v := by
  subst ev
  have p8 : p < 8 := by omega
  have hk : dB (fI S (ρ 0) 4) p = sV S b ρ (22 + p) := sV_k (S := S) (b := b) (ρ := ρ) p8
  have z1 : dB (fI S (ρ 0) 4) p = 1 ↔ ¬ iR (sV S b ρ) (22 + p) = 0 := by
    unfold iR
    rw [← hk]
    rcases dB_01 (d := fI S (ρ 0) 4) p8 with e | e
    · rw [e]
      exact ⟨fun z => absurd z (by decide), fun z => absurd z0I z⟩
    · rw [e]
      exact ⟨fun _ => by decide, fun _ => rfl⟩
  unfold dB at z1
  unfold w_X8_lives
  refine T_oK_8 h hb (hP_y h hb (by rw [nI_toInt (by omega)]; omega) ⟨fun z => absurd z (by decide), fun _ => E_gP_8_0 h hb (fun hg => T_gI_2_4 h hg (fun x12 e12 _ => ?_))⟩)
  unfold w_X11_hasBit
  rw [n31 p p8, e12]
  have l31 : (31 : Int32) ≤ nI p ↔ 31 ≤ p := nI_leI (a := 31) (by omega) (by omega)
  rw [l31, z1]
  refine ⟨fun z => absurd z (nI_ltz (by omega)), fun _ => ⟨fun z => by omega, fun _ => ⟨fun z => ⟨fun z2 => absurd rfl z2, fun _ => k1 (by omega)⟩, fun z => ⟨fun _ => k0' z, fun z2 => absurd z2 (by decide)⟩⟩⟩⟩
theorem kx_rightsOf {q : Int32 → hS → Prop} {p hh : Nat} {v w : Int32} (h : St Γ Φ S) (hb : Γ b = some (8, 8 + 10000 * i, i, 0, ρ)) (hB : rB (sV S b ρ)) (ev : v = nI p) (ew : w = nI hh) (hp : (p : Int) < iR (sV S b ρ) 1) (hh' : (hh : Int) < iR (sV S b ρ) 0) (k : ∀ r : Int32, r = sV S b ρ (30 + 6 * p + hh) → q r S) : w_X8_rightsOf q S b v w := by
  subst ev
  subst ew
  have b1 := rB_1 hB
  have b0 := rB_0 hB
  unfold w_X8_rightsOf
  refine T_oK_8 h hb (hP_y h hb (by rw [nI_toInt (by omega)]; omega) ⟨fun z => absurd z (by decide), fun _ => T_oK_8 h hb (hH_y h hb (by rw [nI_toInt (by omega)]; omega) ⟨fun z => absurd z (by decide), fun _ => E_gP_8_0 h hb (fun hg => E_gP_2_0 h hg (fun _ => kx_slot (V_aI_r h hb (nI_toInt (by omega)) (by omega) (k _ (by rw [show 30 + (p * 6 + hh) = 30 + 6 * p + hh by omega])))))⟩)⟩)
theorem pN {f : Nat → Int32} {v : Int32} (h : 0 ≤ v.toInt ∧ v.toInt < iR f 1) (hB : rB f) : ∃ p : Nat, v = nI p ∧ (p : Int) < iR f 1 ∧ p < 8 := by
  have b1 := rB_1 hB
  obtain ⟨p, hp, e⟩ := pIx 8 (by omega) h.1 (by omega)
  refine ⟨p, e, ?_, hp⟩
  rw [e, nI_toInt (by omega)] at h
  exact h.2
theorem hN {f : Nat → Int32} {v : Int32} (h : 0 ≤ v.toInt ∧ v.toInt < iR f 0) (hB : rB f) : ∃ p : Nat, v = nI p ∧ (p : Int) < iR f 0 ∧ p < 6 := by
  have b0 := rB_0 hB
  obtain ⟨p, hp, e⟩ := pIx 6 (by omega) h.1 (by omega)
  refine ⟨p, e, ?_, hp⟩
  rw [e, nI_toInt (by omega)] at h
  exact h.2
end DN
