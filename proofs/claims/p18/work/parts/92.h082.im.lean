/-! IMAGE, BACK AS CALLS -/
def spImage (a : Int32) (T : aS) : Int32 × aS := if ¬ inB a 0 1 then spRef 1 T else spAcc 0 (T.1, (fun k => if k = a.toInt.toNat then some T.1 else T.2.1 k), T.2.2)
def spBack (a : Int32) (T : aS) : Int32 × aS := if ¬ inB a 0 1 then spRef 1 T else match T.2.1 a.toInt.toNat with
  | none => spRef 2 T
  | some t => spAcc 0 (aCl (t, T.2))
def imgN : List Nat := [11, 1216, 3, 1202] ++ sbN 0 ++ sbN 2 ++ sbN 3
section IM
variable {Γ Γ' : kG} {Φ : kF} {S S' : hS} {x a b b' c n i i' rs o j d : Nat} {ρ ρ' ρg β ρa ρd : Nat → Nat} {A : List Nat} {T : aS} {t : sW} {tx : Nat → Nat}
theorem CR.cp (h : CR Γ S x ρ rs T) (hs : St Γ Φ S) (hm : sam Γ (sbN 0) S S') (ht : subR Γ S' (ρ 0) 0 (bk 0 ρ) t) : CR Γ S' x ρ rs (t, T.2) := by
  obtain ⟨hx, h1, h2, h3, h4, h5, h6, h7, h8⟩ := h
  exact ⟨hx, ht, h2.sm hs hx gro_rf hm (by decide), h3.sg hs (P_11_3 hs hx).2 gro_rf hm (by decide), h4.sm hs (P_11_4 hs hx).2 hm (by decide), h5.sm hs hx hm (by decide), h6.sm hs hx hm (by decide), h7.sm hs hx hm (by decide), h8⟩
theorem in01 {v : Int32} (h : inB v 0 1) : ∃ j, (j = 0 ∨ j = 1) ∧ v = nI j ∧ v.toInt.toNat = j := by
  unfold inB at h
  refine ⟨v.toInt.toNat, by omega, ?_, rfl⟩
  apply Int32.toInt_inj.mp
  rw [nI_toInt (by omega)]
  omega
theorem cx_back {q : Int32 → hS → Prop} {v : Int32} (h : CR Γ S x ρ rs T) (hs : St Γ Φ S) (hf : fre Γ Φ imgN) (k : ∀ S', St Γ Φ S' → CR Γ S' x ρ rs (spBack v T).2 → q (spBack v T).1 S') : w_X11_back q S x v := by
  have hx := h.1
  have frf : fre Γ Φ [11, 1216] := hf.sub (by decide)
  have t1 : (1 : Int32).toInt = 1 := by decide
  unfold w_X11_back
  by_cases c : inB v 0 1
  rotate_left
  · have e0 : spBack v T = spRef 1 T := if_pos c
    rw [e0] at k
    exact isW (fun y => absurd (by rw [t1] at y; exact y) c) (fun _ => ⟨fun z => absurd rfl z, fun _ => T_oK_11 hs hx (cx_refuse h hs frf (n := 1) rfl (by omega) (fun S' s' _ c' => k S' s' c'))⟩)
  obtain ⟨j, j01, ev, ej⟩ := in01 c
  have e0 : spBack v T = (match T.2.1 j with
    | none => spRef 2 T
    | some t => spAcc 0 (aCl (t, T.2))) := by
    unfold spBack
    rw [if_neg (fun z => z c), ej]
  subst ev
  obtain ⟨i1, i2⟩ := h.2.2.1 j (by omega)
  refine isW (fun _ => ⟨fun _ => E_gP_11_2 hs hx (fun hk => T_aR_26 hs hk (by rw [nI_toInt (by omega)]; omega) (fun y ey hy => ?_)), fun z => absurd z (by decide)⟩) (fun y => absurd (by rw [t1, nI_toInt (by omega)]; omega) y)
  rw [nI_clamp (by omega)] at ey
  cases et : T.2.1 j with
  | none =>
    rw [et] at e0
    rw [e0] at k
    rw [i1 et] at ey
    subst ey
    exact ⟨fun _ => T_oK_11 hs hx (cx_refuse h hs frf (n := 2) rfl (by omega) (fun S' s' _ c' => k S' s' c')), fun b hb => by cases hb⟩
  | some t =>
    rw [et] at e0
    rw [e0] at k
    obtain ⟨b, ρk, f1, f2⟩ := i2 t et
    rw [f1] at ey
    subst ey
    refine ⟨fun z => (by cases z), fun b22 hb => ?_⟩
    cases hb
    refine E_gP_11_0 hs hx (fun k0 => T_oK_8 hs k0 (kx_copyW hs f2 k0 (by omega) (hf.sub (by decide)) (fun S1 s1 m1 w1 => E_gP_11_3 s1 hx (fun k3 => T_oK_3 s1 k3 ?_))))
    have h1 := h.cp hs m1 w1
    have h1' : CR Γ S1 x ρ rs (t, T.2) := h1
    exact cx_clear h1' s1 (hf.sub (by decide)) (fun S2 s2 m2 h2 => T_oK_11 s2 hx (cx_accept h2 s2 (hf.sub (by decide)) (fun S3 s3 _ c3 => k S3 s3 c3)))
/-- the image j is at d; the others are as im says -/
def imX (Γ : kG) (S : hS) (ρ : Nat → Nat) (im : Nat → Option sW) (j : Nat) : Prop := ∀ k, k < 2 → k ≠ j → (im k = none → aO S (ρ 2) k = none) ∧ ∀ t, im k = some t → ∃ b ρk, aO S (ρ 2) k = some b ∧ subR Γ S b (2 + k) ρk t
theorem cx_image36 {q : Int32 → hS → Prop} (j01 : j = 0 ∨ j = 1) (hs : St Γ Φ S) (hf : fre Γ Φ imgN) (hx : Γ x = some (11, 11, 0, rs, ρ)) (h1 : subR Γ S (ρ 0) 0 (bk 0 ρ) T.1) (h2 : imX Γ S ρ T.2.1 j) (h3 : lgS Γ S (ρ 3) (bk 3 ρ) T.2.2.1) (h4 : tpS S (ρ 4) (bk 4 ρ) T.2.2.2.1) (h5 : scR S x T.2.2.2.2.1) (h6 : rfR S ρ T.2.2.2.2.2.1) (h7 : drR S ρ T.2.2.2.2.2.2) (h8 : bk 5 ρ 1 = ρ 4 ∧ ∀ y ∈ T.2.2.1, rB y.2) (hd : aO S (ρ 2) j = some d) (kd : Γ d = some (8, 8 + 10000 * (2 + j), 2 + j, 0, ρd)) (k : ∀ S', St Γ Φ S' → CR Γ S' x ρ rs (spAcc 0 (T.1, (fun k => if k = j then some T.1 else T.2.1 k), T.2.2)).2 → q 0 S') : w_X11_image_b36 q S x (nI j) := by
  have hk2 := (P_11_2 hs hx).2
  unfold w_X11_image_b36
  refine E_gP_11_2 hs hx (fun hk => T_aR_26 hs hk (by rw [nI_toInt (by omega)]; omega) (fun y ey hy => E_gP_11_0 hs hx (fun _ => ?_)))
  rw [nI_clamp (by omega), hd] at ey
  subst ey
  refine dQ_s (T_oK_8 hs kd (kx_copyW hs h1 kd (by omega) (hf.sub (by rcases j01 with rfl | rfl <;> decide)) (fun S1 s1 m1 w1 => ?_)))
  have w2 := m1.at hs hk2 (by rcases j01 with rfl | rfl <;> decide)
  have c1 : CR Γ S1 x ρ rs (T.1, (fun k => if k = j then some T.1 else T.2.1 k), T.2.2) := by
    refine ⟨hx, h1.sm hs gro_rf m1 (by rcases j01 with rfl | rfl <;> decide), fun k' hk' => ?_, h3.sg hs (P_11_3 hs hx).2 gro_rf m1 (by rcases j01 with rfl | rfl <;> decide), h4.sm hs (P_11_4 hs hx).2 m1 (by rcases j01 with rfl | rfl <;> decide), h5.sm hs hx m1 (by rcases j01 with rfl | rfl <;> decide), h6.sm hs hx m1 (by rcases j01 with rfl | rfl <;> decide), h7.sm hs hx m1 (by rcases j01 with rfl | rfl <;> decide), h8⟩
    dsimp only
    by_cases e : k' = j
    · subst e
      rw [if_pos rfl]
      refine ⟨fun z => (by cases z), fun t ht => ?_⟩
      cases ht
      exact ⟨d, ρd, by rw [aO_cell w2]; exact hd, w1⟩
    · rw [if_neg e]
      obtain ⟨y1, y2⟩ := h2 k' hk' e
      refine ⟨fun z => by rw [aO_cell w2]; exact y1 z, fun t ht => ?_⟩
      obtain ⟨b, ρk, z1, z2⟩ := y2 t ht
      have k01 : (k' = 0 ∧ j = 1) ∨ (k' = 1 ∧ j = 0) := by omega
      exact ⟨b, ρk, by rw [aO_cell w2]; exact z1, z2.sm hs gro_rf m1 (by rcases k01 with ⟨rfl, rfl⟩ | ⟨rfl, rfl⟩ <;> decide)⟩
  exact T_oK_11 s1 hx (cx_accept c1 s1 (hf.sub (by decide)) (fun S2 s2 _ c2 => k S2 s2 c2))
set_option maxRecDepth 16384 in
theorem cx_image {q : Int32 → hS → Prop} {v : Int32} (h : CR Γ S x ρ rs T) (hs : St Γ Φ S) (hf : fre Γ Φ imgN) (k : ∀ Γ' S', gro Γ Φ Γ' → St Γ' Φ S' → CR Γ' S' x ρ rs (spImage v T).2 → q (spImage v T).1 S') : w_X11_image q S x v := by
  have hx := h.1
  have frf : fre Γ Φ [11, 1216] := hf.sub (by decide)
  have t1 : (1 : Int32).toInt = 1 := by decide
  unfold w_X11_image
  by_cases c : inB v 0 1
  rotate_left
  · have e0 : spImage v T = spRef 1 T := if_pos c
    rw [e0] at k
    exact isW (fun y => absurd (by rw [t1] at y; exact y) c) (fun _ => ⟨fun z => absurd rfl z, fun _ => T_oK_11 hs hx (cx_refuse h hs frf (n := 1) rfl (by omega) (fun S' s' _ c' => k Γ S' gro_rf s' c'))⟩)
  obtain ⟨j, j01, ev, ej⟩ := in01 c
  have e0 : spImage v T = spAcc 0 (T.1, (fun k => if k = j then some T.1 else T.2.1 k), T.2.2) := by
    unfold spImage
    rw [if_neg (fun z => z c), ej]
  rw [e0] at k
  subst ev
  obtain ⟨-, h1, h2, h3, h4, h5, h6, h7, h8⟩ := id h
  obtain ⟨i1, i2⟩ := h2 j (by omega)
  have hk2 := (P_11_2 hs hx).2
  refine isW (fun _ => ⟨fun _ => E_gP_11_2 hs hx (fun hk => T_aR_26 hs hk (by rw [nI_toInt (by omega)]; omega) (fun y ey hy => ?_)), fun z => absurd z (by decide)⟩) (fun y => absurd (by rw [t1, nI_toInt (by omega)]; omega) y)
  rw [nI_clamp (by omega)] at ey
  refine ⟨fun e => E_gP_11_2 hs hx (fun _ => St_nO (frz_St (L := []) hs) (fun d S1 hN _ => ki_X8 (2 + j) hN (fun Γ2 S2 ρd g2 t2 s2' _ => ?_))), fun d hd => ?_⟩
  · have g2' := frz_gro hs g2
    obtain ⟨s2, m2⟩ := frz_un hs s2'
    obtain ⟨hx2, y1, y2, y3, y4, y5, y6, y7, y8⟩ := h.sm hs g2' m2 (by decide)
    refine T_stR_26 (frz_St (L := [1202]) s2) (frz_fre ((hf.gr g2').sub (by decide)) (fun _ y => y)) (L := [1202]) (g2'.1 _ _ hk2) (by simp) (by rw [nI_toInt (by omega)]; omega) (fun b hb => by cases hb; rw [nI_clamp (by omega)]; exact ⟨ρd, t2⟩) (fun S3 s3' q3 a3 o3 p3 => ?_)
    obtain ⟨s3, m3⟩ := frz_un s2 s3'
    rw [nI_clamp (by omega)] at p3
    refine cx_image36 (T := T) j01 s3 (hf.gr g2') hx2 (y1.sm s2 gro_rf m3 (by decide)) (fun k' hk' ne => ?_) (y3.sg s2 (P_11_3 s2 hx2).2 gro_rf m3 (by decide)) (y4.sm s2 (P_11_4 s2 hx2).2 m3 (by decide)) (y5.sm s2 hx2 m3 (by decide)) (y6.sm s2 hx2 m3 (by decide)) (y7.sm s2 hx2 m3 (by decide)) y8 (by rw [p3, if_pos rfl]) t2 (fun S4 s4 c4 => k Γ2 S4 g2' s4 c4)
    obtain ⟨z1, z2⟩ := y2 k' hk'
    refine ⟨fun z => by rw [p3, if_neg ne]; exact z1 z, fun t ht => ?_⟩
    obtain ⟨b, ρk, u1, u2⟩ := z2 t ht
    have k01 : k' = 0 ∨ k' = 1 := by omega
    exact ⟨b, ρk, by rw [p3, if_neg ne]; exact u1, u2.sm s2 gro_rf m3 (by rcases k01 with rfl | rfl <;> decide)⟩
  · obtain ⟨ρd, kd⟩ := hy d hd
    rw [nI_clamp (by omega)] at kd
    exact cx_image36 (T := T) j01 hs hf hx h1 (fun k' hk' _ => h2 k' hk') h3 h4 h5 h6 h7 h8 (ey.symm.trans hd) kd (fun S4 s4 c4 => k Γ S4 gro_rf s4 c4)
end IM
