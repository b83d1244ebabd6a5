/-! LAYER 2: images and back on both sides -/
def imF (M : mS) (j : Nat) : Nat → Int32 := fun t => if 5585 * j ≤ t ∧ t < 5585 * j + 5585 then M.2.2.1 3 (t - 5585 * j) else M.2.2.1 4 t
def r01 (a : Int32) : Prop := 0 ≤ a.toInt ∧ a.toInt ≤ 1
section PIMG
variable {Γ Γ' : kG} {Φ : kF} {S S' : hS} {x o rs rs' : Nat} {ρ : Nat → Nat} {T T2 M : mS} {A : List Nat} {a b c d e : Int32} {r : Int32}
def Pim (M : mS) (a r : Int32) (T : mS) : Prop := (¬ r01 a ∧ r = -1 ∧ T = M) ∨ ∃ j, j ≤ 1 ∧ a = nI j ∧ r = 0 ∧ T = mA (mA M 4 (imF M j)) 5 (upd (M.2.2.1 5) j (vp_nar FieldType.boolean 1))
theorem cc_image {q : Int32 → hS → Prop} (hI : IV S x o M M) (hq : ∀ r T S', Pim M a r T → IV S' x o M T → q r S') : oK S x 11 ∧ w_X11_image q S x a := by
  by_cases ha : r01 a
  · obtain ⟨j, hj, rfl⟩ := pIx 2 (by omega) ha.1 (by have := ha.2; omega)
    obtain ⟨Γ, Φ, ρ, rs, hs, hf, hx, hT, hgo⟩ := hI.clx [11, 1216, 1202, 2 + 10000 * (2 + j), 300 + 10000 * (2 + j), 301 + 10000 * (2 + j), 302 + 10000 * (2 + j), 303 + 10000 * (2 + j), 8 + 10000 * (2 + j), 902 + 10000 * (2 + j), 903 + 10000 * (2 + j), 905 + 10000 * (2 + j), 906 + 10000 * (2 + j), 907 + 10000 * (2 + j), 908 + 10000 * (2 + j), 910 + 10000 * (2 + j), 911 + 10000 * (2 + j), 915 + 10000 * (2 + j)]
    refine T_oK_11 hs hx (kx_X11_image (by omega) hs hf hx (fun Γ' S' d ρd hg h' kd ed eo ev => hq 0 _ S' (Or.inr ⟨j, by omega, rfl, rfl, rfl⟩) (hgo Γ' S' rs _ (gro_or hg) h' (hg.1 _ _ hx) (fun hsam => ?_))))
    obtain ⟨h1, h2, h3, h4, h5, h6⟩ := hT
    have hb := (P_11_0 hs hx).2
    have ht := (P_11_4 hs hx).2
    refine ⟨(eqT.of (sV_sam hs hb hsam (by simp; omega))).tr h1, fun k hk => ?_, fun k b hk hb2 => ?_, ?_, fun i hi => ?_, h6⟩
    · rw [mA_3, if_pos rfl]
      unfold upd
      by_cases c : k = j
      · rw [if_pos c, c, ed]
        exact ⟨fun z => (by cases z), fun z => absurd z (by decide)⟩
      · rw [if_neg c, eo k c]
        exact h2 k hk
    · by_cases c : k = j
      · subst c
        rw [ed] at hb2
        cases hb2
        refine ⟨ρd, kd, fun i hi => ?_⟩
        have hi2 := hi
        unfold rTk at hi
        rw [ev, h1 i hi2]
        show _ = imF M k (5585 * k + i)
        unfold imF
        rw [if_pos (by omega), show 5585 * k + i - 5585 * k = i by omega]
      · rw [eo k c] at hb2
        obtain ⟨ρk, kb, e⟩ := h3 k b hk hb2
        refine ⟨ρk, hg.1 _ _ kb, (sV_tk (hsam.at hs kb (by simp; omega)) (hsam.at hs (P_8_8 hs kb).2 (by simp; omega))).tr (fun i hi => ?_)⟩
        rw [e i hi]
        unfold rTk at hi
        show _ = imF M j (5585 * k + i)
        unfold imF
        rw [if_neg (by omega)]
    · rw [fI_cell (hsam.at hs ht (by simp; omega))]; exact h4
    · rw [aV_cell (hsam.at hs (P_9_0 hs ht).2 (by simp; omega))]; exact h5 i hi
  · obtain ⟨Γ, Φ, ρ, rs, hs, hf, hx, hT, hgo⟩ := hI.clx [11, 1216]
    refine T_oK_11 hs hx ?_
    unfold w_X11_image
    exact kx_no (q := q) hs hf hx ha (fun S' h' hsam0 => hq _ M S' (Or.inl ⟨ha, rfl, rfl⟩) (hgo Γ S' rs M idO h' hx (fun hsam => hT.gs hs hx idG hsam (by decide) (eqT.of (sV_sam hs (P_11_0 hs hx).2 hsam (by simp))))))
theorem rc_image {q : Int32 → hS → Prop} (hI : IV S x o M T) (hP : Pim M a r T) (hq : ∀ S' N, IV S' x o N N → q r S') : oK S o 12 ∧ w_X12_image q S o a := by
  obtain ⟨ad, hd, hM, e, hN⟩ := hI.ref
  rw [← e]
  refine ⟨ov_oK, p_image hd hM (fun h1 N hm => ?_) (fun j hj ej N f f1 f2 hm => ?_)⟩
  · rcases hP with ⟨-, rfl, rfl⟩ | ⟨j, hj, ej, -⟩
    · exact hq _ N (hN N hm)
    · exfalso
      rw [ej, nI_toInt (by omega)] at h1
      omega
  · rcases hP with ⟨h, -⟩ | ⟨j', hj', ej', rfl, rfl⟩
    · exfalso
      apply h
      unfold r01
      rw [ej, nI_toInt (by omega)]
      omega
    · have : j' = j := nI_inj (by omega) (by omega) (ej'.symm.trans ej)
      subst this
      have ef : f = imF M j' := by
        funext t
        unfold imF
        by_cases c : 5585 * j' ≤ t ∧ t < 5585 * j' + 5585
        · rw [if_pos c, ← f1 (t - 5585 * j') (by omega), show 5585 * j' + (t - 5585 * j') = t by omega]
        · rw [if_neg c, f2 t (by omega)]
      subst ef
      exact hq _ N (hN N hm)
def Pba (M : mS) (a r : Int32) (T : mS) : Prop := (¬ r01 a ∧ r = -1 ∧ T = M) ∨ ∃ j, j ≤ 1 ∧ a = nI j ∧ ((M.2.2.1 5 j = 0 ∧ r = -2 ∧ T = M) ∨ (¬ M.2.2.1 5 j = 0 ∧ r = 0 ∧ T = mA M 3 (fun i => M.2.2.1 4 (5585 * j + i))))
theorem cc_back {q : Int32 → hS → Prop} (hI : IV S x o M M) (hq : ∀ r T S', Pba M a r T → IV S' x o M T → q r S') : oK S x 11 ∧ w_X11_back q S x a := by
  by_cases ha : r01 a
  · obtain ⟨j, hj, rfl⟩ := pIx 2 (by omega) ha.1 (by have := ha.2; omega)
    obtain ⟨Γ, Φ, ρ, rs, hs, hf, hx, hT, hgo⟩ := hI.clx [11, 1216, 3, 2 + 10000 * 0, 300 + 10000 * 0, 301 + 10000 * 0, 302 + 10000 * 0, 303 + 10000 * 0, 8 + 10000 * 0, 902 + 10000 * 0, 903 + 10000 * 0, 905 + 10000 * 0, 906 + 10000 * 0, 907 + 10000 * 0, 908 + 10000 * 0, 910 + 10000 * 0, 911 + 10000 * 0, 915 + 10000 * 0]
    have hA : ∀ n ∈ 9 :: 1000 :: BI, n ∉ [11, 1216, 3, 2 + 10000 * 0, 300 + 10000 * 0, 301 + 10000 * 0, 302 + 10000 * 0, 303 + 10000 * 0, 8 + 10000 * 0, 902 + 10000 * 0, 903 + 10000 * 0, 905 + 10000 * 0, 906 + 10000 * 0, 907 + 10000 * 0, 908 + 10000 * 0, 910 + 10000 * 0, 911 + 10000 * 0, 915 + 10000 * 0] := by decide
    refine T_oK_11 hs hx (kx_X11_back (by omega) hs hf hx (fun en S' h' hsam0 => hq _ M S' (Or.inr ⟨j, by omega, rfl, Or.inl ⟨(hT.2.1 j hj).mp en, rfl, rfl⟩⟩) (hgo Γ S' rs M idO h' hx (fun hsam => hT.gs hs hx idG hsam hA (eqT.of (sV_sam hs (P_11_0 hs hx).2 hsam0 (by simp)))))) (fun d ρd ed kd S' h' ev => hq _ _ S' (Or.inr ⟨j, by omega, rfl, Or.inr ⟨fun z => ?_, rfl, rfl⟩⟩) (hgo Γ S' rs _ idO h' hx (fun hsam => hT.gt hs hx idG hsam hA ?_))))
    · rw [(hT.2.1 j hj).mpr z] at ed
      cases ed
    · obtain ⟨ρk, kb, e⟩ := hT.2.2.1 j d hj ed
      rw [kd] at kb
      cases kb
      exact (eqT.of ev).tr e
  · obtain ⟨Γ, Φ, ρ, rs, hs, hf, hx, hT, hgo⟩ := hI.clx [11, 1216]
    refine T_oK_11 hs hx ?_
    unfold w_X11_back
    exact kx_no (q := q) hs hf hx ha (fun S' h' hsam0 => hq _ M S' (Or.inl ⟨ha, rfl, rfl⟩) (hgo Γ S' rs M idO h' hx (fun hsam => hT.gs hs hx idG hsam (by decide) (eqT.of (sV_sam hs (P_11_0 hs hx).2 hsam (by simp))))))
theorem rc_back {q : Int32 → hS → Prop} (hI : IV S x o M T) (hP : Pba M a r T) (hq : ∀ S' N, IV S' x o N N → q r S') : oK S o 12 ∧ w_X12_back q S o a := by
  obtain ⟨ad, hd, hM, e, hN⟩ := hI.ref
  rw [← e]
  refine ⟨ov_oK, p_back hd hM (fun h1 N hm => ?_) (fun j hj ej h0 N hm => ?_) (fun j hj ej h0 N hm => ?_)⟩
  · rcases hP with ⟨-, rfl, rfl⟩ | ⟨j, hj, ej, -⟩
    · exact hq _ N (hN N hm)
    · exfalso
      rw [ej, nI_toInt (by omega)] at h1
      omega
  all_goals
    rcases hP with ⟨h, -⟩ | ⟨j', hj', ej', hP⟩
    · exfalso
      apply h
      unfold r01
      rw [ej, nI_toInt (by omega)]
      omega
    · have : j' = j := nI_inj (by omega) (by omega) (ej'.symm.trans ej)
      subst this
      rcases hP with ⟨h2, hr, hT⟩ | ⟨h2, hr, hT⟩
      · first
          | exact absurd h2 h0
          | (subst hr; subst hT; exact hq _ N (hN N hm))
      · first
          | exact absurd h0 h2
          | (subst hr; subst hT; exact hq _ N (hN N hm))
/-! want -/
def waB (M : mS) (b : Int32) : Prop := b = -1 ∨ (0 ≤ b.toInt ∧ b.toInt < (M.2.2.1 3 0).toInt)
def waA (M : mS) (a : Int32) : Prop := 0 ≤ a.toInt ∧ a.toInt < (M.2.2.1 3 1).toInt
def Pwa (M : mS) (a b r : Int32) (T : mS) : Prop := T = M ∧ ((¬ waB M b ∧ r = -1) ∨ (waB M b ∧ ¬ waA M a ∧ r = -2) ∨ (waB M b ∧ waA M a ∧ r = 0))
theorem cc_want {q : Int32 → hS → Prop} (hI : IV S x o M M) (hq : ∀ r T S', Pwa M a b r T → IV S' x o M T → q r S') : oK S x 11 ∧ w_X11_want q S x a b := by
  obtain ⟨Γ, Φ, ρ, rs, hs, hf, hx, hT, hgo⟩ := hI.clx [11, 1216, 907]
  have hA : ∀ n ∈ 9 :: 1000 :: BI, n ∉ [11, 1216, 907] := by decide
  have hb := (P_11_0 hs hx).2
  have e0 : sV S (ρ 0) (bk 0 ρ) 0 = M.2.2.1 3 0 := hT.1 0 (Or.inl (by omega))
  have e1 : sV S (ρ 0) (bk 0 ρ) 1 = M.2.2.1 3 1 := hT.1 1 (Or.inl (by omega))
  have k : ∀ r S', ((¬ waB M b ∧ r = -1) ∨ (waB M b ∧ ¬ waA M a ∧ r = -2) ∨ (waB M b ∧ waA M a ∧ r = 0)) → St Γ Φ S' → eqT (sV S' (ρ 0) (bk 0 ρ)) (sV S (ρ 0) (bk 0 ρ)) → q r S' := fun r S' hp h' et => hq r M S' ⟨rfl, hp⟩ (hgo Γ S' rs M idO h' hx (fun hsam => hT.gs hs hx idG hsam hA et))
  have b22 : waB M b → w_X11_want_b22 q S x a b := by
    intro hb2
    unfold w_X11_want_b22
    refine E_gP_11_0 hs hx (fun _ => T_oK_8 hs hb (kx_X8_hasPerson hs hb (fun n0 => ⟨fun z => absurd rfl z, fun _ => T_oK_11 hs hx (kx_refuse hs (hf.sub (by simp)) hx (fun S' h' hsm => k _ S' (Or.inr (Or.inl ⟨hb2, by unfold waA; rw [← e1]; exact n0, rfl⟩)) h' (eqT.of (sV_sam hs hb hsm (by simp)))))⟩) (fun y1 y2 y3 => ⟨fun _ => ?_, fun z => absurd z (by decide)⟩)))
    obtain ⟨p, hp, rfl⟩ := pIx 8 (by omega) y1 (by omega)
    refine E_gP_11_0 hs hx (fun _ => E_gP_8_7 hs hb (fun _ => V_sI_n hs hb hf (by simp) (nI_toInt (by omega)) hp (fun S1 h1 v1 => T_oK_11 h1 hx (kx_accept h1 (hf.sub (by simp)) hx (fun S2 h2 s2 => k _ S2 (Or.inr (Or.inr ⟨hb2, ⟨y1, by rw [← e1]; exact y2⟩, rfl⟩)) h2 ((eqT.of (sV_sam h1 hb s2 (by simp))).tr (eqT.up v1 (by unfold rTk; omega))))))))
  refine T_oK_11 hs hx ?_
  unfold w_X11_want
  exact ⟨fun e => b22 (Or.inl e), fun ne => E_gP_11_0 hs hx (fun _ => T_oK_8 hs hb (kx_X8_hasHouse hs hb (fun n0 => ⟨fun z => absurd rfl z, fun _ => T_oK_11 hs hx (kx_refuse hs (hf.sub (by simp)) hx (fun S' h' hsm => k _ S' (Or.inl ⟨fun z => z.elim ne (fun z2 => n0 (by rw [e0]; exact z2)), rfl⟩) h' (eqT.of (sV_sam hs hb hsm (by simp)))))⟩) (fun y1 y2 _ => ⟨fun _ => b22 (Or.inr ⟨y1, by rw [← e0]; exact y2⟩), fun z => absurd z (by decide)⟩)))⟩
theorem rc_want {q : Int32 → hS → Prop} (hI : IV S x o M T) (hP : Pwa M a b r T) (hq : ∀ S' N, IV S' x o N N → q r S') : oK S o 12 ∧ w_X12_want q S o a b := by
  obtain ⟨rfl, hP⟩ := hP
  obtain ⟨ad, hd, hM, e, hN⟩ := hI.ref
  rw [← e]
  refine ⟨ov_oK, p_want hd hM (fun h1 N hm => ?_) (fun h1 h2 N hm => ?_) (fun h1 h2 N hm => ?_)⟩
  · rcases hP with ⟨-, rfl⟩ | ⟨h, -⟩ | ⟨h, -⟩
    · exact hq _ N (hN N hm)
    · exact absurd h h1
    · exact absurd h h1
  · rcases hP with ⟨h, -⟩ | ⟨-, -, rfl⟩ | ⟨-, h, -⟩
    · exact absurd h1 h
    · exact hq _ N (hN N hm)
    · exact absurd h h2
  · rcases hP with ⟨h, -⟩ | ⟨-, h, -⟩ | ⟨-, -, rfl⟩
    · exact absurd h1 h
    · exact absurd h2 h
    · exact hq _ N (hN N hm)
end PIMG
/-! law, orders, terms, force: the tape's length, other places of the row -/
def logN : List Nat := [3, 400, 401] ++ (List.range 16).flatMap (fun j => [2 + 10000 * (10 + j), 300 + 10000 * (10 + j), 301 + 10000 * (10 + j), 302 + 10000 * (10 + j), 303 + 10000 * (10 + j)])
theorem lgFr_of {Γ : kG} {Φ : kF} {L : List Nat} (h : fre Γ Φ (L ++ logN)) : lgFr Γ Φ :=
  ⟨h.sub (fun x hx => List.mem_append_right _ (List.mem_append_left _ hx)), fun j hj => h.sub (fun x hx => List.mem_append_right _ (List.mem_append_right _ (List.mem_flatMap.mpr ⟨j, List.mem_range.mpr hj, hx⟩)))⟩
theorem fre_l {Γ : kG} {Φ : kF} {L : List Nat} (h : fre Γ Φ (L ++ logN)) : fre Γ Φ L := h.sub (fun _ hx => List.mem_append_left _ hx)
