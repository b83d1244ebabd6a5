/-! PERSON, CLUE, TERMS AS CALLS -/
theorem rB_person {f : Nat → Int32} {p a m : Int32} (hB : rB f) (hn : iR f 1 < 8) (hp : inB p 0 24) (ha : inB a 0 99) (hm : inB m 0 999) : rB (psX f (nPR f) p a m) := by
  obtain ⟨h1, h2, h3, h4, h5, h6⟩ := id hB
  have b1 := rB_1 hB
  obtain ⟨n, en, hn8⟩ : ∃ n, n = nPR f ∧ n < 8 := ⟨_, rfl, by unfold nPR; omega⟩
  rw [← en]
  unfold inB at hp ha hm
  have at' : ∀ i, iR (psX f n p a m) i = if i = 22 + n then 0 else if i = 1 then (n : Int) + 1 else if i = 138 + n then p.toInt else if i = 146 + n then a.toInt else if i = 154 + n then -1 else if i = 162 + n then 0 else if i = 14 + n then m.toInt else if 30 ≤ i ∧ i < 126 ∧ ((i - 30) / 6) % 8 = n then 0 else iR f i := by
    intro i
    unfold iR psX psR
    repeat' split
    all_goals first | rfl | (rw [nI_toInt (by omega)]; omega) | exact z0I
  have hb : ∀ n, n < 8 → (rHi (22 + n) = 1 ∧ rHi (138 + n) = 24 ∧ rHi (146 + n) = 99 ∧ rHi (154 + n) = 5 ∧ rHi (162 + n) = 255 ∧ rHi (14 + n) = 999) ∧ rLo (22 + n) = 0 ∧ rLo (138 + n) = 0 ∧ rLo (146 + n) = 0 ∧ rLo (154 + n) = -1 ∧ rLo (162 + n) = 0 ∧ rLo (14 + n) = 0 := by decide
  obtain ⟨⟨b22, b138, b146, b154, b162, b14⟩, l22, l138, l146, l154, l162, l14⟩ := hb n hn8
  have ot : ∀ i, (i = 3 ∨ i = 4 ∨ 170 ≤ i) → iR (psX f n p a m) i = iR f i := fun i hi => by
    rw [at', if_neg (by omega), if_neg (by omega), if_neg (by omega), if_neg (by omega), if_neg (by omega), if_neg (by omega), if_neg (by omega), if_neg (by omega)]
  refine ⟨fun j hj => ?_, by rw [ot _ (by omega), ot _ (by omega)]; exact h2, fun k hk => by rw [ot _ (by omega)]; exact h3 k hk, fun q hq => ?_, fun j hj => ?_, fun q hq => ?_⟩
  · rw [at']
    have := h1 j hj
    split
    · rename_i e; rw [e, b22, l22]; omega
    split
    · rename_i e; rw [e, show rHi 1 = 8 by decide, show rLo 1 = 0 by decide]; omega
    split
    · rename_i e; rw [e, b138, l138]; exact hp
    split
    · rename_i e; rw [e, b146, l146]; exact ha
    split
    · rename_i e; rw [e, b154, l154]; omega
    split
    · rename_i e; rw [e, b162, l162]; omega
    split
    · rename_i e; rw [e, b14, l14]; exact hm
    split
    · rename_i e
      have lo : rLo j = 0 ∧ rHi j = 99 := by
        by_cases c : j < 78
        · exact hi_r ⟨e.1, c⟩
        · exact hi_u ⟨by omega, e.2.1⟩
      rw [lo.1, lo.2]; omega
    · exact this
  · rw [at']
    have := h4 q hq
    by_cases c : q = n
    · subst c
      rw [if_neg (by omega), if_neg (by omega), if_neg (by omega), if_neg (by omega), if_pos rfl]; omega
    · rw [if_neg (by omega), if_neg (by omega), if_neg (by omega), if_neg (by omega), if_neg (by omega), if_neg (by omega), if_neg (by omega), if_neg (by omega)]; exact this
  · have := h5 j hj
    have e1 : ∀ i, 30 ≤ i → i < 126 → iR (psX f n p a m) i = if ((i - 30) / 6) % 8 = n then 0 else iR f i := by
      intro i i1 i2
      rw [at', if_neg (by omega), if_neg (by omega), if_neg (by omega), if_neg (by omega), if_neg (by omega), if_neg (by omega), if_neg (by omega)]
      by_cases c : ((i - 30) / 6) % 8 = n
      · rw [if_pos (by omega), if_pos c]
      · rw [if_neg (by omega), if_neg c]
    rw [e1 _ (by omega) (by omega), e1 _ (by omega) (by omega)]
    by_cases c : ((30 + j - 30) / 6) % 8 = n
    · rw [if_pos (by omega), if_pos c]; exact Int.le_refl _
    · rw [if_neg (by omega), if_neg c]; exact this
  · by_cases c : q = n
    · subst c
      have e : psX f q p a m (162 + q) = 0 := by
        unfold psX psR
        rw [if_neg (by omega), if_neg (by omega), if_neg (by omega), if_neg (by omega), if_neg (by omega), if_pos rfl]
      rw [e]
      have : ∀ q, q < 8 → dB 0 q ≠ 1 := by decide
      exact this q hq
    · have e : psX f n p a m (162 + q) = f (162 + q) := by
        unfold psX psR
        rw [if_neg (by omega), if_neg (by omega), if_neg (by omega), if_neg (by omega), if_neg (by omega), if_neg (by omega), if_neg (by omega), if_neg (by omega)]
      rw [e]
      exact h6 q hq
section SV
variable {Γ Γ' : kG} {Φ : kF} {S S' : hS} {x a b b' c n i i' rs o : Nat} {ρ ρ' ρg β ρa : Nat → Nat} {A : List Nat} {T : aS} {t : sW} {tx : Nat → Nat}
theorem cx_addPerson {q : Int32 → hS → Prop} {v w u : Int32} (h : CR Γ S x ρ rs T) (hs : St Γ Φ S) (hf : fre Γ Φ tnN) (c3 : iR T.1.1 1 < 8) (c1 : inB v 0 24 ∧ inB w 0 99 ∧ inB u 0 999) (k : ∀ S', St Γ Φ S' → sam Γ tnN S S' → CR Γ S' x ρ rs (aTn (psX T.1.1 (nPR T.1.1) v w u) T) → q (nI (nPR T.1.1)) S') : w_X8_addPerson q S (ρ 0) v w u := by
  have b1 := rB_1 h.2.1.2.2.1
  have w2 := h.2.1.2.1
  refine kx_addPerson2 (frz_St (L := tnN) hs) h.2.1.1 (frz_fre2 (hf.sub (by decide)) (by decide)) (fun z => absurd c3 (by rw [w2] at z; exact z)) (fun n S2 hn en s2' ev => ?_)
  obtain ⟨s2, m2⟩ := frz_un hs s2'
  rw [w2] at en ev
  have en' : n = nPR T.1.1 := by
    unfold nPR iR
    rw [show T.1.1 1 = nI n from en, nI_toInt (by omega)]
    omega
  subst en'
  exact k S2 s2 m2 (h.tw hs m2 tnN_ok ev (rB_person h.2.1.2.2.1 c3 c1.1 c1.2.1 c1.2.2) (by unfold psX psR; rw [if_neg (by omega), if_neg (by omega), if_neg (by omega), if_neg (by omega), if_neg (by omega), if_neg (by omega), if_neg (by omega), if_neg (by omega)]))
theorem cx_person {q : Int32 → hS → Prop} {v w u : Int32} (h : CR Γ S x ρ rs T) (hs : St Γ Φ S) (hf : fre Γ Φ ([11, 1216, 3] ++ tnN)) (k : ∀ S', St Γ Φ S' → CR Γ S' x ρ rs (spPerson v w u T).2 → q (spPerson v w u T).1 S') : w_X11_person q S x v w u := by
  have hx := h.1
  have t1 := h.2.1.1
  have t2 := h.2.1.2.1
  have b1 := rB_1 h.2.1.2.2.1
  have frf : fre Γ Φ [11, 1216] := hf.sub (by decide)
  have b28 : spPerson v w u T = spRef 1 T → w_X11_person_b28 q S x := fun e => by
    rw [e] at k
    exact T_oK_11 hs hx (cx_refuse h hs frf (n := 1) rfl (by omega) (fun S' s' _ c' => k S' s' c'))
  have c24 : (24 : Int32).toInt = 24 := by decide
  have c99 : (99 : Int32).toInt = 99 := by decide
  have c999 : (999 : Int32).toInt = 999 := by decide
  have t8 : (8 : Int32).toInt = 8 := by decide
  unfold w_X11_person
  refine isW (fun c1 => ⟨fun z => absurd z (by decide), fun _ => isW (fun c2 => ⟨fun z => absurd z (by decide), fun _ => isW (fun c2' => ⟨fun _ => E_gP_11_0 hs hx (fun _ => V_gI_4 hs t1 (fun _ => ?_)), fun z => absurd z (by decide)⟩) (fun c2' => ⟨fun z => absurd rfl z, fun _ => b28 (if_pos (fun z => c2' (by rw [c999]; exact z.2.2)))⟩)⟩) (fun c2 => ⟨fun _ => b28 (if_pos (fun z => c2 (by rw [c99]; exact z.2.1))), fun z => absurd rfl z⟩)⟩) (fun c1 => ⟨fun _ => b28 (if_pos (fun z => c1 (by rw [c24]; exact z.1))), fun z => absurd rfl z⟩)
  rw [c24] at c1
  rw [c99] at c2
  rw [c999] at c2'
  rw [t2, Int32.lt_iff_toInt_lt, t8, iR_i]
  have e0 : spPerson v w u T = (if iR T.1.1 1 < 8 then spAcc (nI (nPR T.1.1)) (aTn (psX T.1.1 (nPR T.1.1) v w u) (aCl T)) else spRef 5 T) := if_neg (fun z => z ⟨c1, c2, c2'⟩)
  refine ⟨fun c3 => ?_, fun c3 => ?_⟩
  · rw [if_pos c3] at e0
    rw [e0] at k
    refine E_gP_11_3 hs hx (fun k3 => T_oK_3 hs k3 (cx_clear h hs (hf.sub (by decide)) (fun S1 s1 m1 h1 => E_gP_11_0 s1 hx (fun k0 => T_oK_8 s1 k0 (cx_addPerson h1 s1 (hf.sub (by decide)) c3 ⟨c1, c2, c2'⟩ (fun S2 s2 m2 h2 => T_oK_11 s2 hx (cx_accept h2 s2 (hf.sub (by decide)) (fun S3 s3 _ c3 => k S3 s3 c3))))))))
  · rw [if_neg c3] at e0
    rw [e0] at k
    exact T_oK_11 hs hx (cx_refuse h hs frf (n := 5) rfl (by omega) (fun S' s' _ c' => k S' s' c'))
theorem cx_clue {q : Int32 → hS → Prop} {v w : Int32} (h : CR Γ S x ρ rs T) (hs : St Γ Φ S) (hf : fre Γ Φ ([11, 1216, 3] ++ tnN)) (k : ∀ S', St Γ Φ S' → CR Γ S' x ρ rs (spClue v w T).2 → q (spClue v w T).1 S') : w_X11_clue q S x v w := by
  have hx := h.1
  have t1 := h.2.1.1
  have t2 := h.2.1.2.1
  have hB := h.2.1.2.2.1
  have b0 := rB_0 hB
  have r2 := hB.1 2 (by omega)
  rw [show rHi 2 = 6 by decide, show rLo 2 = 0 by decide] at r2
  have frf : fre Γ Φ [11, 1216] := hf.sub (by decide)
  have c99 : (99 : Int32).toInt = 99 := by decide
  have t6 : (6 : Int32).toInt = 6 := by decide
  unfold w_X11_clue
  refine isW (fun c1 => ⟨fun _ => E_gP_11_0 hs hx (fun k0 => T_oK_8 hs k0 ?_), fun z => absurd z (by decide)⟩) (fun c1 => ⟨fun z => absurd rfl z, fun _ => ?_⟩)
  rotate_left
  · have e0 : spClue v w T = spRef 1 T := if_pos (fun z => c1 (by rw [c99]; exact z))
    rw [e0] at k
    exact T_oK_11 hs hx (cx_refuse h hs frf (n := 1) rfl (by omega) (fun S' s' _ c' => k S' s' c'))
  rw [c99] at c1
  have e0 : spClue v w T = (if ¬ (0 ≤ v.toInt ∧ v.toInt < iR T.1.1 0) then spRef 2 T else if iR T.1.1 2 < 6 then spAcc (nI ((iR T.1.1 2).toNat + 1)) (aTn (upd (upd (upd T.1.1 (170 + 2 * (iR T.1.1 2).toNat) v) (171 + 2 * (iR T.1.1 2).toNat) w) 2 (nI ((iR T.1.1 2).toNat + 1))) T) else spRef 5 T) := if_neg (fun z => z c1)
  by_cases c : 0 ≤ v.toInt ∧ v.toInt < iR T.1.1 0
  rotate_left
  · rw [if_pos c] at e0
    rw [e0] at k
    exact hH_n hs t1 (by rw [t2]; exact c) ⟨fun z => absurd rfl z, fun _ => T_oK_11 hs hx (cx_refuse h hs frf (n := 2) rfl (by omega) (fun S' s' _ c' => k S' s' c'))⟩
  rw [if_neg (fun z => z c)] at e0
  refine hH_y hs t1 (by rw [t2]; exact c) ⟨fun _ => E_gP_11_0 hs hx (fun _ => V_gI_9 hs t1 (fun _ => ?_)), fun z => absurd z (by decide)⟩
  rw [t2, Int32.lt_iff_toInt_lt, t6, iR_i]
  refine ⟨fun c3 => ?_, fun c3 => ?_⟩
  rotate_left
  · rw [if_neg c3] at e0
    rw [e0] at k
    exact T_oK_11 hs hx (cx_refuse h hs frf (n := 5) rfl (by omega) (fun S' s' _ c' => k S' s' c'))
  rw [if_pos c3] at e0
  rw [e0] at k
  obtain ⟨n, en⟩ : ∃ n, n = (iR T.1.1 2).toNat := ⟨_, rfl⟩
  rw [← en] at k
  have fn : T.1.1 2 = nI n := by
    apply Int32.toInt_inj.mp
    rw [nI_toInt (by omega), iR_i]
    omega
  have hst := frz_St (L := tnN) hs
  have hfr : fre Γ (frz Γ Φ S tnN) tnN := frz_fre2 (hf.sub (by decide)) (fun _ y => y)
  refine E_gP_11_0 hst hx (fun _ => E_gP_8_10 hst t1 (fun _ => E_gP_11_0 hst hx (fun _ => V_gI_9 hst t1 (fun _ => ?_))))
  rw [t2, fn]
  refine V_sI_c hst t1 hfr (by decide) (nI_toInt (by omega)) (by omega) (by omega) (fun S1 s1 v1 => E_gP_11_0 s1 hx (fun _ => E_gP_8_11 s1 t1 (fun _ => E_gP_11_0 s1 hx (fun _ => V_gI_9 s1 t1 (fun _ => ?_)))))
  have y1 : sV S1 (ρ 0) (bk 0 ρ) 2 = nI n := by rw [v1, upd_ne _ _ (by omega), t2]; exact fn
  rw [y1]
  refine V_sI_d s1 t1 hfr (by decide) (nI_toInt (by omega)) (by omega) (fun S2 s2 v2 => E_gP_11_0 s2 hx (fun _ => V_gI_9 s2 t1 (fun _ => ?_)))
  have y2 : sV S2 (ρ 0) (bk 0 ρ) 2 = nI n := by rw [v2, upd_ne _ _ (by omega)]; exact y1
  rw [y2, nI_1]
  refine V_pI_9 s2 t1 hfr (by decide) (by rw [nI_toInt (by omega)]; omega) (fun S3 s3 v3 => E_gP_11_0 s3 hx (fun _ => V_gI_9 s3 t1 (fun _ => ?_)))
  have y3 : sV S3 (ρ 0) (bk 0 ρ) 2 = nI (n + 1) := by rw [v3]; exact upd_self _ _ _
  rw [y3]
  obtain ⟨s3', m3⟩ := frz_un hs s3
  rw [v2, v1, t2] at v3
  have hl : ∀ k, k < 6 → rLo (170 + 2 * k) = 0 ∧ rHi (170 + 2 * k) = 99 ∧ rLo (171 + 2 * k) = 0 ∧ rHi (171 + 2 * k) = 99 := by decide
  obtain ⟨l1, l2, l3, l4⟩ := hl n (by omega)
  have hB1 : rB (upd T.1.1 (170 + 2 * n) v) := rB_up hB (by omega) (by rw [l1, l2]; omega) (by omega) (fun z => by omega) (fun _ _ _ => by omega) (fun _ _ _ => by omega) (fun _ _ _ => by omega)
  have hB2 : rB (upd (upd T.1.1 (170 + 2 * n) v) (171 + 2 * n) w) := rB_up hB1 (by omega) (by rw [l3, l4]; exact c1) (by omega) (fun z => by omega) (fun _ _ _ => by omega) (fun _ _ _ => by omega) (fun _ _ _ => by omega)
  have hB3 : rB (upd (upd (upd T.1.1 (170 + 2 * n) v) (171 + 2 * n) w) 2 (nI (n + 1))) := rB_up hB2 (by omega) (by rw [show rLo 2 = 0 by decide, show rHi 2 = 6 by decide, nI_toInt (by omega)]; omega) (by omega) (fun z => by omega) (fun _ _ _ => by omega) (fun _ _ _ => by omega) (fun _ _ _ => by omega)
  exact T_oK_11 s3' hx (cx_accept (h.tw hs m3 tnN_ok v3 hB3 (by rw [upd_ne _ _ (by omega), upd_ne _ _ (by omega), upd_ne _ _ (by omega)])) s3' (hf.sub (by decide)) (fun S4 s4 _ c4 => k S4 s4 c4))
theorem cx_terms {q : Int32 → hS → Prop} {v w : Int32} (h : CR Γ S x ρ rs T) (hs : St Γ Φ S) (hf : fre Γ Φ ([11, 1216, 3] ++ tnN)) (k : ∀ S', St Γ Φ S' → CR Γ S' x ρ rs (spTerms v w T).2 → q (spTerms v w T).1 S') : w_X11_terms q S x v w := by
  have hx := h.1
  have t1 := h.2.1.1
  have t2 := h.2.1.2.1
  have hB := h.2.1.2.2.1
  have frf : fre Γ Φ [11, 1216] := hf.sub (by decide)
  have hfr : fre Γ (frz Γ Φ S tnN) tnN := frz_fre2 (hf.sub (by decide)) (fun _ y => y)
  have b105 : spTerms v w T = spRef 1 T → w_X11_terms_b105 q S x := fun e => by
    rw [e] at k
    exact T_oK_11 hs hx (cx_refuse h hs frf (n := 1) rfl (by omega) (fun S' s' _ c' => k S' s' c'))
  have c999 : (999 : Int32).toInt = 999 := by decide
  have c10 : (10 : Int32).toInt = 10 := by decide
  have c9 : (9 : Int32).toInt = 9 := by decide
  have b111 : ∀ (i : Nat) (S1 : hS), (i = 5 ∨ i = 6 ∨ i = 7) → rLo i ≤ w.toInt ∧ w.toInt ≤ rHi i → spTerms v w T = spAcc (T.1.1 i) (aCl (aTn (upd T.1.1 i w) T)) → St Γ (frz Γ Φ S tnN) S1 → sV S1 (ρ 0) (bk 0 ρ) = upd T.1.1 i w → w_X11_terms_b111 q S1 x (T.1.1 i) := by
    intro i S1 hi hb e s1' ev
    rw [e] at k
    obtain ⟨s1, m1⟩ := frz_un hs s1'
    have h1 := h.tw hs m1 tnN_ok ev (rB_up hB (by omega) hb (by omega) (fun z => by omega) (fun _ _ _ => by omega) (fun _ _ _ => by omega) (fun _ _ _ => by omega)) (upd_ne _ _ (by omega))
    unfold w_X11_terms_b111
    exact E_gP_11_3 s1 hx (fun k3 => T_oK_3 s1 k3 (cx_clear h1 s1 (hf.sub (by decide)) (fun S2 s2 m2 h2 => T_oK_11 s2 hx (cx_accept h2 s2 (hf.sub (by decide)) (fun S3 s3 _ c3 => k S3 s3 c3)))))
  have b72 : ¬ (v = 0 ∧ inB w 0 999) → ¬ (v = 1 ∧ inB w 0 10) → w_X11_terms_b72 q S x v w := by
    intro n0 n1
    have e0 : spTerms v w T = (if v = 2 ∧ inB w 0 9 then spAcc (T.1.1 7) (aCl (aTn (upd T.1.1 7 w) T)) else spRef 1 T) := by
      unfold spTerms
      rw [if_neg n0, if_neg n1]
    unfold w_X11_terms_b72
    refine ⟨fun z => b105 (by rw [e0]; exact if_neg (fun y => z y.1)), fun z => isW (fun c1 => ⟨fun y => absurd y (by decide), fun _ => ?_⟩) (fun c1 => ⟨fun _ => b105 (by rw [e0]; exact if_neg (fun y => c1 (by rw [c9]; exact y.2))), fun y => absurd rfl y⟩)⟩
    rw [c9] at c1
    refine E_gP_11_0 hs hx (fun _ => V_gI_13 hs t1 (E_gP_11_0 hs hx (fun _ => V_pI_13 (frz_St (L := tnN) hs) t1 hfr (by decide) (fun S1 s1 ev => ?_))))
    rw [t2] at ev ⊢
    exact b111 7 S1 (by omega) (by rw [show rLo 7 = 0 by decide, show rHi 7 = 9 by decide]; exact c1) (by rw [e0]; exact if_pos ⟨z, c1⟩) s1 ev
  have b39 : ¬ (v = 0 ∧ inB w 0 999) → w_X11_terms_b39 q S x v w := by
    intro n0
    have e0 : v = 1 → inB w 0 10 → spTerms v w T = spAcc (T.1.1 6) (aCl (aTn (upd T.1.1 6 w) T)) := fun y1 y2 => by
      unfold spTerms
      rw [if_neg n0, if_pos ⟨y1, y2⟩]
    unfold w_X11_terms_b39
    refine ⟨fun z => b72 n0 (fun y => z y.1), fun z => isW (fun c1 => ⟨fun y => absurd y (by decide), fun _ => ?_⟩) (fun c1 => ⟨fun _ => b72 n0 (fun y => c1 (by rw [c10]; exact y.2)), fun y => absurd rfl y⟩)⟩
    rw [c10] at c1
    refine E_gP_11_0 hs hx (fun _ => V_gI_12 hs t1 (E_gP_11_0 hs hx (fun _ => V_pI_12 (frz_St (L := tnN) hs) t1 hfr (by decide) (fun S1 s1 ev => ?_))))
    rw [t2] at ev ⊢
    exact b111 6 S1 (by omega) (by rw [show rLo 6 = 0 by decide, show rHi 6 = 10 by decide]; exact c1) (e0 z c1) s1 ev
  unfold w_X11_terms
  refine ⟨fun z => b39 (fun y => z y.1), fun z => isW (fun c1 => ⟨fun y => absurd y (by decide), fun _ => ?_⟩) (fun c1 => ⟨fun _ => b39 (fun y => c1 (by rw [c999]; exact y.2)), fun y => absurd rfl y⟩)⟩
  rw [c999] at c1
  refine E_gP_11_0 hs hx (fun _ => E_gP_8_0 hs t1 (fun _ => V_gI_y hs t1 (E_gP_11_0 hs hx (fun _ => E_gP_8_0 hs t1 (fun _ => V_pI_y (frz_St (L := tnN) hs) t1 hfr (by decide) (fun S1 s1 ev => ?_))))))
  rw [t2] at ev ⊢
  exact b111 5 S1 (by omega) (by rw [show rLo 5 = 0 by decide, show rHi 5 = 999 by decide]; exact c1) (if_pos ⟨z, c1⟩) s1 ev
end SV
