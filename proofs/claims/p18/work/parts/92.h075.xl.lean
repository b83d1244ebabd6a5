/-! LAWS AS CALLS -/
def updL (L : Nat → List pCl) (n : Nat) (cs : List pCl) : Nat → List pCl := fun j => if j = n then cs else L j
/-- the tape is empty; a fault is noted -/
def aEm (T : aS) : aS := (T.1, T.2.1, T.2.2.1, (T.2.2.2.1.1, 0), T.2.2.2.2)
def aFl (z : Int32) (T : aS) : aS := (T.1, T.2.1, T.2.2.1, T.2.2.2.1, upd T.2.2.2.2.1 0 z, T.2.2.2.2.2)
def aSp (z : Int32) (T : aS) : aS := (T.1, T.2.1, T.2.2.1, T.2.2.2.1, upd T.2.2.2.2.1 1 z, T.2.2.2.2.2)
def spLaw (T : aS) : Int32 × aS := if iR T.1.1 3 < 6 then (match lawTx T.2.2.2.1 with
  | (r, none) => spRef 6 (aEm (aFl (nI (tS T.2.2.2.1 r.1)) T))
  | (_, some cs) => spAcc (nI (iR T.1.1 3).toNat) ((upd T.1.1 3 (nI ((iR T.1.1 3).toNat + 1)), updL T.1.2 (iR T.1.1 3).toNat cs), (aEm (aFl (-1) T)).2)) else spRef 5 (aEm T)
def rdN : List Nat := [5, 9, 10, 1103, 1104, 1105, 1106]
section XL
variable {Γ Γ' : kG} {Φ : kF} {S S' : hS} {x a b i rs o : Nat} {ρ ρg β : Nat → Nat} {A : List Nat} {T : aS} {t : sW} {tx : Nat → Nat}
theorem tp_rv {V : vR} {G : pG} (h : St Γ Φ S) (ha : Γ a = some (5, 5, 0, 0, ρ)) (hG : tpS S (ρ 1) (bk 1 ρ) G) (e1 : V 1 1 = nI G.2) (e3 : V 3 = aV S (bk 1 ρ 0)) : tpS (rv S (adR a ρ) V) (ρ 1) (bk 1 ρ) G := by
  have hd := adR_D h ha
  obtain ⟨h1, h2, h3, h4⟩ := hG
  have f1 : fI (rv S (adR a ρ) V) (ρ 1) 1 = V 1 1 := fI_of (fv_of (rv_1 hd) rfl)
  have f3 : aV (rv S (adR a ρ) V) (bk 1 ρ 0) = V 3 := aV_rv hd (k := 3) (by omega)
  exact ⟨by rw [f1]; exact e1, h2, fun i hi => by rw [f3, e3]; exact h3 i hi, h4⟩
theorem kx_X5_read2 {q : Int32 → hS → Prop} {w : Int32} {z : Nat} {G : pG} (h : St Γ Φ S) (hf : fre Γ Φ [5, 9, 10, 1103, 1104, 1105, 1106]) (ha : Γ a = some (5, 5, 0, 0, ρ)) (hG : tpS S (ρ 1) (bk 1 ρ) G) (hw : w = nI z) (hz : z ≤ 1) (h1 : ∀ r cs S', txX G z = (r, some cs) → cs.length ≤ 12 → (xAll cs 0).length ≤ 400 → (∀ x ∈ xAll cs 0, okX x) → St Γ Φ S' → tpS S' (ρ 1) (bk 1 ρ) G → txR S' (ρ 0) (bk 0 ρ) cs → q (-1) S') (h0 : ∀ r S', txX G z = (r, none) → (∃ m, nI (tS G r.1) = nI m ∧ m ≤ 400) → St Γ Φ S' → tpS S' (ρ 1) (bk 1 ρ) G → q (nI (tS G r.1)) S') : w_X5_read tx q S a w := by
  have key := c_read (S := S) (ad := adR a ρ) (tx := tx) (q := q) (V := rdR S a ρ) (B := aV S (bk 1 ρ 0)) (adR_D h ha) hw hz (G := G) ⟨hG.1, hG.2⟩ rfl (rd_ok h ha) (fun r cs e V' hR => h1 r cs _ e hR.2.2.2.2.2.2.2.2.1 (by have := hR.2.2.2.2.2.2.2.2.2.2.1; have := hR.2.2.1; have := hG.2.1; omega) hR.2.2.2.2.2.2.2.2.2.2.2.1 (rv_St h ha hf (by
    have hF := hR.F
    exact hF.2.2.2) hR.2.2.2.1) (tp_rv h ha hG hR.1.1 hR.2.2.2.1) (txR_rv h ha hR.2.2.2.2.2.2.2.2.2.1)) (fun r e V' hF => h0 r _ e (by obtain ⟨y, y1, y2⟩ := hF.2.2.2.2.1; exact ⟨y, hF.1.symm.trans y1, y2⟩) (rv_St h ha hf hF.2.2.2 hF.2.2.1) (tp_rv h ha hG hF.2.1 hF.2.2.1))
  rw [rv_rd h ha] at key
  exact key
/-- the reader reads the object's own tape -/
theorem cx_read {q : Int32 → hS → Prop} {z : Nat} {w : Int32} (h : CR Γ S x ρ rs T) (hs : St Γ Φ S) (hf : fre Γ Φ rdN) (hw : w = nI z) (hz : z ≤ 1) (k1 : ∀ r cs S', txX T.2.2.2.1 z = (r, some cs) → cs.length ≤ 12 → (xAll cs 0).length ≤ 400 → (∀ x ∈ xAll cs 0, okX x) → St Γ Φ S' → CR Γ S' x ρ rs T → txR S' (bk 5 ρ 0) (bk 0 (bk 5 ρ)) cs → q (-1) S') (k0 : ∀ r S', txX T.2.2.2.1 z = (r, none) → (∃ m, nI (tS T.2.2.2.1 r.1) = nI m ∧ m ≤ 400) → St Γ Φ S' → CR Γ S' x ρ rs T → q (nI (tS T.2.2.2.1 r.1)) S') : w_X5_read tx q S (ρ 5) w := by
  obtain ⟨hx, h1, h2, h3, h4, h5, h6, h7, h8⟩ := h
  have k5 := (P_11_5 hs hx).2
  have k4 := (P_11_4 hs hx).2
  have k51 := (P_5_1 hs k5).2
  have eb : bk 1 (bk 5 ρ) = bk 4 ρ := by
    rw [h8.1, k4] at k51
    exact (Option.some.inj (congrArg (fun o : Option kT => o.map (fun τ => τ.2.2.2.2)) k51)).symm
  have hst := frz_St (L := rdN) hs
  have back : ∀ S', St Γ (frz Γ Φ S rdN) S' → tpS S' (bk 5 ρ 1) (bk 1 (bk 5 ρ)) T.2.2.2.1 → St Γ Φ S' ∧ CR Γ S' x ρ rs T := fun S' h' tp' => by
    obtain ⟨s', m'⟩ := frz_un hs h'
    rw [h8.1, eb] at tp'
    exact ⟨s', hx, h1.sm hs gro_rf m' (by decide), h2.sm hs hx gro_rf m' (by decide), h3.sg hs (P_11_3 hs hx).2 gro_rf m' (by decide), tp', h5.sm hs hx m' (by decide), h6.sm hs hx m' (by decide), h7.sm hs hx m' (by decide), h8⟩
  exact kx_X5_read2 hst (frz_fre hf (fun _ x => x)) k5 (by rw [h8.1, eb]; exact h4) hw hz (fun r cs S' e l1 l2 l3 h' tp' tx' => k1 r cs S' e l1 l2 l3 (back S' h' tp').1 (back S' h' tp').2 tx') (fun r S' e em h' tp' => k0 r S' e em (back S' h' tp').1 (back S' h' tp').2)
/-- a text of a law that was read runs -/
theorem law_okL {G : pG} {r : Nat × Nat} {cs : List pCl} (e : lawTx G = (r, some cs)) (h1 : (xAll (cs.map lwX) 0).length ≤ 400) (h2 : ∀ x ∈ xAll (cs.map lwX) 0, okX x) : okL cs := by
  obtain ⟨k1, k2⟩ := lawTx_ok e
  have k3 := lawTx_T e
  refine ⟨⟨by rw [List.length_map]; exact k2, h1, h2, fun c hc i a ha => ?_⟩, k1, fun c hc t ht => ⟨fun e v hv => (k3 c hc t ht).1 e v hv, (k3 c hc t ht).2⟩⟩
  obtain ⟨d, hd, rfl⟩ := List.mem_map.mp hc
  unfold xP at ha
  split at ha
  · exact ((k1 d hd).2.1 a ha).1
  split at ha
  · cases ha
  split at ha
  · cases ha
  · exact ((k1 d hd).2.2.1 a ha).1
theorem tpS.em {G : pG} {a : Nat} (h : tpS S a β G) (e1 : fI S' a 1 = 0) (e2 : ∀ i, i < 400 → aV S' (β 0) i = aV S (β 0) i) : tpS S' a β (G.1, 0) := by
  obtain ⟨h1, h2, h3, h4⟩ := h
  exact ⟨e1, Nat.zero_le _, fun i hi => (e2 i hi).trans (h3 i hi), h4⟩
/-- the tape is emptied -/
theorem cx_em {q : hS → Prop} (h : CR Γ S x ρ rs T) (hs : St Γ Φ S) (hf : fre Γ Φ [9]) (k : ∀ S', St Γ Φ S' → sam Γ [9] S S' → CR Γ S' x ρ rs (aEm T) → q S') : pI S (ρ 4) 9 1 0 q := by
  obtain ⟨hx, h1, h2, h3, h4, h5, h6, h7, h8⟩ := h
  refine T_pI_9_1 (frz_St (L := [9]) hs) (frz_fre hf (fun _ x => x)) (P_11_4 hs hx).2 (by simp) (by decide) (fun S1 s1' i1 q1 a1 => ?_)
  obtain ⟨s1, m1⟩ := frz_un hs s1'
  exact k S1 s1 m1 ⟨hx, h1.sm hs gro_rf m1 (by decide), h2.sm hs hx gro_rf m1 (by decide), h3.sg hs (P_11_3 hs hx).2 gro_rf m1 (by decide), h4.em i1 (fun i _ => a1.1 _ i), h5.sm hs hx m1 (by decide), h6.sm hs hx m1 (by decide), h7.sm hs hx m1 (by decide), h8⟩
theorem scK_13 {k : Nat} (hk : k < 5) (h : scK k = 13) : k = 0 := by
  unfold scK at h
  repeat' (split at h)
  all_goals omega
theorem scK_14 {k : Nat} (hk : k < 5) (h : scK k = 14) : k = 1 := by
  unfold scK at h
  repeat' (split at h)
  all_goals omega
theorem cx_fl {q : hS → Prop} {z : Int32} (h : CR Γ S x ρ rs T) (hs : St Γ Φ S) (hf : fre Γ Φ [11]) (k : ∀ S', St Γ Φ S' → sam Γ [11] S S' → CR Γ S' x ρ rs (aFl z T) → q S') : pI S x 11 13 z q := by
  obtain ⟨hx, h1, h2, h3, h4, h5, h6, h7, h8⟩ := h
  refine T_pI_11_13 (frz_St (L := [11]) hs) (frz_fre hf (fun _ x => x)) hx (by simp) (fun S1 s1' i1 q1 a1 => ?_)
  obtain ⟨s1, m1⟩ := frz_un hs s1'
  refine k S1 s1 m1 ⟨hx, h1.sm hs gro_rf m1 (by decide), h2.sm hs hx gro_rf m1 (by decide), h3.sg hs (P_11_3 hs hx).2 gro_rf m1 (by decide), h4.sm hs (P_11_4 hs hx).2 m1 (by decide), fun j hj => ?_, h6.sm hs hx m1 (by decide), h7.sm hs hx m1 (by decide), h8⟩
  show fI S1 x (scK j) = upd T.2.2.2.2.1 0 z j
  unfold upd
  by_cases c : j = 0
  · rw [if_pos c, c]; exact i1
  · rw [if_neg c, q1.I (fun z => c (scK_13 hj z.2))]
    exact h5 j hj
theorem cx_sp {q : hS → Prop} {z : Int32} (h : CR Γ S x ρ rs T) (hs : St Γ Φ S) (hf : fre Γ Φ [11]) (k : ∀ S', St Γ Φ S' → sam Γ [11] S S' → CR Γ S' x ρ rs (aSp z T) → q S') : pI S x 11 14 z q := by
  obtain ⟨hx, h1, h2, h3, h4, h5, h6, h7, h8⟩ := h
  refine T_pI_11_14 (frz_St (L := [11]) hs) (frz_fre hf (fun _ x => x)) hx (by simp) (fun S1 s1' i1 q1 a1 => ?_)
  obtain ⟨s1, m1⟩ := frz_un hs s1'
  refine k S1 s1 m1 ⟨hx, h1.sm hs gro_rf m1 (by decide), h2.sm hs hx gro_rf m1 (by decide), h3.sg hs (P_11_3 hs hx).2 gro_rf m1 (by decide), h4.sm hs (P_11_4 hs hx).2 m1 (by decide), fun j hj => ?_, h6.sm hs hx m1 (by decide), h7.sm hs hx m1 (by decide), h8⟩
  show fI S1 x (scK j) = upd T.2.2.2.2.1 1 z j
  unfold upd
  by_cases c : j = 1
  · rw [if_pos c, c]; exact i1
  · rw [if_neg c, q1.I (fun z => c (scK_14 hj z.2))]
    exact h5 j hj
/-- a law is put behind the others -/
theorem cx_addLaw {q : Int32 → hS → Prop} {cs : List pCl} {c n : Nat} (h : CR Γ S x ρ rs T) (hs : St Γ Φ S) (hf : fre Γ Φ [8, 915]) (hn : iR T.1.1 3 < 6) (ho : Γ o = some (10, 19, c, n, β)) (hc : c ≤ 12 ∧ n ≤ 400) (hx2 : txR S o β (cs.map lwX)) (hk : okL cs) (k : ∀ S', St Γ Φ S' → sam Γ [8, 915] S S' → CR Γ S' x ρ rs ((upd T.1.1 3 (nI ((iR T.1.1 3).toNat + 1)), updL T.1.2 (iR T.1.1 3).toNat cs), T.2) → q (nI (iR T.1.1 3).toNat) S') : w_X8_addLaw q S (ρ 0) o := by
  obtain ⟨hx, ⟨t1, t2, t3, t4, t5⟩, h2, h3, h4, h5, h6, h7, h8⟩ := h
  have r3 := t3.1 3 (by omega)
  rw [show rHi 3 = 6 by decide, show rLo 3 = 0 by decide] at r3
  have t6 : (6 : Int32).toInt = 6 := by decide
  obtain ⟨m, em⟩ : ∃ m, m = (iR T.1.1 3).toNat := ⟨_, rfl⟩
  rw [← em] at k
  have fm : T.1.1 3 = nI m := by
    apply Int32.toInt_inj.mp
    rw [nI_toInt (by omega), iR_i]
    omega
  have hst := frz_St (L := [8, 915]) hs
  have hfr : fre Γ (frz Γ Φ S [8, 915]) [8, 915] := frz_fre hf (fun _ x => x)
  have back : ∀ {S'}, St Γ (frz Γ Φ S [8, 915]) S' → St Γ Φ S' ∧ sam Γ [8, 915] S S' := fun h' => frz_un hs h'
  generalize frz Γ Φ S [8, 915] = Ψ at hst hfr back
  have kd := (P_8_15 hst t1).2
  have t1' : Γ (ρ 0) = some (8, 8 + 10000 * 0, 0, 0, bk 0 ρ) := t1
  unfold w_X8_addLaw
  refine V_gI_14 hst t1 (fun _ => ?_)
  rw [t2, Int32.lt_iff_toInt_lt, t6, iR_i]
  refine ⟨fun _ => E_gP_8_15 hst t1 (fun _ => V_gI_14 hst t1 (fun _ => ?_)), fun z => absurd hn z⟩
  rw [t2, fm]
  refine T_stR_28 hst (hfr.sub (by simp)) (L := [915 + 10000 * 0]) kd (by simp) (by rw [nI_toInt (by omega)]; omega) (fun b hb => by cases hb; exact ⟨c, n, β, ho, hc.1, hc.2⟩) (fun S1 s1 q1 a1 o1 o2 => ?_)
  have e1 : sV S1 (ρ 0) (bk 0 ρ) = sV S (ρ 0) (bk 0 ρ) := sV_congr (fun k => q1.I _ _) (fun k => q1.I _ _) (a1 _) (a1 _) (a1 _) (a1 _) (a1 _) (a1 _) (a1 _) (a1 _) (a1 _) (a1 _) (a1 _) (a1 _)
  refine V_gI_14 s1 t1 (fun _ => ?_)
  rw [e1, t2, fm, nI_1]
  refine T_pI_8_14 s1 (hfr.sub (by simp)) (L := [8 + 10000 * 0]) t1 (by simp) (by rw [nI_toInt (by omega)]; omega) (fun S2 s2 p1 p2 p3 => V_gI_14 s2 t1 (fun _ => ?_))
  have v2 := sV_p14 s1 t1 p1 p2 p3
  obtain ⟨s2', m2⟩ := back s2
  rw [e1, t2] at v2
  have e32 : sV S2 (ρ 0) (bk 0 ρ) 3 = nI (m + 1) := by rw [v2]; exact upd_self _ _ _
  rw [e32, nI_s1 (by omega), Nat.add_sub_cancel]
  have l12 : okL cs := hk
  have i3 : iR (upd T.1.1 3 (nI (m + 1))) 3 = (m : Int) + 1 := by
    rw [iR_s, nI_toInt (by omega)]
    omega
  have hB' : rB (upd T.1.1 3 (nI (m + 1))) := by
    obtain ⟨b1, b2, b3, b4, b5, b6⟩ := id t3
    refine ⟨fun j hj => ?_, ?_, fun k hk => ?_, fun p hp => ?_, fun j hj => ?_, fun p hp => ?_⟩
    · by_cases c3 : j = 3
      · subst c3
        rw [i3, show rHi 3 = 6 by decide, show rLo 3 = 0 by decide]
        omega
      · rw [iR_ne c3]; exact b1 j hj
    · rw [i3, iR_ne (by omega)]; omega
    · rw [iR_ne (by omega)]; exact b3 k hk
    · rw [iR_ne (by omega)]; exact b4 p hp
    · rw [iR_ne (by omega), iR_ne (by omega)]; exact b5 j hj
    · rw [upd_ne _ _ (by omega)]; exact b6 p hp
  refine k S2 s2' m2 ⟨hx, ⟨t1, v2, hB', fun j hj => ?_, fun j hj => ?_⟩, h2.sm hs hx gro_rf m2 (by decide), h3.sg hs (P_11_3 hs hx).2 gro_rf m2 (by decide), h4.sm hs (P_11_4 hs hx).2 m2 (by decide), h5.sm hs hx m2 (by decide), h6.sm hs hx m2 (by decide), h7.sm hs hx m2 (by decide), h8⟩
  · rw [i3] at hj
    have arr : aO S2 (bk 0 ρ 15) j = if j = m then some o else aO S (bk 0 ρ 15) j := by
      rw [p3.2, o2, nI_clamp (by omega)]
    unfold updL
    dsimp only
    by_cases c : j = m
    · rw [if_pos c] at arr ⊢
      exact ⟨o, _, _, β, arr, ho, txR_sam hx2 hs ho m2 (by decide)⟩
    · rw [if_neg c] at arr ⊢
      obtain ⟨d, c', m', ρd, y1, y2, y3⟩ := t4 j (by omega)
      exact ⟨d, c', m', ρd, arr.trans y1, y2, txR_sam y3 hs y2 m2 (by decide)⟩
  · rw [i3] at hj
    unfold updL
    dsimp only
    by_cases c : j = m
    · rw [if_pos c]; exact hk
    · rw [if_neg c]; exact t5 j (by omega)
theorem txX_law1 {G : pG} {r : Nat × Nat} {xs : List pX} (e : txX G 1 = (r, some xs)) : ∃ cs, lawTx G = (r, some cs) ∧ xs = cs.map lwX := by
  rw [txX_law] at e
  cases el : lawTx G with
  | mk r' o' =>
    rw [el] at e
    cases o' with
    | none => cases e
    | some cs => cases e; exact ⟨cs, rfl, rfl⟩
theorem txX_law0 {G : pG} {r : Nat × Nat} (e : txX G 1 = (r, none)) : lawTx G = (r, none) := by
  rw [txX_law] at e
  cases el : lawTx G with
  | mk r' o' =>
    rw [el] at e
    cases o' with
    | none => cases e; rfl
    | some cs => cases e
theorem cx_law {q : Int32 → hS → Prop} (h : CR Γ S x ρ rs T) (hs : St Γ Φ S) (hf : fre Γ Φ ([11, 1216, 8, 915] ++ rdN)) (k : ∀ Γ' S', gro Γ Φ Γ' → St Γ' Φ S' → CR Γ' S' x ρ rs (spLaw T).2 → q (spLaw T).1 S') : w_X11_law tx q S x := by
  have hx := h.1
  have t1 := h.2.1.1
  have t2 := h.2.1.2.1
  have t6 : (6 : Int32).toInt = 6 := by decide
  have f11 : fre Γ Φ [11] := hf.sub (by simp)
  have f9 : fre Γ Φ [9] := hf.sub (by simp [rdN])
  unfold w_X11_law
  refine E_gP_11_0 hs hx (fun _ => V_gI_14 hs t1 (fun _ => ?_))
  rw [t2, Int32.lt_iff_toInt_lt, t6, iR_i]
  refine ⟨fun c => ?_, fun c => ?_⟩
  rotate_left
  · have e : spLaw T = spRef 5 (aEm T) := if_neg c
    rw [e] at k
    exact E_gP_11_4 hs hx (fun _ => cx_em h hs f9 (fun S1 s1 _ c1 => T_oK_11 s1 hx (cx_refuse c1 s1 (hf.sub (by simp)) (n := 5) rfl (by omega) (fun S2 s2 _ c2 => k Γ S2 gro_rf s2 c2))))
  have ef : spLaw T = (match lawTx T.2.2.2.1 with
    | (r, none) => spRef 6 (aEm (aFl (nI (tS T.2.2.2.1 r.1)) T))
    | (_, some cs) => spAcc (nI (iR T.1.1 3).toNat) ((upd T.1.1 3 (nI ((iR T.1.1 3).toNat + 1)), updL T.1.2 (iR T.1.1 3).toNat cs), (aEm (aFl (-1) T)).2)) := if_pos c
  refine E_gP_11_5 hs hx (fun k5 => T_oK_5 hs k5 (cx_read h hs (hf.sub (fun y hy => List.mem_append.mpr (Or.inr hy))) (z := 1) rfl (by omega) (fun r xs S1 ex l1 l2 l3 s1 c1 x1 => ?_) (fun r S1 ex em s1 c1 => ?_)))
  · obtain ⟨cs, el, rfl⟩ := txX_law1 ex
    have hk := law_okL el l2 l3
    rw [el] at ef
    rw [ef] at k
    have k50 := (P_5_0 s1 k5).2
    refine cx_fl c1 s1 f11 (fun S2 s2 m2 c2 => E_gP_11_4 s2 hx (fun _ => cx_em c2 s2 f9 (fun S3 s3 m3 c3 => T_gI_11_13 s3 hx (fun x48 e48 _ => ?_))))
    have x2 := txR_sam x1 s1 k50 m2 (by decide)
    have x3 := txR_sam x2 s2 k50 m3 (by decide)
    have e48' : x48 = -1 := e48.trans (c3.2.2.2.2.2.1 0 (by omega))
    refine ⟨fun _ => E_gP_11_0 s3 hx (fun _ => St_nO (frz_St (L := []) s3) (fun o67 S4 hN _ => E_gP_11_5 hN.1 hx (fun _ => E_gP_5_0 hN.1 k5 (fun _ => ?_)))), fun z => absurd e48' z⟩
    have m4 := (frz_un s3 hN.1).2
    have x4 := txR_sam x3 s3 k50 m4 (by decide)
    refine kx_X10_init_ hN k50 (fun d τ hd => ?_) (fun Γ5 S5 cc nn ρ5 g5 k5' lcc lnn s5 tx5 => ?_)
    · rw [frz_out (fun τ _ => by simp)]
      obtain ⟨e, he⟩ := s3.isS hd
      rw [he, m4 d e he (fun τ _ => by simp)]
    obtain ⟨s5', m5⟩ := frz_un s3 s5
    have g5' := frz_gro s3 g5
    have x5 := tx5 _ l1 l2 x4
    obtain ⟨-, h1, h2, h3, h4, h5, h6, h7, h8⟩ := c3
    have hx5 := g5'.1 _ _ hx
    have c5 : CR Γ5 S5 x ρ rs (aEm (aFl (-1) T)) := ⟨hx5, h1.sm s3 g5' m5 (by decide), h2.sm s3 hx g5' m5 (by decide), h3.sg s3 (P_11_3 s3 hx).2 g5' m5 (by decide), h4.sm s3 (P_11_4 s3 hx).2 m5 (by decide), h5.sm s3 hx m5 (by decide), h6.sm s3 hx m5 (by decide), h7.sm s3 hx m5 (by decide), h8⟩
    refine T_oK_8 s5' c5.2.1.1 (cx_addLaw c5 s5' ((hf.gr g5').sub (by simp)) c k5' ⟨lcc, lnn⟩ x5 hk (fun S6 s6 m6 c6 => T_oK_11 s6 hx5 (cx_accept c6 s6 (f11.gr g5') (fun S7 s7 _ c7 => k Γ5 S7 g5' s7 c7))))
  · have el := txX_law0 ex
    rw [el] at ef
    rw [ef] at k
    refine cx_fl c1 s1 f11 (fun S2 s2 m2 c2 => E_gP_11_4 s2 hx (fun _ => cx_em c2 s2 f9 (fun S3 s3 m3 c3 => T_gI_11_13 s3 hx (fun x48 e48 _ => ?_))))
    have e48' : x48 = nI (tS T.2.2.2.1 r.1) := e48.trans (c3.2.2.2.2.2.1 0 (by omega))
    have G4 := h.2.2.2.2.1.2.1
    refine ⟨fun z => ?_, fun _ => T_oK_11 s3 hx (cx_refuse c3 s3 (hf.sub (by simp)) (n := 6) rfl (by omega) (fun S4 s4 _ c4 => k Γ S4 gro_rf s4 c4))⟩
    exfalso
    obtain ⟨m, em1, em2⟩ := em
    rw [e48', em1] at z
    have z2 := congrArg Int32.toInt z
    rw [nI_toInt (by omega), show Int32.toInt (-1) = -1 by decide] at z2
    omega
end XL
