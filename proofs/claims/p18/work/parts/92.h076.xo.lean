/-! ORDERS AND GENERATIONS AS CALLS -/
def spOrders (T : aS) : Int32 × aS := match ordTx T.2.2.2.1 with
  | (r, none) => spRef 6 (aEm (aFl (nI (tS T.2.2.2.1 r.1)) (aSp (-1) T)))
  | (_, some os) => match orRun (csF T.1.1 T.1.2) os 0 (T.1.1, 0, -1, T.2.2.1) with
    | .inl j => spRef 3 (aSp (nI j) (aEm (aFl (-1) (aSp (-1) T))))
    | .inr s => spAcc (wI s.2.1) ((s.1, T.1.2), T.2.1, s.2.2.2, (aSp (-1) (aEm (aFl (-1) (aSp (-1) T)))).2.2.2)
theorem orTry_us {cs : List pCl} {o : pOr} {s s' : oS} (e : orTry cs o s = some s') (h : rB s.1 ∧ ∀ y ∈ s.2.2.2, rB y.2) : rB s'.1 ∧ ∀ y ∈ s'.2.2.2, rB y.2 := by
  unfold orTry at e
  split at e
  · split at e
    · unfold orDo at e
      split at e
      · cases e
      · cases e
        refine ⟨(deedD_ok h.1).1, fun y hy => ?_⟩
        have : ∀ y ∈ usD s.2.2.2 o.1 s.1 0, rB y.2 := usD_rB h.1 h.2
        exact this y hy
    · cases e
  · cases e
    exact h
theorem orRep_us {cs : List pCl} {o : pOr} : ∀ n {s s' : oS}, orRep cs o n s = some s' → (rB s.1 ∧ ∀ y ∈ s.2.2.2, rB y.2) → rB s'.1 ∧ ∀ y ∈ s'.2.2.2, rB y.2
  | 0, s, s', e, h => by
    rw [orRep] at e
    cases e
    exact h
  | n + 1, s, s', e, h => by
    rw [orRep] at e
    cases et : orTry cs o s with
    | none => rw [et] at e; cases e
    | some s2 =>
      rw [et] at e
      exact orRep_us n e (orTry_us et h)
theorem orRun_us {cs : List pCl} : ∀ (os : List pOr) (j : Nat) {s s' : oS}, orRun cs os j s = .inr s' → (rB s.1 ∧ ∀ y ∈ s.2.2.2, rB y.2) → rB s'.1 ∧ ∀ y ∈ s'.2.2.2, rB y.2
  | [], j, s, s', e, h => by
    rw [orRun] at e
    cases e
    exact h
  | o :: os, j, s, s', e, h => by
    rw [orRun] at e
    cases et : orRep cs o o.2.2.1 s with
    | none => rw [et] at e; cases e
    | some s2 =>
      rw [et] at e
      exact orRun_us os (j + 1) e (orRep_us _ et h)
theorem ord_okO {G : pG} {r : Nat × Nat} {os : List pOr} (e : ordTx G = (r, some os)) (h1 : (xAll (os.map orX) 0).length ≤ 400) (h2 : ∀ x ∈ xAll (os.map orX) 0, okX x) : okO os := by
  obtain ⟨k1, k2⟩ := ordTx_ok e
  refine ⟨⟨by rw [List.length_map]; exact k2, h1, h2, fun c hc i a ha => ?_⟩, fun o ho => ⟨by have := (k1 o ho).1; omega, (k1 o ho).2.2.2.2.2.1⟩⟩
  obtain ⟨d, hd, rfl⟩ := List.mem_map.mp hc
  obtain ⟨y1, y2, y3, y4, y5, y6, y7, y8⟩ := k1 d hd
  unfold xP at ha
  split at ha
  · exact (y2 a ha).1
  split at ha
  · exact (y3 a ha).1
  split at ha
  · exact (y4 a ha).1
  · exact (y7 a ha).1
theorem cN_up {f : Nat → Option Nat} : ∀ n, cN f n ≤ n
  | 0 => Nat.le_refl _
  | n + 1 => by
    have := cN_up (f := f) n
    rw [cN]
    split <;> omega
def orN1 : List Nat := [1, 202] ++ dbNm 1
def ordN : List Nat := [11, 1216] ++ rdN ++ orN1 ++ sbN 1 ++ deNm 0
section XO
variable {Γ Γ' : kG} {Φ : kF} {S S' : hS} {x a b b' i i' rs o : Nat} {ρ ρ' ρg β : Nat → Nat} {A : List Nat} {T : aS} {t : sW} {tx : Nat → Nat}
theorem kx_copyW {q : hS → Prop} (hs : St Γ Φ S) (h : subR Γ S b i ρ t) (hd : Γ b' = some (8, 8 + 10000 * i', i', 0, ρ')) (hne : i' ≠ i) (hf : fre Γ Φ (sbN i')) (k : ∀ S', St Γ Φ S' → sam Γ (sbN i') S S' → subR Γ S' b' i' ρ' t → q S') : w_X8_copyFrom q S b' b := by
  obtain ⟨h1, h2, h3, h4, h5⟩ := h
  have r3 := h3.1 3 (by omega)
  rw [show rHi 3 = 6 by decide, show rLo 3 = 0 by decide] at r3
  have hst := frz_St (L := sbN i') hs
  have hfr : fre Γ (frz Γ Φ S (sbN i')) (sbN i') := frz_fre hf (fun _ x => x)
  refine kx_X8_copyFrom hst hd h1 hne (hfr.sub (fun y hy => by
    simp only [sbN, List.mem_cons, List.not_mem_nil, or_false] at hy ⊢
    omega)) (fun S' s' ev ea => ?_)
  obtain ⟨s2, m2⟩ := frz_un hs s'
  have no : ∀ y ∈ txN, y ∉ sbN i' := fun y hy => by
    simp only [txN, sbN, List.mem_cons, List.not_mem_nil, or_false] at hy ⊢
    omega
  refine k S' s2 m2 ⟨hd, ev.trans h2, h3, fun j hj => ?_, h5⟩
  obtain ⟨d, c, m, ρd, y1, y2, y3⟩ := h4 j hj
  exact ⟨d, c, m, ρd, (ea j (by omega)).trans y1, y2, txR_sam y3 hs y2 m2 ⟨no _ (by simp [txN]), no _ (by simp [txN]), no _ (by simp [txN]), no _ (by simp [txN]), no _ (by simp [txN])⟩⟩
/-- what lies outside of A is as it was -/
theorem CR.sm (h : CR Γ S x ρ rs T) (hs : St Γ Φ S) (hg : gro Γ Φ Γ') (hm : sam Γ A S S') (hA : ∀ n ∈ [11, 1216, 1210, 9, 1000] ++ sbN 0 ++ imN ++ lgNm, n ∉ A) : CR Γ' S' x ρ rs T := by
  obtain ⟨hx, h1, h2, h3, h4, h5, h6, h7, h8⟩ := h
  have hA1 : ∀ n ∈ sbN 0 ++ txN, n ∉ A := fun n hn => hA n (by
    rcases List.mem_append.mp hn with z | z
    · simp only [List.mem_append]; exact Or.inl (Or.inl (Or.inr z))
    · simp only [List.mem_append]; exact Or.inl (Or.inr (by unfold imN; simp only [List.mem_cons, List.mem_append]; exact Or.inr (Or.inr z))))
  exact ⟨hg.1 _ _ hx, h1.sm hs hg hm hA1, h2.sm hs hx hg hm (fun n hn => hA n (by simp only [List.mem_append]; exact Or.inl (Or.inr hn))), h3.sg hs (P_11_3 hs hx).2 hg hm (fun n hn => hA n (by simp only [List.mem_append]; exact Or.inr hn)), h4.sm hs (P_11_4 hs hx).2 hm ⟨hA _ (by simp), hA _ (by simp)⟩, h5.sm hs hx hm (hA _ (by simp)), h6.sm hs hx hm (hA _ (by simp)), h7.sm hs hx hm (hA _ (by simp)), h8⟩
/-- behind orders -/
theorem CR.run {f' : Nat → Int32} {us' : uL} (h : CR Γ S x ρ rs T) (hs : St Γ Φ S) (hg : gro Γ Φ Γ') (hm : sam Γ (orNm 0) S S') (ev : sV S' (ρ 0) (bk 0 ρ) = f') (hB : rB f') (hfr : ∀ i, ¬ inLe i → f' i = T.1.1 i) (hl : lgS Γ' S' (ρ 3) (bk 3 ρ) us') (hu : ∀ y ∈ us', rB y.2) : CR Γ' S' x ρ rs ((f', T.1.2), T.2.1, us', T.2.2.2) := by
  obtain ⟨hx, h1, h2, h3, h4, h5, h6, h7, h8⟩ := h
  obtain ⟨t1, t2, t3, t4, t5⟩ := h1
  have e3 : iR f' 3 = iR T.1.1 3 := iR_ge (hfr 3 (by unfold inLe; omega))
  refine ⟨hg.1 _ _ hx, ⟨hg.1 _ _ t1, ev, hB, ?_, ?_⟩, h2.sm hs hx hg hm (by decide), hl, h4.sm hs (P_11_4 hs hx).2 hm (by decide), h5.sm hs hx hm (by decide), h6.sm hs hx hm (by decide), h7.sm hs hx hm (by decide), h8.1, hu⟩
  · show lwsS Γ' S' (bk 0 ρ) T.1.2 (iR f' 3)
    rw [e3]
    exact (t4.sm hs t1 hm (by decide)).gr hg
  · intro j hj
    exact t5 j (by rw [← e3]; exact hj)
theorem txX_ord1 {G : pG} {r : Nat × Nat} {xs : List pX} (e : txX G 0 = (r, some xs)) : ∃ os, ordTx G = (r, some os) ∧ xs = os.map orX := by
  rw [txX_ord] at e
  cases el : ordTx G with
  | mk r' o' =>
    rw [el] at e
    cases o' with
    | none => cases e
    | some cs => cases e; exact ⟨cs, rfl, rfl⟩
theorem txX_ord0 {G : pG} {r : Nat × Nat} (e : txX G 0 = (r, none)) : ordTx G = (r, none) := by
  rw [txX_ord] at e
  cases el : ordTx G with
  | mk r' o' =>
    rw [el] at e
    cases o' with
    | none => cases e; rfl
    | some cs => cases e
theorem nI_nm {m : Nat} (hm : m < 1000) : ¬ nI m = -1 := fun z => by
  have z2 := congrArg Int32.toInt z
  rw [nI_toInt (by omega), show Int32.toInt (-1) = -1 by decide] at z2
  omega
set_option maxRecDepth 16384 in
theorem cx_orders {q : Int32 → hS → Prop} (h : CR Γ S x ρ rs T) (hs : St Γ Φ S) (hf : fre Γ Φ ordN) (k : ∀ Γ' S', gro Γ Φ Γ' → St Γ' Φ S' → CR Γ' S' x ρ rs (spOrders T).2 → q (spOrders T).1 S') : w_X11_orders tx q S x := by
  have hx := h.1
  have fo : ∀ {L : List Nat}, (∀ y ∈ L, y ∈ ordN) → fre Γ Φ L := fun hL => hf.sub hL
  have f11 : fre Γ Φ [11] := fo (by decide)
  have f9 : fre Γ Φ [9] := fo (by decide)
  have frf : fre Γ Φ [11, 1216] := fo (by decide)
  have frd : fre Γ Φ rdN := fo (by decide)
  have fsb : fre Γ Φ (sbN 1) := fo (by decide)
  have fr1 : fre Γ Φ orN1 := fo (by decide)
  have fr0 : fre Γ Φ ([1, 202] ++ dbNm 0) := fo (by decide)
  have flg : lgFr Γ Φ := lg_fre (fo (by decide))
  unfold w_X11_orders
  refine cx_sp h hs f11 (fun S1 s1 m1 c1 => E_gP_11_5 s1 hx (fun k5 => T_oK_5 s1 k5 (cx_read c1 s1 frd (z := 0) rfl (by omega) (fun r xs S2 ex l1 l2 l3 s2 c2 x2 => ?_) (fun r S2 ex em s2 c2 => ?_))))
  rotate_left
  · have el := txX_ord0 ex
    have e : spOrders T = spRef 6 (aEm (aFl (nI (tS T.2.2.2.1 r.1)) (aSp (-1) T))) := by
      unfold spOrders
      have el' : ordTx T.2.2.2.1 = (r, none) := el
      rw [el']
    rw [e] at k
    refine cx_fl c2 s2 f11 (fun S3 s3 m3 c3 => E_gP_11_4 s3 hx (fun _ => cx_em c3 s3 f9 (fun S4 s4 m4 c4 => T_gI_11_13 s4 hx (fun x26 e26 _ => ?_))))
    have e26' := e26.trans (c4.2.2.2.2.2.1 0 (by omega))
    refine ⟨fun z => ?_, fun _ => T_oK_11 s4 hx (cx_refuse c4 s4 frf (n := 6) rfl (by omega) (fun S5 s5 _ c5 => k Γ S5 gro_rf s5 c5))⟩
    obtain ⟨m, em1, em2⟩ := em
    exfalso
    have : x26 = nI m := e26'.trans em1
    rw [this] at z
    exact nI_nm (by omega) z
  obtain ⟨os, el, rfl⟩ := txX_ord1 ex
  have hko := ord_okO el l2 l3
  have el' : ordTx T.2.2.2.1 = (r, some os) := el
  have esp : spOrders T = (match orRun (csF T.1.1 T.1.2) os 0 (T.1.1, 0, -1, T.2.2.1) with
    | .inl j => spRef 3 (aSp (nI j) (aEm (aFl (-1) (aSp (-1) T))))
    | .inr s => spAcc (wI s.2.1) ((s.1, T.1.2), T.2.1, s.2.2.2, (aSp (-1) (aEm (aFl (-1) (aSp (-1) T)))).2.2.2)) := by
    unfold spOrders
    rw [el']
  have k50 := (P_5_0 s2 k5).2
  refine cx_fl c2 s2 f11 (fun S3 s3 m3 c3 => E_gP_11_4 s3 hx (fun _ => cx_em c3 s3 f9 (fun S4 s4 m4 c4 => T_gI_11_13 s4 hx (fun x26 e26 _ => ?_))))
  have x4 := txR_sam (txR_sam x2 s2 k50 m3 (by decide)) s3 k50 m4 (by decide)
  have e26' : x26 = -1 := e26.trans (c4.2.2.2.2.2.1 0 (by omega))
  refine ⟨fun _ => E_gP_11_1 s4 hx (fun k1 => E_gP_11_0 s4 hx (fun k0 => T_oK_8 s4 k1 (kx_copyW s4 c4.2.1 k1 (by omega) fsb (fun S5 s5 m5 w5 => ?_)))), fun z => absurd e26' z⟩
  have c5 := c4.sm s4 gro_rf m5 (by decide)
  have x5 := txR_sam x4 s4 k50 m5 (by decide)
  refine E_gP_11_7 s5 hx (fun k7 => E_gP_11_5 s5 hx (fun _ => E_gP_5_0 s5 k5 (fun _ => E_gP_11_1 s5 hx (fun _ => T_oK_1 s5 k7 ?_))))
  obtain ⟨w1, w2, w3, w4, w5'⟩ := id w5
  have hO := w5.okc
  -- the rehearsal
  have reh := kx_X1_run (u := 0) (lg := none) (ρg := ρ) (us := T.2.2.1) (Φ := frz Γ Φ S5 orN1) (L := T.1.2) (os := os) (q := fun x68 S => pI S x 11 14 x68 (fun S => gI S x 11 14 (fun x75 => (x75 = (-1) → gP S x 11 7 (fun x90 => gP S x 11 5 (fun x94 => gP S x94 5 0 (fun x97 => gP S x 11 0 (fun x101 => gP S x 11 3 (fun x105 => oK S x90 1 ∧ w_X1_run (fun x108 S => gP S x 11 7 (fun x114 => gI S x114 1 5 (fun x117 => oK S x 11 ∧ w_X11_accept (fun x120 S => q x120 S) S x x117))) S 16 x90 x97 x101 (some x105))))))) ∧ (¬ x75 = (-1) → oK S x 11 ∧ w_X11_refuse (fun x85 S => q x85 S) S x (-3))))) (frz_St s5) k7 k1 k50 (by omega) (frz_fre fr1 (fun _ y => y)) (fun g hg => by cases hg) (by rw [w2]; exact w3) (by rw [w2]; exact w4) (by rw [w2]; exact hO) hko x5
  rw [w2] at reh
  refine reh (fun j ej hj Γ6 S6 g6 s6 m6 => ?_) (fun s' es Γ6 S6 g6 s6 m6 v6 d6 lg6 B6 fr6 n6 n6' => ?_)
  · have ej' : orRun (csF T.1.1 T.1.2) os 0 (T.1.1, 0, -1, T.2.2.1) = .inl j := ej
    rw [ej'] at esp
    rw [esp] at k
    obtain ⟨s6', m6'⟩ := frz_un s5 s6
    have g6' := frz_gro s5 g6
    have c6 := c5.sm s5 g6' m6' (by decide)
    have hx6 := c6.1
    refine cx_sp c6 s6' (f11.gr g6') (fun S7 s7 m7 c7 => T_gI_11_14 s7 hx6 (fun x75 e75 _ => ?_))
    have e75' : x75 = nI j := e75.trans (c7.2.2.2.2.2.1 1 (by omega))
    refine ⟨fun z => ?_, fun _ => T_oK_11 s7 hx6 (cx_refuse c7 s7 (frf.gr g6') (n := 3) rfl (by omega) (fun S8 s8 _ c8 => k Γ6 S8 g6' s8 c8))⟩
    exfalso
    rw [e75'] at z
    exact nI_nm (by omega) z
  · have es' : orRun (csF T.1.1 T.1.2) os 0 (T.1.1, 0, -1, T.2.2.1) = .inr s' := es
    rw [es'] at esp
    rw [esp] at k
    obtain ⟨s6', m6'⟩ := frz_un s5 s6
    have g6' := frz_gro s5 g6
    have c6 := c5.sm s5 g6' m6' (by decide)
    have hx6 := c6.1
    have x6 := txR_sam x5 s5 k50 m6' (by decide)
    refine cx_sp c6 s6' (f11.gr g6') (fun S7 s7 m7 c7 => T_gI_11_14 s7 hx6 (fun x75 e75 _ => ?_))
    have e75' : x75 = -1 := e75.trans (c7.2.2.2.2.2.1 1 (by omega))
    have x7 := txR_sam x6 s6' (g6'.1 _ _ k50) m7 (by decide)
    refine ⟨fun _ => E_gP_11_7 s7 hx6 (fun k7 => E_gP_11_5 s7 hx6 (fun _ => E_gP_5_0 s7 (g6'.1 _ _ k5) (fun _ => E_gP_11_0 s7 hx6 (fun k0' => E_gP_11_3 s7 hx6 (fun k3 => T_oK_1 s7 k7 ?_))))), fun z => absurd e75' z⟩
    obtain ⟨v1, v2, v3, v4, v5'⟩ := id c7.2.1
    have hO7 := c7.2.1.okc
    have run := kx_X1_run (u := 16) (lg := some (ρ 3)) (ρg := bk 3 ρ) (us := T.2.2.1) (L := T.1.2) (os := os) (q := fun x108 S => gP S x 11 7 (fun x114 => gI S x114 1 5 (fun x117 => oK S x 11 ∧ w_X11_accept (fun x120 S => q x120 S) S x x117))) s7 k7 k0' (g6'.1 _ _ k50) (by omega) (fr0.gr g6') (fun g hg => by
      cases hg
      refine ⟨k3, flg.gr g6', ?_, c7.2.2.2.1⟩
      rw [lgN_k s7 k3]
      exact cN_up 16) (by rw [v2]; exact v3) (by rw [v2]; exact v4) (by rw [v2]; exact hO7) hko x7
    rw [v2] at run
    refine run (fun j ej => ?_) (fun s2 es2 Γ8 S8 g8 s8 m8 v8 d8 lg8 B8 fr8 n8 n8' => ?_)
    · have ej' : orRun (csF T.1.1 T.1.2) os 0 (T.1.1, 0, -1, T.2.2.1) = .inl j := ej
      rw [es'] at ej'
      cases ej'
    · have es2' : orRun (csF T.1.1 T.1.2) os 0 (T.1.1, 0, -1, T.2.2.1) = .inr s2 := es2
      rw [es'] at es2'
      cases es2'
      have c8 := c7.run s7 g8 m8 v8 B8 fr8 (lg8 (ρ 3) rfl) (orRun_us os 0 es' ⟨v3, c7.2.2.2.2.2.2.2.2.2⟩).2
      have hx8 := c8.1
      refine E_gP_11_7 s8 hx8 (fun k7' => T_gI_1_5 s8 k7' (fun x117 e117 _ => T_oK_11 s8 hx8 (cx_accept c8 s8 ((f11.gr g6').gr g8) (fun S9 s9 _ c9 => ?_))))
      have : x117 = wI s'.2.1 := wI_of (by rw [e117]; exact d8)
      subst this
      exact k Γ8 S9 (g6'.tr g8) s9 c9
end XO
