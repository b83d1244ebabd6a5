/-! THE CLASS'S TEXTS, EXACTLY -/
theorem lwX_C {h : Nat} {s t : Option pA} {n : Nat} : xC (lwX (h, s, t)) n = oC s n ++ oC t (n + (oC s n).length) := by
  simp [xC, xE, xP, lwX, oC]
theorem lwX_E {h : Nat} {s t : Option pA} {n i : Nat} (hi : i ≤ 3) : (if i ≤ 0 then n else n + (oC s n).length) = xE (lwX (h, s, t)) n i := by
  have : i = 0 ∨ i = 1 ∨ i = 2 ∨ i = 3 := by omega
  rcases this with rfl | rfl | rfl | rfl <;> simp [xE, xP, lwX, oC]
theorem hd_5 : ∀ w ∈ hdW, w.2 < 5 := by decide
section CK
variable {S : hS} {ad : Nat → Nat} {E : cE} {W : wW} {wl : Nat} {tx : Nat → Nat} {o p k : Nat} {e : Nat → Nat} {M0 : Nat → Int32} {V : vR} {out : List (Nat × Nat)} {G : pG} {B : Nat → Int32} {z : Nat} {cs : List pX}
theorem c_wdX (hd : rD ad) (s : List Nat) {q : Int32 → hS → Prop} {j : Nat} (hj : (hTxs[j]?).map (fun r => r.2.2.2) = some s) (hR : RX G B z V p k cs) (h1 : isWd G p s = true → q 1 (rv S ad V)) (h0 : ¬ isWd G p s = true → q 0 (rv S ad V)) : w_X9_isWord tx q (rv S ad V) (ad 1) (tx j) := by
  cases e : hTxs[j]? with
  | none => rw [e] at hj; cases hj
  | some r =>
    rw [e] at hj
    cases hj
    exact c_isWord hd e hR.1 hR.2.2.1 hR.2.1 h1 h0
theorem c_takeX (hd : rD ad) (s : List Nat) {q : Int32 → hS → Prop} {j : Nat} (hj : (hTxs[j]?).map (fun r => r.2.2.2) = some s) (hR : RX G B z V p k cs) (h1 : isWd G p s = true → ∀ V', RX G B z V' (tE G p) k cs → q 1 (rv S ad V')) (h0 : ¬ isWd G p s = true → q 0 (rv S ad V)) : w_X5_takeWord tx q (rv S ad V) (ad 0) (tx j) := by
  unfold w_X5_takeWord
  simp (disch := decide) only [ri_gI0 hd, ri_gI1 hd, ri_gI2 hd, ri_gP00 hd, ri_gP01 hd, ri_gP10 hd, ri_gP23 hd, ri_gP24 hd, ri_gP25 hd, ri_gP26 hd, ri_pI0 hd, ri_pZ0 hd, ri_pI1 hd, ri_pI2 hd, ri_oK0 hd, ri_oK1 hd, ri_oK2 hd, ri_aI hd, ri_sI hd, ri_aN hd, rN_3, rN_4, rN_5, rN_6, rN_7, vS_at, Nat.reduceEqDiff, if_true, if_false, ite_true, ite_false, true_and, Nat.reduceLT, reduceIte, reduceCtorEq]
  refine c_wdX hd s hj hR (fun hs => ⟨fun _ => ?_, fun z => absurd z (by decide)⟩) (fun hs => ⟨fun z => absurd rfl z, fun _ => h0 hs⟩)
  simp (disch := decide) only [ri_gI0 hd, ri_gI1 hd, ri_gI2 hd, ri_gP00 hd, ri_gP01 hd, ri_gP10 hd, ri_gP23 hd, ri_gP24 hd, ri_gP25 hd, ri_gP26 hd, ri_pI0 hd, ri_pZ0 hd, ri_pI1 hd, ri_pI2 hd, ri_oK0 hd, ri_oK1 hd, ri_oK2 hd, ri_aI hd, ri_sI hd, ri_aN hd, rN_3, rN_4, rN_5, rN_6, rN_7, vS_at, Nat.reduceEqDiff, if_true, if_false, ite_true, ite_false, true_and, Nat.reduceLT, reduceIte, reduceCtorEq]
  have t1 := tE_gt (G := G) (p := p) (by rw [isWd_k hs]; decide)
  have t2 := tS_ge G p
  have t3 := tE_le hR.2.2.1
  exact c_adv hd hR.1 t3 hR.2.1.2.2.1 hR.2.2.2.2.2.2.2.2.2.2.2.2.1 (fun V' hF ht hn => h1 hs V' (hR.tk hF ht ⟨by omega, t3⟩ hn))
theorem c_wdXP (hd : rD ad) (s : List Nat) {q : Int32 → hS → Prop} {j : Nat} (hj : (hTxs[j]?).map (fun r => r.2.2.2) = some s) (hR : RX G B z V p k cs) (h1 : isWd G p s = true → q 1 (rv S ad V)) (h0 : ¬ isWd G p s = true → q 0 (rv S ad V)) : gP (rv S ad V) (ad 0) 5 1 (fun x => oK (rv S ad V) x 9 ∧ w_X9_isWord tx q (rv S ad V) x (tx j)) := (ri_gP01 hd).mpr ⟨(ri_oK1 hd).mpr trivial, c_wdX hd s hj hR h1 h0⟩
theorem c_lawKind (hd : rD ad) {q : Int32 → hS → Prop} (hR : RX G B z V p k cs) (h : q (whN G hdW p) (rv S ad V)) : w_X5_lawKind tx q (rv S ad V) (ad 0) := by
  have e : ∀ x, whN G hdW p = x → q x (rv S ad V) := fun x z => by rw [← z]; exact h
  unfold w_X5_lawKind
  unfold whN whW hdW at e
  refine c_wdXP hd [116, 105, 114, 101, 115] (by decide) hR (fun h1 => ⟨fun z => absurd z (by decide), fun _ => e _ (by simp only [List.find?_cons, h1]; rfl)⟩) (fun h1 => ⟨fun _ => ?_, fun z => absurd rfl z⟩)
  refine c_wdXP hd [99, 111, 115, 116, 115] (by decide) hR (fun h2 => ⟨fun z => absurd z (by decide), fun _ => e _ (by simp only [List.find?_cons, h1, h2]; rfl)⟩) (fun h2 => ⟨fun _ => ?_, fun z => absurd rfl z⟩)
  refine c_wdXP hd [119, 111, 114, 116, 104] (by decide) hR (fun h3 => ⟨fun z => absurd z (by decide), fun _ => e _ (by simp only [List.find?_cons, h1, h2, h3]; rfl)⟩) (fun h3 => ⟨fun _ => ?_, fun z => absurd rfl z⟩)
  refine c_wdXP hd [111, 112, 101, 110, 115] (by decide) hR (fun h4 => ⟨fun z => absurd z (by decide), fun _ => e _ (by simp only [List.find?_cons, h1, h2, h3, h4]; rfl)⟩) (fun h4 => ⟨fun _ => ?_, fun z => absurd rfl z⟩)
  exact c_wdXP hd [98, 97, 114, 115] (by decide) hR (fun h5 => ⟨fun z => absurd z (by decide), fun _ => e _ (by simp only [List.find?_cons, h1, h2, h3, h4, h5]; rfl)⟩) (fun h5 => ⟨fun _ => e _ (by simp only [List.find?_cons, List.find?_nil, h1, h2, h3, h4, h5]; rfl), fun z => absurd rfl z⟩)
theorem c_lawCl (hd : rD ad) {q : Int32 → hS → Prop} (hR : RX G B 1 V p k cs) (hlt : cs.length < 12) (h1 : ∀ r c, prLaw G p k = (r, some c) → ∀ V', RX G B 1 V' r.1 r.2 (cs ++ [lwX c]) → q 1 (rv S ad V')) (h0 : ∀ r, prLaw G p k = (r, none) → ∀ V', FC G B r.1 V' → q 0 (rv S ad V')) : w_X5_readLawClause tx q (rv S ad V) (ad 0) := by
  unfold w_X5_readLawClause
  refine ⟨(ri_oK0 hd).mpr trivial, c_lawKind hd hR ?_⟩
  unfold prLaw at h1 h0
  cases hw : whW G hdW p with
  | none =>
    rw [hw] at h0
    have e1 : whN G hdW p = -1 := by unfold whN; rw [hw]
    rw [e1]
    exact ⟨fun z => absurd rfl z, fun _ => h0 (p, k) rfl V hR.F⟩
  | some h =>
    rw [hw] at h1 h0
    dsimp only at h1 h0
    have e1 : whN G hdW p = nI h := by unfold whN; rw [hw]
    have h5 : h < 5 ∧ tK G p = 1 := by
      unfold whW at hw
      cases e2 : hdW.find? (fun w => isWd G p w.1) with
      | none => rw [e2] at hw; cases hw
      | some w =>
        rw [e2] at hw
        cases hw
        exact ⟨hd_5 w (List.mem_of_find?_eq_some e2), by have z := List.find?_some e2; exact isWd_k z⟩
    have t1 := tE_gt (G := G) (p := p) (by omega)
    have t2 := tS_ge G p
    have t3 := tE_le hR.2.2.1
    rw [e1]
    refine ⟨fun _ => ?_, fun z => absurd z (nI_nm1 (by omega))⟩
    unfold w_X5_readLawClause_b40
    simp (disch := decide) only [ri_gI0 hd, ri_gI1 hd, ri_gI2 hd, ri_gP00 hd, ri_gP01 hd, ri_gP10 hd, ri_gP23 hd, ri_gP24 hd, ri_gP25 hd, ri_gP26 hd, ri_pI0 hd, ri_pZ0 hd, ri_pI1 hd, ri_pI2 hd, ri_oK0 hd, ri_oK1 hd, ri_oK2 hd, ri_aI hd, ri_sI hd, ri_aN hd, rN_3, rN_4, rN_5, rN_6, rN_7, vS_at, Nat.reduceEqDiff, if_true, if_false, ite_true, ite_false, true_and, Nat.reduceLT, reduceIte, reduceCtorEq]
    refine c_begin hd hR hlt (fun V1 hQ1 => ?_)
    have hx := hR.2.2.2.2.2.2.2.2.2.1.2.2.1
    generalize hE : ((G, B, 1, cs.length + 1, upd (V 4) cs.length (nI h), upd (V 5) cs.length 1) : cE) = E at hQ1
    have hz : wdC E lwW := by subst hE; exact Or.inl ⟨rfl, rfl⟩
    have hG : E.1 = G := by subst hE; rfl
    have hB : E.2.1 = B := by subst hE; rfl
    obtain ⟨m0, hR1, hl1, hm1, hM1⟩ := hQ1
    simp (disch := decide) only [ri_gI0 hd, ri_gI1 hd, ri_gI2 hd, ri_gP00 hd, ri_gP01 hd, ri_gP10 hd, ri_gP23 hd, ri_gP24 hd, ri_gP25 hd, ri_gP26 hd, ri_pI0 hd, ri_pZ0 hd, ri_pI1 hd, ri_pI2 hd, ri_oK0 hd, ri_oK1 hd, ri_oK2 hd, ri_aI hd, ri_sI hd, ri_aN hd, rN_3, rN_4, rN_5, rN_6, rN_7, vS_at, Nat.reduceEqDiff, if_true, if_false, ite_true, ite_false, true_and, Nat.reduceLT, reduceIte, reduceCtorEq]
    refine c_adv2 hd hR1 (fun V2 hR2 => ?_)
    have hQ2 : QC E 0 (fun _ => (xAll cs 0).length) (V 6) V2 (tE G p) k (xAll cs 0) := ⟨m0, by rw [hG] at hR2; exact hR2, by omega, hm1, hM1⟩
    have lt2 : 2 < nI h ↔ 3 ≤ h := by
      rw [Int32.lt_iff_toInt_lt, nI_toInt (by omega), show (2 : Int32).toInt = 2 by decide]
      omega
    rw [lt2]
    -- behind the sum
    have fin : ∀ r s V3, (if h < 3 then opt (prS G lwW 8 (tE G p) k) else ((tE G p, k), some none) : oR) = (r, some s) → QC E 0 (fun _ => (xAll cs 0).length) (V 6) V3 r.1 r.2 (xAll cs 0 ++ oC s (xAll cs 0).length) → oK (rv S ad V3) (ad 0) 5 ∧ w_X5_readIf tx (fun x41 S => (x41 = 0 → q 0 S) ∧ (¬ x41 = 0 → q 1 S)) (rv S ad V3) (ad 0) := by
      intro r s V3 es hQ3
      refine ⟨(ri_oK0 hd).mpr trivial, c_readIf hd hz okW_law (by omega) hQ3 (fun r2 t et V4 hQ4 => ⟨fun z => absurd z (by decide), fun _ => ?_⟩) (fun r2 et V4 hF => ⟨fun _ => h0 r2 ?_ V4 (by rw [hG, hB] at hF; exact hF), fun z => absurd rfl z⟩)⟩
      · rw [hG] at et
        refine h1 r2 (h, s, t) ?_ V4 (QC.fin (K := h) (T := 1) hE.symm hx hQ4 ⟨rfl, rfl⟩ ?_ (fun i hi => ?_))
        · rw [es, lwT, et]
        · rw [lwX_C, List.length_append, List.append_assoc]
        · rw [List.length_append]
          exact lwX_E hi
      · rw [hG] at et
        rw [es, lwT, et]
    refine ⟨fun c => fin (tE G p, k) none V2 (if_neg (by omega)) ?_, fun c => ⟨(ri_oK0 hd).mpr trivial, c_sumQ hd hz okW_law hQ2 (fun r s es V3 hQ3 => ⟨fun z => absurd z (by decide), fun _ => fin r s V3 ?_ hQ3⟩) (fun r es V3 hF => ⟨fun _ => h0 r ?_ V3 (by rw [hG, hB] at hF; exact hF), fun z => absurd rfl z⟩)⟩⟩
    · rw [show xAll cs 0 ++ oC none (xAll cs 0).length = xAll cs 0 from List.append_nil _]
      exact hQ2
    · rw [hG] at es
      rw [if_pos (by omega), es]
    · rw [hG] at es
      rw [if_pos (by omega), es]
      rfl
theorem c_advQ (hd : rD ad) {q : hS → Prop} (hR : QC E o e M0 V p k out) (hk : tK E.1 p ≠ 0) (h : ∀ V', QC E o e M0 V' (tE E.1 p) k out → q (rv S ad V')) : w_X9_advance q (rv S ad V) (ad 1) := by
  obtain ⟨m0, hR, hl, hm, hM⟩ := hR
  have t1 := tE_gt hk
  have t2 := tS_ge E.1 p
  exact c_adv2 hd hR (fun V' hR' => h V' ⟨m0, hR', by omega, hm, hM⟩)
theorem c_nextSum (hd : rD ad) (hz : wdC E orW) (w : List Nat) {q : Int32 → hS → Prop} {j o' : Nat} {v : Int32} (hv : (if 0 < (if 3 < v then 3 else v) then (if 3 < v then 3 else v) else 0) = nI o') (hj : (hTxs[j]?).map (fun r => r.2.2.2) = some w) (ho : o ≤ o' ∧ o' ≤ 3) (hR : QC E o e M0 V p k out) (h1 : ∀ r s, prNx E.1 w p k = (r, some s) → ∀ V', QC E o' (fun i => if i ≤ o then e i else out.length) M0 V' r.1 r.2 (out ++ oC s out.length) → q 1 (rv S ad V')) (h0 : ∀ r, prNx E.1 w p k = (r, none) → ∀ V', FC E.1 E.2.1 r.1 V' → q 0 (rv S ad V')) : w_X5_readNextSum tx q (rv S ad V) (ad 0) (tx j) v := by
  unfold w_X5_readNextSum
  unfold prNx at h1 h0
  refine ⟨(ri_oK0 hd).mpr trivial, c_takeQ hd w hj hR (fun hs V1 hR1 => ⟨fun _ => ?_, fun z => absurd z (by decide)⟩) (fun hs => ⟨fun z => absurd rfl z, fun _ => h0 (p, k) (if_neg hs) V hR.F⟩)⟩
  rw [if_pos hs] at h1 h0
  simp (disch := decide) only [ri_gI0 hd, ri_gI1 hd, ri_gI2 hd, ri_gP00 hd, ri_gP01 hd, ri_gP10 hd, ri_gP23 hd, ri_gP24 hd, ri_gP25 hd, ri_gP26 hd, ri_pI0 hd, ri_pZ0 hd, ri_pI1 hd, ri_pI2 hd, ri_oK0 hd, ri_oK1 hd, ri_oK2 hd, ri_aI hd, ri_sI hd, ri_aN hd, rN_3, rN_4, rN_5, rN_6, rN_7, vS_at, Nat.reduceEqDiff, if_true, if_false, ite_true, ite_false, true_and, Nat.reduceLT, reduceIte, reduceCtorEq]
  exact c_open hd hv hR1 ho (fun V2 hR2 => ⟨(ri_oK0 hd).mpr trivial, c_sumQ hd hz okW_ord hR2 (fun r s es V3 hR3 => ⟨Or.inr rfl, h1 r s es V3 hR3⟩) (fun r es V3 hF => ⟨Or.inl rfl, h0 r es V3 hF⟩)⟩)
theorem upd_upd' {f : Nat → Int32} {i : Nat} {x y : Int32} : upd (upd f i x) i y = upd f i y := by
  funext j
  by_cases c : j = i
  · rw [c, upd_self, upd_self]
  · rw [upd_ne _ _ c, upd_ne _ _ c, upd_ne _ _ c]
theorem c_times (hd : rD ad) {q : Int32 → hS → Prop} {n z : Nat} {kd k5 : Nat → Int32} (hR : QC (G, B, z, n + 1, kd, upd k5 n 1) o e M0 V p k out) (h1 : ∀ r T, prTm G p k = (r, some T) → ∀ V', QC (G, B, z, n + 1, kd, upd k5 n (nI T)) o e M0 V' r.1 r.2 out → q 1 (rv S ad V')) (h0 : ∀ r, prTm G p k = (r, none) → ∀ V', FC G B r.1 V' → q 0 (rv S ad V')) : w_X5_readTimes tx q (rv S ad V) (ad 0) := by
  unfold w_X5_readTimes
  unfold prTm at h1 h0
  refine ⟨(ri_oK0 hd).mpr trivial, c_takeQ hd wTimes (by decide) hR (fun hs V1 hR1 => ⟨fun _ => ?_, fun z => absurd z (by decide)⟩) (fun hs => ⟨fun z => absurd rfl z, fun _ => h1 (p, k) 1 (if_neg hs) V hR⟩)⟩
  rw [if_pos hs] at h1 h0
  obtain ⟨m0, hR1, hl, hm, hM⟩ := hR1
  dsimp only at hR1 hl hm hM
  simp (disch := decide) only [ri_gI0 hd, ri_gI1 hd, ri_gI2 hd, ri_gP00 hd, ri_gP01 hd, ri_gP10 hd, ri_gP23 hd, ri_gP24 hd, ri_gP25 hd, ri_gP26 hd, ri_pI0 hd, ri_pZ0 hd, ri_pI1 hd, ri_pI2 hd, ri_oK0 hd, ri_oK1 hd, ri_oK2 hd, ri_aI hd, ri_sI hd, ri_aN hd, rN_3, rN_4, rN_5, rN_6, rN_7, vS_at, Nat.reduceEqDiff, if_true, if_false, ite_true, ite_false, true_and, Nat.reduceLT, reduceIte, reduceCtorEq]
  refine c_isNumber hd (lo := 1) (hi := 20) rfl rfl (by omega) (by omega) hR1.2.1 (fun hn => ⟨fun _ => ?_, fun z => absurd z (by decide)⟩) (fun hn => ⟨fun z => absurd rfl z, fun _ => h0 _ (if_neg hn) V1 hR1.F⟩)
  rw [if_pos hn] at h1
  have hk := isNm_k hn
  dsimp only at hk
  have t1 := tE_gt (G := G) (p := tE G p) (by omega)
  have t2 := tS_ge G (tE G p)
  have hn12 := hR1.1.2.2.2.2.1.2
  dsimp only at hn12
  have x1 := hR1.2.2.2.2.2.1.1
  dsimp only at x1
  unfold w_X10_setTimes
  simp (disch := decide) only [ri_gI0 hd, ri_gI1 hd, ri_gI2 hd, ri_gP00 hd, ri_gP01 hd, ri_gP10 hd, ri_gP23 hd, ri_gP24 hd, ri_gP25 hd, ri_gP26 hd, ri_pI0 hd, ri_pZ0 hd, ri_pI1 hd, ri_pI2 hd, ri_oK0 hd, ri_oK1 hd, ri_oK2 hd, ri_aI hd, ri_sI hd, ri_aN hd, rN_3, rN_4, rN_5, rN_6, rN_7, vS_at, Nat.reduceEqDiff, if_true, if_false, ite_true, ite_false, true_and, Nat.reduceLT, reduceIte, reduceCtorEq]
  rw [hR1.2.1.2.2.2 hk.1, x1, nI_pm1, nI_clamp (by omega)]
  refine ⟨fun c => ?_, fun _ => ⟨vp_in_nI (by omega) (by omega), ?_⟩⟩
  · rw [Int32.lt_iff_toInt_lt, nI_toInt (by omega), show (1 : Int32).toInt = 1 by decide] at c
    omega
  · have hR2 : RC (G, B, z, n + 1, kd, upd k5 n (nI (nV G (tE G p)))) o m0 (vS V1 5 n (nI (nV G (tE G p)))) (tE G p) k out := by
      obtain ⟨⟨g1, g2, g3, g4, g5, g6, g7⟩, g8, g9, g10, g11, g12, g13, g14, g15, g16, g17⟩ := hR1
      have e : ∀ j, j ≠ 5 → vS V1 5 n (nI (nV G (tE G p))) j = V1 j := fun j hj => by rw [vS_ar, if_neg hj]
      refine ⟨⟨?_, ?_, ?_, g4, g5, ?_, ?_⟩, ?_, g9, ?_, g11, ?_, g13, g14, g15, ?_, ?_⟩
      · unfold tpC at *; rw [e 1 (by decide), e 3 (by decide)]; exact g1
      · rw [e 3 (by decide)]; exact g2
      · rw [e 0 (by decide)]; exact g3
      · rw [e 4 (by decide)]; exact g6
      · rw [vS_ar, if_pos rfl, g7]; exact upd_upd'
      · unfold tkC at *; rw [e 1 (by decide)]; exact g8
      · rw [e 0 (by decide)]; exact g10
      · unfold TX at *; rw [e 2 (by decide), e 6 (by decide), e 7 (by decide)]; exact g12
      · unfold okN at *; rw [e 1 (by decide)]; exact g16
      · unfold bndC at *; rw [e 6 (by decide), e 7 (by decide)]; exact g17
    generalize vS V1 5 n (nI (nV G (tE G p))) = V2 at hR2 ⊢
    exact c_adv2 hd hR2 (fun V3 hR3 => h1 _ _ rfl V3 ⟨m0, hR3, by dsimp only; omega, hm, hM⟩)
end CK
