/-! THE CLASS'S SUMS AND TESTS, EXACTLY -/
theorem lw_c : ∀ w ∈ lwW, w.2.1 < 9 ∧ w.2.2.2 = none := by decide
theorem or_c : ∀ w ∈ orW, w.2.1 ≤ 20 ∧ (w.2.1 < 4 → w.2.2.2 = none) ∧ (4 ≤ w.2.1 → w.2.2.2 = some (if w.2.1 = 20 then 5 else 7)) := by decide
def rdC (t : Nat) : Int := if t = 0 then 7 else if t = 1 then 6 else if t = 2 then 5 else if t = 3 then 1 else if t = 4 then 4 else if t = 5 then 3 else if t = 6 then 2 else 1
/-- whether it is a law's text, and the words of it -/
def wdC (E : cE) (W : wW) : Prop := (E.2.2.1 = 1 ∧ W = lwW) ∨ (E.2.2.1 = 0 ∧ W = orW)
section CF
variable {S : hS} {ad : Nat → Nat} {E : cE} {W : wW} {wl : Nat} {tx : Nat → Nat} {o p k : Nat} {m0 : Nat → Int32} {V : vR} {out : List (Nat × Nat)}
theorem c_rf130 (hd : rD ad) (hz : wdC E W) {rec : Nat → (Int32 → hS → Prop) → hS → Nat → Int32 → Prop} {q : Int32 → hS → Prop} {inner : Option (Nat → Nat → pR)} (hR : RC E o m0 V p (k + 1) out) (hl : out.length ≤ p) (hb : ¬ isSg E.1 p 91 = true) (hk : ¬ 50 ≤ k) (hn : ¬ isNm E.1 p 0 1000 = true) (h1 : ∀ r a, prF E.1 W inner p k = (r, some a) → ∀ V', RC E o m0 V' r.1 r.2 (out ++ a.1 out.length) → q 1 (rv S ad V')) (h0 : ∀ r, prF E.1 W inner p k = (r, none) → ∀ V', FC E.1 E.2.1 r.1 V' → q 0 (rv S ad V')) : w_X5_readFactor_b130 tx rec q (rv S ad V) (ad 0) (fndC E.1 W p) := by
  have hT := hR.1.1.2.1
  have hp := hR.2.2.1
  unfold prF at h1 h0
  rw [if_neg hb, if_neg hk, if_neg hn] at h1 h0
  unfold w_X5_readFactor_b130 w_X5_readFactor_b157
  cases hw : fndW E.1 W p with
  | none =>
    rw [hw] at h0
    have e : fndC E.1 W p = -1 := by unfold fndC; rw [hw]
    rw [e]
    exact ⟨fun z => absurd rfl z, fun _ => h0 _ rfl V hR.F⟩
  | some w =>
    rw [hw] at h1 h0
    dsimp only at h1 h0
    have e : fndC E.1 W p = nI w.2.1 := by unfold fndC; rw [hw]
    rw [e]
    obtain ⟨hin, hk1⟩ := fndW_in hw
    have t1 := tE_gt (G := E.1) (p := p) (by omega)
    have t2 := tS_ge E.1 p
    have t3 := tE_le hp
    have hlt : w.2.1 ≤ 20 := by
      rcases hz with ⟨-, z⟩ | ⟨-, z⟩
      · subst z; have := (lw_c w hin).1; omega
      · subst z; exact (or_c w hin).1
    have nm : ¬ nI w.2.1 = -1 := nI_nm1 (by omega)
    refine ⟨fun _ => ?_, fun z => absurd z nm⟩
    simp (disch := decide) only [ri_gI0 hd, ri_gI1 hd, ri_gI2 hd, ri_gP00 hd, ri_gP01 hd, ri_gP10 hd, ri_gP23 hd, ri_gP24 hd, ri_gP25 hd, ri_gP26 hd, ri_pI0 hd, ri_pZ0 hd, ri_pI1 hd, ri_pI2 hd, ri_oK0 hd, ri_oK1 hd, ri_oK2 hd, ri_aI hd, ri_sI hd, ri_aN hd, rN_3, rN_4, rN_5, rN_6, rN_7, vS_at, Nat.reduceEqDiff, if_true, if_false, ite_true, ite_false, true_and, Nat.reduceLT, reduceIte, reduceCtorEq]
    refine c_adv2 hd hR (fun V1 hR1 => ?_)
    simp (disch := decide) only [ri_gI0 hd, ri_gI1 hd, ri_gI2 hd, ri_gP00 hd, ri_gP01 hd, ri_gP10 hd, ri_gP23 hd, ri_gP24 hd, ri_gP25 hd, ri_gP26 hd, ri_pI0 hd, ri_pZ0 hd, ri_pI1 hd, ri_pI2 hd, ri_oK0 hd, ri_oK1 hd, ri_oK2 hd, ri_aI hd, ri_sI hd, ri_aN hd, rN_3, rN_4, rN_5, rN_6, rN_7, vS_at, Nat.reduceEqDiff, if_true, if_false, ite_true, ite_false, true_and, Nat.reduceLT, reduceIte, reduceCtorEq]
    have plain : w.2.2.2 = none → w_X5_addWord (fun x159 S => (x159 = 0 ∨ x159 = 1) ∧ q x159 S) (rv S ad V1) (ad 0) (nI w.2.1) := by
      intro hm
      rw [hm] at h1
      exact c_addWord hd hR1 (by omega) (by omega) (fun V2 hR2 => ⟨Or.inr rfl, h1 _ (pWrd w.2.1 w.2.2.1 0) rfl V2 hR2⟩)
    rw [hR1.1.2.2.1]
    rcases hz with ⟨z, zW⟩ | ⟨z, zW⟩
    · rw [z]
      subst zW
      exact ⟨fun _ => plain (lw_c w hin).2, fun z => absurd z (by decide)⟩
    · rw [z]
      subst zW
      obtain ⟨o1, o2, o3⟩ := or_c w hin
      rw [lit_nI 4, nI_leI (by omega) (by omega)]
      refine ⟨fun z => absurd rfl z, fun _ => ⟨fun c => ?_, fun c => plain (o2 (by omega))⟩⟩
      have hm := o3 c
      rw [hm] at h1 h0
      dsimp only at h1 h0
      have fin : ∀ mx x, (if w.2.1 = 20 then 5 else 7) = mx → mx < 10 → x = nI mx → w_X5_readWhose_b12 (fun x167 S => (x167 = 0 ∨ x167 = 1) ∧ q x167 S) (rv S ad V1) (ad 0) (nI w.2.1) x := by
        intro mx x em hmx ex
        rw [em] at h1 h0
        refine c_readWhose12 hd ex (by omega) hR1 (by omega) (by omega) (fun hn2 V2 hR2 => ⟨Or.inr rfl, h1 _ (pWrd (w.2.1 + nV E.1 (tE E.1 p)) w.2.2.1 (nV E.1 (tE E.1 p))) (by rw [if_pos hn2]) V2 hR2⟩) (fun hn2 => ⟨Or.inl rfl, h0 _ (by rw [if_neg hn2]) V1 hR1.F⟩)
      unfold w_X5_readWhose
      rw [lit_nI 20, nI_eq (by omega) (by omega)]
      exact ⟨fun c2 => fin 7 7 (if_neg c2) (by omega) rfl, fun c2 => fin 5 5 (if_pos c2) (by omega) rfl⟩
theorem c_readFac (hd : rD ad) (hz : wdC E W) {rec : Nat → (Int32 → hS → Prop) → hS → Nat → Int32 → Prop} {v : Nat} (hv : v ≤ 8) (hs : v < 8 → cSp S ad E (fun q S' => rec 5 q S' (ad 0) (nI (v + 1))) (prS E.1 W (8 - (v + 1)))) : cSp S ad E (fun q S' => wb_X5_readFactor tx rec q S' (ad 0) (nI v)) (prF E.1 W (facO E.1 W (8 - v))) := by
  intro o m0 V p k out q hR hl h1 h0
  have hT := hR.1.1.2.1
  have hp := hR.2.2.1
  have hk50 := hR.2.2.2.2.1
  show wb_X5_readFactor tx rec q (rv S ad V) (ad 0) (nI v)
  unfold wb_X5_readFactor
  simp (disch := decide) only [ri_gI0 hd, ri_gI1 hd, ri_gI2 hd, ri_gP00 hd, ri_gP01 hd, ri_gP10 hd, ri_gP23 hd, ri_gP24 hd, ri_gP25 hd, ri_gP26 hd, ri_pI0 hd, ri_pZ0 hd, ri_pI1 hd, ri_pI2 hd, ri_oK0 hd, ri_oK1 hd, ri_oK2 hd, ri_aI hd, ri_sI hd, ri_aN hd, rN_3, rN_4, rN_5, rN_6, rN_7, vS_at, Nat.reduceEqDiff, if_true, if_false, ite_true, ite_false, true_and, Nat.reduceLT, reduceIte, reduceCtorEq]
  refine c_sg hd (c := 91) rfl hR (by decide) (fun hb => ⟨fun z => absurd z (by decide), fun _ => ?_⟩) (fun hb => ⟨fun _ => ?_, fun z => absurd rfl z⟩)
  · unfold prF at h1 h0
    rw [if_pos hb] at h1 h0
    rw [lit_nI 8, nI_leI (by omega) (by omega)]
    refine ⟨fun c => h0 (p, k) (by rw [show 8 - v = 0 by omega]; rfl) V hR.F, fun c => ⟨(ri_oK0 hd).mpr trivial, c_takeSign hd (c := 91) rfl hR (by decide) (fun _ V1 hR1 => ⟨fun z => absurd z (by decide), fun _ => ⟨(ri_oK0 hd).mpr trivial, ?_⟩⟩) (fun z => absurd hb z)⟩⟩
    have hk : tK E.1 p ≠ 0 := by rw [(isSg_k hb).1]; omega
    have t1 := tE_gt hk
    have t2 := tS_ge E.1 p
    rw [show 8 - v = (8 - (v + 1)) + 1 by omega] at h1 h0
    dsimp only [facO] at h1 h0
    rw [nI_1]
    refine hs (by omega) o m0 V1 _ k out _ hR1 (by omega) (fun r a e V2 hR2 => ⟨fun z => absurd z (by decide), fun _ => ⟨(ri_oK0 hd).mpr trivial, ?_⟩⟩) (fun r e V2 hF => ⟨fun _ => h0 r (by rw [e]) V2 hF, fun z => absurd rfl z⟩)
    rw [e] at h1 h0
    dsimp only at h1 h0
    exact c_takeSign hd (c := 93) rfl hR2 (by decide) (fun hb2 V3 hR3 => ⟨fun z => absurd z (by decide), fun _ => h1 (tE E.1 r.1, r.2) a (by rw [if_pos hb2]) V3 hR3⟩) (fun hb2 => ⟨fun _ => h0 r (by rw [if_neg hb2]) V2 hR2.F, fun z => absurd rfl z⟩)
  · have e50 : V 0 3 < 50 ↔ k < 50 := by
      rw [hR.2.2.2.1, Int32.lt_iff_toInt_lt, nI_toInt (by omega), show (50 : Int32).toInt = 50 by decide]
      omega
    simp (disch := decide) only [ri_gI0 hd, ri_gI1 hd, ri_gI2 hd, ri_gP00 hd, ri_gP01 hd, ri_gP10 hd, ri_gP23 hd, ri_gP24 hd, ri_gP25 hd, ri_gP26 hd, ri_pI0 hd, ri_pZ0 hd, ri_pI1 hd, ri_pI2 hd, ri_oK0 hd, ri_oK1 hd, ri_oK2 hd, ri_aI hd, ri_sI hd, ri_aN hd, rN_3, rN_4, rN_5, rN_6, rN_7, vS_at, Nat.reduceEqDiff, if_true, if_false, ite_true, ite_false, true_and, Nat.reduceLT, reduceIte, reduceCtorEq]
    rw [e50]
    refine ⟨fun c => ?_, fun c => h0 (p, k) (by unfold prF; rw [if_neg hb, if_pos (by omega)]) V hR.F⟩
    rw [hR.2.2.2.1, nI_1]
    have hR1 := hR.pt c
    refine c_isNumber hd (lo := 0) (hi := 1000) rfl rfl (by omega) (by omega) hR1.2.1 (fun hn => ⟨fun z => absurd z (by decide), fun _ => ?_⟩) (fun hn => ⟨fun _ => ?_, fun z => absurd rfl z⟩)
    · have hk := isNm_k hn
      have t1 := tE_gt (G := E.1) (p := p) (by omega)
      have t2 := tS_ge E.1 p
      have t3 := tE_le hp
      have e4 := hR1.2.1.2.2.2 hk.1
      generalize vS V 0 3 (nI (k + 1)) = V1 at hR1 e4 ⊢
      simp (disch := decide) only [ri_gI0 hd, ri_gI1 hd, ri_gI2 hd, ri_gP00 hd, ri_gP01 hd, ri_gP10 hd, ri_gP23 hd, ri_gP24 hd, ri_gP25 hd, ri_gP26 hd, ri_pI0 hd, ri_pZ0 hd, ri_pI1 hd, ri_pI2 hd, ri_oK0 hd, ri_oK1 hd, ri_oK2 hd, ri_aI hd, ri_sI hd, ri_aN hd, rN_3, rN_4, rN_5, rN_6, rN_7, vS_at, Nat.reduceEqDiff, if_true, if_false, ite_true, ite_false, true_and, Nat.reduceLT, reduceIte, reduceCtorEq]
      rw [e4]
      refine c_add hd (op := 0) (arg := nV E.1 p) rfl rfl hR1 (by omega) ⟨by dsimp only; omega, by dsimp only; omega⟩ (fun V2 hR2 => ?_)
      simp (disch := decide) only [ri_gI0 hd, ri_gI1 hd, ri_gI2 hd, ri_gP00 hd, ri_gP01 hd, ri_gP10 hd, ri_gP23 hd, ri_gP24 hd, ri_gP25 hd, ri_gP26 hd, ri_pI0 hd, ri_pZ0 hd, ri_pI1 hd, ri_pI2 hd, ri_oK0 hd, ri_oK1 hd, ri_oK2 hd, ri_aI hd, ri_sI hd, ri_aN hd, rN_3, rN_4, rN_5, rN_6, rN_7, vS_at, Nat.reduceEqDiff, if_true, if_false, ite_true, ite_false, true_and, Nat.reduceLT, reduceIte, reduceCtorEq]
      refine c_adv2 hd hR2 (fun V3 hR3 => h1 (tE E.1 p, k + 1) (pNum (nV E.1 p)) ?_ V3 hR3)
      unfold prF
      rw [if_neg hb, if_neg (by omega), if_pos hn]
    · have e2 := hR1.1.2.2.1
      generalize vS V 0 3 (nI (k + 1)) = V1 at hR1 e2 ⊢
      simp (disch := decide) only [ri_gI0 hd, ri_gI1 hd, ri_gI2 hd, ri_gP00 hd, ri_gP01 hd, ri_gP10 hd, ri_gP23 hd, ri_gP24 hd, ri_gP25 hd, ri_gP26 hd, ri_pI0 hd, ri_pZ0 hd, ri_pI1 hd, ri_pI2 hd, ri_oK0 hd, ri_oK1 hd, ri_oK2 hd, ri_aI hd, ri_sI hd, ri_aN hd, rN_3, rN_4, rN_5, rN_6, rN_7, vS_at, Nat.reduceEqDiff, if_true, if_false, ite_true, ite_false, true_and, Nat.reduceLT, reduceIte, reduceCtorEq]
      rw [e2]
      have fin := c_rf130 (tx := tx) (rec := rec) (q := q) (inner := facO E.1 W (8 - v)) hd hz hR1 hl hb (by omega) hn h1 h0
      rcases id hz with ⟨z, zW⟩ | ⟨z, zW⟩
      · rw [z]
        subst zW
        exact ⟨fun z => absurd z (by decide), fun _ => c_lawWord hd hR1 fin⟩
      · rw [z]
        subst zW
        exact ⟨fun _ => c_orderWord hd hR1 fin, fun z => absurd rfl z⟩
theorem c_rd (hd : rD ad) (hz : wdC E W) (hW : okW W wl) : ∀ d t v : Nat, rdC t + 7 * (8 - (v : Int)) ≤ (d : Int) → t < 8 → v ≤ 8 → cSp S ad E (fun q S' => wr_R tx d t q S' (ad 0) (nI v)) (sp E.1 W t (8 - v)) := by
  have r0 : rdC 0 = 7 := rfl
  have r1 : rdC 1 = 6 := rfl
  have r2 : rdC 2 = 5 := rfl
  have r3 : rdC 3 = 1 := rfl
  have r4 : rdC 4 = 4 := rfl
  have r5 : rdC 5 = 3 := rfl
  have r6 : rdC 6 = 2 := rfl
  have r7 : rdC 7 = 1 := rfl
  intro d
  induction d with
  | zero =>
    intro t v hd ht hv
    have : 1 ≤ rdC t := by unfold rdC; split <;> omega
    omega
  | succ d ihd =>
    intro t v hdd ht hv
    have hT : t = 0 ∨ t = 1 ∨ t = 2 ∨ t = 3 ∨ t = 4 ∨ t = 5 ∨ t = 6 ∨ t = 7 := by omega
    have g := gd_sp (G := E.1) hW
    rcases hT with rfl | rfl | rfl | rfl | rfl | rfl | rfl | rfl
    · intro o m0 V p k out q hR hl h1 h0
      have e0 : sp E.1 W 0 (8 - v) = rowP E.1 (orOp E.1) (sp E.1 W 1 (8 - v)) pJmp := by
        show prT E.1 W (8 - v) = _
        rw [prT_e]
        rfl
      rw [e0] at h1 h0
      show wb_X5_readTest tx (wr_R tx d) q (rv S ad V) (ad 0) (nI v)
      unfold wb_X5_readTest
      have hs := ihd 1 v (by omega) (by omega) hv
      refine ⟨(ri_oK0 hd).mpr trivial, hs o m0 V p k out _ hR hl (fun r a e V1 hR1 => ⟨fun _ => ?_, fun z => absurd z (by decide)⟩) (fun r e V1 hF => ⟨fun z => absurd rfl z, fun _ => h0 r (rowP_no e) V1 hF⟩)⟩
      have g1 := g 1 (8 - v) p k
      rw [e] at g1
      have la := ((g1.2.2.2.2 a rfl).2.2.2 out.length).1
      dsimp only at la
      exact c_readTest12 hd hs (g 1 (8 - v)) hR1 (by rw [List.length_append]; omega) (rowP_so e).symm h1 h0
    · intro o m0 V p k out q hR hl h1 h0
      have e0 : sp E.1 W 1 (8 - v) = rowP E.1 (andOp E.1) (sp E.1 W 2 (8 - v)) pJmp := rfl
      rw [e0] at h1 h0
      show wb_X5_readBoth tx (wr_R tx d) q (rv S ad V) (ad 0) (nI v)
      unfold wb_X5_readBoth
      have hs := ihd 2 v (by omega) (by omega) hv
      refine ⟨(ri_oK0 hd).mpr trivial, hs o m0 V p k out _ hR hl (fun r a e V1 hR1 => ⟨fun _ => ?_, fun z => absurd z (by decide)⟩) (fun r e V1 hF => ⟨fun z => absurd rfl z, fun _ => h0 r (rowP_no e) V1 hF⟩)⟩
      have g1 := g 2 (8 - v) p k
      rw [e] at g1
      have la := ((g1.2.2.2.2 a rfl).2.2.2 out.length).1
      dsimp only at la
      exact c_readBoth12 hd hs (g 2 (8 - v)) hR1 (by rw [List.length_append]; omega) (rowP_so e).symm h1 h0
    · exact c_readPl hd hW (ihd 3 v (by omega) (by omega) hv) (ihd 4 v (by omega) (by omega) hv)
    · exact c_readBr (tx := tx) hd hv hW (fun c => ihd 0 (v + 1) (by omega) (by omega) (by omega))
    · exact c_readCmp hd (ihd 5 v (by omega) (by omega) hv) (g 5 (8 - v))
    · intro o m0 V p k out q hR hl h1 h0
      have e0 : sp E.1 W 5 (8 - v) = rowP E.1 (addOp E.1) (sp E.1 W 6 (8 - v)) pTwo := by
        show prS E.1 W (8 - v) = _
        rw [prS_e]
        rfl
      rw [e0] at h1 h0
      show wb_X5_readSum tx (wr_R tx d) q (rv S ad V) (ad 0) (nI v)
      unfold wb_X5_readSum
      have hs := ihd 6 v (by omega) (by omega) hv
      refine ⟨(ri_oK0 hd).mpr trivial, hs o m0 V p k out _ hR hl (fun r a e V1 hR1 => ⟨fun _ => ?_, fun z => absurd z (by decide)⟩) (fun r e V1 hF => ⟨fun z => absurd rfl z, fun _ => h0 r (rowP_no e) V1 hF⟩)⟩
      have g1 := g 6 (8 - v) p k
      rw [e] at g1
      have la := ((g1.2.2.2.2 a rfl).2.2.2 out.length).1
      dsimp only at la
      exact c_readSum12 hd hs (g 6 (8 - v)) hR1 (by rw [List.length_append]; omega) (rowP_so e).symm h1 h0
    · intro o m0 V p k out q hR hl h1 h0
      have e0 : sp E.1 W 6 (8 - v) = rowP E.1 (mulOp E.1) (sp E.1 W 7 (8 - v)) pTwo := rfl
      rw [e0] at h1 h0
      show wb_X5_readTerm tx (wr_R tx d) q (rv S ad V) (ad 0) (nI v)
      unfold wb_X5_readTerm
      have hs := ihd 7 v (by omega) (by omega) hv
      refine ⟨(ri_oK0 hd).mpr trivial, hs o m0 V p k out _ hR hl (fun r a e V1 hR1 => ⟨fun _ => ?_, fun z => absurd z (by decide)⟩) (fun r e V1 hF => ⟨fun z => absurd rfl z, fun _ => h0 r (rowP_no e) V1 hF⟩)⟩
      have g1 := g 7 (8 - v) p k
      rw [e] at g1
      have la := ((g1.2.2.2.2 a rfl).2.2.2 out.length).1
      dsimp only at la
      exact c_readTerm12 hd hs (g 7 (8 - v)) hR1 (by rw [List.length_append]; omega) (rowP_so e).symm h1 h0
    · exact c_readFac hd hz hv (fun c => ihd 5 (v + 1) (by omega) (by omega) (by omega))
theorem c_sum (hd : rD ad) (hz : wdC E W) (hW : okW W wl) : cSp S ad E (fun q S' => w_X5_readSum tx q S' (ad 0) 0) (prS E.1 W 8) := c_rd hd hz hW 64 5 0 (by decide) (by decide) (by decide)
theorem c_tst (hd : rD ad) (hz : wdC E W) (hW : okW W wl) : cSp S ad E (fun q S' => w_X5_readTest tx q S' (ad 0) 0) (prT E.1 W 8) := c_rd hd hz hW 64 0 0 (by decide) (by decide) (by decide)
end CF
