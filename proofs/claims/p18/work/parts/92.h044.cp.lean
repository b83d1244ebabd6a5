/-! THE CLASS'S TESTS AND PARTS, EXACTLY -/
section CP
variable {S : hS} {ad : Nat → Nat} {E : cE} {W : wW} {wl : Nat} {tx : Nat → Nat} {o p k : Nat} {m0 : Nat → Int32} {V : vR} {out : List (Nat × Nat)}
theorem c_readCmp67 (hd : rD ad) {rec : Nat → (Int32 → hS → Prop) → hS → Nat → Int32 → Prop} {q : Int32 → hS → Prop} {v1 x : Int32} {sub : Nat → Nat → pR} (hs : cSp S ad E (fun q S' => rec 5 q S' (ad 0) v1) sub) (hg : ∀ p k, gdR E.1 W wl p k (sub p k)) {t : Nat} (hR : RC E o m0 V p k out) (hl : out.length ≤ p) (hk : tK E.1 p ≠ 0) (ht : t ≤ 12) (ex : x = nI t) (h1 : ∀ r b, sub (tE E.1 p) k = (r, some b) → ∀ V', RC E o m0 V' r.1 r.2 (out ++ b.1 out.length ++ [(t, 0)]) → q 1 (rv S ad V')) (h0 : ∀ r, sub (tE E.1 p) k = (r, none) → ∀ V', FC E.1 E.2.1 r.1 V' → q 0 (rv S ad V')) : w_X5_readComparison_b67 tx rec q (rv S ad V) (ad 0) v1 x := by
  have hT := hR.1.1.2.1
  have t1 := tE_gt hk
  have t2 := tS_ge E.1 p
  have t3 := tE_le hR.2.2.1
  unfold w_X5_readComparison_b67
  simp (disch := decide) only [ri_gI0 hd, ri_gI1 hd, ri_gI2 hd, ri_gP00 hd, ri_gP01 hd, ri_gP10 hd, ri_gP23 hd, ri_gP24 hd, ri_gP25 hd, ri_gP26 hd, ri_pI0 hd, ri_pZ0 hd, ri_pI1 hd, ri_pI2 hd, ri_oK0 hd, ri_oK1 hd, ri_oK2 hd, ri_aI hd, ri_sI hd, ri_aN hd, rN_3, rN_4, rN_5, rN_6, rN_7, vS_at, Nat.reduceEqDiff, if_true, if_false, ite_true, ite_false, true_and, Nat.reduceLT, reduceIte, reduceCtorEq]
  refine c_adv2 hd hR (fun V1 hR1 => ⟨(ri_oK0 hd).mpr trivial, hs o m0 V1 _ k out _ hR1 (by omega) (fun r b e V2 hR2 => ⟨fun _ => ?_, fun z => absurd z (by decide)⟩) (fun r e V2 hF2 => ⟨fun z => absurd rfl z, fun _ => h0 r e V2 hF2⟩)⟩)
  have g := hg (tE E.1 p) k
  rw [e] at g
  obtain ⟨b1, b2, b3, b4, b5⟩ := g
  obtain ⟨c1, c2, c3, c4⟩ := b5 b rfl
  have lb := (c4 out.length).1
  dsimp only at lb b1 b2
  have b2 := b2 t3
  have l2 : (out ++ b.1 out.length).length = out.length + (b.1 out.length).length := List.length_append
  simp (disch := decide) only [ri_gI0 hd, ri_gI1 hd, ri_gI2 hd, ri_gP00 hd, ri_gP01 hd, ri_gP10 hd, ri_gP23 hd, ri_gP24 hd, ri_gP25 hd, ri_gP26 hd, ri_pI0 hd, ri_pZ0 hd, ri_pI1 hd, ri_pI2 hd, ri_oK0 hd, ri_oK1 hd, ri_oK2 hd, ri_aI hd, ri_sI hd, ri_aN hd, rN_3, rN_4, rN_5, rN_6, rN_7, vS_at, Nat.reduceEqDiff, if_true, if_false, ite_true, ite_false, true_and, Nat.reduceLT, reduceIte, reduceCtorEq]
  exact c_add hd (op := t) (arg := 0) ex rfl hR2 (by omega) ⟨ht, by dsimp only; omega⟩ (fun V3 hR3 => h1 r b e V3 hR3)
theorem cmpOp_eq {G : pG} {p : Nat} : cmpOp G p = (if isSg G p 60 = true then some 7 else if isSg G p 62 = true then some 8 else if isSg G p 61 = true then some 9 else none) := rfl
theorem c_readCmp (hd : rD ad) {rec : Nat → (Int32 → hS → Prop) → hS → Nat → Int32 → Prop} {v1 : Int32} {sub : Nat → Nat → pR} (hs : cSp S ad E (fun q S' => rec 5 q S' (ad 0) v1) sub) (hg : ∀ p k, gdR E.1 W wl p k (sub p k)) : cSp S ad E (fun q S' => wb_X5_readComparison tx rec q S' (ad 0) v1) (prCmp E.1 sub) := by
  intro o m0 V p k out q hR hl h1 h0
  unfold wb_X5_readComparison
  refine ⟨(ri_oK0 hd).mpr trivial, hs o m0 V p k out _ hR hl (fun r a e V1 hR1 => ⟨fun _ => ?_, fun z => absurd z (by decide)⟩) (fun r e V1 hF => ⟨fun z => absurd rfl z, fun _ => h0 r (by unfold prCmp; rw [e]) V1 hF⟩)⟩
  have g := hg p k
  rw [e] at g
  obtain ⟨b1, b2, b3, b4, b5⟩ := g
  obtain ⟨c1, c2, c3, c4⟩ := b5 a rfl
  have la := (c4 out.length).1
  dsimp only at la b1 b2
  have l2 : (out ++ a.1 out.length).length = out.length + (a.1 out.length).length := List.length_append
  have body : ∀ t x, cmpOp E.1 r.1 = some t → x = nI t → w_X5_readComparison_b67 tx rec q (rv S ad V1) (ad 0) v1 x := by
    intro t x ho ex
    obtain ⟨hk, ht⟩ := cmpOp_k ho
    refine c_readCmp67 hd hs hg hR1 (by omega) hk (by omega) ex (fun r' b e2 V3 hR3 => h1 r' (pTwo t a b) ?_ V3 ?_) (fun r' e2 V3 hF3 => h0 r' ?_ V3 hF3)
    · unfold prCmp
      rw [e]
      dsimp only
      rw [ho]
      dsimp only
      rw [e2]
    · rw [← two_app]
      exact hR3
    · unfold prCmp
      rw [e]
      dsimp only
      rw [ho]
      dsimp only
      rw [e2]
  unfold w_X5_readComparison_b46
  refine c_sgP hd (c := 60) rfl hR1 (by decide) (fun hs1 => ⟨fun z => absurd z (by decide), fun _ => ⟨fun _ => body 7 7 (by rw [cmpOp_eq, if_pos hs1]) rfl, fun z => absurd z (by decide)⟩⟩) (fun hs1 => ⟨fun _ => ?_, fun z => absurd rfl z⟩)
  refine c_sgP hd (c := 62) rfl hR1 (by decide) (fun hs2 => ⟨fun z => absurd z (by decide), fun _ => ⟨fun _ => body 8 8 (by rw [cmpOp_eq, if_neg hs1, if_pos hs2]) rfl, fun z => absurd z (by decide)⟩⟩) (fun hs2 => ⟨fun _ => ⟨fun z => absurd rfl z, fun _ => ?_⟩, fun z => absurd rfl z⟩)
  refine c_sgP hd (c := 61) rfl hR1 (by decide) (fun hs3 => ⟨fun _ => body 9 9 (by rw [cmpOp_eq, if_neg hs1, if_neg hs2, if_pos hs3]) rfl, fun z => absurd z (by decide)⟩) (fun hs3 => ⟨fun z => absurd rfl z, fun _ => h0 r ?_ V1 hR1.F⟩)
  unfold prCmp
  rw [e]
  dsimp only
  rw [cmpOp_eq, if_neg hs1, if_neg hs2, if_neg hs3]
theorem c_readBr (hd : rD ad) {rec : Nat → (Int32 → hS → Prop) → hS → Nat → Int32 → Prop} {v : Nat} (hv : v ≤ 8) (hW : okW W wl) (hs : v < 8 → cSp S ad E (fun q S' => rec 0 q S' (ad 0) (nI (v + 1))) (prT E.1 W (8 - (v + 1)))) : cSp S ad E (fun q S' => wb_X5_readBracketedTest tx rec q S' (ad 0) (nI v)) (prBr E.1 W (8 - v)) := by
  intro o m0 V p k out q hR hl h1 h0
  unfold wb_X5_readBracketedTest
  rw [lit_nI 8, nI_leI (by omega) (by omega)]
  refine ⟨fun c => h0 (p, k) ?_ V hR.F, fun c => ⟨(ri_oK0 hd).mpr trivial, c_takeSign hd (c := 40) rfl hR (by decide) (fun hb V1 hR1 => ⟨fun z => absurd z (by decide), fun _ => ⟨(ri_oK0 hd).mpr trivial, ?_⟩⟩) (fun hb => ⟨fun _ => h0 (p, k) (by unfold prBr; rw [if_neg hb]) V hR.F, fun z => absurd rfl z⟩)⟩⟩
  · unfold prBr
    rw [show 8 - v = 0 by omega]
    split
    · rfl
    · rfl
  · have hk : tK E.1 p ≠ 0 := by rw [(isSg_k hb).1]; omega
    have t1 := tE_gt hk
    have t2 := tS_ge E.1 p
    have e8 : 8 - v = (8 - (v + 1)) + 1 := by omega
    rw [nI_1]
    refine hs (by omega) o m0 V1 _ k out _ hR1 (by omega) (fun r a e V2 hR2 => ⟨fun z => absurd z (by decide), fun _ => ⟨(ri_oK0 hd).mpr trivial, ?_⟩⟩) (fun r e V2 hF => ⟨fun _ => h0 r ?_ V2 hF, fun z => absurd rfl z⟩)
    · refine c_takeSign hd (c := 41) rfl hR2 (by decide) (fun hb2 V3 hR3 => ⟨fun z => absurd z (by decide), fun _ => h1 (tE E.1 r.1, r.2) a ?_ V3 hR3⟩) (fun hb2 => ⟨fun _ => h0 r ?_ V2 hR2.F, fun z => absurd rfl z⟩)
      · unfold prBr
        rw [if_pos hb, e8]
        dsimp only [tstO]
        rw [e]
        dsimp only
        rw [if_pos hb2]
      · unfold prBr
        rw [if_pos hb, e8]
        dsimp only [tstO]
        rw [e]
        dsimp only
        rw [if_neg hb2]
    · unfold prBr
      rw [if_pos hb, e8]
      dsimp only [tstO]
      rw [e]
theorem prPn_br {G : pG} {e p k : Nat} : prPn G (tstO G W e) (prS G W e) p k = if isSg G p 40 = true then prBr G W e p k else prCmp G (prS G W e) p k := by
  unfold prPn prBr
  split
  · rfl
  · rfl
theorem nots_s {G : pG} {n p c : Nat} : nots G (n + 1) p c = if isWd G p [110, 111, 116] = true then nots G n (tE G p) (c + 1) else (p, c) := rfl
theorem c_readPl61 (hd : rD ad) {rec : Nat → (Int32 → hS → Prop) → hS → Nat → Int32 → Prop} {q : Int32 → hS → Prop} {c : Nat} {a : pA} (hR : RC E o m0 V p k (out ++ a.1 out.length)) (hl : c % 2 = 1 → (out ++ a.1 out.length).length < 400) (h1 : ∀ V', RC E o m0 V' p k (out ++ (pNot c a).1 out.length) → q 1 (rv S ad V')) : w_X5_readPlain_b61 tx rec q (rv S ad V) (ad 0) (nI (c % 2)) 1 := by
  have e0 : (nI (c % 2) = 0) ↔ c % 2 = 0 := by rw [show (0 : Int32) = nI 0 from rfl, nI_eq (by omega) (by omega)]
  unfold w_X5_readPlain_b61
  rw [e0]
  refine ⟨fun z => absurd z (by decide), fun _ => ⟨fun z => ⟨Or.inr rfl, h1 V ?_⟩, fun z => ?_⟩⟩
  · have : (pNot c a).1 out.length = a.1 out.length := if_neg (by omega)
    rw [this]
    exact hR
  · refine c_addP hd (op := 10) (arg := 0) rfl rfl hR (hl (by omega)) ⟨by decide, by decide⟩ (fun V' hR' => ⟨Or.inr rfl, h1 V' ?_⟩)
    have : (pNot c a).1 out.length = a.1 out.length ++ [(10, 0)] := if_pos (by omega)
    rw [this, ← List.append_assoc]
    exact hR'
theorem c_readPl (hd : rD ad) {rec : Nat → (Int32 → hS → Prop) → hS → Nat → Int32 → Prop} {v : Nat} (hW : okW W wl) (hs3 : cSp S ad E (fun q S' => rec 3 q S' (ad 0) (nI v)) (prBr E.1 W (8 - v))) (hs4 : cSp S ad E (fun q S' => rec 4 q S' (ad 0) (nI v)) (prCmp E.1 (prS E.1 W (8 - v)))) : cSp S ad E (fun q S' => wb_X5_readPlain tx rec q S' (ad 0) (nI v)) (prPl E.1 (tstO E.1 W (8 - v)) (prS E.1 W (8 - v))) := by
  intro o m0 V p k out q hR hl h1 h0
  -- behind the words of "not"
  have k36 : ∀ V' p' c, RC E o m0 V' p' k out → nots E.1 400 p 0 = (p', c) → w_X5_readPlain_b36 tx rec q (rv S ad V') (ad 0) (nI v) (nI (c % 2)) := by
    intro V' p' c hR' en
    obtain ⟨n1, n2, n3, n4⟩ := nots_ok (G := E.1) 400 p 0
    rw [en] at n1 n2 n3 n4
    dsimp only at n1 n2 n3 n4
    have hp' := hR'.2.2.1
    have hT := hR.1.1.2.1
    have g := gd_prPn (gd_tstO hW (8 - v)) (gd_prS hW (8 - v)) p' k (G := E.1)
    have yes : ∀ r a V2, prPn E.1 (tstO E.1 W (8 - v)) (prS E.1 W (8 - v)) p' k = (r, some a) → RC E o m0 V2 r.1 r.2 (out ++ a.1 out.length) → w_X5_readPlain_b61 tx rec q (rv S ad V2) (ad 0) (nI (c % 2)) 1 := by
      intro r a V2 e hR2
      rw [e] at g
      obtain ⟨b1, b2, b3, b4, b5⟩ := g
      obtain ⟨c1, c2, c3, c4⟩ := b5 a rfl
      have la := (c4 out.length).1
      dsimp only at la b1 b2
      have b2 := b2 hp'
      have l2 : (out ++ a.1 out.length).length = out.length + (a.1 out.length).length := List.length_append
      refine c_readPl61 hd hR2 (fun z => by omega) (fun V3 hR3 => h1 r (pNot c a) ?_ V3 hR3)
      unfold prPl
      rw [en]
      dsimp only
      rw [e]
    have no : ∀ r V2, prPn E.1 (tstO E.1 W (8 - v)) (prS E.1 W (8 - v)) p' k = (r, none) → FC E.1 E.2.1 r.1 V2 → w_X5_readPlain_b61 tx rec q (rv S ad V2) (ad 0) (nI (c % 2)) 0 := by
      intro r V2 e hF
      refine ⟨fun _ => ⟨Or.inl rfl, h0 r ?_ V2 hF⟩, fun z => absurd rfl z⟩
      unfold prPl
      rw [en]
      dsimp only
      rw [e]
    rw [prPn_br] at yes no
    unfold w_X5_readPlain_b36
    refine c_sgP hd (c := 40) rfl hR' (by decide) (fun hb => ⟨fun z => absurd z (by decide), fun _ => ⟨(ri_oK0 hd).mpr trivial, ?_⟩⟩) (fun hb => ⟨fun _ => ⟨(ri_oK0 hd).mpr trivial, ?_⟩, fun z => absurd rfl z⟩)
    · rw [if_pos hb] at yes no
      exact hs3 o m0 V' p' k out _ hR' (by omega) (fun r a e V2 hR2 => yes r a V2 e hR2) (fun r e V2 hF => no r V2 e hF)
    · rw [if_neg hb] at yes no
      exact hs4 o m0 V' p' k out _ hR' (by omega) (fun r a e V2 hR2 => yes r a V2 e hR2) (fun r e V2 hF => no r V2 e hF)
  show wb_X5_readPlain tx rec q (rv S ad V) (ad 0) (nI v)
  unfold wb_X5_readPlain
  refine loop_m (σ := vR × Nat × Nat × Nat) (fun n s => w_X5_readPlain_b4 tx rec q n (rv S ad s.1) (ad 0) (nI v) (nI (s.2.2.1 % 2)) (nI s.2.2.2)) (fun s => RC E o m0 s.1 s.2.1 k out ∧ s.2.2.2 ≤ 400 ∧ nots E.1 (400 - s.2.2.2) s.2.1 s.2.2.1 = nots E.1 400 p 0) (fun s => 400 - s.2.2.2) ?_ (V, p, 0, 0) ⟨hR, by dsimp only; omega, rfl⟩
  rintro n ⟨V1, p1, c, i⟩ ⟨hR1, hi, en⟩ ih
  dsimp only at hR1 hi en ih ⊢
  rw [w_X5_readPlain_b4]
  unfold w_X5_readPlain_b29
  rw [lit_nI 400, nI_leI (by omega) (by omega)]
  refine ⟨fun c1 => k36 V1 p1 c hR1 (by rw [← en, show 400 - i = 0 by omega]; rfl), fun c1 => ⟨(ri_oK0 hd).mpr trivial, c_takeWd hd [110, 111, 116] (by decide) hR1 (fun hw V2 hR2 => ⟨fun z => absurd z (by decide), fun _ => ⟨fun z y ey => ?_, fun z y ey => ?_⟩⟩) (fun hw => ⟨fun _ => k36 V1 p1 c hR1 ?_, fun z => absurd rfl z⟩)⟩⟩
  · rw [ey, nI_1, show (0 : Int32) = nI ((c + 1) % 2) by
      have : (c + 1) % 2 = 0 := by
        have e0 : (nI (c % 2) = 0) ↔ c % 2 = 0 := by rw [show (0 : Int32) = nI 0 from rfl, nI_eq (by omega) (by omega)]
        rw [e0] at z
        omega
      rw [this]
      rfl]
    refine ih (V2, tE E.1 p1, c + 1, i + 1) ⟨hR2, by dsimp only; omega, ?_⟩ (by dsimp only; omega)
    dsimp only
    rw [← en, show 400 - i = (400 - (i + 1)) + 1 by omega, nots_s, if_pos hw]
  · rw [ey, nI_1, show (1 : Int32) = nI ((c + 1) % 2) by
      have : (c + 1) % 2 = 1 := by
        have e0 : (nI (c % 2) = 0) ↔ c % 2 = 0 := by rw [show (0 : Int32) = nI 0 from rfl, nI_eq (by omega) (by omega)]
        rw [e0] at z
        omega
      rw [this]
      rfl]
    refine ih (V2, tE E.1 p1, c + 1, i + 1) ⟨hR2, by dsimp only; omega, ?_⟩ (by dsimp only; omega)
    dsimp only
    rw [← en, show 400 - i = (400 - (i + 1)) + 1 by omega, nots_s, if_pos hw]
  · rw [← en, show 400 - i = (400 - (i + 1)) + 1 by omega, nots_s, if_neg hw]
/-- the words, by the class's numbers -/
def fndC (G : pG) (W : wW) (p : Nat) : Int32 := match fndW G W p with
  | none => -1
  | some w => nI w.2.1
theorem c_wdP (hd : rD ad) (s : List Nat) {q : Int32 → hS → Prop} {j : Nat} (hj : (hTxs[j]?).map (fun r => r.2.2.2) = some s) (hR : RC E o m0 V p k out) (h1 : isWd E.1 p s = true → q 1 (rv S ad V)) (h0 : ¬ isWd E.1 p s = true → q 0 (rv S ad V)) : gP (rv S ad V) (ad 0) 5 1 (fun x => oK (rv S ad V) x 9 ∧ w_X9_isWord tx q (rv S ad V) x (tx j)) := (ri_gP01 hd).mpr ⟨(ri_oK1 hd).mpr trivial, c_wd hd s hj hR h1 h0⟩
theorem c_nmP (hd : rD ad) {q : Int32 → hS → Prop} {lo hi : Nat} {v w : Int32} (ev : v = nI lo) (ew : w = nI hi) (hlo : lo < 2000) (hhi : hi < 2000) (hR : RC E o m0 V p k out) (h1 : isNm E.1 p lo hi = true → q 1 (rv S ad V)) (h0 : ¬ isNm E.1 p lo hi = true → q 0 (rv S ad V)) : gP (rv S ad V) (ad 0) 5 1 (fun x => oK (rv S ad V) x 9 ∧ w_X9_isNumber q (rv S ad V) x v w) := (ri_gP01 hd).mpr ⟨(ri_oK1 hd).mpr trivial, c_isNumber hd ev ew hlo hhi hR.2.1 h1 h0⟩
theorem c_lawWord (hd : rD ad) {q : Int32 → hS → Prop} (hR : RC E o m0 V p k out) (h : q (fndC E.1 lwW p) (rv S ad V)) : w_X5_lawWord tx q (rv S ad V) (ad 0) := by
  have e : ∀ x, fndC E.1 lwW p = x → q x (rv S ad V) := fun x z => by rw [← z]; exact h
  unfold w_X5_lawWord
  unfold fndC fndW lwW at e
  refine c_wdP hd [112, 101, 114, 115, 111, 110] (by decide) hR (fun h1 => ⟨fun z => absurd z (by decide), fun _ => e _ (by simp only [List.find?_cons, h1]; rfl)⟩) (fun h1 => ⟨fun _ => ?_, fun z => absurd rfl z⟩)
  refine c_wdP hd [97, 103, 101] (by decide) hR (fun h2 => ⟨fun z => absurd z (by decide), fun _ => e _ (by simp only [List.find?_cons, h1, h2]; rfl)⟩) (fun h2 => ⟨fun _ => ?_, fun z => absurd rfl z⟩)
  refine c_wdP hd [112, 117, 114, 115, 101] (by decide) hR (fun h3 => ⟨fun z => absurd z (by decide), fun _ => e _ (by simp only [List.find?_cons, h1, h2, h3]; rfl)⟩) (fun h3 => ⟨fun _ => ?_, fun z => absurd rfl z⟩)
  refine c_wdP hd [104, 111, 117, 115, 101] (by decide) hR (fun h4 => ⟨fun z => absurd z (by decide), fun _ => e _ (by simp only [List.find?_cons, h1, h2, h3, h4]; rfl)⟩) (fun h4 => ⟨fun _ => ?_, fun z => absurd rfl z⟩)
  refine c_wdP hd [119, 101, 97, 114, 121] (by decide) hR (fun h5 => ⟨fun z => absurd z (by decide), fun _ => e _ (by simp only [List.find?_cons, h1, h2, h3, h4, h5]; rfl)⟩) (fun h5 => ⟨fun _ => ?_, fun z => absurd rfl z⟩)
  refine c_wdP hd [108, 101, 102, 116] (by decide) hR (fun h6 => ⟨fun z => absurd z (by decide), fun _ => e _ (by simp only [List.find?_cons, h1, h2, h3, h4, h5, h6]; rfl)⟩) (fun h6 => ⟨fun _ => ?_, fun z => absurd rfl z⟩)
  refine c_wdP hd [121, 101, 97, 114] (by decide) hR (fun h7 => ⟨fun z => absurd z (by decide), fun _ => e _ (by simp only [List.find?_cons, h1, h2, h3, h4, h5, h6, h7]; rfl)⟩) (fun h7 => ⟨fun _ => ?_, fun z => absurd rfl z⟩)
  refine c_wdP hd [116, 111] (by decide) hR (fun h8 => ⟨fun z => absurd z (by decide), fun _ => e _ (by simp only [List.find?_cons, h1, h2, h3, h4, h5, h6, h7, h8]; rfl)⟩) (fun h8 => ⟨fun _ => ?_, fun z => absurd rfl z⟩)
  exact c_wdP hd [109, 111, 111, 100] (by decide) hR (fun h9 => ⟨fun z => absurd z (by decide), fun _ => e _ (by simp only [List.find?_cons, h1, h2, h3, h4, h5, h6, h7, h8, h9]; rfl)⟩) (fun h9 => ⟨fun _ => e _ (by simp only [List.find?_cons, List.find?_nil, h1, h2, h3, h4, h5, h6, h7, h8, h9]), fun z => absurd rfl z⟩)
theorem c_orderWord (hd : rD ad) {q : Int32 → hS → Prop} (hR : RC E o m0 V p k out) (h : q (fndC E.1 orW p) (rv S ad V)) : w_X5_orderWord tx q (rv S ad V) (ad 0) := by
  have e : ∀ x, fndC E.1 orW p = x → q x (rv S ad V) := fun x z => by rw [← z]; exact h
  unfold w_X5_orderWord
  unfold fndC fndW orW at e
  refine c_wdP hd [121, 101, 97, 114] (by decide) hR (fun h1 => ⟨fun z => absurd z (by decide), fun _ => e _ (by simp only [List.find?_cons, h1]; rfl)⟩) (fun h1 => ⟨fun _ => ?_, fun z => absurd rfl z⟩)
  refine c_wdP hd [100, 111, 110, 101] (by decide) hR (fun h2 => ⟨fun z => absurd z (by decide), fun _ => e _ (by simp only [List.find?_cons, h1, h2]; rfl)⟩) (fun h2 => ⟨fun _ => ?_, fun z => absurd rfl z⟩)
  refine c_wdP hd [108, 97, 116, 101, 115, 116] (by decide) hR (fun h3 => ⟨fun z => absurd z (by decide), fun _ => e _ (by simp only [List.find?_cons, h1, h2, h3]; rfl)⟩) (fun h3 => ⟨fun _ => ?_, fun z => absurd rfl z⟩)
  refine c_wdP hd [108, 105, 118, 105, 110, 103] (by decide) hR (fun h4 => ⟨fun z => absurd z (by decide), fun _ => e _ (by simp only [List.find?_cons, h1, h2, h3, h4]; rfl)⟩) (fun h4 => ⟨fun _ => ?_, fun z => absurd rfl z⟩)
  refine c_wdP hd [112, 117, 114, 115, 101] (by decide) hR (fun h5 => ⟨fun z => absurd z (by decide), fun _ => e _ (by simp only [List.find?_cons, h1, h2, h3, h4, h5]; rfl)⟩) (fun h5 => ⟨fun _ => ?_, fun z => absurd rfl z⟩)
  refine c_wdP hd [108, 101, 102, 116] (by decide) hR (fun h6 => ⟨fun z => absurd z (by decide), fun _ => e _ (by simp only [List.find?_cons, h1, h2, h3, h4, h5, h6]; rfl)⟩) (fun h6 => ⟨fun _ => ?_, fun z => absurd rfl z⟩)
  exact c_wdP hd [119, 101, 97, 114, 121] (by decide) hR (fun h7 => ⟨fun z => absurd z (by decide), fun _ => e _ (by simp only [List.find?_cons, h1, h2, h3, h4, h5, h6, h7]; rfl)⟩) (fun h7 => ⟨fun _ => e _ (by simp only [List.find?_cons, List.find?_nil, h1, h2, h3, h4, h5, h6, h7]), fun z => absurd rfl z⟩)
theorem c_addWord (hd : rD ad) {q : Int32 → hS → Prop} {w : Nat} (hR : RC E o m0 V p k out) (hl : out.length < 400) (hw : w < 2048) (h : ∀ V', RC E o m0 V' p k (out ++ [(1, w)]) → q 1 (rv S ad V')) : w_X5_addWord q (rv S ad V) (ad 0) (nI w) := by
  unfold w_X5_addWord
  simp (disch := decide) only [ri_gI0 hd, ri_gI1 hd, ri_gI2 hd, ri_gP00 hd, ri_gP01 hd, ri_gP10 hd, ri_gP23 hd, ri_gP24 hd, ri_gP25 hd, ri_gP26 hd, ri_pI0 hd, ri_pZ0 hd, ri_pI1 hd, ri_pI2 hd, ri_oK0 hd, ri_oK1 hd, ri_oK2 hd, ri_aI hd, ri_sI hd, ri_aN hd, rN_3, rN_4, rN_5, rN_6, rN_7, vS_at, Nat.reduceEqDiff, if_true, if_false, ite_true, ite_false, true_and, Nat.reduceLT, reduceIte, reduceCtorEq]
  exact c_add hd (op := 1) (arg := w) rfl rfl hR hl ⟨by dsimp only; omega, hw⟩ h
theorem c_readWhose12 (hd : rD ad) {q : Int32 → hS → Prop} {w mx : Nat} {x : Int32} (ex : x = nI mx) (hmx : mx < 2000) (hR : RC E o m0 V p k out) (hl : out.length < 400) (hw : w + mx < 2048) (h1 : isNm E.1 p 0 mx = true → ∀ V', RC E o m0 V' (tE E.1 p) k (out ++ [(1, w + nV E.1 p)]) → q 1 (rv S ad V')) (h0 : ¬ isNm E.1 p 0 mx = true → q 0 (rv S ad V)) : w_X5_readWhose_b12 q (rv S ad V) (ad 0) (nI w) x := by
  unfold w_X5_readWhose_b12
  simp (disch := decide) only [ri_gI0 hd, ri_gI1 hd, ri_gI2 hd, ri_gP00 hd, ri_gP01 hd, ri_gP10 hd, ri_gP23 hd, ri_gP24 hd, ri_gP25 hd, ri_gP26 hd, ri_pI0 hd, ri_pZ0 hd, ri_pI1 hd, ri_pI2 hd, ri_oK0 hd, ri_oK1 hd, ri_oK2 hd, ri_aI hd, ri_sI hd, ri_aN hd, rN_3, rN_4, rN_5, rN_6, rN_7, vS_at, Nat.reduceEqDiff, if_true, if_false, ite_true, ite_false, true_and, Nat.reduceLT, reduceIte, reduceCtorEq]
  refine c_isNumber hd (lo := 0) (hi := mx) rfl ex (by omega) hmx hR.2.1 (fun hn => ⟨fun _ => ?_, fun z => absurd z (by decide)⟩) (fun hn => ⟨fun z => absurd rfl z, fun _ => h0 hn⟩)
  simp (disch := decide) only [ri_gI0 hd, ri_gI1 hd, ri_gI2 hd, ri_gP00 hd, ri_gP01 hd, ri_gP10 hd, ri_gP23 hd, ri_gP24 hd, ri_gP25 hd, ri_gP26 hd, ri_pI0 hd, ri_pZ0 hd, ri_pI1 hd, ri_pI2 hd, ri_oK0 hd, ri_oK1 hd, ri_oK2 hd, ri_aI hd, ri_sI hd, ri_aN hd, rN_3, rN_4, rN_5, rN_6, rN_7, vS_at, Nat.reduceEqDiff, if_true, if_false, ite_true, ite_false, true_and, Nat.reduceLT, reduceIte, reduceCtorEq]
  have hk := isNm_k hn
  rw [hR.2.1.2.2.2 hk.1, nIadd]
  refine c_add hd (op := 1) (arg := w + nV E.1 p) rfl rfl hR hl ⟨by dsimp only; omega, by dsimp only; omega⟩ (fun V' hR' => ?_)
  simp (disch := decide) only [ri_gI0 hd, ri_gI1 hd, ri_gI2 hd, ri_gP00 hd, ri_gP01 hd, ri_gP10 hd, ri_gP23 hd, ri_gP24 hd, ri_gP25 hd, ri_gP26 hd, ri_pI0 hd, ri_pZ0 hd, ri_pI1 hd, ri_pI2 hd, ri_oK0 hd, ri_oK1 hd, ri_oK2 hd, ri_aI hd, ri_sI hd, ri_aN hd, rN_3, rN_4, rN_5, rN_6, rN_7, vS_at, Nat.reduceEqDiff, if_true, if_false, ite_true, ite_false, true_and, Nat.reduceLT, reduceIte, reduceCtorEq]
  exact c_adv2 hd hR' (h1 hn)
end CP
