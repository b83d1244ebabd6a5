/-! A SUM OF ORDERS IN THE REFERENCE COMES TO WHAT IT MEANS -/
/-- a leaf's value -/
def eRf (F nw : Nat → Int32) : Nat → Nat → Int := fun op arg => if op = 0 then (arg : Int) else (lfN F nw op (nI arg)).toInt
section SM
variable {S : hS} {o : Nat} {ad : Nat → Nat} {M N : mS} {mT : mS} {T : aS} {rs : Nat} {F nw : Nat → Int32} {e : Nat → Int}
def nwB (nw : Nat → Int32) : Prop := ∀ j, 1 ≤ j → j ≤ 4 → -1000000 ≤ (nw j).toInt ∧ (nw j).toInt ≤ 1000000
theorem lfN_b (hB : rB F) (hn : nwB nw) {p : Nat} {arg : Int32} (hp : p ≠ 0) : -1000000 ≤ (lfN F nw p arg).toInt ∧ (lfN F nw p arg).toInt ≤ 1000000 := by
  have m1 : (-1 : Int32).toInt = -1 := by decide
  have b0 := rB_0 hB
  have b1 := rB_1 hB
  unfold lfN
  rw [if_neg hp]
  by_cases c5 : p < 5
  · rw [if_pos c5]; exact hn p (by omega) (by omega)
  · rw [if_neg c5]
    by_cases c7 : p = 7
    · rw [if_pos c7]
      by_cases c : 0 ≤ arg.toInt ∧ arg.toInt < iR F 0
      · rw [if_pos c]
        have := hB.1 (8 + arg.toInt.toNat) (by omega)
        rw [(hi_w (by omega)).1, (hi_w (by omega)).2] at this
        unfold iR at this
        omega
      · rw [if_neg c, m1]; omega
    · rw [if_neg c7]
      by_cases c : 0 ≤ arg.toInt ∧ arg.toInt < iR F 1
      · rw [if_pos c]
        by_cases c6 : p = 5
        · rw [if_pos c6]
          have := hB.1 (14 + arg.toInt.toNat) (by omega)
          have h1 : rLo (14 + arg.toInt.toNat) = 0 := by unfold rLo; rw [if_neg (by omega)]
          have h2 : rHi (14 + arg.toInt.toNat) = 999 := by
            unfold rHi
            rw [if_neg (by omega), if_neg (by omega), if_neg (by omega), if_neg (by omega), if_neg (by omega), if_neg (by omega), if_neg (by omega), if_neg (by omega), if_pos (by omega)]
          rw [h1, h2] at this
          unfold iR at this
          omega
        · rw [if_neg c6]
          have hH : nHR F ≤ 6 := by unfold nHR; omega
          have := allLR_in hB (p := arg.toInt.toNat) (by omega) (nHR F) hH
          rw [wI_i (by omega)]
          omega
      · rw [if_neg c, m1]; omega
theorem lnk_or (hB : rB F) {dn last : Int} (h1 : nw 1 = F 5) (h2 : (nw 2).toInt = dn) (h3 : (nw 3).toInt = last) (h4 : (nw 4).toInt = aliveR F (nPR F)) : lnk orW (envO F dn last) (eRf F nw) := by
  have b0 := rB_0 hB
  have b1 := rB_1 hB
  have hH : nHR F ≤ 6 := by unfold nHR; omega
  have hP : nPR F ≤ 8 := by unfold nPR; omega
  have m1 : (-1 : Int32).toInt = -1 := by decide
  refine ⟨fun v => rfl, fun w hw => ?_⟩
  have nn : ∀ {mx : Nat} {P : Prop}, (none : Option Nat) = some mx → P := fun h => by cases h
  have ns : ∀ {mx : Nat} {P : Prop}, some mx = (none : Option Nat) → P := fun h => by cases h
  simp only [orW, List.mem_cons, List.not_mem_nil, or_false] at hw
  rcases hw with rfl | rfl | rfl | rfl | rfl | rfl | rfl
  · refine ⟨fun mx h => nn h, fun _ => ?_⟩
    show (nw 1).toInt = iR F 5
    rw [h1]; rfl
  · exact ⟨fun mx h => nn h, fun _ => h2⟩
  · exact ⟨fun mx h => nn h, fun _ => h3⟩
  · exact ⟨fun mx h => nn h, fun _ => h4⟩
  · refine ⟨fun mx h v hv => ?_, fun h => ns h⟩
    have hv7 : v ≤ 7 := by cases h; exact hv
    have tv : (nI v).toInt = v := nI_toInt (by omega)
    show (lfN F nw 5 (nI v)).toInt = envO F dn last (4 + v)
    have eE : envO F dn last (4 + v) = if v < nPR F then iR F (14 + v) else -1 := by
      unfold envO
      rw [if_neg (by omega), if_neg (by omega), if_neg (by omega), if_neg (by omega), if_pos (by omega), show 4 + v - 4 = v by omega]
    rw [eE]
    unfold lfN
    rw [if_neg (by omega), if_neg (by omega), if_neg (by omega), tv]
    by_cases c : v < nPR F
    · rw [if_pos c, if_pos (by unfold nPR at c; omega), if_pos rfl, Int.toNat_natCast]
      rfl
    · rw [if_neg c, if_neg (by unfold nPR at c; omega), m1]
  · refine ⟨fun mx h v hv => ?_, fun h => ns h⟩
    have hv7 : v ≤ 7 := by cases h; exact hv
    have tv : (nI v).toInt = v := nI_toInt (by omega)
    show (lfN F nw 6 (nI v)).toInt = envO F dn last (12 + v)
    have eE : envO F dn last (12 + v) = if v < nPR F then allLR F v (nHR F) else -1 := by
      unfold envO
      rw [if_neg (by omega), if_neg (by omega), if_neg (by omega), if_neg (by omega), if_neg (by omega), if_pos (by omega), show 12 + v - 12 = v by omega]
    rw [eE]
    unfold lfN
    rw [if_neg (by omega), if_neg (by omega), if_neg (by omega), tv]
    by_cases c : v < nPR F
    · rw [if_pos c, if_pos (by unfold nPR at c; omega), if_neg (by omega), Int.toNat_natCast]
      have := allLR_in hB (p := v) (by omega) (nHR F) hH
      rw [wI_i (by omega)]
    · rw [if_neg c, if_neg (by unfold nPR at c; omega), m1]
  · refine ⟨fun mx h v hv => ?_, fun h => ns h⟩
    have hv5 : v ≤ 5 := by cases h; exact hv
    have tv : (nI v).toInt = v := nI_toInt (by omega)
    show (lfN F nw 7 (nI v)).toInt = envO F dn last (20 + v)
    have eE : envO F dn last (20 + v) = if v < nHR F then iR F (8 + v) else -1 := by
      unfold envO
      rw [if_neg (by omega), if_neg (by omega), if_neg (by omega), if_neg (by omega), if_neg (by omega), if_neg (by omega), show 20 + v - 20 = v by omega]
    rw [eE]
    unfold lfN
    rw [if_neg (by omega), if_neg (by omega), if_pos rfl, tv]
    by_cases c : v < nHR F
    · rw [if_pos c, if_pos (by unfold nHR at c; omega), Int.toNat_natCast]
      rfl
    · rw [if_neg c, if_neg (by unfold nHR at c; omega), m1]
theorem ev_partO {op arg : Nat → Int32} {code : Nat → Nat × Nat} {a : pA} {n : Nat} (hA : rOk orW a) (hcode : codeAt code n (a.2.1 n)) (hhi : n + (a.2.1 n).length ≤ 400) (hrow : ∀ k, n ≤ k → k < n + (a.2.1 n).length → op k = nI (code k).1 ∧ arg k = nI (code k).2 ∧ (code k).1 < 5000 ∧ (code k).2 < 5000) (hok : codeOk op arg n (n + (a.2.1 n).length)) (hB : rB F) (hn : nwB nw) (hlnk : lnk orW e (eRf F nw)) : (a.2.2 e = none → (evRun (opO op) (argO F nw op arg) (fun _ => 0) (n + (a.2.1 n).length) 401 (0, n, 0, fun _ => 0)).2 = 1) ∧ ∀ v, a.2.2 e = some v → evRun (opO op) (argO F nw op arg) (fun _ => 0) (n + (a.2.1 n).length) 401 (0, n, 0, fun _ => 0) = (jN v, 0) := by
  obtain ⟨d, d0, db, ds⟩ := hok
  have hr := hA code n (n + (a.2.1 n).length) e (eRf F nw) [] hlnk hcode (Nat.le_refl _)
  have e28 : (28 : Int32).toInt = 28 := by decide
  have e29 : (29 : Int32).toInt = 29 := by decide
  have e30 : (30 : Int32).toInt = 30 := by decide
  have key := ev_rEx2 (code := code) (op := opO op) (arg := argO F nw op arg) (set := fun _ => 0) (e := eRf F nw) (lo := n) (hi := n + (a.2.1 n).length) hhi (fun k k1 k2 c20 => ?_) (fun k k1 k2 c20 => ?_) 401 n [] (fun _ => 0) (by omega) (by omega) (Nat.le_refl _) (fun i hi => absurd hi (Nat.not_lt_zero _)) (fun x hx => by cases hx)
  · unfold rRn at hr
    rw [rEx_fuel (n + (a.2.1 n).length - n) 401 n [] (by omega) (by omega)] at hr
    refine ⟨fun hn => key.2 (by rw [hr, hn]), fun v hv => ?_⟩
    rw [hv] at hr
    dsimp only at hr
    rw [rEx_hi _ _ _ (Nat.le_refl _)] at hr
    have := key.1 [v] hr
    exact this
  · obtain ⟨r1, r2, r3, r4⟩ := hrow k k1 k2
    have ot : (op k).toInt = (code k).1 := by rw [r1, nI_toInt (by omega)]
    unfold opO argO
    rw [if_neg (by omega), if_neg (by omega)]
    rcases ds k k1 k2 with ⟨h1, -⟩ | ⟨h1, -⟩ | ⟨h1, -⟩ | ⟨h1, -, -, t, h2, h3, h4, -⟩
    · unfold rg at h1
      exact ⟨r1, r2, by omega, fun c => by omega⟩
    · unfold rg at h1
      exact ⟨r1, r2, by omega, fun c => by omega⟩
    · rw [h1, e28] at ot
      exact ⟨r1, r2, by omega, fun c => by omega⟩
    · have l30 : (code k).1 ≤ 30 := by
        rcases h1 with z | z
        · rw [z, e29] at ot; omega
        · rw [z, e30] at ot; omega
      have et : t = (code k).2 := nI_inj (by omega) (by omega) (h2.symm.trans r2)
      exact ⟨r1, r2, l30, fun _ => ⟨by omega, by omega⟩⟩
  · obtain ⟨r1, r2, r3, r4⟩ := hrow k k1 k2
    have ot : (op k).toInt = (code k).1 := by rw [r1, nI_toInt (by omega)]
    unfold opO argO eRf
    rw [if_pos (by omega), if_pos (by omega), r1, nI_clamp (by omega), r2]
    refine ⟨rfl, ?_⟩
    by_cases c : (code k).1 = 0
    · rw [if_pos c, c, lfN_0, jN_nI (by omega)]
      exact ⟨rfl, by omega, by omega⟩
    · rw [if_neg c]
      have := lfN_b (arg := nI (code k).2) hB hn c
      exact ⟨jN_32i, by omega, by omega⟩
theorem wI_jN {v : Int} (h : -1000001000 ≤ v ∧ v ≤ 1000001000) : Int64.toInt32 (jN v) = wI v := by
  apply Int32.toInt_inj.mp
  rw [wI_i (by omega), Int64.toInt_toInt32, jN_i (by omega) (by omega)]
  exact fb_bmod (by omega) (by omega)
/-- a part of orders, as it must be to be run -/
def prtO (t : pA) : Prop := rOk orW t ∧ Dp t ∧ Bd t ∧ Vs t
def envB (e : Nat → Int) : Prop := ∀ w, -1000000000 ≤ e w ∧ e w ≤ 1000000000
theorem x_sumOf (hd : mD o ad) {q : Int32 → hS → Prop} {i : Nat} {a : Option pA} {out : List (Nat × Nat)} (hi : i < 119) (hmk : mkP out M i a) (hout : outAt out (M.2.2.1 24) (M.2.2.1 25)) (hl : out.length ≤ 400) (hp : ∀ t, a = some t → prtO t) (hB : rB (M.2.2.1 3)) (hnw : ∀ j, 1 ≤ j → j ≤ 4 → M.2.2.2 36 j = (nw j).toInt64) (hn : nwB nw) (hlnk : lnk orW e (eRf (cut (M.2.2.1 3)) nw)) (he : envB e) (c56 : M.1 56 = 0)
    (h0 : a = none → q (-1) (ov S o ad M)) (h1 : ∀ t N x, a = some t → Fx [20, 38, 56] [39] [] [37] M N → N.1 20 = 0 → (t.2.2 e = none ∧ ¬ N.1 56 = 0) ∨ (∃ v, t.2.2 e = some v ∧ N.1 56 = 0 ∧ x = wI v ∧ -1000000000 ≤ v ∧ v ≤ 1000000000) → q x (ov S o ad N)) : w_X12_sumOf q (ov S o ad M) o (nI i) := by
  obtain ⟨b, m1, m2, m3, m4⟩ := hmk
  unfold w_X12_sumOf
  simp (disch := decide) only [oi_gI, oi_gJ, oi_gP, oi_pI, oi_pZ, oi_pJ, oi_oK, oi_aI hd, oi_aZ hd, oi_aJ hd, oi_sI hd, oi_sZ hd, oi_sJ hd, mI_1, mI_2, mJ_1, mJ_2, mJ_3, mA_1, mA_2, mA_3, mA_4, mL_1, mL_2, mL_3, mL_4, mK, Nat.reduceEqDiff, if_true, if_false, ite_true, ite_false, true_and, Nat.reduceLT, reduceIte, reduceCtorEq, cl_0, cl_1, cl_2, cl_3, cl_4, cl_5, cl_6, cl_7, cl_8, cl_9, cl_10, cl_11, cl_12, cl_13, cl_14, cl_15, vl_0_5585, vl_1_5585, vl_2_5585, vl_3_5585, vl_4_5585, vl_5_5585, vl_6_5585, vl_0_7, vl_1_7, vl_2_7, vl_3_7, vl_4_7, vl_5_7, vl_6_7]
  rw [c56, nI_1, nI_clamp (by omega), nI_clamp (by omega), m1, m2]
  refine ⟨fun z => absurd rfl z, fun _ => ⟨vp_in_nI (by omega) (by omega), vp_in_nI (by omega) (by omega), fun c => ?_, fun c => ?_⟩⟩
  · obtain ⟨t, ht⟩ : ∃ t, a = some t := by
      cases a with
      | none => exact absurd rfl c
      | some t => exact ⟨t, rfl⟩
    obtain ⟨p1, p2, p3, p4⟩ := hp t ht
    have eo : oR' a b = t.2.1 b := by rw [ht]; rfl
    rw [eo] at m2 m3 m4 c ⊢
    refine ⟨Or.inr trivial, vp_in_nI (by omega) (by omega), vp_in_nI (by omega) (by omega), ?_⟩
    have row : ∀ k x, (t.2.1 b)[k]? = some x → M.2.2.1 24 (b + k) = nI x.1 ∧ M.2.2.1 25 (b + k) = nI x.2 := by
      intro k x hx
      have hk := lt_of_get hx
      have := m4 k hk
      rw [hx, List.getElem?_eq_getElem (by omega)] at this
      have e2 := Option.some.inj this
      have := hout (b + k) (by omega)
      rw [e2] at this
      exact this
    have gd : ∀ k, k < (t.2.1 b).length → ∃ x, (t.2.1 b)[k]? = some x ∧ out.getD (b + k) (0, 0) = x ∧ x ∈ t.2.1 b := by
      intro k hk
      refine ⟨_, List.getElem?_eq_getElem hk, ?_, List.getElem_mem hk⟩
      rw [List.getD_eq_getElem?_getD, m4 k hk, List.getElem?_eq_getElem hk]
      rfl
    have cok : codeOk (M.2.2.1 24) (M.2.2.1 25) b (b + (t.2.1 b).length) := DpL_ok (p2 b) (by omega) row
    refine x_reckonO (M := mI M 20 1) (nw := nw) hd (op := M.2.2.1 24) (arg := M.2.2.1 25) (by omega) (by omega) cok (by simp [mI_1]) rfl rfl hB hnw (fun N hF hE => ?_)
    have key := ev_partO (op := M.2.2.1 24) (arg := M.2.2.1 25) (code := fun k => out.getD k (0, 0)) (n := b) p1 (fun k hk => ?_) (by omega) (fun k k1 k2 => ?_) cok (rB_cut.mpr hB) hn hlnk
    · simp (disch := decide) only [oi_gI, oi_gJ, oi_gP, oi_pI, oi_pZ, oi_pJ, oi_oK, oi_aI hd, oi_aZ hd, oi_aJ hd, oi_sI hd, oi_sZ hd, oi_sJ hd, mI_1, mI_2, mJ_1, mJ_2, mJ_3, mA_1, mA_2, mA_3, mA_4, mL_1, mL_2, mL_3, mL_4, mK, Nat.reduceEqDiff, if_true, if_false, ite_true, ite_false, true_and, Nat.reduceLT, reduceIte, reduceCtorEq, cl_0, cl_1, cl_2, cl_3, cl_4, cl_5, cl_6, cl_7, cl_8, cl_9, cl_10, cl_11, cl_12, cl_13, cl_14, cl_15, vl_0_5585, vl_1_5585, vl_2_5585, vl_3_5585, vl_4_5585, vl_5_5585, vl_6_5585, vl_0_7, vl_1_7, vl_2_7, vl_3_7, vl_4_7, vl_5_7, vl_6_7]
      have hF2 : Fx [20, 38, 56] [39] [] [37] M (mI (mI N 20 0) 56 (N.1 38)) := ((((Fx.i 20 1).tr hF).tr (Fx.i 20 0)).tr (Fx.i 56 _)).le (by simp) (by simp) (by simp) (by simp)
      have e56 : (mI (mI N 20 0) 56 (N.1 38)).1 56 = N.1 38 := by simp [mI_1]
      have hE' : (N.2.1 39, N.1 38) = evRun (opO (M.2.2.1 24)) (argO (cut (M.2.2.1 3)) nw (M.2.2.1 24) (M.2.2.1 25)) (fun _ => 0) (b + (t.2.1 b).length) 401 (0, b, 0, fun _ => 0) := hE
      refine ⟨Or.inl trivial, ?_⟩
      cases ev : t.2.2 e with
      | none =>
        have := key.1 ev
        rw [← hE'] at this
        have e38 : N.1 38 = 1 := this
        exact ⟨Or.inr e38, h1 t _ _ ht hF2 (by simp [mI_1]) (Or.inl ⟨ev, by rw [e56, e38]; decide⟩)⟩
      | some v =>
        have := key.2 v ev
        rw [← hE'] at this
        have e39 : N.2.1 39 = jN v := congrArg Prod.fst this
        have e38 : N.1 38 = 0 := congrArg Prod.snd this
        have bv := p4 e he v ev
        exact ⟨Or.inl e38, h1 t _ _ ht hF2 (by simp [mI_1]) (Or.inr ⟨v, ev, by rw [e56, e38], by rw [e39]; exact wI_jN (by omega), bv⟩)⟩
    · obtain ⟨x, x1, x2, x3⟩ := gd k hk
      try dsimp only
      rw [x2]
      rw [List.getElem?_eq_getElem hk] at x1
      exact (Option.some.inj x1).symm
    · obtain ⟨j, rfl⟩ : ∃ j, k = b + j := ⟨k - b, by omega⟩
      obtain ⟨x, x1, x2, x3⟩ := gd j (by omega)
      have r1 := row j x x1
      have r2 := p3 b x x3
      try dsimp only
      rw [x2]
      exact ⟨r1.1, r1.2, by omega, by omega⟩
  · cases a with
    | none => exact h0 rfl
    | some t =>
      obtain ⟨p1, p2, p3, p4⟩ := hp t rfl
      obtain ⟨d, d0, d1, -⟩ := p2 b
      have hz : (t.2.1 b).length ≠ 0 := fun z => by rw [z, d0] at d1; cases d1
      have : b = b + (oR' (some t) b).length := nI_inj (by omega) (by omega) c
      have e2 : (oR' (some t) b).length = (t.2.1 b).length := rfl
      omega
end SM
