/-! ORDERS THAT WERE READ CAN BE RUN BY THE REFERENCE -/
section OQ
variable {G : pG}
theorem opt_has {r : pR} {q : Nat × Nat} {s : Option pA} (e : opt r = (q, some s)) : s ≠ none := by
  obtain ⟨q0, x⟩ := r
  cases x with
  | none => cases e
  | some x =>
    cases e
    intro z
    cases z
theorem nx_has {w : List Nat} {p k : Nat} {q : Nat × Nat} {t : Option pA} (e : prNx G w p k = (q, some t)) : t ≠ none := by
  unfold prNx at e
  split at e
  · exact opt_has e
  · cases e
def hasO (o : pOr) : Prop := (o.1 < 3 → o.2.1.1 ≠ none) ∧ (o.1 < 2 → o.2.1.2.1 ≠ none) ∧ (o.1 = 1 → o.2.1.2.2 ≠ none)
theorem prOrd_has {p k : Nat} {r : Nat × Nat} {o : pOr} (e : prOrd G p k = (r, some o)) : hasO o := by
  unfold prOrd at e
  split at e
  · cases e
  · rename_i h hw
    have s0 : ∀ q s, (if h < 3 then opt (prS G orW 8 (tE G p) k) else ((tE G p, k), some none) : oR) = (q, some s) → h < 3 → s ≠ none := by
      intro q s z hc
      rw [if_pos hc] at z
      exact opt_has z
    generalize (if h < 3 then opt (prS G orW 8 (tE G p) k) else ((tE G p, k), some none) : oR) = z0 at e s0
    obtain ⟨q0, a0⟩ := z0
    cases a0 with
    | none => cases e
    | some a0 =>
      dsimp only at e
      have s1 : ∀ q s, (if h = 0 then prNx G [97, 116] q0.1 q0.2 else if h = 1 then prNx G [116, 111] q0.1 q0.2 else (q0, some none) : oR) = (q, some s) → h < 2 → s ≠ none := by
        intro q s z hc
        by_cases h0 : h = 0
        · rw [if_pos h0] at z
          exact nx_has z
        · rw [if_neg h0, if_pos (by omega)] at z
          exact nx_has z
      generalize (if h = 0 then prNx G [97, 116] q0.1 q0.2 else if h = 1 then prNx G [116, 111] q0.1 q0.2 else (q0, some none) : oR) = z1 at e s1
      obtain ⟨q1, a1⟩ := z1
      cases a1 with
      | none => cases e
      | some a1 =>
        dsimp only at e
        have s2 : ∀ q s, (if h = 1 then prNx G [111, 102] q1.1 q1.2 else (q1, some none) : oR) = (q, some s) → h = 1 → s ≠ none := by
          intro q s z hc
          rw [if_pos hc] at z
          exact nx_has z
        generalize (if h = 1 then prNx G [111, 102] q1.1 q1.2 else (q1, some none) : oR) = z2 at e s2
        obtain ⟨q2, a2⟩ := z2
        cases a2 with
        | none => cases e
        | some a2 =>
          dsimp only at e
          cases et : prTm G q2.1 q2.2 with
          | mk q3 n =>
            rw [et] at e
            cases n with
            | none => cases e
            | some n =>
              dsimp only at e
              cases ei : prIf G orW q3.1 q3.2 with
              | mk r2 t =>
                rw [ei] at e
                cases t with
                | none => cases e
                | some t =>
                  cases e
                  exact ⟨s0 _ _ rfl, s1 _ _ rfl, s2 _ _ rfl⟩
theorem ordTx_has {r : Nat × Nat} {os : List pOr} (e : ordTx G = (r, some os)) : ∀ o ∈ os, hasO o :=
  prTx_ok' (P := hasO) (fun p k r c e => prOrd_has e) 12 0 0 [] (fun c hc => by cases hc) r os e
theorem Tst_Vs {a : pA} (h : Tst a) : Vs a := fun e he v hv => by
  rcases h.1 e v hv with z | z <;> omega
theorem ordTx_okR {r : Nat × Nat} {os : List pOr} (e : ordTx G = (r, some os)) : ∀ o ∈ os, okR o := by
  intro o ho
  obtain ⟨y1, y2, y3, y4, y5, y6, y7, y8⟩ := (ordTx_ok e).1 o ho
  obtain ⟨⟨d1, d2, d3, d4⟩, ⟨b1, b2, b3, b4⟩⟩ := ordTx_DB e o ho
  obtain ⟨v1, v2, v3, v4⟩ := ordTx_Q (P := Vs) (fun n p k q a e => V_prS n p k q a e) (fun n p k q a e => Tst_Vs (T_prT n p k q a e)) e o ho
  obtain ⟨p1, p2, p3⟩ := ordTx_has e o ho
  exact ⟨y1, ⟨fun a ha => ⟨(y2 a ha).2, d1 a ha, b1 a ha, v1 a ha⟩, fun a ha => ⟨(y3 a ha).2, d2 a ha, b2 a ha, v2 a ha⟩, fun a ha => ⟨(y4 a ha).2, d3 a ha, b3 a ha, v3 a ha⟩, fun a ha => ⟨(y7 a ha).2, d4 a ha, b4 a ha, v4 a ha⟩⟩, y8, p1, p2, p3, y5, y6⟩
end OQ
section OQ2
variable {S : hS} {o : Nat} {ad : Nat → Nat} {M N P : mS} {mT : mS} {T T' : aS} {rs : Nat} {us : uL} {f g : Nat → Int32} {os : List pOr} {s s' : oS} {u : Nat}
theorem RR.k6 (h : RR M rs T) (hF : Fx [] [] [6] [] M N) (h6 : ∀ j, j < 1936 → N.2.2.1 6 j = M.2.2.1 6 j) : RR N rs T := by
  obtain ⟨h1, h2, h3, h4, h5, h6', h7, h8, h9⟩ := h
  refine ⟨?_, ?_, ⟨?_, ?_⟩, ?_, ?_, ?_, ?_, ?_, h9.fx hF (by simp)⟩
  · rw [hF.2.2.1 3 (by simp)]; exact h1
  · rw [hF.2.2.1 4 (by simp), hF.2.2.1 5 (by simp)]; exact h2
  · rw [hF.1 8 (by simp)]; exact h3.1
  · exact undU_cg h6 (fun k _ => by rw [hF.2.2.1 7 (by simp)]) (by rw [hF.2.2.1 3 (by simp)]; exact ⟨rfl, rfl⟩) h3.2
  · unfold tpM; rw [hF.1 13 (by simp), hF.2.2.1 12 (by simp)]; exact h4
  · unfold scM; rw [hF.1 18 (by simp), hF.1 55 (by simp), hF.1 1 (by simp)]; exact h5
  · rw [hF.2.2.1 2 (by simp)]; exact h6'
  · unfold drM; rw [hF.1 59 (by simp), hF.1 60 (by simp), hF.2.2.1 58 (by simp)]; exact h7
  · rw [hF.1 11 (by simp)]; exact h8
theorem xr_orders (hd : mD o ad) (hM : mOk M M) (hR : RR M rs T) (hA : aB T) {q : Int32 → hS → Prop} (h : ∀ N, mOk N N → RR N rs (spOrders T).2 → q (spOrders T).1 (ov S o ad N)) : w_X12_orders q (ov S o ad M) o := by
  have hR' := hR
  obtain ⟨h1, h2, h3, h4, h5, h6, h7, h8, h9⟩ := hR'
  refine x_ordTx hd h4 h9.1 h9.2.2 (fun r e N hF n0 n55 n13 n20 n18 => ?_) (fun r os e N hF n0 n55 n13 n20 n18 n19 hOT => ?_)
  · have es : spOrders T = spRef 6 (aEm (aFl (nI (tS T.2.2.2.1 r.1)) (aSp (-1) T))) := by
      unfold spOrders
      rw [e]
    rw [es] at h
    have hN : mOk (mI M 13 0) N := mOk_txt hF hM (by rw [n13]; exact ⟨by decide, by decide⟩) n20 ⟨rfl, rfl, n13⟩ (by simp)
    have hRN : RR N rs (aEm (aFl (nI (tS T.2.2.2.1 r.1)) (aSp (-1) T))) := hR.txt (sc := upd (upd T.2.2.2.2.1 1 (-1)) 0 (nI (tS T.2.2.2.1 r.1))) hF (by simp) (by simp) (by simp) n13 (by rw [n18, upd_self]) (by rw [n55, upd_ne _ _ (by omega), upd_self]) (by rw [upd_ne _ _ (by omega), upd_ne _ _ (by omega)]) (by rw [upd_ne _ _ (by omega), upd_ne _ _ (by omega)]) (by rw [upd_ne _ _ (by omega), upd_ne _ _ (by omega)])
    exact ⟨ov_oK, r_ref hd hN hRN (v := 6) (by omega) (by decide) (fun P hP hRP => h P (mOk_self hP) hRP)⟩
  · have hN : mOk (mI M 13 0) N := mOk_txt hF hM (by rw [n13]; exact ⟨by decide, by decide⟩) n20 ⟨rfl, rfl, n13⟩ (by simp)
    obtain ⟨T1, eT1⟩ : ∃ T1, aEm (aFl (-1) (aSp (-1) T)) = T1 := ⟨_, rfl⟩
    have hRN : RR N rs T1 := by
      rw [← eT1]
      exact hR.txt (sc := upd (upd T.2.2.2.2.1 1 (-1)) 0 (-1)) hF (by simp) (by simp) (by simp) n13 (by rw [n18, upd_self]) (by rw [n55, upd_ne _ _ (by omega), upd_self]) (by rw [upd_ne _ _ (by omega), upd_ne _ _ (by omega)]) (by rw [upd_ne _ _ (by omega), upd_ne _ _ (by omega)]) (by rw [upd_ne _ _ (by omega), upd_ne _ _ (by omega)])
    have hA1 : aB T1 := by rw [← eT1]; exact hA
    have es : spOrders T = match orRun (csF T1.1.1 T1.1.2) os 0 (T1.1.1, 0, -1, T1.2.2.1) with
        | .inl j => spRef 3 (aSp (nI j) T1)
        | .inr s => spAcc (wI s.2.1) ((s.1, T1.1.2), T1.2.1, s.2.2.2, (aSp (-1) T1).2.2.2) := by
      unfold spOrders
      rw [e, ← eT1]
      rfl
    have eS : aSp (-1) T1 = T1 := by
      rw [← eT1]
      unfold aSp aEm aFl
      dsimp only
      have : upd (upd (upd T.2.2.2.2.1 1 (-1)) 0 (-1)) 1 (-1) = upd (upd T.2.2.2.2.1 1 (-1)) 0 (-1) := by
        funext i
        unfold upd
        by_cases c : i = 1
        · rw [if_pos c, if_neg (by omega), if_pos c]
        · rw [if_neg c]
      rw [this]
    rw [eS] at es
    rw [es] at h
    clear es eT1 hR h1 h2 h3 h4 h5 h6 h7 h8 h9 eS
    refine ⟨ov_oK, f_keepAll hd (k := 17) (by omega) (fun N1 hF1 k1 k2 => ?_)⟩
    have hN1 : mOk (mI M 13 0) N1 := by
      refine mOk_und hF1 hN ?_ ?_ ?_ ?_ (by simp)
      · rw [hF1.1 8 (by simp)]; exact hN.2.2.2.2.2.2.1
      · refine undOk_keep hN.2.2.1 ?_ k2
        have := k1 0 (by omega)
        rw [Nat.add_zero, Nat.add_zero] at this
        rw [this]; exact hN.1.2.2.2.2.2.1
      · rw [hF1.2.2.1 7 (by simp)]; exact hN.2.2.2.2.1
      · rw [hF1.2.2.1 3 (by simp)]; exact hN.1
    have hR1 : RR N1 rs T1 := hRN.k6 hF1 (fun j hj => k2 j (by omega))
    have hOT1 : OT N1 os := hOT.fx hF1 (by simp) (by simp)
    simp (disch := decide) only [oi_gI, oi_gJ, oi_gP, oi_pI, oi_pZ, oi_pJ, oi_oK, oi_aI hd, oi_aZ hd, oi_aJ hd, oi_sI hd, oi_sZ hd, oi_sJ hd, mI_1, mI_2, mJ_1, mJ_2, mJ_3, mA_1, mA_2, mA_3, mA_4, mL_1, mL_2, mL_3, mL_4, mK, Nat.reduceEqDiff, if_true, if_false, ite_true, ite_false, true_and, Nat.reduceLT, reduceIte, reduceCtorEq, cl_0, cl_1, cl_2, cl_3, cl_4, cl_5, cl_6, cl_7, cl_8, cl_9, cl_10, cl_11, cl_12, cl_13, cl_14, cl_15, vl_0_5585, vl_1_5585, vl_2_5585, vl_3_5585, vl_4_5585, vl_5_5585, vl_6_5585, vl_0_7, vl_1_7, vl_2_7, vl_3_7, vl_4_7, vl_5_7, vl_6_7]
    have e8 : N1.1 8 = nI T1.2.2.1.length := hR1.2.2.1.1
    have l16 : T1.2.2.1.length ≤ 16 := hR1.2.2.1.2.1
    refine x_keepO hd hN1 (fun P hP hFP p53 p54 p9 p10 => ?_)
    have hRP : RR P rs T1 := hR1.fx hFP (by simp) (by simp) (by simp)
    have hOTP : OT P os := hOT1.fx hFP (by simp) (by simp)
    obtain ⟨s0, es0⟩ : ∃ s0 : oS, (T1.1.1, (0 : Int), (-1 : Int), T1.2.2.1) = s0 := ⟨_, rfl⟩
    rw [es0] at h
    have hRs : RR P rs (oT T1 s0) := by rw [← es0]; exact hRP
    have hBs : oB T1 s0 := by
      rw [← es0]
      exact ⟨hA1, fun _ _ => rfl, Int.le_refl _, Int.le_refl _, show (-1 : Int) ≤ 1000 by decide⟩
    have m1 : (-1 : Int32).toInt = -1 := by decide
    have z0 : (0 : Int32).toInt = 0 := by decide
    have hI : ORI (mI M 13 0) rs os T1 (20 * 0) s0 P := ⟨hP, hRs, by rw [p53, z0, ← es0], by rw [p54, m1, ← es0], hOTP, hBs, by rw [← es0]; show (0 : Int) ≤ ((20 * 0 : Nat) : Int); decide⟩
    have h12 : os.length ≤ 12 := by
      obtain ⟨out, x1, x2, x3, x4, x5, x6⟩ := hOTP
      exact x5
    refine ⟨os.length + 1, x_o140 (M0 := P) (s0 := s0) hd (ordTx_okR e) h12 (fun Q j s2 hj hQ hRQ hBQ hFQ er => ?_) (fun Q s' er hIQ hFQ => ?_) os.length 0 P s0 (by omega) hI ⟨Fx.rf', fun _ _ => rfl⟩ rfl⟩
    · rw [er] at h
      dsimp only at h
      refine ⟨ov_oK, x_giveBack hd hQ (by rw [e8]; exact rg_n (b := 16) l16 (by decide)) (fun U hU hFU u8 u3 u3' u6 u7 => ?_)⟩
      have hFQ' := hFQ.1
      have row : ∀ i, i < 121 → U.2.2.1 3 (5 + i) = N1.2.2.1 3 (5 + i) := fun i hi => by
        rw [u3 i hi, hFQ.2 (2057 + i) (by omega), hFP.2.2.1 6 (by simp), show 2057 + i = 121 * 17 + i by omega, k1 i hi, hF1.2.2.1 3 (by simp)]
      have e1 : cut (N1.2.2.1 3) = T1.1.1 := hR1.1.1
      have e2 : cut (Q.2.2.1 3) = s2.1 := hRQ.1.1
      have hcut : cut (U.2.2.1 3) = T1.1.1 := by
        rw [← e1]
        funext i
        by_cases c : i < 185
        · rw [cut_lt c, cut_lt c]
          by_cases c2 : 5 ≤ i ∧ i < 126
          · have := row (i - 5) (by omega)
            rw [show 5 + (i - 5) = i by omega] at this
            exact this
          · rw [u3' i (by omega), ← cut_lt (f := Q.2.2.1 3) c, e2, hBQ.2.1 i (by unfold inLe; omega), ← e1, cut_lt c]
        · unfold cut
          rw [if_neg c, if_neg c]
      have hRU : RR U rs ((T1.1.1, (oT T1 s2).1.2), (oT T1 s2).2.1, T1.2.2.1, (oT T1 s2).2.2.2) := by
        refine hRQ.deed hFU (by simp) (by simp) hcut (fun i hi => u3' i (by omega)) (hBQ.2.1 3 (by unfold inLe; omega)).symm ⟨u8.trans e8, ?_⟩
        refine undU_cg (u := N1.2.2.1 6) (s := N1.2.2.1 7) (f := N1.2.2.1 3) (fun j hj => ?_) (fun k hk => ?_) ⟨row 1 (by omega), row 2 (by omega)⟩ hR1.2.2.1.2
        · rw [u6 j hj, hFQ'.2.2.1 9 (by simp), p9 j hj]
        · rw [u7 k hk, hFQ'.2.2.1 10 (by simp), p10 k hk]
      simp (disch := decide) only [oi_gI, oi_gJ, oi_gP, oi_pI, oi_pZ, oi_pJ, oi_oK, oi_aI hd, oi_aZ hd, oi_aJ hd, oi_sI hd, oi_sZ hd, oi_sJ hd, mI_1, mI_2, mJ_1, mJ_2, mJ_3, mA_1, mA_2, mA_3, mA_4, mL_1, mL_2, mL_3, mL_4, mK, Nat.reduceEqDiff, if_true, if_false, ite_true, ite_false, true_and, Nat.reduceLT, reduceIte, reduceCtorEq, cl_0, cl_1, cl_2, cl_3, cl_4, cl_5, cl_6, cl_7, cl_8, cl_9, cl_10, cl_11, cl_12, cl_13, cl_14, cl_15, vl_0_5585, vl_1_5585, vl_2_5585, vl_3_5585, vl_4_5585, vl_5_5585, vl_6_5585, vl_0_7, vl_1_7, vl_2_7, vl_3_7, vl_4_7, vl_5_7, vl_6_7]
      refine r_ref hd (mOk_i hU (by omega)) (T := aSp (nI j) T1) hRU.s55 (v := 3) (by omega) (by decide) (fun V hV hRV => h V (mOk_self hV) hRV)
    · rw [er] at h
      dsimp only at h
      obtain ⟨i1, i2, i3, i4, i5, i6, i7⟩ := hIQ
      have hi6 := i6.2.2.1
      have ew : Q.1 53 = wI s'.2.1 := wI_of i3
      rw [← ew] at h
      exact r_acc hd i1 (T := oT T1 s') i2 (by rw [i3]; exact hi6) (fun V hV hRV => h V (mOk_self hV) hRV)
end OQ2
