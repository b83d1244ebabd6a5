/-! A LAW IN THE REFERENCE, EXACTLY -/
section LR
variable {S : hS} {o : Nat} {ad : Nat → Nat} {M N P : mS} {mT : mS} {T T' : aS} {rs : Nat} {us : uL} {f g : Nat → Int32} {L L' : Nat → List pCl}
theorem lwR_loc {b : Nat} {cs : List pCl} (h : ∀ i, b ≤ i → i < b + 900 → g i = f i) (hn : cs.length ≤ 12) (hl : (rAll cs 0).length ≤ 400) (hR : lwR f b cs) : lwR g b cs := by
  obtain ⟨r1, r2, r3⟩ := hR
  refine ⟨by rw [h _ (by omega) (by omega)]; exact r1, fun j hj => ?_, fun k hk => ?_⟩
  · have hj2 : j < cs.length := by rw [rMk_len] at hj; exact hj
    have := r2 j hj
    rw [h _ (by omega) (by omega), h _ (by omega) (by omega), h _ (by omega) (by omega), h _ (by omega) (by omega), h _ (by omega) (by omega)]
    exact this
  · have := r3 k hk
    dsimp only at this ⊢
    rw [h _ (by omega) (by omega), h _ (by omega) (by omega)]
    exact this
theorem RR.tlA {x : Int32} (h : RR M rs T) (hx : 0 ≤ x) : RR (tlM M x) rs (spAcc x T).2 := by
  unfold tlM
  rw [if_pos hx]
  exact h.st
theorem RR.tlN {v : Nat} {x : Int32} (h : RR M rs T) (hx : x = wI (-(v : Int))) (hc : ¬ 0 ≤ x) (hn : (-x).toNatClampNeg = v) (hv : v < 7) : RR (tlM M x) rs (spRef v T).2 := by
  obtain ⟨h1, h2, h3, h4, h5, h6, h7, h8, h9⟩ := h
  unfold tlM
  rw [if_neg hc, hn, hx]
  refine ⟨?_, ?_, ?_, ?_, ?_, fun j hj => ?_, ?_, ?_, ?_⟩
  · exact h1
  · exact h2
  · exact h3
  · exact h4
  · refine ⟨h5.1, h5.2.1, ?_⟩
    show wI (-(v : Int)) = upd T.2.2.2.2.1 2 (wI (-(v : Int))) 2
    rw [upd_self]
  · show upd (M.2.2.1 2) v (M.2.2.1 2 v + 1) j = upd T.2.2.2.2.2.1 v (T.2.2.2.2.2.1 v + 1) j
    unfold upd
    rw [h6 v hv, h6 j hj]
  · exact h7
  · exact h8
  · exact h9
theorem RR.lw (h : RR M rs T) {v : Int32} (hc : cut g = upd T.1.1 3 v) (hL : lawG g L') : RR (mA M 3 g) rs ((upd T.1.1 3 v, L'), T.2) := by
  have ga : ∀ i, i < 185 → g i = upd T.1.1 3 v i := fun i hi => by rw [← hc, cut_lt hi]
  have e6 := h.at (i := 6) (by omega)
  have e7 := h.at (i := 7) (by omega)
  obtain ⟨h1, h2, h3', h4, h5, h6, h7, h8, h9⟩ := h
  refine ⟨⟨hc, hL⟩, ?_, ⟨?_, ?_⟩, ?_, ?_, ?_, ?_, ?_, ?_⟩
  · exact h2
  · exact h3'.1
  · refine undU_cg (u := M.2.2.1 6) (s := M.2.2.1 7) (f := M.2.2.1 3) (fun j _ => rfl) (fun k _ => rfl) ⟨?_, ?_⟩ h3'.2
    · show g 6 = _
      rw [ga 6 (by omega), upd_ne _ _ (by omega), e6]
    · show g 7 = _
      rw [ga 7 (by omega), upd_ne _ _ (by omega), e7]
  · exact h4
  · exact h5
  · exact h6
  · exact h7
  · exact h8
  · exact h9
theorem xr_law (hd : mD o ad) (hM : mOk M M) (hR : RR M rs T) (hA : aB T) (hL : ∀ r cs, iR T.1.1 3 < 6 → lawTx T.2.2.2.1 = (r, some cs) → okL cs) {q : Int32 → hS → Prop} (h : ∀ N, mOk N N → RR N rs (spLaw T).2 → q (spLaw T).1 (ov S o ad N)) : w_X12_law q (ov S o ad M) o := by
  have hR' := hR
  obtain ⟨h1, h2, h3, h4, h5, h6, h7, h8, h9⟩ := hR'
  have c3b := hA.1 |>.1 3 (by omega)
  rw [show rLo 3 = 0 by decide, show rHi 3 = 6 by decide] at c3b
  obtain ⟨n, enn⟩ : ∃ n, (iR T.1.1 3).toNat = n := ⟨_, rfl⟩
  have i3 : iR T.1.1 3 = n := by omega
  have e3 : M.2.2.1 3 3 = nI n := by
    apply Int32.toInt_inj.mp
    have e : (M.2.2.1 3 3).toInt = iR T.1.1 3 := hR.iR (by omega)
    rw [nI_toInt (by omega), e, i3]
  refine x_law hd h4 h9.1 h9.2.1 e3 (by omega) (fun c => ?_) (fun c r e N hF n0 n13 n20 n18 => ?_) (fun c r cs e N g hF n0 n13 n20 n18 hW g3 gi => ?_)
  · have es : spLaw T = spRef 5 (aEm T) := by
      unfold spLaw
      rw [if_neg (by omega)]
    rw [es] at h
    have hF : Fx [0, 13] [] [] [] M (mI (mI M 0 0) 13 0) := ((Fx.i 0 0).tr (Fx.i 13 0)).le (by simp) (by simp) (by simp) (by simp)
    have hRN : RR (mI (mI M 0 0) 13 0) rs (aEm T) := hR.txt (sc := T.2.2.2.2.1) hF (by simp) (by simp) (by simp) (by simp [mI_1]) h5.1 h5.2.1 rfl rfl rfl
    have hMN : mOk (mI M 13 0) (mI (mI M 0 0) 13 0) := mOk_13 (mOk_i hM (by omega)) ⟨by decide, by decide⟩
    have hMt : mOk (mI M 13 0) (tlM (mI (mI M 0 0) 13 0) (-5)) := mOk_fx tlM_fx hMN (by simp)
    exact h _ (mOk_self hMt) (hRN.tlN (v := 5) (by decide) (by decide) (by decide) (by omega))
  · have es : spLaw T = spRef 6 (aEm (aFl (nI (tS T.2.2.2.1 r.1)) T)) := by
      unfold spLaw
      rw [if_pos (by omega), e]
    rw [es] at h
    have hN : mOk (mI M 13 0) N := mOk_txt hF hM (by rw [n13]; exact ⟨by decide, by decide⟩) n20 ⟨rfl, rfl, n13⟩ (by simp)
    have hRN : RR N rs (aEm (aFl (nI (tS T.2.2.2.1 r.1)) T)) := hR.txt (sc := upd T.2.2.2.2.1 0 (nI (tS T.2.2.2.1 r.1))) hF (by simp) (by simp) (by simp) n13 (by rw [n18, upd_self]) (by rw [hF.1 55 (by simp), upd_ne _ _ (by omega)]; exact h5.2.1) (upd_ne _ _ (by omega)) (upd_ne _ _ (by omega)) (upd_ne _ _ (by omega))
    exact h _ (mOk_self (mOk_fx tlM_fx hN (by simp))) (hRN.tlN (v := 6) (by decide) (by decide) (by decide) (by omega))
  · have es : spLaw T = spAcc (nI n) ((upd T.1.1 3 (nI (n + 1)), updL T.1.2 n cs), (aEm (aFl (-1) T)).2) := by
      unfold spLaw
      rw [if_pos (by omega), e, enn]
    rw [es] at h
    obtain ⟨hW, hl4⟩ := hW
    have hok := hL r cs (by omega) e
    have c12 : cs.length ≤ 12 := (lawTx_ok e).2
    have hN : mOk (mI M 13 0) N := mOk_txt hF hM (by rw [n13]; exact ⟨by decide, by decide⟩) n20 ⟨rfl, rfl, n13⟩ (by simp)
    have hRN : RR N rs (aEm (aFl (-1) T)) := hR.txt (sc := upd T.2.2.2.2.1 0 (-1)) hF (by simp) (by simp) (by simp) n13 (by rw [n18, upd_self]) (by rw [hF.1 55 (by simp), upd_ne _ _ (by omega)]; exact h5.2.1) (upd_ne _ _ (by omega)) (upd_ne _ _ (by omega)) (upd_ne _ _ (by omega))
    have eN3 : N.2.2.1 3 = M.2.2.1 3 := hF.2.2.1 3 (by simp)
    have hcut : cut g = upd T.1.1 3 (nI (n + 1)) := by
      rw [← h1.1]
      funext i
      by_cases c2 : i < 185
      · rw [cut_lt c2]
        unfold upd
        by_cases c3 : i = 3
        · rw [if_pos c3, c3, g3]
        · rw [if_neg c3, gi i c3 (by omega), cut_lt c2]
      · unfold cut upd
        dsimp only
        rw [if_neg c2, if_neg (by omega), if_neg c2]
    have i3g : iR g 3 = ((n + 1 : Nat) : Int) := by
      unfold iR
      rw [g3, nI_toInt (by omega)]
    have hLg : lawG g (updL T.1.2 n cs) := by
      refine ⟨fun i hi => ?_, fun i hi => ?_⟩
      · unfold updL
        by_cases c2 : i = n
        · rw [if_pos c2, c2]
          exact ⟨hW, hok, lawTx_B e, hl4⟩
        · rw [if_neg c2]
          obtain ⟨x1, x2, x3⟩ := h1.2.1 i (by rw [hR.iR (by omega), i3]; omega)
          have l12 : (T.1.2 i).length ≤ 12 := by
            have := x2.1.1
            rw [List.length_map] at this
            exact this
          exact ⟨lwR_loc (fun j j1 j2 => gi j (by omega) (by omega)) l12 x3.2 x1, x2, x3⟩
      · unfold updL
        by_cases c2 : i = n
        · rw [if_pos c2]
          exact lawTx_V e
        · rw [if_neg c2]
          exact h1.2.2 i (by rw [hR.iR (by omega), i3]; omega)
    have hrow : rowOk (M.2.2.1 3) g := rowOk_law hM.1 e3 c g3 gi (lawOk_of hW c12 hl4 (lawTx_D e))
    have hMN : mOk (mI M 13 0) (mA N 3 g) := mOk_r hN hrow
    have hRg := hRN.lw hcut hLg
    have z0 : (0 : Int32).toInt = 0 := by decide
    have hn0 : (0 : Int32) ≤ nI n := by rw [Int32.le_iff_toInt_le, z0, nI_toInt (by omega)]; omega
    exact h _ (mOk_self (mOk_fx tlM_fx hMN (by simp))) (hRg.tlA hn0)
end LR
