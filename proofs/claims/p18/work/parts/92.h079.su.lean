/-! HOUSE, PERSON, WANT, FORGET, CLUE, TERMS, FORCE AS CALLS -/
def rng (lo hi : Int) (v : Int32) : Prop := lo ≤ v.toInt ∧ v.toInt ≤ hi
def spWant (a b : Int32) (T : aS) : Int32 × aS := if b ≠ -1 ∧ ¬ (0 ≤ b.toInt ∧ b.toInt < iR T.1.1 0) then spRef 1 T else if ¬ (0 ≤ a.toInt ∧ a.toInt < iR T.1.1 1) then spRef 2 T else spAcc 0 (aTn (upd T.1.1 (154 + a.toInt.toNat) b) T)
def spForget (T : aS) : Int32 × aS := (T.1.1 2, aTn (upd T.1.1 2 0) T)
def spClue (a b : Int32) (T : aS) : Int32 × aS := if ¬ inB b 0 99 then spRef 1 T else if ¬ (0 ≤ a.toInt ∧ a.toInt < iR T.1.1 0) then spRef 2 T else if iR T.1.1 2 < 6 then spAcc (nI ((iR T.1.1 2).toNat + 1)) (aTn (upd (upd (upd T.1.1 (170 + 2 * (iR T.1.1 2).toNat) a) (171 + 2 * (iR T.1.1 2).toNat) b) 2 (nI ((iR T.1.1 2).toNat + 1))) T) else spRef 5 T
def spTerms (a b : Int32) (T : aS) : Int32 × aS := if a = 0 ∧ inB b 0 999 then spAcc (T.1.1 5) (aCl (aTn (upd T.1.1 5 b) T)) else if a = 1 ∧ inB b 0 10 then spAcc (T.1.1 6) (aCl (aTn (upd T.1.1 6 b) T)) else if a = 2 ∧ inB b 0 9 then spAcc (T.1.1 7) (aCl (aTn (upd T.1.1 7 b) T)) else spRef 1 T
def spForce (a : Int32) (T : aS) : Int32 × aS := if a = -1 ∨ (0 ≤ a.toInt ∧ a.toInt < iR T.1.1 3) then spAcc (T.1.1 4) (aTn (upd T.1.1 4 a) T) else spRef 2 T
theorem rB_up {f : Nat → Int32} {i : Nat} {v : Int32} (hB : rB f) (hi : ¬ (30 ≤ i ∧ i < 126)) (hb : rLo i ≤ v.toInt ∧ v.toInt ≤ rHi i) (h3 : i ≠ 3) (h4 : i = 4 → v.toInt < iR f 3) (hc : ∀ k, k < 6 → i = 170 + 2 * k → v.toInt ≤ 5) (hw : ∀ p, p < 8 → i = 154 + p → v.toInt < 6) (hd : ∀ p, p < 8 → i = 162 + p → dB v p ≠ 1) : rB (upd f i v) := by
  obtain ⟨h1, h2, hh3, hh4, h5, h6⟩ := hB
  refine ⟨fun j hj => ?_, ?_, fun k hk => ?_, fun q hq => ?_, fun j hj => ?_, fun q hq => ?_⟩
  · rw [iR_upd]
    split
    · rename_i e; rw [e]; exact hb
    · exact h1 j hj
  · rw [iR_ne (i := i) (j := 3) (fun z => h3 z.symm), iR_upd]
    split
    · rename_i e; exact h4 e.symm
    · exact h2
  · rw [iR_upd]
    split
    · rename_i e; exact hc k hk e.symm
    · exact hh3 k hk
  · rw [iR_upd]
    split
    · rename_i e; exact hw q hq e.symm
    · exact hh4 q hq
  · rw [iR_ne (by omega), iR_ne (by omega)]; exact h5 j hj
  · unfold upd
    split
    · rename_i e; exact hd q hq e.symm
    · exact h6 q hq
section SU
variable {Γ Γ' : kG} {Φ : kF} {S S' : hS} {x a b b' c n i i' rs o : Nat} {ρ ρ' ρg β ρa : Nat → Nat} {A : List Nat} {T : aS} {t : sW} {tx : Nat → Nat}
def tnN : List Nat := [8, 2, 902, 903, 905, 906, 907, 908, 910, 911, 300, 301, 302, 303]
set_option maxRecDepth 16384 in
theorem tnN_ok : ∀ n ∈ [11, 1216, 1210, 9, 1000, 915] ++ imN ++ lgNm, n ∉ tnN := by decide
theorem cx_house {q : Int32 → hS → Prop} {v w : Int32} (h : CR Γ S x ρ rs T) (hs : St Γ Φ S) (hf : fre Γ Φ ([11, 1216, 3] ++ tnN)) (k : ∀ S', St Γ Φ S' → CR Γ S' x ρ rs (spHouse v w T).2 → q (spHouse v w T).1 S') : w_X11_house q S x v w := by
  have hx := h.1
  have t1 := h.2.1.1
  have t2 := h.2.1.2.1
  have b0 := rB_0 h.2.1.2.2.1
  have frf : fre Γ Φ [11, 1216] := hf.sub (by decide)
  have b18 : spHouse v w T = spRef 1 T → w_X11_house_b18 q S x := fun e => by
    rw [e] at k
    exact T_oK_11 hs hx (cx_refuse h hs frf (n := 1) rfl (by omega) (fun S' s' _ c' => k S' s' c'))
  have c24 : (24 : Int32).toInt = 24 := by decide
  have c99 : (99 : Int32).toInt = 99 := by decide
  have t6 : (6 : Int32).toInt = 6 := by decide
  unfold w_X11_house
  refine isW (fun c1 => ⟨fun z => absurd z (by decide), fun _ => isW (fun c2 => ⟨fun _ => E_gP_11_0 hs hx (fun _ => V_gI_1 hs t1 (fun _ => ?_)), fun z => absurd z (by decide)⟩) (fun c2 => ⟨fun z => absurd rfl z, fun _ => b18 (if_pos (fun z => c2 (by rw [c99]; exact z.2)))⟩)⟩) (fun c1 => ⟨fun _ => b18 (if_pos (fun z => c1 (by rw [c24]; exact z.1))), fun z => absurd rfl z⟩)
  rw [c24] at c1
  rw [c99] at c2
  rw [t2, Int32.lt_iff_toInt_lt, t6, iR_i]
  have e0 : spHouse v w T = (if iR T.1.1 0 < 6 then spAcc (nI (nHR T.1.1)) (aTn (hsR T.1.1 (nHR T.1.1) v w) (aCl T)) else spRef 5 T) := if_neg (fun z => z ⟨c1, c2⟩)
  refine ⟨fun c3 => ?_, fun c3 => ?_⟩
  · rw [if_pos c3] at e0
    rw [e0] at k
    refine E_gP_11_3 hs hx (fun k3 => T_oK_3 hs k3 (cx_clear h hs (hf.sub (by decide)) (fun S1 s1 m1 h1 => E_gP_11_0 s1 hx (fun k0 => T_oK_8 s1 k0 ?_))))
    have w2 := h1.2.1.2.1
    refine kx_X8_addHouse (frz_St (L := tnN) s1) k0 (frz_fre2 (hf.sub (by decide)) (by decide)) (fun z => absurd c3 (by rw [w2] at z; exact z)) (fun n S2 hn en s2' ev => ?_)
    obtain ⟨s2, m2⟩ := frz_un s1 s2'
    rw [w2] at en ev
    have en' : n = nHR T.1.1 := by
      unfold nHR iR
      rw [show T.1.1 0 = nI n from en, nI_toInt (by omega)]
      omega
    subst en'
    have c2' := h1.tw s1 m2 tnN_ok ev (rB_house h.2.1.2.2.1 c3 c1 c2) (by show hsR T.1.1 (nHR T.1.1) v w 3 = T.1.1 3; unfold hsR; rw [if_neg (by omega), if_neg (by omega), if_neg (by omega), if_neg (by omega), if_neg (by omega)])
    exact T_oK_11 s2 hx (cx_accept c2' s2 (hf.sub (by decide)) (fun S3 s3 _ c3 => k S3 s3 c3))
  · rw [if_neg c3] at e0
    rw [e0] at k
    exact T_oK_11 hs hx (cx_refuse h hs frf (n := 5) rfl (by omega) (fun S' s' _ c' => k S' s' c'))
theorem cx_want {q : Int32 → hS → Prop} {v w : Int32} (h : CR Γ S x ρ rs T) (hs : St Γ Φ S) (hf : fre Γ Φ ([11, 1216, 3] ++ tnN)) (k : ∀ S', St Γ Φ S' → CR Γ S' x ρ rs (spWant v w T).2 → q (spWant v w T).1 S') : w_X11_want q S x v w := by
  have hx := h.1
  have t1 := h.2.1.1
  have t2 := h.2.1.2.1
  have b0 := rB_0 h.2.1.2.2.1
  have b1 := rB_1 h.2.1.2.2.1
  have frf : fre Γ Φ [11, 1216] := hf.sub (by decide)
  have b22 : (w = -1 ∨ (0 ≤ w.toInt ∧ w.toInt < iR T.1.1 0)) → w_X11_want_b22 q S x v w := by
    intro hw
    have e0 : spWant v w T = (if ¬ (0 ≤ v.toInt ∧ v.toInt < iR T.1.1 1) then spRef 2 T else spAcc 0 (aTn (upd T.1.1 (154 + v.toInt.toNat) w) T)) := if_neg (fun z => by
      rcases hw with y | y
      · exact z.1 y
      · exact z.2 y)
    unfold w_X11_want_b22
    refine E_gP_11_0 hs hx (fun k0 => T_oK_8 hs k0 ?_)
    by_cases c : 0 ≤ v.toInt ∧ v.toInt < iR T.1.1 1
    · rw [if_neg (fun z => z c)] at e0
      rw [e0] at k
      refine hP_y hs t1 (by rw [t2]; exact c) ⟨fun _ => E_gP_11_0 hs hx (fun _ => E_gP_8_7 hs t1 (fun _ => V_sI_n (frz_St (L := tnN) hs) t1 (frz_fre2 (L' := tnN) (hf.sub (by decide)) (fun _ y => y)) (by decide) (m := v.toInt.toNat) (by omega) (by omega) (fun S1 s1' ev => ?_))), fun z => absurd z (by decide)⟩
      obtain ⟨s1, m1⟩ := frz_un hs s1'
      rw [t2] at ev
      have hl : ∀ p, p < 8 → rLo (154 + p) = -1 ∧ rHi (154 + p) = 5 := by decide
      have hw2 : -1 ≤ w.toInt ∧ w.toInt ≤ 5 := by
        rcases hw with y | y
        · rw [y]; decide
        · omega
      have hB : rB (upd T.1.1 (154 + v.toInt.toNat) w) := rB_up h.2.1.2.2.1 (by omega) (by rw [(hl _ (by omega)).1, (hl _ (by omega)).2]; exact hw2) (by omega) (fun z => by omega) (fun _ _ _ => by omega) (fun _ _ _ => by omega) (fun _ _ _ => by omega)
      exact T_oK_11 s1 hx (cx_accept (h.tw hs m1 tnN_ok ev hB (upd_ne _ _ (by omega))) s1 (hf.sub (by decide)) (fun S3 s3 _ c3 => k S3 s3 c3))
    · rw [if_pos c] at e0
      rw [e0] at k
      exact hP_n hs t1 (by rw [t2]; exact c) ⟨fun z => absurd rfl z, fun _ => T_oK_11 hs hx (cx_refuse h hs frf (n := 2) rfl (by omega) (fun S' s' _ c' => k S' s' c'))⟩
  unfold w_X11_want
  refine ⟨fun z => b22 (Or.inl z), fun z => E_gP_11_0 hs hx (fun k0 => T_oK_8 hs k0 ?_)⟩
  by_cases c : 0 ≤ w.toInt ∧ w.toInt < iR T.1.1 0
  · exact hH_y hs t1 (by rw [t2]; exact c) ⟨fun _ => b22 (Or.inr c), fun z => absurd z (by decide)⟩
  · have e0 : spWant v w T = spRef 1 T := if_pos ⟨z, c⟩
    rw [e0] at k
    exact hH_n hs t1 (by rw [t2]; exact c) ⟨fun z => absurd rfl z, fun _ => T_oK_11 hs hx (cx_refuse h hs frf (n := 1) rfl (by omega) (fun S' s' _ c' => k S' s' c'))⟩
theorem cx_forget {q : Int32 → hS → Prop} (h : CR Γ S x ρ rs T) (hs : St Γ Φ S) (hf : fre Γ Φ ([11, 1216, 3] ++ tnN)) (k : ∀ S', St Γ Φ S' → CR Γ S' x ρ rs (spForget T).2 → q (spForget T).1 S') : w_X11_forget q S x := by
  have hx := h.1
  have t1 := h.2.1.1
  have t2 := h.2.1.2.1
  have k' : ∀ S', St Γ Φ S' → CR Γ S' x ρ rs (aTn (upd T.1.1 2 0) T) → q (T.1.1 2) S' := k
  unfold w_X11_forget
  refine E_gP_11_0 hs hx (fun _ => V_gI_9 hs t1 (fun _ => E_gP_11_0 hs hx (fun _ => V_pI_9 (frz_St (L := tnN) hs) t1 (frz_fre2 (L' := tnN) (hf.sub (by decide)) (fun _ y => y)) (by decide) (by rw [z0I]; omega) (fun S1 s1' ev => ?_))))
  obtain ⟨s1, m1⟩ := frz_un hs s1'
  rw [t2] at ev ⊢
  exact k' S1 s1 (h.tw hs m1 tnN_ok ev (rB_up h.2.1.2.2.1 (by omega) (by rw [z0I, show rLo 2 = 0 by decide, show rHi 2 = 6 by decide]; omega) (by omega) (fun z => by omega) (fun _ _ _ => by omega) (fun _ _ _ => by omega) (fun _ _ _ => by omega)) (upd_ne _ _ (by omega)))
theorem cx_force {q : Int32 → hS → Prop} {v : Int32} (h : CR Γ S x ρ rs T) (hs : St Γ Φ S) (hf : fre Γ Φ ([11, 1216, 3] ++ tnN)) (k : ∀ S', St Γ Φ S' → CR Γ S' x ρ rs (spForce v T).2 → q (spForce v T).1 S') : w_X11_force q S x v := by
  have hx := h.1
  have t1 := h.2.1.1
  have t2 := h.2.1.2.1
  have r3 := h.2.1.2.2.1.1 3 (by omega)
  rw [show rHi 3 = 6 by decide, show rLo 3 = 0 by decide] at r3
  have frf : fre Γ Φ [11, 1216] := hf.sub (by decide)
  have b20 : ¬ (v = -1 ∨ (0 ≤ v.toInt ∧ v.toInt < iR T.1.1 3)) → w_X11_force_b20 q S x := fun c => by
    have e0 : spForce v T = spRef 2 T := if_neg c
    rw [e0] at k
    exact T_oK_11 hs hx (cx_refuse h hs frf (n := 2) rfl (by omega) (fun S' s' _ c' => k S' s' c'))
  have b27 : (v = -1 ∨ (0 ≤ v.toInt ∧ v.toInt < iR T.1.1 3)) → w_X11_force_b27 q S x v := fun c => by
    have e0 : spForce v T = spAcc (T.1.1 4) (aTn (upd T.1.1 4 v) T) := if_pos c
    rw [e0] at k
    unfold w_X11_force_b27
    refine E_gP_11_0 hs hx (fun _ => V_gI_16 hs t1 (E_gP_11_0 hs hx (fun _ => V_pI_16 (frz_St (L := tnN) hs) t1 (frz_fre2 (L' := tnN) (hf.sub (by decide)) (fun _ y => y)) (by decide) (fun S1 s1' ev => ?_))))
    obtain ⟨s1, m1⟩ := frz_un hs s1'
    rw [t2] at ev ⊢
    have hv : -1 ≤ v.toInt ∧ v.toInt < iR T.1.1 3 := by
      rcases c with y | y
      · rw [y, show Int32.toInt (-1) = -1 by decide]; omega
      · omega
    have hB : rB (upd T.1.1 4 v) := rB_up h.2.1.2.2.1 (by omega) (by rw [show rLo 4 = -1 by decide, show rHi 4 = 5 by decide]; omega) (by omega) (fun _ => hv.2) (fun _ _ _ => by omega) (fun _ _ _ => by omega) (fun _ _ _ => by omega)
    exact T_oK_11 s1 hx (cx_accept (h.tw hs m1 tnN_ok ev hB (upd_ne _ _ (by omega))) s1 (hf.sub (by decide)) (fun S3 s3 _ c3 => k S3 s3 c3))
  unfold w_X11_force
  rw [Int32.lt_iff_toInt_lt, z0I]
  refine ⟨fun z => b27 (Or.inl z), fun z => ⟨fun z2 => b20 (fun y => ?_), fun z2 => E_gP_11_0 hs hx (fun _ => V_gI_14 hs t1 (fun _ => ?_))⟩⟩
  · rcases y with y | y
    · exact z y
    · omega
  · rw [t2, Int32.lt_iff_toInt_lt, iR_i]
    refine ⟨fun z3 => b27 (Or.inr ⟨by omega, z3⟩), fun z3 => b20 (fun y => ?_)⟩
    rcases y with y | y
    · exact z y
    · exact z3 y.2
end SU
