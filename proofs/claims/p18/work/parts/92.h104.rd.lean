/-! THE REFERENCE RINGS AND SELLS, EXACTLY -/
/-- what stands behind a deed -/
def aDd (act : Nat) (a b c : Int) (T : aS) : aS := (((deedD (csF T.1.1 T.1.2) act T.1.1 a b c).2, T.1.2), T.2.1, usD T.2.2.1 act T.1.1 (deedD (csF T.1.1 T.1.2) act T.1.1 a b c).1, T.2.2.2)
def aDc (act : Nat) (a b c : Int) (T : aS) : Int := (deedD (csF T.1.1 T.1.2) act T.1.1 a b c).1
theorem spDeed_a (act : Nat) (a b c : Int) (T : aS) : spDeed act a b c T = spTell (aDc act a b c T) (aDd act a b c T) := rfl
section RD
variable {S : hS} {o : Nat} {ad : Nat → Nat} {M N : mS} {mT : mS} {T : aS} {rs : Nat} {L : Nat → List pCl} {us : uL} {f g u s : Nat → Int32}
theorem clI_min {v m : Int} (h : 0 ≤ v) (_ : 0 ≤ m) : clI v 0 m = min v m := by
  unfold clI
  rw [if_neg (by omega)]
  split <;> omega
theorem wiV_add {a b m : Int32} {x y : Int} (ha : a.toInt = x) (hb : b.toInt = y) (h0 : 0 ≤ x + y) (hx : -100000 ≤ x ∧ x ≤ 100000) (hy : -100000 ≤ y ∧ y ≤ 100000) (hm : 0 ≤ m.toInt) : wiV (Int32.toInt64 (a + b)) 0 m = wI (min (x + y) m.toInt) := by
  have z0 : (0 : Int32).toInt = 0 := by decide
  rw [jN_32i, wI_add ha hb hx hy, wI_i (by omega), wiV_jN (by omega) (by omega), z0, clI_min h0 hm]
theorem n1I : (1 : Int32).toInt = 1 := by decide
theorem aDd_no {act : Nat} {a b c : Int} {code : Int} (e : deedD (csF T.1.1 T.1.2) act T.1.1 a b c = (code, T.1.1)) (hc : code < 0) : aDd act a b c T = T ∧ aDc act a b c T = code := by
  unfold aDd aDc usD
  rw [e]
  dsimp only
  rw [if_pos hc]
  exact ⟨rfl, rfl⟩
theorem aDd_yes {act : Nat} {a b c : Int} {code : Int} {f' : Nat → Int32} (e : deedD (csF T.1.1 T.1.2) act T.1.1 a b c = (code, f')) (hc : 0 ≤ code) : aDd act a b c T = ((f', T.1.2), T.2.1, pushU T.2.2.1 (act, T.1.1), T.2.2.2) ∧ aDc act a b c T = code := by
  unfold aDd aDc usD
  rw [e]
  dsimp only
  rw [if_neg (by omega)]
  exact ⟨rfl, rfl⟩
theorem luM.cg (h : luM M us) (h8 : N.1 8 = M.1 8) (h6 : N.2.2.1 6 = M.2.2.1 6) (h7 : N.2.2.1 7 = M.2.2.1 7) (hf : N.2.2.1 3 6 = M.2.2.1 3 6 ∧ N.2.2.1 3 7 = M.2.2.1 3 7) : luM N us := by
  refine ⟨by rw [h8]; exact h.1, undU_cg (u := M.2.2.1 6) (s := M.2.2.1 7) (f := M.2.2.1 3) (fun j _ => by rw [h6]) (fun k _ => by rw [h7]) hf h.2⟩
theorem x_ringIt (hd : mD o ad) (hM : mOk mT M) (hQ : QM M L) {q : Int32 → hS → Prop} {p e : Nat} (hp : p < 8) (he : e < 6) (h : ∀ N, mOk mT N → Fx [34, 38] [39, 40] [3] [35, 37] M N → cut (N.2.2.1 3) = ringF (cut (M.2.2.1 3)) (csF (cut (M.2.2.1 3)) L) p e → (∀ i, 185 ≤ i → N.2.2.1 3 i = M.2.2.1 3 i) → q (if opensR (cut (M.2.2.1 3)) (csF (cut (M.2.2.1 3)) L) p e = true then 1 else 0) (ov S o ad N)) : w_X12_ringIt q (ov S o ad M) o (nI p) (nI e) := by
  refine ⟨ov_oK, x_isOpen hd hM hQ hp he (fun N1 hF1 => ⟨ov_oK, x_tiresOf hd (mOk_z hF1 hM) (hQ.fz hF1) hp he (fun N2 hF2 => ?_)⟩)⟩
  have hM2 := mOk_z hF2 (mOk_z hF1 hM)
  have hF := hF1.tr hF2
  have b1 := hQ.1.1 (78 + 6 * p + e) (by omega)
  have b2 := hQ.1.1 (8 + e) (by omega)
  rw [(hi_u (by omega)).1, (hi_u (by omega)).2] at b1
  rw [(hi_w (by omega)).1, (hi_w (by omega)).2] at b2
  have ht := tires_in (f := cut (M.2.2.1 3)) (cs := csF (cut (M.2.2.1 3)) L) (p := p) (h := e)
  simp (disch := decide) only [oi_gI, oi_gJ, oi_gP, oi_pI, oi_pZ, oi_pJ, oi_oK, oi_aI hd, oi_aZ hd, oi_aJ hd, oi_sI hd, oi_sZ hd, oi_sJ hd, mI_1, mI_2, mJ_1, mJ_2, mJ_3, mA_1, mA_2, mA_3, mA_4, mL_1, mL_2, mL_3, mL_4, mK, Nat.reduceEqDiff, if_true, if_false, ite_true, ite_false, true_and, Nat.reduceLT, reduceIte, reduceCtorEq, cl_0, cl_1, cl_2, cl_3, cl_4, cl_5, cl_6, cl_7, cl_8, cl_9, cl_10, cl_11, cl_12, cl_13, cl_14, cl_15, vl_0_5585, vl_1_5585, vl_2_5585, vl_3_5585, vl_4_5585, vl_5_5585, vl_6_5585, vl_0_7, vl_1_7, vl_2_7, vl_3_7, vl_4_7, vl_5_7, vl_6_7]
  rw [hF1.r, lit_nI 78, lit_nI 6, lit_nI 8, nImul, nIadd, nIadd, nIadd, nI_clamp (by omega), nI_clamp (by omega)]
  refine ⟨vp_in_nI (by omega) (by omega), vp_in_nI (by omega) (by omega), vp_in_nI (by omega) (by omega), s_withinV ?_⟩
  simp (disch := decide) only [oi_gI, oi_gJ, oi_gP, oi_pI, oi_pZ, oi_pJ, oi_oK, oi_aI hd, oi_aZ hd, oi_aJ hd, oi_sI hd, oi_sZ hd, oi_sJ hd, mI_1, mI_2, mJ_1, mJ_2, mJ_3, mA_1, mA_2, mA_3, mA_4, mL_1, mL_2, mL_3, mL_4, mK, Nat.reduceEqDiff, if_true, if_false, ite_true, ite_false, true_and, Nat.reduceLT, reduceIte, reduceCtorEq, cl_0, cl_1, cl_2, cl_3, cl_4, cl_5, cl_6, cl_7, cl_8, cl_9, cl_10, cl_11, cl_12, cl_13, cl_14, cl_15, vl_0_5585, vl_1_5585, vl_2_5585, vl_3_5585, vl_4_5585, vl_5_5585, vl_6_5585, vl_0_7, vl_1_7, vl_2_7, vl_3_7, vl_4_7, vl_5_7, vl_6_7, mA_mA]
  rw [nI_clamp (by omega), hF.r, upd_ne _ _ (by omega)]
  have e1 : M.2.2.1 3 (78 + 6 * p + e) + 1 = wI (iR (M.2.2.1 3) (78 + 6 * p + e) + 1) := wI_add rfl n1I (by omega) (by omega)
  have e2 : wiV (Int32.toInt64 (M.2.2.1 3 (8 + e) + wI (tiresR (cut (M.2.2.1 3)) (csF (cut (M.2.2.1 3)) L) p e))) 0 99 = wI (min (iR (M.2.2.1 3) (8 + e) + tiresR (cut (M.2.2.1 3)) (csF (cut (M.2.2.1 3)) L) p e) 99) := wiV_add (x := iR (M.2.2.1 3) (8 + e)) rfl (wI_i (by omega)) (by omega) (by omega) (by omega) (by decide)
  rw [e1, e2]
  have hq : rEq (M.2.2.1 3) (upd (upd (M.2.2.1 3) (78 + 6 * p + e) (wI (iR (M.2.2.1 3) (78 + 6 * p + e) + 1))) (8 + e) (wI (min (iR (M.2.2.1 3) (8 + e) + tiresR (cut (M.2.2.1 3)) (csF (cut (M.2.2.1 3)) L) p e) 99))) := (rEq.rf.up (by unfold rCon; omega)).up (by unfold rCon; omega)
  have hcut : cut (upd (upd (M.2.2.1 3) (78 + 6 * p + e) (wI (iR (M.2.2.1 3) (78 + 6 * p + e) + 1))) (8 + e) (wI (min (iR (M.2.2.1 3) (8 + e) + tiresR (cut (M.2.2.1 3)) (csF (cut (M.2.2.1 3)) L) p e) 99))) = ringF (cut (M.2.2.1 3)) (csF (cut (M.2.2.1 3)) L) p e := by
    unfold ringF
    rw [cut_upd (by omega), cut_upd (by omega), iR_cut (i := 78 + 6 * p + e) (by omega), iR_cut (i := 8 + e) (by omega)]
  have fin := h (mA N2 3 (upd (upd (M.2.2.1 3) (78 + 6 * p + e) (wI (iR (M.2.2.1 3) (78 + 6 * p + e) + 1))) (8 + e) (wI (min (iR (M.2.2.1 3) (8 + e) + tiresR (cut (M.2.2.1 3)) (csF (cut (M.2.2.1 3)) L) p e) 99)))) (mOk_r hM2 (hq.ok hM.1)) ((hF.1.tr (Fx.a 3 _)).le (by simp) (by simp) (by simp) (by simp)) hcut (fun i hi => by
    show upd _ _ _ i = _
    rw [upd_ne _ _ (by omega), upd_ne _ _ (by omega)])
  refine ⟨vp_in_nI (by omega) (by omega), fun c => ?_, fun c => ?_⟩
  · by_cases c2 : opensR (cut (M.2.2.1 3)) (csF (cut (M.2.2.1 3)) L) p e = true
    · rw [if_pos c2] at c; exact absurd c (by decide)
    · rw [if_neg c2] at fin; exact fin
  · by_cases c2 : opensR (cut (M.2.2.1 3)) (csF (cut (M.2.2.1 3)) L) p e = true
    · rw [if_pos c2] at fin; exact fin
    · rw [if_neg c2] at c; exact absurd rfl c
/-- what is wanted behind a deed's word -/
def dPo (S : hS) (o : Nat) (ad : Nat → Nat) (mT M : mS) (rs : Nat) (act : Nat) (a b c : Int) (T : aS) (q : Int32 → hS → Prop) : Prop := ∀ r N, mOk mT N → Fq M N ∧ kp M N → r.toInt = aDc act a b c T → RR N rs (aDd act a b c T) → q r (ov S o ad N)
theorem dPo.noN {act : Nat} {a b c code : Int} {q : Int32 → hS → Prop} (h : dPo S o ad mT M rs act a b c T q) (hM : mOk mT N) (hF : Fq M N ∧ kp M N) (hR : RR N rs T) (e : deedD (csF T.1.1 T.1.2) act T.1.1 a b c = (code, T.1.1)) (hc : code < 0) {r : Int32} (er : r.toInt = code) : q r (ov S o ad N) := by
  obtain ⟨e1, e2⟩ := aDd_no e hc
  exact h r N hM hF (by rw [e2]; exact er) (by rw [e1]; exact hR)
theorem dPo.no {act : Nat} {a b c code : Int} {q : Int32 → hS → Prop} (h : dPo S o ad mT M rs act a b c T q) (hM : mOk mT M) (hF : Fq M M) (hR : RR M rs T) (e : deedD (csF T.1.1 T.1.2) act T.1.1 a b c = (code, T.1.1)) (hc : code < 0) {r : Int32} (er : r.toInt = code) : q r (ov S o ad M) := by
  obtain ⟨e1, e2⟩ := aDd_no e hc
  exact h r M hM ⟨hF, fun _ _ => rfl⟩ (by rw [e2]; exact er) (by rw [e1]; exact hR)
end RD
