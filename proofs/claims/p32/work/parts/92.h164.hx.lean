/-! LONG QUESTIONS, EXACTLY, BOTH SIDES -/
section HX
variable {S : hS} {x o : Nat} {M : mS} {rs rc rr : Nat} {T Tc Tr : aS} {ad : Nat → Nat} {mT : mS}
/-- whatever of A is written, the class is as it was -/
theorem HV.cly (h : HV S x o M rc Tc rr Tr) (A : List Nat) (hA : ∀ n ∈ [11, 1216, 1210, 9, 1000] ++ sbN 0 ++ imN ++ lgNm, n ∉ A) : ∃ (Γ : kG) (Φ : kF) (ρ : Nat → Nat), St Γ Φ S ∧ fre Γ Φ A ∧ (∀ S', St Γ Φ S' → CR Γ S' x ρ rc Tc) ∧ ∀ S', St Γ Φ S' → HV S' x o M rc Tc rr Tr := by
  obtain ⟨Γ, ad, ρ, hd, hM, hS, h1, h2, hC, hR, hA'⟩ := h
  have so : S o = some (.inr (12, mFs ad M)) := by rw [← hS]; exact ov_o
  have sa : ∀ k ∈ mIx, S (ad k) = some (mC M k) := fun k hk => by
    have := ov_a (S := S) (M := M) hd hk
    rw [hS] at this; exact this
  have st : St Γ (fun _ => none) S := ⟨h1, fun a e ha => by cases ha⟩
  have go : Γ o = none := by
    cases e : Γ o with
    | none => rfl
    | some τ => exact absurd rfl (h2 o τ e).1
  have ga : ∀ k ∈ mIx, Γ (ad k) = none := fun k hk => by
    cases e : Γ (ad k) with
    | none => rfl
    | some τ => exact absurd rfl ((h2 (ad k) τ e).2 k hk)
  have fo : frz Γ (fun _ => none) S A o = S o := frz_out (fun τ e => by rw [go] at e; cases e)
  have fa : ∀ k ∈ mIx, frz Γ (fun _ => none) S A (ad k) = S (ad k) := fun k hk => frz_out (fun τ e => by rw [ga k hk] at e; cases e)
  have cr : ∀ S', St Γ (frz Γ (fun _ => none) S A) S' → CR Γ S' x ρ rc Tc := fun S' hs => CR.sm hC st (gro_rf (Φ := fun _ => none)) (frz_un st hs).2 hA
  refine ⟨Γ, frz Γ (fun _ => none) S A, ρ, frz_St st, frz_fre (L := A) (fun _ _ _ _ => rfl) (fun _ x => x), cr, fun S' hs => ?_⟩
  have so' : S' o = some (.inr (12, mFs ad M)) := hs.2 o _ (fo.trans so)
  have sa' : ∀ k ∈ mIx, S' (ad k) = some (mC M k) := fun k hk => hs.2 _ _ ((fa k hk).trans (sa k hk))
  exact ⟨Γ, ad, ρ, hd, hM, ov_eq so' sa', hs.1, h2, cr S' hs, hR, hA'⟩
theorem x_who (hd : mD o ad) (hB : rB T.1.1) (hG : ∀ i, i < 185 → M.2.2.1 3 i = T.1.1 i) {q : Int32 → hS → Prop} (k : q (spWho T) (ov S o ad (mI M 0 0))) : w_X12_who q (ov S o ad M) o := by
  have hG0 : ∀ i, i < 185 → (mI M 0 0).2.2.1 3 i = T.1.1 i := hG
  unfold w_X12_who
  simp (disch := decide) only [oi_gI, oi_gJ, oi_gP, oi_pI, oi_pZ, oi_pJ, oi_oK, oi_aI hd, oi_aZ hd, oi_aJ hd, oi_sI hd, oi_sZ hd, oi_sJ hd, mI_1, mI_2, mJ_1, mJ_2, mJ_3, mA_1, mA_2, mA_3, mA_4, mL_1, mL_2, mL_3, mL_4, mK, Nat.reduceEqDiff, if_true, if_false, ite_true, ite_false, true_and, Nat.reduceLT, reduceIte, reduceCtorEq, cl_0, cl_1, cl_2, cl_3, cl_4, cl_5, cl_6, cl_7, cl_8, cl_9, cl_10, cl_11, cl_12, cl_13, cl_14, cl_15, vl_0_5585, vl_1_5585, vl_2_5585, vl_3_5585, vl_4_5585, vl_5_5585, vl_6_5585, vl_0_7, vl_1_7, vl_2_7, vl_3_7, vl_4_7, vl_5_7, vl_6_7]
  exact x_whoCan hd hB hG0 k
theorem hcx_who {q : Int32 → hS → Prop} (hI : HV S x o M rs T rs T) (hc : cluB T) (hq : ∀ S', HV S' x o M rs T rs T → q (spWho T) S') : oK S x 11 ∧ w_X11_who q S x := by
  obtain ⟨Γ, Φ, ρ, hs, hf, hC, hgo⟩ := hI.cly [] (by simp)
  exact T_oK_11 hs (hC S hs).1 (cx_who (hC S hs) hs hc (hq S hI))
theorem hrx_who {q : Int32 → hS → Prop} (hI : HV S x o M rs T rs T) (hq : ∀ S' N, HV S' x o N rs T rs T → q (spWho T) S') : oK S o 12 ∧ w_X12_who q S o := by
  obtain ⟨ad, hd, hM, e, hR, hA, hN⟩ := hI.ref
  rw [← e]
  exact ⟨ov_oK, x_who hd hA.1 (fun i hi => hR.at hi) (hq _ _ (hN _ _ _ (mOk_self (mOk_i hM (by omega))) hR.z hA))⟩
theorem hcx_look {q : Int32 → hS → Prop} {a : Int32} (hI : HV S x o M rs T rs T) (hc : cluB T) (hq : ∀ S', HV S' x o M rs T rs T → q (spLook a T) S') : oK S x 11 ∧ w_X11_look q S x a := by
  obtain ⟨Γ, Φ, ρ, hs, hf, hC, hgo⟩ := hI.cly [] (by simp)
  exact T_oK_11 hs (hC S hs).1 (cx_look (hC S hs) hs hc (hq S hI))
theorem hrx_look {q : Int32 → hS → Prop} {a : Int32} (hI : HV S x o M rs T rs T) (hq : ∀ S' N, HV S' x o N rs T rs T → q (spLook a T) S') : oK S o 12 ∧ w_X12_look q S o a := by
  obtain ⟨ad, hd, hM, e, hR, hA, hN⟩ := hI.ref
  rw [← e]
  exact ⟨ov_oK, x_look hd hA.1 (fun i hi => hR.at hi) rfl (hq _ _ (hN _ _ _ (mOk_self (mOk_i hM (by omega))) hR.z hA))⟩
theorem hcx_amend {q : Int32 → hS → Prop} {a b : Int32} (hI : HV S x o M rs T rs T) (hq : ∀ S', HV S' x o M rs T rs T → q (spAmend a b T) S') : oK S x 11 ∧ w_X11_amend q S x a b := by
  obtain ⟨Γ, Φ, ρ, hs, hf, hC, hgo⟩ := hI.cly [] (by simp)
  exact T_oK_11 hs (hC S hs).1 (cx_amend (hC S hs) hs (hq S hI))
theorem hrx_amend {q : Int32 → hS → Prop} {a b : Int32} (hI : HV S x o M rs T rs T) (hq : ∀ S' N, HV S' x o N rs T rs T → q (spAmend a b T) S') : oK S o 12 ∧ w_X12_amend q S o a b := by
  obtain ⟨ad, hd, hM, e, hR, hA, hN⟩ := hI.ref
  rw [← e]
  exact ⟨ov_oK, x_amend hd hA.1 (fun i hi => hR.at hi) rfl (hq _ _ (hN _ _ _ (mOk_self (mOk_i hM (by omega))) hR.z hA))⟩
set_option maxRecDepth 16384 in
theorem hcx_given {q : Int32 → hS → Prop} {a b c : Int32} (hI : HV S x o M rs T rs T) (hq : ∀ S', HV S' x o M rs T rs T → q (spGiven a b c T) S') : oK S x 11 ∧ w_X11_given q S x a b c := by
  obtain ⟨Γ, Φ, ρ, hs, hf, hC, hgo⟩ := hI.cly [800] (by decide)
  exact T_oK_11 hs (hC S hs).1 (cx_given (hC S hs) hs hf (by simp) (fun S' h' => hq S' (hgo S' h')))
theorem hrx_given {q : Int32 → hS → Prop} {a b c : Int32} (hI : HV S x o M rs T rs T) (hq : ∀ S' N, HV S' x o N rs T rs T → q (spGiven a b c T) S') : oK S o 12 ∧ w_X12_given q S o a b c := by
  obtain ⟨ad, hd, hM, e, hR, hA, hN⟩ := hI.ref
  rw [← e]
  exact ⟨ov_oK, x_given hd hA.1 (fun i hi => hR.at hi) rfl (fun N hF => hq _ N (hN N _ _ (mOk_self (mOk_fx hF hM (by simp))) (hR.fx hF (by simp) (by simp) (by simp)) hA))⟩
set_option maxRecDepth 16384 in
theorem hcx_keep {q : Int32 → hS → Prop} {a b c d : Int32} (hI : HV S x o M rs T rs T) (hq : ∀ S', HV S' x o M rs T rs T → q (spKeep a b c d T) S') : oK S x 11 ∧ w_X11_keep q S x a b c d := by
  obtain ⟨Γ, Φ, ρ, hs, hf, hC, hgo⟩ := hI.cly [101, 700, 801, 802, 803] (by decide)
  exact T_oK_11 hs (hC S hs).1 (cx_keep hs hf (fun _ h => h) hC (fun S' h' => hq S' (hgo S' h')))
theorem hrx_keep {q : Int32 → hS → Prop} {a b c d : Int32} (hI : HV S x o M rs T rs T) (hq : ∀ S' N, HV S' x o N rs T rs T → q (spKeep a b c d T) S') : oK S o 12 ∧ w_X12_keep q S o a b c d := by
  obtain ⟨ad, hd, hM, e, hR, hA, hN⟩ := hI.ref
  rw [← e]
  exact ⟨ov_oK, x_keep hd hM hR hA (fun N hm hr => hq _ N (hN N _ _ (mOk_self hm) hr hA))⟩
theorem cb_0 : cluB t0 := ⟨fun k hk => by
  have : iR t0.1.1 2 = 0 := by decide
  rw [this] at hk
  omega, fun k _ t ht => by cases ht⟩
end HX
