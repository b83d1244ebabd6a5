/-! LAYER 2, the reference: keep() -/
def wa (E : Nat) : Nat → Nat
  | 0 => 0
  | k + 1 => wa E k + (E - k)
theorem wa_stop {E k : Nat} (h : E ≤ k) : ∀ d, wa E (k + d) = wa E k
  | 0 => rfl
  | d + 1 => by
    rw [show k + (d + 1) = (k + d) + 1 by omega, wa, wa_stop h d]
    omega
theorem wa_le {E : Nat} (h : E ≤ 99) : ∀ m, wa E m ≤ 99 * m
  | 0 => Nat.le_refl _
  | m + 1 => by
    have := wa_le h m
    rw [wa]
    omega
theorem nIsub {a b : Nat} (h : b ≤ a) : nI a - nI b = nI (a - b) := by
  have e : nI a = nI (a - b) + nI b := by rw [nIadd, show a - b + b = a by omega]
  rw [e, Int32.add_sub_cancel]
/-- what a year's first ring is worth -/
def Wy (M : mS) (e y : Nat) : Nat := (worthV (M.2.2.1 3) (M.2.2.2 35) e (M.2.2.1 3 5 + nI y)).toNatClampNeg
/-- what many rings in a year and the rest later are worth -/
def kv (W : Nat) (g : Nat → Int32) (y l m : Nat) : Int32 := nI (wa W m) + g (21 * y + 21 + (l - m))
def KF (M N : mS) : Prop := Fx [34, 38] [39, 40] [48] [35, 37] M N ∧ zEq (M.2.2.2 35) (N.2.2.2 35)
section REF34
variable {S : hS} {o : Nat} {ad : Nat → Nat} {M : mS} {mT : mS}
theorem KF.rf : KF M M := ⟨Fx.rf', fun _ _ => rfl⟩
theorem KF.z {N P : mS} (h : KF M N) (h' : Fz N P) : KF M P := ⟨(h.1.tr h'.1).le (by simp) (by simp) (by simp) (by simp), fun j hj => (h'.2 j hj).trans (h.2 j hj)⟩
theorem KF.g {N : mS} {g : Nat → Int32} (h : KF M N) : KF M (mA N 48 g) := ⟨(h.1.tr (Fx.a 48 g)).le (by simp) (by simp) (by simp) (by simp), h.2⟩
theorem KF.ok {N : mS} (h : KF M N) (hM : mOk mT M) : mOk mT N := mOk_fx h.1 hM (by simp)
theorem KF.W {N : mS} (h : KF M N) (e y : Nat) : Wy N e y = Wy M e y := by
  unfold Wy
  rw [h.1.2.2.1 3 (by simp), worthV_z h.2]
theorem Wy_le {e y : Nat} : Wy M e y ≤ 99 ∧ worthV (M.2.2.1 3) (M.2.2.2 35) e (M.2.2.1 3 5 + nI y) = nI (Wy M e y) := by
  obtain ⟨n, h1, h2⟩ := rg_inR (b := 99) (worthV_rg (f := M.2.2.1 3) (z := M.2.2.2 35) (e := e) (y := M.2.2.1 3 5 + nI y)) (by omega) (by omega)
  have : Wy M e y = n := by unfold Wy; rw [h2, nI_clamp (by omega)]
  rw [this]
  exact ⟨h1, h2⟩
theorem f_keptBy (hd : mD o ad) (hM : mOk mT M) {q : Int32 → hS → Prop} {e y l m : Nat} (he : e < 6) (hy : y < 8) (hl : l ≤ 20) (hm : m ≤ l) (h : ∀ N, Fz M N → q (kv (Wy M e y) (M.2.2.1 48) y l m) (ov S o ad N)) : w_X12_keptBy q (ov S o ad M) o (nI e) (nI y) (nI l) (nI m) := by
  obtain ⟨hW, eW⟩ := Wy_le (M := M) (e := e) (y := y)
  refine ⟨ov_oK, s_yearNow hd ⟨ov_oK, ⟨ov_oK, f_worthOf hd hM he (fun N hF => ?_)⟩⟩⟩
  rw [eW]
  refine loop_m (σ := Nat) (fun t s => w_X12_worthOfAll_b14 _ t (ov S o ad N) (nI m) (nI (wa (Wy M e y) s)) (nI (Wy M e y)) (nI s)) (fun s => s ≤ m) (fun s => m - s) ?_ 0 (Nat.zero_le _)
  rintro t k hk ih
  have fin : wa (Wy M e y) k = wa (Wy M e y) m → gP (ov S o ad N) o 12 48 (fun x14 => aI (ov S o ad N) x14 ((((21 * nI y) + 21) + nI l) - nI m) (fun x29 => q (nI (wa (Wy M e y) k) + x29) (ov S o ad N))) := by
    intro ek
    simp (disch := decide) only [oi_gI, oi_gJ, oi_gP, oi_pI, oi_pZ, oi_pJ, oi_oK, oi_aI hd, oi_aZ hd, oi_aJ hd, oi_sI hd, oi_sZ hd, oi_sJ hd, mI_1, mI_2, mJ_1, mJ_2, mJ_3, mA_1, mA_2, mA_3, mA_4, mL_1, mL_2, mL_3, mL_4, mK, Nat.reduceEqDiff, if_true, if_false, ite_true, ite_false, true_and, Nat.reduceLT, reduceIte, reduceCtorEq, cl_0, cl_1, cl_2, cl_3, cl_4, cl_5, cl_6, cl_7, cl_8, cl_9, cl_10, cl_11, cl_12, cl_13, cl_14, cl_15, vl_0_5585, vl_1_5585, vl_2_5585, vl_3_5585, vl_4_5585, vl_5_5585, vl_6_5585, vl_0_7, vl_1_7, vl_2_7, vl_3_7, vl_4_7, vl_5_7, vl_6_7]
    rw [ek, lit_nI 21, nImul, nIadd, nIadd, nIsub (by omega), nI_clamp (by omega), hF.r, show 21 * y + 21 + l - m = 21 * y + 21 + (l - m) by omega]
    exact ⟨vp_in_nI (by omega) (by omega), h N hF⟩
  rw [w_X12_worthOfAll_b14, nI_leI (by omega) (by omega), nI_leI (by omega) (by omega)]
  refine ⟨fun c => fin (by rw [show k = m by omega]), fun c => ⟨fun c2 => fin ?_, fun c2 y1 e1 y2 e2 => ?_⟩⟩
  · have := wa_stop c2 (m - k)
    rw [show k + (m - k) = m by omega] at this
    exact this.symm
  · rw [e1, e2, nI_1, nIsub (by omega), nIadd]
    exact ih (k + 1) (by omega) (by omega)
theorem kv_rg {W y l m : Nat} {g : Nat → Int32} (hW : W ≤ 99) (hl : l ≤ 20) (hm : m ≤ l) {B : Nat} (hB : B ≤ 100000) (hg : ∀ j, j ≤ l → rg (g (21 * y + 21 + j)) 0 B) : rg (kv W g y l m) 0 (B + 1980) := by
  have h1 := wa_le hW m
  have h2 := hg (l - m) (by omega)
  have e : (nI (wa W m)).toInt = wa W m := nI_toInt (by omega)
  obtain ⟨h3, h4⟩ := h2
  unfold kv rg
  rw [fb_addI (by omega) (by omega), e]
  omega
/-- a row of years behind: found -/
def KP (W : Nat → Nat) (g : Nat → Int32) (y l : Nat) : Prop := ∃ m, m ≤ l ∧ g (21 * y + l) = kv (W y) g y l m
theorem f_kp109 (hd : mD o ad) (hM : mOk mT M) {q : Int32 → hS → Prop} {K89 : hS → Nat → Int32 → Int32 → Int32 → Int32 → Prop} {K97 : hS → Nat → Int32 → Int32 → Int32 → Int32 → Int32 → Prop} {e k y l B : Nat} {v4 : Int32} (he : e < 6) (hy : y < 8) (hk : k ≤ 20) (hl : l ≤ k) (hB : B ≤ 100000) (hg : ∀ j, j ≤ l → rg (M.2.2.1 48 (21 * y + 21 + j)) 0 B)
    (h : ∀ N x, Fz M N → rg x 0 (B + 1980) → (∃ m, m ≤ l ∧ x = kv (Wy M e y) (M.2.2.1 48) y l m) → K97 (ov S o ad (mA N 48 (upd (M.2.2.1 48) (21 * y + l) x))) o (nI e) (nI k) v4 (nI y) (nI (l + 1))) : ∃ n, w_X12_keep_b109 q K89 K97 n (ov S o ad M) o (nI e) (nI k) v4 (nI y) (nI l) 0 0 := by
  refine loop_m (σ := mS × Int32 × Nat) (fun t s => w_X12_keep_b109 q K89 K97 t (ov S o ad s.1) o (nI e) (nI k) v4 (nI y) (nI l) s.2.1 (nI s.2.2)) (fun s => Fz M s.1 ∧ s.2.2 ≤ l + 1 ∧ rg s.2.1 0 (B + 1980) ∧ (s.2.2 = 0 → s.2.1 = 0) ∧ (0 < s.2.2 → ∃ m, m ≤ l ∧ s.2.1 = kv (Wy M e y) (M.2.2.1 48) y l m)) (fun s => l + 1 - s.2.2) ?_ (M, 0, 0) ⟨Fz.rf, by dsimp only; omega, ⟨by show 0 ≤ (0 : Int32).toInt; decide, by show (0 : Int32).toInt ≤ _; rw [show (0 : Int32).toInt = 0 by decide]; omega⟩, fun _ => rfl, fun z => absurd z (by simp)⟩
  rintro t ⟨N, x, j⟩ ⟨hF, hj, hx, h0, h1⟩ ih
  dsimp only at hF hj hx h0 h1 ih ⊢
  rw [w_X12_keep_b109]
  unfold w_X12_keep_b143
  have hlt : nI l < nI j ↔ l < j := by rw [i32lt, nI_toInt (by omega), nI_toInt (by omega)]; omega
  rw [hlt]
  refine ⟨fun c => ?_, fun c => ⟨ov_oK, f_keptBy hd (mOk_z hF hM) he hy (by omega) (by omega) (fun N2 hF2 => ?_)⟩⟩
  · simp (disch := decide) only [oi_gI, oi_gJ, oi_gP, oi_pI, oi_pZ, oi_pJ, oi_oK, oi_aI hd, oi_aZ hd, oi_aJ hd, oi_sI hd, oi_sZ hd, oi_sJ hd, mI_1, mI_2, mJ_1, mJ_2, mJ_3, mA_1, mA_2, mA_3, mA_4, mL_1, mL_2, mL_3, mL_4, mK, Nat.reduceEqDiff, if_true, if_false, ite_true, ite_false, true_and, Nat.reduceLT, reduceIte, reduceCtorEq, cl_0, cl_1, cl_2, cl_3, cl_4, cl_5, cl_6, cl_7, cl_8, cl_9, cl_10, cl_11, cl_12, cl_13, cl_14, cl_15, vl_0_5585, vl_1_5585, vl_2_5585, vl_3_5585, vl_4_5585, vl_5_5585, vl_6_5585, vl_0_7, vl_1_7, vl_2_7, vl_3_7, vl_4_7, vl_5_7, vl_6_7]
    rw [lit_nI 21, nImul, nIadd, nI_clamp (by omega), hF.r]
    refine ⟨vp_in_nI (by omega) (by omega), fun y1 e1 => ?_⟩
    rw [e1, nI_1]
    exact h N x hF hx (h1 (by omega))
  · have eW : Wy N e y = Wy M e y := by unfold Wy; rw [hF.r, worthV_z hF.2]
    rw [eW, hF.r]
    have hF' := hF.tr hF2
    have hv := kv_rg (W := Wy M e y) (y := y) (l := l) (m := j) (g := M.2.2.1 48) Wy_le.1 (by omega) (by omega) hB hg
    refine ⟨fun c2 y1 e1 => ?_, fun c2 y1 e1 => ?_⟩
    · rw [e1, nI_1]
      refine ih (N2, x, j + 1) ⟨hF', by dsimp only; omega, hx, fun z => absurd z (by simp), fun _ => ?_⟩ (by dsimp only; omega)
      by_cases ej : j = 0
      · subst ej
        refine ⟨0, Nat.zero_le _, ?_⟩
        rw [h0 rfl, i32ge, show (0 : Int32).toInt = 0 by decide] at c2
        show x = _
        rw [h0 rfl]
        exact (Int32.toInt_inj.mp (by rw [show (0 : Int32).toInt = 0 by decide]; have := hv.1; omega)).symm
      · exact h1 (by omega)
    · rw [e1, nI_1]
      exact ih (N2, _, j + 1) ⟨hF', by dsimp only; omega, hv, fun z => absurd z (by simp), fun _ => ⟨j, by omega, rfl⟩⟩ (by dsimp only; omega)
end REF34
