/-! LAYER 2, the reference: chain() -/
noncomputable def bq (f : Nat → Int32) (z : Nat → Int64) (e p t : Nat) : Bool := @decide (buyV f z p t e) (Classical.propDecidable _)
def cq (f : Nat → Int32) (z : Nat → Int64) (e p t : Nat) : Nat := 100 * (costV f z p t e).toNatClampNeg + 1
theorem bq_t {f : Nat → Int32} {z : Nat → Int64} {e p t : Nat} (h : buyV f z p t e) : ¬ bq f z e p t = false := by
  unfold bq
  rw [@decide_eq_true _ (Classical.propDecidable _) h]
  exact fun z => by cases z
theorem bq_f {f : Nat → Int32} {z : Nat → Int64} {e p t : Nat} (h : ¬ buyV f z p t e) : bq f z e p t = false := by
  unfold bq
  exact @decide_eq_false _ (Classical.propDecidable _) h
theorem bq_z {f : Nat → Int32} {z z' : Nat → Int64} {e p t : Nat} (h : zEq z z') : bq f z' e p t = bq f z e p t := by
  unfold bq
  rw [buyV_z h]
theorem cq_z {f : Nat → Int32} {z z' : Nat → Int64} {e p t : Nat} (h : zEq z z') : cq f z' e p t = cq f z e p t := by
  unfold cq
  rw [costV_z h]
theorem cq_1 {f : Nat → Int32} {z : Nat → Int64} {e : Nat} : ∀ p t, 1 ≤ cq f z e p t := fun p t => by unfold cq; omega
theorem cq_c {f : Nat → Int32} {z : Nat → Int64} {e p t : Nat} : cq f z e p t ≤ 99901 ∧ 100 * costV f z p t e + 1 = nI (cq f z e p t) := by
  obtain ⟨n, h1, h2⟩ := rg_inR (b := 999) (costV_rg (f := f) (z := z) (p := p) (t := t) (e := e)) (by omega) (by omega)
  have : cq f z e p t = 100 * n + 1 := by unfold cq; rw [h2, nI_clamp (by omega)]
  rw [this, h2]
  refine ⟨by omega, ?_⟩
  rw [lit_nI 100, nImul, nI_1]
def rwv (b : Nat → Nat → Bool) (wt : Nat → Nat → Nat) (D : Nat → Nat) (p o : Nat) : Nat := if D o = 100000000 ∨ b p o = false then 100000000 else wt p o + D o
theorem rwv_min {b : Nat → Nat → Bool} {wt : Nat → Nat → Nat} {D : Nat → Nat} {p o : Nat} (h : D p ≤ 100000000) : min (D p) (rwv b wt D p o) = min (D p) (bfc b wt D p o) := by
  unfold rwv bfc
  split <;> omega
def CF (M N : mS) : Prop := Fx [34, 38] [39, 40] [49] [35, 37] M N ∧ zEq (M.2.2.2 35) (N.2.2.2 35)
section REF38
variable {S : hS} {o : Nat} {ad : Nat → Nat} {M : mS} {mT : mS}
theorem CF.rf : CF M M := ⟨Fx.rf', fun _ _ => rfl⟩
theorem CF.z {N P : mS} (h : CF M N) (h' : Fz N P) : CF M P := ⟨(h.1.tr h'.1).le (by simp) (by simp) (by simp) (by simp), fun j hj => (h'.2 j hj).trans (h.2 j hj)⟩
theorem CF.g {N : mS} {g : Nat → Int32} (h : CF M N) : CF M (mA N 49 g) := ⟨(h.1.tr (Fx.a 49 g)).le (by simp) (by simp) (by simp) (by simp), h.2⟩
theorem CF.ok {N : mS} (h : CF M N) (hM : mOk mT M) : mOk mT N := mOk_fx h.1 hM (by simp)
theorem f_chainBy (hd : mD o ad) {M0 : mS} (hM0 : mOk mT M0) (hC : CF M0 M) {q : Int32 → hS → Prop} {p t e : Nat} {D : Nat → Nat} (hp : p < 8) (ht : t < 8) (he : e < 6) (eD : M.2.2.1 49 t = nI (D t)) (hD : D t ≤ 100000000) (h : ∀ N, Fz M N → q (nI (rwv (bq (M0.2.2.1 3) (M0.2.2.2 35) e) (cq (M0.2.2.1 3) (M0.2.2.2 35) e) D p t)) (ov S o ad N)) : w_X12_chainBy q (ov S o ad M) o (nI p) (nI t) (nI e) := by
  have hM := hC.ok hM0
  have r3 : M.2.2.1 3 = M0.2.2.1 3 := hC.1.2.2.1 3 (by simp)
  unfold rwv at h
  unfold w_X12_chainBy w_X12_chainBy_b22
  simp (disch := decide) only [oi_gI, oi_gJ, oi_gP, oi_pI, oi_pZ, oi_pJ, oi_oK, oi_aI hd, oi_aZ hd, oi_aJ hd, oi_sI hd, oi_sZ hd, oi_sJ hd, mI_1, mI_2, mJ_1, mJ_2, mJ_3, mA_1, mA_2, mA_3, mA_4, mL_1, mL_2, mL_3, mL_4, mK, Nat.reduceEqDiff, if_true, if_false, ite_true, ite_false, true_and, Nat.reduceLT, reduceIte, reduceCtorEq, cl_0, cl_1, cl_2, cl_3, cl_4, cl_5, cl_6, cl_7, cl_8, cl_9, cl_10, cl_11, cl_12, cl_13, cl_14, cl_15, vl_0_5585, vl_1_5585, vl_2_5585, vl_3_5585, vl_4_5585, vl_5_5585, vl_6_5585, vl_0_7, vl_1_7, vl_2_7, vl_3_7, vl_4_7, vl_5_7, vl_6_7]
  rw [nI_clamp (by omega), eD, lit_nI 100000000, nI_eq (by omega) (by omega)]
  refine ⟨vp_in_nI (by omega) (by omega), fun c => ?_, fun c => f_canBuy hd hM hp ht he (fun hb N hF => ⟨fun _ => ⟨ov_oK, f_costsOf hd (mOk_z hF hM) hp he (fun N2 hF2 => ?_)⟩, fun z => absurd z (by decide)⟩) (fun hb N hF => ⟨fun z => absurd rfl z, fun _ => ?_⟩)⟩
  · have := h M Fz.rf
    rw [if_pos (Or.inl c)] at this
    exact this
  · have hz : zEq (M0.2.2.2 35) (M.2.2.2 35) := hC.2
    rw [r3, buyV_z hz] at hb
    have := h N2 (hF.tr hF2)
    rw [if_neg (fun z => by rcases z with z | z; exact c z; exact bq_t hb z)] at this
    simp (disch := decide) only [oi_gI, oi_gJ, oi_gP, oi_pI, oi_pZ, oi_pJ, oi_oK, oi_aI hd, oi_aZ hd, oi_aJ hd, oi_sI hd, oi_sZ hd, oi_sJ hd, mI_1, mI_2, mJ_1, mJ_2, mJ_3, mA_1, mA_2, mA_3, mA_4, mL_1, mL_2, mL_3, mL_4, mK, Nat.reduceEqDiff, if_true, if_false, ite_true, ite_false, true_and, Nat.reduceLT, reduceIte, reduceCtorEq, cl_0, cl_1, cl_2, cl_3, cl_4, cl_5, cl_6, cl_7, cl_8, cl_9, cl_10, cl_11, cl_12, cl_13, cl_14, cl_15, vl_0_5585, vl_1_5585, vl_2_5585, vl_3_5585, vl_4_5585, vl_5_5585, vl_6_5585, vl_0_7, vl_1_7, vl_2_7, vl_3_7, vl_4_7, vl_5_7, vl_6_7]
    rw [nI_clamp (by omega), (hF.tr hF2).r, eD, hF.r, r3, costV_z hF.2, costV_z hz, cq_c.2, nIadd]
    exact ⟨vp_in_nI (by omega) (by omega), this⟩
  · rw [r3, buyV_z hC.2] at hb
    have := h N hF
    rw [if_pos (Or.inr (bq_f hb))] at this
    exact this
theorem f_ch241 (hd : mD o ad) {M0 : mS} (hM0 : mOk mT M0) (hC : CF M0 M) {q : Int32 → hS → Prop} {n to a e : Nat} {i : Int32} (hn : n ≤ 8) (hto : to < n) (ha : a < n) (he : e < 6) (hD : ∀ p, p < n → M.2.2.1 49 p = nI (dk n to (bq (M0.2.2.1 3) (M0.2.2.2 35) e) (cq (M0.2.2.1 3) (M0.2.2.2 35) e) n p)) (hfar : dk n to (bq (M0.2.2.1 3) (M0.2.2.2 35) e) (cq (M0.2.2.1 3) (M0.2.2.2 35) e) n a < 100000000) (h : ∀ r N, mOk mT N → q r (ov S o ad N)) : ∃ m, w_X12_chain_b241 q m (ov S o ad M) o (nI to) (nI e) i (nI a) 0 := by
  generalize hdd : dk n to (bq (M0.2.2.1 3) (M0.2.2.2 35) e) (cq (M0.2.2.1 3) (M0.2.2.2 35) e) n = d at hD hfar
  have dF : ∀ p, d p ≤ 100000000 := fun p => by rw [← hdd]; exact dk_F n p
  refine loop_m (σ := mS × Nat × Int32) (fun m s => w_X12_chain_b241 q m (ov S o ad s.1) o (nI to) (nI e) i (nI s.2.1) s.2.2) (fun s => Fz M s.1 ∧ s.2.1 < n ∧ d s.2.1 < 100000000) (fun s => d s.2.1) ?_ (M, a, 0) ⟨Fz.rf, ha, hfar⟩
  rintro m ⟨N, x, k⟩ ⟨hF, hx, hdx⟩ ih
  dsimp only at hF hx hdx ih ⊢
  rw [w_X12_chain_b241]
  have hN : mOk mT N := mOk_z hF (hC.ok hM0)
  rw [nI_eq (by omega) (by omega)]
  refine ⟨fun _ => h _ _ hN, fun _ => ⟨fun c => ?_, fun _ => h _ _ hN⟩⟩
  -- one by whom it is so cheap
  obtain ⟨w, hw, hwl⟩ := dk_has (n := n) (to := to) (b := bq (M0.2.2.1 3) (M0.2.2.2 35) e) (wt := cq (M0.2.2.1 3) (M0.2.2.2 35) e) n x c (by rw [hdd]; exact hdx)
  rw [hdd] at hwl
  have hst := dk_st (n := n) (to := to) (b := bq (M0.2.2.1 3) (M0.2.2.2 35) e) (wt := cq (M0.2.2.1 3) (M0.2.2.2 35) e) cq_1 hx hw c
  rw [hdd] at hst
  have hraw : rwv (bq (M0.2.2.1 3) (M0.2.2.2 35) e) (cq (M0.2.2.1 3) (M0.2.2.2 35) e) d x w = d x := by
    have hb : bfc (bq (M0.2.2.1 3) (M0.2.2.2 35) e) (cq (M0.2.2.1 3) (M0.2.2.2 35) e) d x w = d x := by omega
    unfold bfc at hb
    unfold rwv
    by_cases cc : d w = 100000000 ∨ bq (M0.2.2.1 3) (M0.2.2.2 35) e x w = false
    · rw [if_pos cc] at hb; omega
    · rw [if_neg cc] at hb ⊢; omega
  refine loop_m (σ := mS × Nat) (fun m' s => w_X12_chain_b259 q (fun S v0 v2 v3 v4 v6 v7 => w_X12_chain_b241 q m S v0 v2 v3 v4 v6 v7) m' (ov S o ad s.1) o (nI to) (nI e) i (nI x) k (nI s.2)) (fun s => Fz M s.1 ∧ s.2 ≤ w) (fun s => w - s.2) ?_ (N, 0) ⟨hF, Nat.zero_le _⟩
  rintro m' ⟨P, j⟩ ⟨hP, hj⟩ ih'
  dsimp only at hP hj ih' ⊢
  rw [w_X12_chain_b259]
  refine ⟨ov_oK, f_chainBy hd hM0 (hC.z hP) (D := d) (by omega) (by omega) he (by rw [hP.r]; exact hD j (by omega)) (dF j) (fun Q hQ => ?_)⟩
  have hMQ := hP.tr hQ
  simp (disch := decide) only [oi_gI, oi_gJ, oi_gP, oi_pI, oi_pZ, oi_pJ, oi_oK, oi_aI hd, oi_aZ hd, oi_aJ hd, oi_sI hd, oi_sZ hd, oi_sJ hd, mI_1, mI_2, mJ_1, mJ_2, mJ_3, mA_1, mA_2, mA_3, mA_4, mL_1, mL_2, mL_3, mL_4, mK, Nat.reduceEqDiff, if_true, if_false, ite_true, ite_false, true_and, Nat.reduceLT, reduceIte, reduceCtorEq, cl_0, cl_1, cl_2, cl_3, cl_4, cl_5, cl_6, cl_7, cl_8, cl_9, cl_10, cl_11, cl_12, cl_13, cl_14, cl_15, vl_0_5585, vl_1_5585, vl_2_5585, vl_3_5585, vl_4_5585, vl_5_5585, vl_6_5585, vl_0_7, vl_1_7, vl_2_7, vl_3_7, vl_4_7, vl_5_7, vl_6_7]
  have hrl : rwv (bq (M0.2.2.1 3) (M0.2.2.2 35) e) (cq (M0.2.2.1 3) (M0.2.2.2 35) e) d x j < 2 ^ 31 := by
    have := dF j
    have := (cq_c (f := M0.2.2.1 3) (z := M0.2.2.2 35) (e := e) (p := x) (t := j)).1
    unfold rwv
    split <;> omega
  rw [nI_clamp (by omega), hMQ.r, hD x hx, nI_eq hrl (by omega)]
  refine ⟨vp_in_nI (by omega) (by omega), fun ce y ey => ?_, fun ce y ey => ?_⟩
  · have hc1 := cq_1 (f := M0.2.2.1 3) (z := M0.2.2.2 35) (e := e) x j
    have hlt : d j < d x ∧ d j < 100000000 := by
      unfold rwv at ce
      by_cases cc : d j = 100000000 ∨ bq (M0.2.2.1 3) (M0.2.2.2 35) e x j = false
      · rw [if_pos cc] at ce; omega
      · rw [if_neg cc] at ce; omega
    exact ih (Q, j, y) ⟨hMQ, by dsimp only; omega, hlt.2⟩ hlt.1
  · rw [ey, nI_1]
    have hne : j ≠ w := fun z => ce (by rw [z]; exact hraw)
    exact ih' (Q, j + 1) ⟨hMQ, by dsimp only; omega⟩ (by dsimp only; omega)
end REF38
