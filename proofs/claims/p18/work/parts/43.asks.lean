/-! LAYER 2, the reference: asking the law -/
def wiV (v : Int64) (lo hi : Int32) : Int32 := if lo.toInt ≤ v.toInt then (if v.toInt ≤ hi.toInt then v.toInt32 else hi) else lo
theorem wiV_rg {v : Int64} {lo hi : Int32} (h : lo.toInt ≤ hi.toInt) : rg (wiV v lo hi) lo.toInt hi.toInt := by
  have b1 := fb_rng lo
  have b2 := fb_rng hi
  unfold wiV rg
  split
  · split
    · have : v.toInt32.toInt = v.toInt := by
        rw [Int64.toInt_toInt32]
        exact fb_bmod (by omega) (by omega)
      rw [this]; omega
    · omega
  · omega
def worthV (f : Nat → Int32) (z : Nat → Int64) (e : Nat) (y : Int32) : Int32 := wiV (tellV f z 2 (-1) e y (-1) 10) 0 99
def costV (f : Nat → Int32) (z : Nat → Int64) (p t e : Nat) : Int32 := wiV (tellV f z 1 (nI p) e (f 5) (nI t) 5) 0 999
def barV (f : Nat → Int32) (z : Nat → Int64) (p t e : Nat) : Prop := tellV f z 4 (nI p) e (f 5) (nI t) 0 = 1
def buyV (f : Nat → Int32) (z : Nat → Int64) (p t e : Nat) : Prop := p ≠ t ∧ f (22 + p) = 0 ∧ f (22 + t) = 0 ∧ ¬ barV f z p t e ∧ ¬ 99 ≤ f (30 + 6 * t + e) ∧ ¬ f (14 + t) < costV f z p t e
theorem worthV_z {f : Nat → Int32} {z z' : Nat → Int64} {e : Nat} {y : Int32} (h : zEq z z') : worthV f z' e y = worthV f z e y := by unfold worthV; rw [tellV_z h]
theorem costV_z {f : Nat → Int32} {z z' : Nat → Int64} {p t e : Nat} (h : zEq z z') : costV f z' p t e = costV f z p t e := by unfold costV; rw [tellV_z h]
theorem buyV_z {f : Nat → Int32} {z z' : Nat → Int64} {p t e : Nat} (h : zEq z z') : buyV f z' p t e = buyV f z p t e := by unfold buyV barV; rw [tellV_z h, costV_z h]
theorem worthV_rg {f : Nat → Int32} {z : Nat → Int64} {e : Nat} {y : Int32} : rg (worthV f z e y) 0 99 := wiV_rg (by decide)
theorem costV_rg {f : Nat → Int32} {z : Nat → Int64} {p t e : Nat} : rg (costV f z p t e) 0 999 := wiV_rg (by decide)
section REF12
variable {S : hS} {o : Nat} {ad : Nat → Nat} {M : mS} {mT : mS}
theorem s_withinV {q : Int32 → hS → Prop} {T : hS} {v : Int64} {lo hi : Int32} (h : q (wiV v lo hi) T) : w_X12_within q T v lo hi := by
  have e1 : ∀ a b : Int64, 0 ≤ lg_cmp a b ↔ b.toInt ≤ a.toInt := fun a b => by rw [lg_cmp_ge, Int64.le_iff_toInt_le]
  have e2 : ∀ a b : Int64, lg_cmp a b ≤ 0 ↔ a.toInt ≤ b.toInt := fun a b => by rw [lg_cmp_le, Int64.le_iff_toInt_le]
  unfold w_X12_within
  simp only [e1, e2, i64toInt]
  unfold wiV at h
  refine ⟨fun c => ⟨fun c2 => ?_, fun c2 => ?_⟩, fun c => ?_⟩
  · rw [if_pos c, if_pos c2] at h; exact h
  · rw [if_pos c, if_neg c2] at h; exact h
  · rw [if_neg c] at h; exact h
theorem s_yearNow (hd : mD o ad) {q : Int32 → hS → Prop} (h : q (M.2.2.1 3 5) (ov S o ad M)) : w_X12_yearNow q (ov S o ad M) o := by
  unfold w_X12_yearNow
  simp (disch := decide) only [oi_gI, oi_gJ, oi_gP, oi_pI, oi_pZ, oi_pJ, oi_oK, oi_aI hd, oi_aZ hd, oi_aJ hd, oi_sI hd, oi_sZ hd, oi_sJ hd, mI_1, mI_2, mJ_1, mJ_2, mJ_3, mA_1, mA_2, mA_3, mA_4, mL_1, mL_2, mL_3, mL_4, mK, Nat.reduceEqDiff, if_true, if_false, ite_true, ite_false, true_and, Nat.reduceLT, reduceIte, reduceCtorEq, cl_0, cl_1, cl_2, cl_3, cl_4, cl_5, cl_6, cl_7, cl_8, cl_9, cl_10, cl_11, cl_12, cl_13, cl_14, cl_15, vl_0_5585, vl_1_5585, vl_2_5585, vl_3_5585, vl_4_5585, vl_5_5585, vl_6_5585, vl_0_7, vl_1_7, vl_2_7, vl_3_7, vl_4_7, vl_5_7, vl_6_7]
  exact h
theorem f_worthOf (hd : mD o ad) (hM : mOk mT M) {q : Int32 → hS → Prop} {e : Nat} {y : Int32} (he : e < 6) (h : ∀ N, Fz M N → q (worthV (M.2.2.1 3) (M.2.2.2 35) e y) (ov S o ad N)) : w_X12_worthOf q (ov S o ad M) o (nI e) y :=
  ⟨ov_oK, f_tells hd hM (Or.inl rfl) he (fun N hF => s_withinV (h N hF))⟩
theorem f_costsOf (hd : mD o ad) (hM : mOk mT M) {q : Int32 → hS → Prop} {p t e : Nat} (hp : p < 8) (he : e < 6) (h : ∀ N, Fz M N → q (costV (M.2.2.1 3) (M.2.2.2 35) p t e) (ov S o ad N)) : w_X12_costsOf q (ov S o ad M) o (nI p) (nI t) (nI e) :=
  ⟨ov_oK, s_yearNow hd ⟨ov_oK, f_tells hd hM (Or.inr ⟨p, hp, rfl⟩) he (fun N hF => s_withinV (h N hF))⟩⟩
theorem f_tiresOf (hd : mD o ad) (hM : mOk mT M) {q : Int32 → hS → Prop} {p e : Nat} (hp : p < 8) (he : e < 6) (h : ∀ N r, Fz M N → rg r 0 20 → q r (ov S o ad N)) : w_X12_tiresOf q (ov S o ad M) o (nI p) (nI e) :=
  ⟨ov_oK, s_yearNow hd ⟨ov_oK, f_tells hd hM (Or.inr ⟨p, hp, rfl⟩) he (fun N hF => s_withinV (h N _ hF (wiV_rg (by decide))))⟩⟩
theorem f_isBarred (hd : mD o ad) (hM : mOk mT M) {q : Int32 → hS → Prop} {p t e : Nat} (hp : p < 8) (he : e < 6) (h1 : barV (M.2.2.1 3) (M.2.2.2 35) p t e → ∀ N, Fz M N → q 1 (ov S o ad N)) (h0 : ¬ barV (M.2.2.1 3) (M.2.2.2 35) p t e → ∀ N, Fz M N → q 0 (ov S o ad N)) : w_X12_isBarred q (ov S o ad M) o (nI p) (nI t) (nI e) := by
  refine ⟨ov_oK, s_yearNow hd ⟨ov_oK, f_tells hd hM (Or.inr ⟨p, hp, rfl⟩) he (fun N hF => ?_)⟩⟩
  simp only [lgc0]
  exact ⟨fun c => h0 c N hF, fun c => h1 c N hF⟩
theorem f_canBuy (hd : mD o ad) (hM : mOk mT M) {q : Int32 → hS → Prop} {p t e : Nat} (hp : p < 8) (ht : t < 8) (he : e < 6) (h1 : buyV (M.2.2.1 3) (M.2.2.2 35) p t e → ∀ N, Fz M N → q 1 (ov S o ad N)) (h0 : ¬ buyV (M.2.2.1 3) (M.2.2.2 35) p t e → ∀ N, Fz M N → q 0 (ov S o ad N)) : w_X12_canBuy q (ov S o ad M) o (nI p) (nI t) (nI e) := by
  unfold w_X12_canBuy
  rw [nI_eq (by omega) (by omega)]
  refine ⟨fun c => h0 (fun z => z.1 c) M Fz.rf, fun c => ⟨ov_oK, s_lives hd hp (fun l1 => ⟨fun z => absurd z (by decide), fun _ => ⟨ov_oK, s_lives hd ht (fun l2 => ⟨fun z => absurd z (by decide), fun _ => ⟨ov_oK, f_isBarred hd hM hp he (fun b N hF => ⟨fun _ => h0 (fun z => z.2.2.2.1 b) N hF, fun z => absurd z (by decide)⟩) (fun b N hF => ⟨fun z => absurd rfl z, fun _ => ⟨ov_oK, s_rights hd ht he ⟨fun c9 => h0 (fun z => z.2.2.2.2.1 (by rw [hF.r] at c9; exact c9)) N hF, fun c9 => ?_⟩⟩⟩)⟩⟩) (fun l2 => ⟨fun _ => h0 (fun z => l2 z.2.2.1) M Fz.rf, fun z => absurd rfl z⟩)⟩⟩) (fun l1 => ⟨fun _ => h0 (fun z => l1 z.2.1) M Fz.rf, fun z => absurd rfl z⟩)⟩⟩
  simp (disch := decide) only [oi_gI, oi_gJ, oi_gP, oi_pI, oi_pZ, oi_pJ, oi_oK, oi_aI hd, oi_aZ hd, oi_aJ hd, oi_sI hd, oi_sZ hd, oi_sJ hd, mI_1, mI_2, mJ_1, mJ_2, mJ_3, mA_1, mA_2, mA_3, mA_4, mL_1, mL_2, mL_3, mL_4, mK, Nat.reduceEqDiff, if_true, if_false, ite_true, ite_false, true_and, Nat.reduceLT, reduceIte, reduceCtorEq, cl_0, cl_1, cl_2, cl_3, cl_4, cl_5, cl_6, cl_7, cl_8, cl_9, cl_10, cl_11, cl_12, cl_13, cl_14, cl_15, vl_0_5585, vl_1_5585, vl_2_5585, vl_3_5585, vl_4_5585, vl_5_5585, vl_6_5585, vl_0_7, vl_1_7, vl_2_7, vl_3_7, vl_4_7, vl_5_7, vl_6_7]
  rw [lit_nI 14, nIadd, nI_clamp (by omega), hF.r]
  rw [hF.r] at c9
  refine ⟨vp_in_nI (by omega) (by omega), f_costsOf hd (mOk_z hF hM) hp he (fun N2 hF2 => ?_)⟩
  rw [hF.r, costV_z hF.2]
  exact ⟨fun k => h0 (fun z => z.2.2.2.2.2 k) N2 (hF.tr hF2), fun k => h1 ⟨c, l1, l2, b, c9, k⟩ N2 (hF.tr hF2)⟩
theorem f_canSell (hd : mD o ad) (hM : mOk mT M) {q : Int32 → hS → Prop} {p t e : Nat} (hp : p < 8) (ht : t < 8) (he : e < 6) (h : ∀ N r, Fz M N → q r (ov S o ad N)) : w_X12_canSell q (ov S o ad M) o (nI p) (nI t) (nI e) :=
  ⟨ov_oK, s_leftOf hd hp he ⟨fun _ => h _ _ Fz.rf, fun _ => ⟨ov_oK, f_canBuy hd hM hp ht he (fun _ N hF => ⟨fun _ => h _ _ hF, fun _ => h _ _ hF⟩) (fun _ N hF => ⟨fun _ => h _ _ hF, fun _ => h _ _ hF⟩)⟩⟩⟩
theorem f_canRing (hd : mD o ad) {q : Int32 → hS → Prop} {p e : Nat} (hp : p < 8) (he : e < 6) (h : ∀ r, q r (ov S o ad M)) : w_X12_canRing q (ov S o ad M) o (nI p) (nI e) :=
  ⟨ov_oK, s_lives hd hp (fun _ => ⟨fun _ => h _, fun _ => ⟨ov_oK, s_leftOf hd hp he ⟨fun _ => h _, fun _ => h _⟩⟩⟩) (fun _ => ⟨fun _ => h _, fun z => absurd rfl z⟩)⟩
theorem s_tellsOpening (hd : mD o ad) (hM : mOk mT M) {q : Int32 → hS → Prop} (h : ∀ r, q r (ov S o ad M)) : w_X12_tellsOpening q (ov S o ad M) o := by
  have hf := hM.1.2.2.2.2.1
  have h3 := hM.1.2.2.2.1
  unfold w_X12_tellsOpening
  by_cases c : M.2.2.1 3 4 = -1
  · refine ⟨1, ?_⟩
    rw [w_X12_tellsOpening_b4]
    simp (disch := decide) only [oi_gI, oi_gJ, oi_gP, oi_pI, oi_pZ, oi_pJ, oi_oK, oi_aI hd, oi_aZ hd, oi_aJ hd, oi_sI hd, oi_sZ hd, oi_sJ hd, mI_1, mI_2, mJ_1, mJ_2, mJ_3, mA_1, mA_2, mA_3, mA_4, mL_1, mL_2, mL_3, mL_4, mK, Nat.reduceEqDiff, if_true, if_false, ite_true, ite_false, true_and, Nat.reduceLT, reduceIte, reduceCtorEq, cl_0, cl_1, cl_2, cl_3, cl_4, cl_5, cl_6, cl_7, cl_8, cl_9, cl_10, cl_11, cl_12, cl_13, cl_14, cl_15, vl_0_5585, vl_1_5585, vl_2_5585, vl_3_5585, vl_4_5585, vl_5_5585, vl_6_5585, vl_0_7, vl_1_7, vl_2_7, vl_3_7, vl_4_7, vl_5_7, vl_6_7]
    exact ⟨fun _ => ⟨by simp, h _⟩, fun z => absurd c z⟩
  have c' : (M.2.2.1 3 4).toInt ≠ -1 := fun z => c (Int32.toInt_inj.mp z)
  obtain ⟨v, hv, ev⟩ := rg_inR (x := M.2.2.1 3 4) (a := 0) (b := 5) ⟨by omega, by have := h3.2; omega⟩ (by omega) (by omega)
  have hlaw : lawOk (M.2.2.1 3) (185 + 900 * v) := hM.1.2.2.2.2.2.2.2.2.1 v (by have := hf.2; rw [ev, nI_toInt (by omega)] at this; omega)
  obtain ⟨m, hm, em⟩ := rg_inR (b := 12) hlaw.1 (by omega) (by omega)
  refine loop_m (σ := Int32 × Nat) (fun n s => w_X12_tellsOpening_b4 q n (ov S o ad M) o s.1 (nI s.2)) (fun s => (s.1 = 0 ∨ s.1 = 1) ∧ s.2 ≤ m) (fun s => m - s.2) ?_ (0, 0) ⟨Or.inl rfl, Nat.zero_le _⟩
  rintro n ⟨x, i⟩ ⟨hx, hi⟩ ih
  dsimp only at hx hi ih ⊢
  rw [w_X12_tellsOpening_b4]
  simp (disch := decide) only [oi_gI, oi_gJ, oi_gP, oi_pI, oi_pZ, oi_pJ, oi_oK, oi_aI hd, oi_aZ hd, oi_aJ hd, oi_sI hd, oi_sZ hd, oi_sJ hd, mI_1, mI_2, mJ_1, mJ_2, mJ_3, mA_1, mA_2, mA_3, mA_4, mL_1, mL_2, mL_3, mL_4, mK, Nat.reduceEqDiff, if_true, if_false, ite_true, ite_false, true_and, Nat.reduceLT, reduceIte, reduceCtorEq, cl_0, cl_1, cl_2, cl_3, cl_4, cl_5, cl_6, cl_7, cl_8, cl_9, cl_10, cl_11, cl_12, cl_13, cl_14, cl_15, vl_0_5585, vl_1_5585, vl_2_5585, vl_3_5585, vl_4_5585, vl_5_5585, vl_6_5585, vl_0_7, vl_1_7, vl_2_7, vl_3_7, vl_4_7, vl_5_7, vl_6_7]
  rw [ev, lit_nI 185, lit_nI 900, lit_nI 8, nImul, nImul, nIadd, nI_1, show nI (185 + 900 * v) + 2 = nI (185 + 900 * v + 2) from nIadd _ _, nIadd, nI_clamp (by omega), nI_clamp (by omega), em, nI_leI (by omega) (by omega)]
  have hn : ∀ y : Int32, (y = 0 ∨ y = 1) → i < m → w_X12_tellsOpening_b78 q (fun S v0 v1 v2 => w_X12_tellsOpening_b4 q n S v0 v1 v2) (ov S o ad M) o (nI i) y := by
    intro y hy hi2 z ez
    rw [ez, nI_1]
    exact ih (y, i + 1) ⟨hy, by dsimp only; omega⟩ (by dsimp only; omega)
  refine ⟨fun _ => ⟨hx, h _⟩, fun _ => ⟨vp_in_nI (by omega) (by omega), fun _ => ⟨hx, h _⟩, fun c2 => ⟨fun _ => hn 1 (by simp) (by omega), fun _ => ⟨vp_in_nI (by omega) (by omega), fun _ => hn 0 (by simp) (by omega), fun _ => hn 1 (by simp) (by omega)⟩⟩⟩⟩
theorem f_isOpen (hd : mD o ad) (hM : mOk mT M) {q : Int32 → hS → Prop} {p e : Nat} (hp : p < 8) (he : e < 6) (h : ∀ N r, Fz M N → q r (ov S o ad N)) : w_X12_isOpen q (ov S o ad M) o (nI p) (nI e) := by
  refine ⟨ov_oK, s_tellsOpening hd hM (fun r => ⟨fun _ => ?_, fun _ => ⟨ov_oK, s_yearNow hd ⟨ov_oK, f_tells hd hM (Or.inr ⟨p, hp, rfl⟩) he (fun N hF => ⟨fun _ => h _ _ hF, fun _ => h _ _ hF⟩)⟩⟩⟩)⟩
  simp (disch := decide) only [oi_gI, oi_gJ, oi_gP, oi_pI, oi_pZ, oi_pJ, oi_oK, oi_aI hd, oi_aZ hd, oi_aJ hd, oi_sI hd, oi_sZ hd, oi_sJ hd, mI_1, mI_2, mJ_1, mJ_2, mJ_3, mA_1, mA_2, mA_3, mA_4, mL_1, mL_2, mL_3, mL_4, mK, Nat.reduceEqDiff, if_true, if_false, ite_true, ite_false, true_and, Nat.reduceLT, reduceIte, reduceCtorEq, cl_0, cl_1, cl_2, cl_3, cl_4, cl_5, cl_6, cl_7, cl_8, cl_9, cl_10, cl_11, cl_12, cl_13, cl_14, cl_15, vl_0_5585, vl_1_5585, vl_2_5585, vl_3_5585, vl_4_5585, vl_5_5585, vl_6_5585, vl_0_7, vl_1_7, vl_2_7, vl_3_7, vl_4_7, vl_5_7, vl_6_7]
  rw [lit_nI 8, nIadd]
  exact ⟨vp_in_nI (by omega) (by omega), fun _ => h _ _ Fz.rf, fun _ => h _ _ Fz.rf⟩
theorem p_at (hd : mD o ad) (hM : mOk mT M) {q : Int32 → hS → Prop} {a b : Int32} (h : ∀ r N, mOk mT N → q r (ov S o ad N)) : w_X12_at q (ov S o ad M) o a b := by
  have hM0 : mOk mT (mI M 0 0) := mOk_i hM (by omega)
  unfold w_X12_at
  simp (disch := decide) only [oi_gI, oi_gJ, oi_gP, oi_pI, oi_pZ, oi_pJ, oi_oK, oi_aI hd, oi_aZ hd, oi_aJ hd, oi_sI hd, oi_sZ hd, oi_sJ hd, mI_1, mI_2, mJ_1, mJ_2, mJ_3, mA_1, mA_2, mA_3, mA_4, mL_1, mL_2, mL_3, mL_4, mK, Nat.reduceEqDiff, if_true, if_false, ite_true, ite_false, true_and, Nat.reduceLT, reduceIte, reduceCtorEq, cl_0, cl_1, cl_2, cl_3, cl_4, cl_5, cl_6, cl_7, cl_8, cl_9, cl_10, cl_11, cl_12, cl_13, cl_14, cl_15, vl_0_5585, vl_1_5585, vl_2_5585, vl_3_5585, vl_4_5585, vl_5_5585, vl_6_5585, vl_0_7, vl_1_7, vl_2_7, vl_3_7, vl_4_7, vl_5_7, vl_6_7]
  refine s_isHouse hd (fun h1 h2 => ⟨fun _ => ?_, fun z => absurd z (by decide)⟩) (fun _ => ⟨fun z => absurd rfl z, fun _ => h _ _ hM0⟩)
  have := hM0.1.1.2
  obtain ⟨e, he, rfl⟩ := rg_in 6 (by omega) h1 (by omega)
  intro y _
  simp (disch := decide) only [oi_gI, oi_gJ, oi_gP, oi_pI, oi_pZ, oi_pJ, oi_oK, oi_aI hd, oi_aZ hd, oi_aJ hd, oi_sI hd, oi_sZ hd, oi_sJ hd, mI_1, mI_2, mJ_1, mJ_2, mJ_3, mA_1, mA_2, mA_3, mA_4, mL_1, mL_2, mL_3, mL_4, mK, Nat.reduceEqDiff, if_true, if_false, ite_true, ite_false, true_and, Nat.reduceLT, reduceIte, reduceCtorEq, cl_0, cl_1, cl_2, cl_3, cl_4, cl_5, cl_6, cl_7, cl_8, cl_9, cl_10, cl_11, cl_12, cl_13, cl_14, cl_15, vl_0_5585, vl_1_5585, vl_2_5585, vl_3_5585, vl_4_5585, vl_5_5585, vl_6_5585, vl_0_7, vl_1_7, vl_2_7, vl_3_7, vl_4_7, vl_5_7, vl_6_7]
  rw [lit_nI 126, lit_nI 132, lit_nI 8, nIadd, nIadd, nIadd]
  exact ⟨fun _ => ⟨vp_in_nI (by omega) (by omega), h _ _ hM0⟩, fun _ => ⟨vp_in_nI (by omega) (by omega), h _ _ hM0⟩, fun _ => ⟨vp_in_nI (by omega) (by omega), h _ _ hM0⟩, fun _ => s_rightsTo hd hM0.1.2.1 he (fun x => h _ _ hM0), fun _ => f_worthOf hd hM0 he (fun N hF => h _ _ (mOk_z hF hM0)), fun _ => h _ _ hM0⟩
theorem p_has (hd : mD o ad) (hM : mOk mT M) {q : Int32 → hS → Prop} {a b c : Int32} (h : ∀ r N, mOk mT N → q r (ov S o ad N)) : w_X12_has q (ov S o ad M) o a b c := by
  have hM0 : mOk mT (mI M 0 0) := mOk_i hM (by omega)
  unfold w_X12_has
  simp (disch := decide) only [oi_gI, oi_gJ, oi_gP, oi_pI, oi_pZ, oi_pJ, oi_oK, oi_aI hd, oi_aZ hd, oi_aJ hd, oi_sI hd, oi_sZ hd, oi_sJ hd, mI_1, mI_2, mJ_1, mJ_2, mJ_3, mA_1, mA_2, mA_3, mA_4, mL_1, mL_2, mL_3, mL_4, mK, Nat.reduceEqDiff, if_true, if_false, ite_true, ite_false, true_and, Nat.reduceLT, reduceIte, reduceCtorEq, cl_0, cl_1, cl_2, cl_3, cl_4, cl_5, cl_6, cl_7, cl_8, cl_9, cl_10, cl_11, cl_12, cl_13, cl_14, cl_15, vl_0_5585, vl_1_5585, vl_2_5585, vl_3_5585, vl_4_5585, vl_5_5585, vl_6_5585, vl_0_7, vl_1_7, vl_2_7, vl_3_7, vl_4_7, vl_5_7, vl_6_7]
  refine s_isPerson hd (fun h1 h2 => ⟨fun z => absurd z (by decide), fun _ => ⟨ov_oK, s_isHouse hd (fun h3 h4 => ⟨fun _ => ?_, fun z => absurd z (by decide)⟩) (fun _ => ⟨fun z => absurd rfl z, fun _ => h _ _ hM0⟩)⟩⟩) (fun _ => ⟨fun _ => h _ _ hM0, fun z => absurd rfl z⟩)
  have b1 := hM0.1.1.2
  have b2 := hM0.1.2.1.2
  obtain ⟨p, hp, rfl⟩ := rg_in 8 (by omega) h1 (by omega)
  obtain ⟨e, he, rfl⟩ := rg_in 6 (by omega) h3 (by omega)
  intro y _
  simp (disch := decide) only [oi_gI, oi_gJ, oi_gP, oi_pI, oi_pZ, oi_pJ, oi_oK, oi_aI hd, oi_aZ hd, oi_aJ hd, oi_sI hd, oi_sZ hd, oi_sJ hd, mI_1, mI_2, mJ_1, mJ_2, mJ_3, mA_1, mA_2, mA_3, mA_4, mL_1, mL_2, mL_3, mL_4, mK, Nat.reduceEqDiff, if_true, if_false, ite_true, ite_false, true_and, Nat.reduceLT, reduceIte, reduceCtorEq, cl_0, cl_1, cl_2, cl_3, cl_4, cl_5, cl_6, cl_7, cl_8, cl_9, cl_10, cl_11, cl_12, cl_13, cl_14, cl_15, vl_0_5585, vl_1_5585, vl_2_5585, vl_3_5585, vl_4_5585, vl_5_5585, vl_6_5585, vl_0_7, vl_1_7, vl_2_7, vl_3_7, vl_4_7, vl_5_7, vl_6_7]
  rw [lit_nI 78, lit_nI 6, nImul, nIadd, nIadd]
  exact ⟨fun _ => s_rights hd hp he (h _ _ hM0), fun _ => ⟨vp_in_nI (by omega) (by omega), h _ _ hM0⟩, fun _ => s_leftOf hd hp he (h _ _ hM0), fun _ => f_isOpen hd hM0 hp he (fun N r hF => ⟨fun _ => h _ _ (mOk_z hF hM0), fun _ => h _ _ (mOk_z hF hM0)⟩), fun _ => f_tiresOf hd hM0 hp he (fun N r hF _ => h _ _ (mOk_z hF hM0)), fun _ => h _ _ hM0⟩
theorem p_asks72 (hd : mD o ad) (hM : mOk mT M) {q : Int32 → hS → Prop} {p t e : Nat} {c r : Int32} (hp : p < 8) (he : e < 6) (h : ∀ r N, mOk mT N → q r (ov S o ad N)) : w_X12_asks_b72 q (ov S o ad M) o (nI p) (nI t) (nI e) c r :=
  ⟨fun _ => ⟨fun _ => h _ _ hM, fun _ => h _ _ hM⟩, fun _ => ⟨ov_oK, f_costsOf hd hM hp he (fun N hF => h _ _ (mOk_z hF hM))⟩⟩
theorem p_asks (hd : mD o ad) (hM : mOk mT M) {q : Int32 → hS → Prop} {a b c d : Int32} (h : ∀ r N, mOk mT N → q r (ov S o ad N)) : w_X12_asks q (ov S o ad M) o a b c d := by
  have hM0 : mOk mT (mI M 0 0) := mOk_i hM (by omega)
  unfold w_X12_asks
  simp (disch := decide) only [oi_gI, oi_gJ, oi_gP, oi_pI, oi_pZ, oi_pJ, oi_oK, oi_aI hd, oi_aZ hd, oi_aJ hd, oi_sI hd, oi_sZ hd, oi_sJ hd, mI_1, mI_2, mJ_1, mJ_2, mJ_3, mA_1, mA_2, mA_3, mA_4, mL_1, mL_2, mL_3, mL_4, mK, Nat.reduceEqDiff, if_true, if_false, ite_true, ite_false, true_and, Nat.reduceLT, reduceIte, reduceCtorEq, cl_0, cl_1, cl_2, cl_3, cl_4, cl_5, cl_6, cl_7, cl_8, cl_9, cl_10, cl_11, cl_12, cl_13, cl_14, cl_15, vl_0_5585, vl_1_5585, vl_2_5585, vl_3_5585, vl_4_5585, vl_5_5585, vl_6_5585, vl_0_7, vl_1_7, vl_2_7, vl_3_7, vl_4_7, vl_5_7, vl_6_7]
  have b1 := hM0.1.1.2
  have b2 := hM0.1.2.1.2
  refine ⟨fun _ => h _ _ hM0, fun _ => s_isPerson hd (fun h1 h2 => ⟨fun z => absurd z (by decide), fun _ => ⟨ov_oK, s_isPerson hd (fun h3 h4 => ⟨fun z => absurd z (by decide), fun _ => ⟨ov_oK, s_isHouse hd (fun h5 h6 => ⟨fun z => absurd z (by decide), fun _ => s_in01 ⟨fun _ => ?_, fun z => absurd z (by decide)⟩ ⟨fun z => absurd rfl z, fun _ => h _ _ hM0⟩⟩) (fun _ => ⟨fun _ => h _ _ hM0, fun z => absurd rfl z⟩)⟩⟩) (fun _ => ⟨fun _ => h _ _ hM0, fun z => absurd rfl z⟩)⟩⟩) (fun _ => ⟨fun _ => h _ _ hM0, fun z => absurd rfl z⟩)⟩
  obtain ⟨p, hp, rfl⟩ := rg_in 8 (by omega) h1 (by omega)
  obtain ⟨t, ht, rfl⟩ := rg_in 8 (by omega) h3 (by omega)
  obtain ⟨e, he, rfl⟩ := rg_in 6 (by omega) h5 (by omega)
  exact ⟨fun _ => ⟨ov_oK, f_canSell hd hM0 hp ht he (fun N r hF => p_asks72 hd (mOk_z hF hM0) hp he h)⟩, fun _ => ⟨ov_oK, f_isBarred hd hM0 hp he (fun _ N hF => p_asks72 hd (mOk_z hF hM0) hp he h) (fun _ N hF => p_asks72 hd (mOk_z hF hM0) hp he h)⟩⟩
end REF12
