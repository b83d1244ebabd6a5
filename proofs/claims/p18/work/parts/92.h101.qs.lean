/-! THE REFERENCE ASKS THE LAW, EXACTLY -/
/-- a row with bounds, and its laws -/
def QM (M : mS) (L : Nat → List pCl) : Prop := rB (M.2.2.1 3) ∧ lawG (M.2.2.1 3) L
theorem i32_z {x : Int32} : x = 0 ↔ x.toInt = 0 := ⟨fun h => by rw [h]; rfl, fun h => Int32.toInt_inj.mp h⟩
section QS
variable {S : hS} {o : Nat} {ad : Nat → Nat} {M : mS} {mT : mS} {L : Nat → List pCl}
theorem mOk_law (hM : mOk mT M) : ∀ i : Nat, (i : Int) < iR (M.2.2.1 3) 3 → lawOk (M.2.2.1 3) (185 + 900 * i) := hM.1.2.2.2.2.2.2.2.2.1
theorem QM.fz {N : mS} (h : QM M L) (hF : Fz M N) : QM N L := by
  unfold QM
  rw [hF.r]
  exact h
theorem QM.c4 (h : QM M L) : ∀ i, i < 185 → iR (cut (M.2.2.1 3)) i = ((M.2.2.1 3) i).toInt := fun _ hi => iR_cut hi
theorem x_worthOf (hd : mD o ad) (hM : mOk mT M) (hQ : QM M L) {q : Int32 → hS → Prop} {e : Nat} {y : Int32} (he : e < 6) (hy : -10 ≤ y.toInt ∧ y.toInt ≤ 10000) (h : ∀ N, Fz M N → q (wI (worthR (cut (M.2.2.1 3)) (csF (cut (M.2.2.1 3)) L) e y.toInt)) (ov S o ad N)) : w_X12_worthOf q (ov S o ad M) o (nI e) y :=
  f_worthOf hd hM he (fun N hF => by rw [worth_eq hQ.1 (mOk_law hM) hQ.2 he hy]; exact h N hF)
theorem x_costsOf (hd : mD o ad) (hM : mOk mT M) (hQ : QM M L) {q : Int32 → hS → Prop} {p t e : Nat} (hp : p < 8) (ht : t < 8) (he : e < 6) (h : ∀ N, Fz M N → q (wI (costsR (cut (M.2.2.1 3)) (csF (cut (M.2.2.1 3)) L) p t e)) (ov S o ad N)) : w_X12_costsOf q (ov S o ad M) o (nI p) (nI t) (nI e) :=
  f_costsOf hd hM hp he (fun N hF => by rw [cost_eq hQ.1 (mOk_law hM) hQ.2 hp ht he]; exact h N hF)
theorem x_tiresOf (hd : mD o ad) (hM : mOk mT M) (hQ : QM M L) {q : Int32 → hS → Prop} {p e : Nat} (hp : p < 8) (he : e < 6) (h : ∀ N, Fz M N → q (wI (tiresR (cut (M.2.2.1 3)) (csF (cut (M.2.2.1 3)) L) p e)) (ov S o ad N)) : w_X12_tiresOf q (ov S o ad M) o (nI p) (nI e) :=
  ⟨ov_oK, s_yearNow hd ⟨ov_oK, f_tells hd hM (Or.inr ⟨p, hp, rfl⟩) he (fun N hF => s_withinV (by
    have := tire_eq (z := M.2.2.2 35) hQ.1 (mOk_law hM) hQ.2 hp he
    rw [show wiV (tellV (M.2.2.1 3) (M.2.2.2 35) 0 (nI p) e (M.2.2.1 3 5) (-1) 1) 0 20 = _ from this]
    exact h N hF))⟩⟩
theorem x_isBarred (hd : mD o ad) (hM : mOk mT M) (hQ : QM M L) {q : Int32 → hS → Prop} {p t e : Nat} (hp : p < 8) (ht : t < 8) (he : e < 6) (h : ∀ N, Fz M N → q (if barredR (cut (M.2.2.1 3)) (csF (cut (M.2.2.1 3)) L) p t e = true then 1 else 0) (ov S o ad N)) : w_X12_isBarred q (ov S o ad M) o (nI p) (nI t) (nI e) :=
  f_isBarred hd hM hp he (fun c N hF => by
    have := h N hF
    rwa [if_pos ((bar_eq hQ.1 (mOk_law hM) hQ.2 hp ht he).mp c)] at this) (fun c N hF => by
    have := h N hF
    rwa [if_neg (fun z => c ((bar_eq hQ.1 (mOk_law hM) hQ.2 hp ht he).mpr z))] at this)
theorem buy_eq (hM : mOk mT M) (hQ : QM M L) {p t e : Nat} (hp : p < 8) (ht : t < 8) (he : e < 6) : buyV (M.2.2.1 3) (M.2.2.2 35) p t e ↔ p ≠ t ∧ canBuyR (cut (M.2.2.1 3)) (csF (cut (M.2.2.1 3)) L) p t e = true := by
  have hc := costs_in (f := cut (M.2.2.1 3)) (cs := csF (cut (M.2.2.1 3)) L) (p := p) (o := t) (h := e)
  have n99 : (99 : Int32).toInt = 99 := by decide
  have e1 : ((M.2.2.1 3) (22 + p) = 0) ↔ iR (cut (M.2.2.1 3)) (22 + p) = 0 := by rw [i32_z, iR_cut (by omega)]; rfl
  have e2 : ((M.2.2.1 3) (22 + t) = 0) ↔ iR (cut (M.2.2.1 3)) (22 + t) = 0 := by rw [i32_z, iR_cut (by omega)]; rfl
  have e3 : (99 ≤ (M.2.2.1 3) (30 + 6 * t + e)) ↔ ¬ iR (cut (M.2.2.1 3)) (30 + 6 * t + e) < 99 := by
    rw [Int32.le_iff_toInt_le, iR_cut (by omega), n99]
    unfold iR
    omega
  have e4 : (M.2.2.1 3) (14 + t) < wI (costsR (cut (M.2.2.1 3)) (csF (cut (M.2.2.1 3)) L) p t e) ↔ ¬ costsR (cut (M.2.2.1 3)) (csF (cut (M.2.2.1 3)) L) p t e ≤ iR (cut (M.2.2.1 3)) (14 + t) := by
    rw [Int32.lt_iff_toInt_lt, iR_cut (by omega), wI_i (by omega)]
    unfold iR
    omega
  unfold buyV canBuyR liveR
  rw [bar_eq hQ.1 (mOk_law hM) hQ.2 hp ht he, cost_eq hQ.1 (mOk_law hM) hQ.2 hp ht he, e1, e2, e3, e4]
  simp only [Bool.and_eq_true, decide_eq_true_eq, Bool.not_eq_true', Bool.not_eq_true, Decidable.not_not]
  constructor
  · rintro ⟨a1, a2, a3, a4, a5, a6⟩
    exact ⟨a1, ⟨⟨⟨a2, a3⟩, a5⟩, a4⟩, a6⟩
  · rintro ⟨a1, ⟨⟨⟨a2, a3⟩, a5⟩, a4⟩, a6⟩
    exact ⟨a1, a2, a3, a4, a5, a6⟩
theorem x_canBuy (hd : mD o ad) (hM : mOk mT M) (hQ : QM M L) {q : Int32 → hS → Prop} {p t e : Nat} (hp : p < 8) (ht : t < 8) (he : e < 6) (h : ∀ N, Fz M N → q (if p ≠ t ∧ canBuyR (cut (M.2.2.1 3)) (csF (cut (M.2.2.1 3)) L) p t e = true then 1 else 0) (ov S o ad N)) : w_X12_canBuy q (ov S o ad M) o (nI p) (nI t) (nI e) :=
  f_canBuy hd hM hp ht he (fun c N hF => by
    have := h N hF
    rwa [if_pos ((buy_eq hM hQ hp ht he).mp c)] at this) (fun c N hF => by
    have := h N hF
    rwa [if_neg (fun z => c ((buy_eq hM hQ hp ht he).mpr z))] at this)
theorem left_eq (hB : rB (M.2.2.1 3)) {p e : Nat} (hp : p < 8) (he : e < 6) : (M.2.2.1 3 (30 + 6 * p + e) - M.2.2.1 3 (78 + 6 * p + e)).toInt = leftR (cut (M.2.2.1 3)) p e ∧ 0 ≤ leftR (cut (M.2.2.1 3)) p e ∧ leftR (cut (M.2.2.1 3)) p e ≤ 99 := by
  have h1 := hB.1 (30 + 6 * p + e) (by omega)
  have h2 := hB.1 (78 + 6 * p + e) (by omega)
  have h3 := hB.2.2.2.2.1 (6 * p + e) (by omega)
  rw [(hi_r (by omega)).1, (hi_r (by omega)).2] at h1
  rw [(hi_u (by omega)).1, (hi_u (by omega)).2] at h2
  rw [show 78 + (6 * p + e) = 78 + 6 * p + e by omega, show 30 + (6 * p + e) = 30 + 6 * p + e by omega] at h3
  unfold leftR
  rw [iR_cut (by omega), iR_cut (by omega)]
  unfold iR at *
  refine ⟨fb_subI (by omega) (by omega), by omega, by omega⟩
theorem x_canSell (hd : mD o ad) (hM : mOk mT M) (hQ : QM M L) {q : Int32 → hS → Prop} {p t e : Nat} (hp : p < 8) (ht : t < 8) (he : e < 6) (h : ∀ N, Fz M N → q (if 1 ≤ leftR (cut (M.2.2.1 3)) p e ∧ p ≠ t ∧ canBuyR (cut (M.2.2.1 3)) (csF (cut (M.2.2.1 3)) L) p t e = true then 1 else 0) (ov S o ad N)) : w_X12_canSell q (ov S o ad M) o (nI p) (nI t) (nI e) := by
  obtain ⟨l1, l2, l3⟩ := left_eq hQ.1 hp he
  have z0 : (0 : Int32).toInt = 0 := by decide
  refine ⟨ov_oK, s_leftOf hd hp he ⟨fun c => ?_, fun c => ⟨ov_oK, x_canBuy hd hM hQ hp ht he (fun N hF => ?_)⟩⟩⟩
  · have := h M Fz.rf
    rw [Int32.le_iff_toInt_le, l1, z0] at c
    rwa [if_neg (fun z => by omega)] at this
  · have := h N hF
    rw [Int32.le_iff_toInt_le, l1, z0] at c
    by_cases c2 : p ≠ t ∧ canBuyR (cut (M.2.2.1 3)) (csF (cut (M.2.2.1 3)) L) p t e = true
    · rw [if_pos c2]
      rw [if_pos ⟨by omega, c2⟩] at this
      exact ⟨fun z => absurd z (by decide), fun _ => this⟩
    · rw [if_neg c2]
      rw [if_neg (fun z => c2 z.2)] at this
      exact ⟨fun _ => this, fun z => absurd rfl z⟩
theorem x_canRing (hd : mD o ad) (hQ : QM M L) {q : Int32 → hS → Prop} {p e : Nat} (hp : p < 8) (he : e < 6) (h : q (if liveR (cut (M.2.2.1 3)) p = true ∧ 1 ≤ leftR (cut (M.2.2.1 3)) p e then 1 else 0) (ov S o ad M)) : w_X12_canRing q (ov S o ad M) o (nI p) (nI e) := by
  obtain ⟨l1, l2, l3⟩ := left_eq hQ.1 hp he
  have z0 : (0 : Int32).toInt = 0 := by decide
  have e1 : liveR (cut (M.2.2.1 3)) p = true ↔ M.2.2.1 3 (22 + p) = 0 := by
    unfold liveR
    rw [decide_eq_true_eq, i32_z, iR_cut (by omega)]; rfl
  refine ⟨ov_oK, s_lives hd hp (fun c1 => ⟨fun z => absurd z (by decide), fun _ => ⟨ov_oK, s_leftOf hd hp he ⟨fun c => ?_, fun c => ?_⟩⟩⟩) (fun c1 => ⟨fun _ => ?_, fun z => absurd rfl z⟩)⟩
  · rw [Int32.le_iff_toInt_le, l1, z0] at c
    rwa [if_neg (fun z => by omega)] at h
  · rw [Int32.le_iff_toInt_le, l1, z0] at c
    rwa [if_pos ⟨e1.mpr c1, by omega⟩] at h
  · rwa [if_neg (fun z => c1 (e1.mp z.1))] at h
theorem x_tellsOpening (hd : mD o ad) (hM : mOk mT M) (hQ : QM M L) {q : Int32 → hS → Prop} (h : q (if hasK (csF (cut (M.2.2.1 3)) L) 3 = true then 1 else 0) (ov S o ad M)) : w_X12_tellsOpening q (ov S o ad M) o := by
  have hf := hM.1.2.2.2.2.1
  have h3 := hM.1.2.2.2.1
  rw [csF_cut] at h
  unfold w_X12_tellsOpening
  by_cases c : M.2.2.1 3 4 = -1
  · refine ⟨1, ?_⟩
    rw [w_X12_tellsOpening_b4]
    simp (disch := decide) only [oi_gI, oi_gJ, oi_gP, oi_pI, oi_pZ, oi_pJ, oi_oK, oi_aI hd, oi_aZ hd, oi_aJ hd, oi_sI hd, oi_sZ hd, oi_sJ hd, mI_1, mI_2, mJ_1, mJ_2, mJ_3, mA_1, mA_2, mA_3, mA_4, mL_1, mL_2, mL_3, mL_4, mK, Nat.reduceEqDiff, if_true, if_false, ite_true, ite_false, true_and, Nat.reduceLT, reduceIte, reduceCtorEq, cl_0, cl_1, cl_2, cl_3, cl_4, cl_5, cl_6, cl_7, cl_8, cl_9, cl_10, cl_11, cl_12, cl_13, cl_14, cl_15, vl_0_5585, vl_1_5585, vl_2_5585, vl_3_5585, vl_4_5585, vl_5_5585, vl_6_5585, vl_0_7, vl_1_7, vl_2_7, vl_3_7, vl_4_7, vl_5_7, vl_6_7]
    refine ⟨fun _ => ⟨by simp, ?_⟩, fun z => absurd c z⟩
    have e : csF (M.2.2.1 3) L = [] := by
      unfold csF
      rw [if_pos (by unfold iR; rw [c]; decide)]
    rw [e] at h
    exact h
  have c' : (M.2.2.1 3 4).toInt ≠ -1 := fun z => c (Int32.toInt_inj.mp z)
  obtain ⟨v, hv, ev⟩ := rg_inR (x := M.2.2.1 3 4) (a := 0) (b := 5) ⟨by omega, by have := h3.2; omega⟩ (by omega) (by omega)
  have hv3 : (v : Int) < iR (M.2.2.1 3) 3 := by
    have := hf.2
    rw [ev, nI_toInt (by omega)] at this
    exact this
  have hlaw : lawOk (M.2.2.1 3) (185 + 900 * v) := mOk_law hM v hv3
  obtain ⟨l1, l2, l3⟩ := hQ.2.1 v hv3
  have ecs : csF (M.2.2.1 3) L = L v := by
    have e4 : iR (M.2.2.1 3) 4 = (v : Int) := by unfold iR; rw [ev, nI_toInt (by omega)]
    unfold csF
    rw [if_neg (by omega), e4]
    rfl
  rw [ecs] at h
  have hl12 : (L v).length ≤ 12 := by
    have := l2.1.1
    simpa using this
  have em := l1.1
  have eh : ∀ j, j < (L v).length → M.2.2.1 3 (185 + 900 * v + 2 + 8 * j) = nI (clA (L v) j).1 := fun j hj => (lw_part (z := fun _ => 0) (e := fun _ => 0) hlaw l1 l2 l3 (fun w _ _ => ⟨by decide, by omega, by omega⟩) hj).1
  refine loop_m (σ := Int32 × Nat) (fun n s => w_X12_tellsOpening_b4 q n (ov S o ad M) o s.1 (nI s.2)) (fun s => ((s.1 = 1 ∧ ∃ j, j < s.2 ∧ (clA (L v) j).1 = 3) ∨ (s.1 = 0 ∧ ∀ j, j < s.2 → (clA (L v) j).1 ≠ 3)) ∧ s.2 ≤ (L v).length) (fun s => (L v).length - s.2) ?_ (0, 0) ⟨Or.inr ⟨rfl, fun j hj => by omega⟩, Nat.zero_le _⟩
  rintro n ⟨x, i⟩ ⟨hx, hi⟩ ih
  dsimp only at hx hi ih ⊢
  rw [w_X12_tellsOpening_b4]
  simp (disch := decide) only [oi_gI, oi_gJ, oi_gP, oi_pI, oi_pZ, oi_pJ, oi_oK, oi_aI hd, oi_aZ hd, oi_aJ hd, oi_sI hd, oi_sZ hd, oi_sJ hd, mI_1, mI_2, mJ_1, mJ_2, mJ_3, mA_1, mA_2, mA_3, mA_4, mL_1, mL_2, mL_3, mL_4, mK, Nat.reduceEqDiff, if_true, if_false, ite_true, ite_false, true_and, Nat.reduceLT, reduceIte, reduceCtorEq, cl_0, cl_1, cl_2, cl_3, cl_4, cl_5, cl_6, cl_7, cl_8, cl_9, cl_10, cl_11, cl_12, cl_13, cl_14, cl_15, vl_0_5585, vl_1_5585, vl_2_5585, vl_3_5585, vl_4_5585, vl_5_5585, vl_6_5585, vl_0_7, vl_1_7, vl_2_7, vl_3_7, vl_4_7, vl_5_7, vl_6_7]
  rw [ev, lit_nI 185, lit_nI 900, lit_nI 8, nImul, nImul, nIadd, nI_1, show nI (185 + 900 * v) + 2 = nI (185 + 900 * v + 2) from nIadd _ _, nIadd, nI_clamp (by omega), nI_clamp (by omega), em, nI_leI (by omega) (by omega)]
  have x01 : x = 0 ∨ x = 1 := by
    rcases hx with z | z
    · exact Or.inr z.1
    · exact Or.inl z.1
  have hx3 : ∀ c ∈ L v, c.1 < 5 := fun c hc => (l2.2.1 c hc).1
  have fin : (L v).length ≤ i → q x (ov S o ad M) := by
    intro hle
    have : x = if hasK (L v) 3 = true then 1 else 0 := by
      have hk : hasK (L v) 3 = true ↔ ∃ j, j < (L v).length ∧ (clA (L v) j).1 = 3 := by
        unfold hasK
        rw [List.any_eq_true]
        constructor
        · rintro ⟨c, hc, h1⟩
          obtain ⟨j, hj, e⟩ := List.mem_iff_getElem.mp hc
          exact ⟨j, hj, by rw [clA_at hj, e]; exact of_decide_eq_true h1⟩
        · rintro ⟨j, hj, e⟩
          exact ⟨clA (L v) j, clA_mem hj, decide_eq_true e⟩
      rcases hx with ⟨z, j, hj, ej⟩ | ⟨z, hz⟩
      · rw [if_pos (hk.mpr ⟨j, by omega, ej⟩), z]
      · rw [if_neg (fun w => by
          obtain ⟨j, hj, ej⟩ := hk.mp w
          exact hz j (by omega) ej), z]
    rw [this]
    exact h
  have st : ∀ y : Int32, ((y = 1 ∧ ∃ j, j < i + 1 ∧ (clA (L v) j).1 = 3) ∨ (y = 0 ∧ ∀ j, j < i + 1 → (clA (L v) j).1 ≠ 3)) → i < (L v).length → w_X12_tellsOpening_b78 q (fun S v0 v1 v2 => w_X12_tellsOpening_b4 q n S v0 v1 v2) (ov S o ad M) o (nI i) y := by
    intro y hy hi2 z ez
    rw [ez, nI_1]
    exact ih (y, i + 1) ⟨hy, by dsimp only; omega⟩ (by dsimp only; omega)
  refine ⟨fun z => absurd z (fun z => c (by rw [ev]; exact z)), fun _ => ⟨vp_in_nI (by omega) (by omega), fun z => ⟨x01, fin z⟩, fun c2 => ⟨fun nx => ?_, fun x0 => ⟨vp_in_nI (by omega) (by omega), fun n3 => ?_, fun e3 => ?_⟩⟩⟩⟩
  · refine st 1 (Or.inl ⟨rfl, ?_⟩) (by omega)
    rcases hx with ⟨z, j, hj, ej⟩ | ⟨z, hz⟩
    · exact ⟨j, by omega, ej⟩
    · exact absurd z nx
  · refine st 0 (Or.inr ⟨rfl, fun j hj => ?_⟩) (by omega)
    rcases hx with ⟨z, _⟩ | ⟨z, hz⟩
    · rw [x0] at z; exact absurd z (by decide)
    · by_cases cj : j < i
      · exact hz j cj
      · have : j = i := by omega
        rw [this]
        intro w
        rw [eh i (by omega), w] at n3
        exact n3 rfl
  · refine st 1 (Or.inl ⟨rfl, i, by omega, ?_⟩) (by omega)
    rw [eh i (by omega)] at e3
    have := hx3 _ (clA_mem (cs := L v) (n := i) (by omega))
    have e4 := congrArg Int32.toInt e3
    rw [nI_toInt (by omega), show (3 : Int32).toInt = 3 by decide] at e4
    omega
theorem x_isOpen (hd : mD o ad) (hM : mOk mT M) (hQ : QM M L) {q : Int32 → hS → Prop} {p e : Nat} (hp : p < 8) (he : e < 6) (h : ∀ N, Fz M N → q (if opensR (cut (M.2.2.1 3)) (csF (cut (M.2.2.1 3)) L) p e = true then 1 else 0) (ov S o ad N)) : w_X12_isOpen q (ov S o ad M) o (nI p) (nI e) := by
  unfold opensR at h
  refine ⟨ov_oK, x_tellsOpening hd hM hQ ?_⟩
  by_cases c : hasK (csF (cut (M.2.2.1 3)) L) 3 = true
  · rw [if_pos c]
    rw [if_pos c] at h
    refine ⟨fun z => absurd z (by decide), fun _ => ⟨ov_oK, s_yearNow hd ⟨ov_oK, f_tells hd hM (Or.inr ⟨p, hp, rfl⟩) he (fun N hF => ?_)⟩⟩⟩
    have := h N hF
    rw [csF_cut, envL_cut (by omega) he, iR_cut (by omega)] at this
    rw [open_eq hQ.1 (mOk_law hM) hQ.2 hp he]
    simp only [lgc0]
    by_cases c2 : (tellL (csF (M.2.2.1 3) L) 3 (envL (M.2.2.1 3) p e (iR (M.2.2.1 3) 5) (-1))).isSome = true
    · rw [if_pos c2] at this ⊢
      exact ⟨fun z => absurd rfl z, fun _ => this⟩
    · rw [if_neg c2] at this ⊢
      exact ⟨fun _ => this, fun z => absurd z (by decide)⟩
  · rw [if_neg c]
    rw [if_neg c] at h
    refine ⟨fun _ => ?_, fun z => absurd rfl z⟩
    have := h M Fz.rf
    rw [iR_cut (by omega)] at this
    simp (disch := decide) only [oi_gI, oi_gJ, oi_gP, oi_pI, oi_pZ, oi_pJ, oi_oK, oi_aI hd, oi_aZ hd, oi_aJ hd, oi_sI hd, oi_sZ hd, oi_sJ hd, mI_1, mI_2, mJ_1, mJ_2, mJ_3, mA_1, mA_2, mA_3, mA_4, mL_1, mL_2, mL_3, mL_4, mK, Nat.reduceEqDiff, if_true, if_false, ite_true, ite_false, true_and, Nat.reduceLT, reduceIte, reduceCtorEq, cl_0, cl_1, cl_2, cl_3, cl_4, cl_5, cl_6, cl_7, cl_8, cl_9, cl_10, cl_11, cl_12, cl_13, cl_14, cl_15, vl_0_5585, vl_1_5585, vl_2_5585, vl_3_5585, vl_4_5585, vl_5_5585, vl_6_5585, vl_0_7, vl_1_7, vl_2_7, vl_3_7, vl_4_7, vl_5_7, vl_6_7]
    rw [lit_nI 8, nIadd, nI_clamp (by omega)]
    have e10 : (10 ≤ M.2.2.1 3 (8 + e)) ↔ ¬ iR (M.2.2.1 3) (8 + e) < 10 := by
      rw [Int32.le_iff_toInt_le, show (10 : Int32).toInt = 10 by decide]
      unfold iR
      omega
    refine ⟨vp_in_nI (by omega) (by omega), fun z => ?_, fun z => ?_⟩
    · rwa [if_neg (by rw [decide_eq_true_eq]; exact e10.mp z)] at this
    · rwa [if_pos (by rw [decide_eq_true_eq]; exact Decidable.not_not.mp (fun w => z (e10.mpr w)))] at this
end QS
