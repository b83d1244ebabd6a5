/-! LAYER 2, the reference: what a law tells, with its value -/
def lwOp (f : Nat → Int32) (b : Nat) : Nat → Int32 := fun j => f (b + 98 + 2 * j)
def lwArg (f : Nat → Int32) (b : Nat) : Nat → Int32 := fun j => f (b + 98 + 2 * j + 1)
def lwEv (f : Nat → Int32) (z : Nat → Int64) (b x y : Nat) : Int64 × Int32 := evRun (lwOp f b) (lwArg f b) z (f y).toNatClampNeg 401 (0, (f x).toNatClampNeg, 0, fun _ => 0)
def isSoV (f : Nat → Int32) (z : Nat → Int64) (b a : Nat) : Int32 := if ¬ f (a + 6) ≤ f (a + 5) ∧ (¬ (lwEv f z b (a + 5) (a + 6)).2 = 0 ∨ (lwEv f z b (a + 5) (a + 6)).1 = 0) then 0 else if 3 ≤ f a then 1 else if (lwEv f z b (a + 3) (a + 4)).2 = 0 then 1 else 0
def tellC (f : Nat → Int32) (z : Nat → Int64) (b : Nat) (head : Int32) (w : Int64) : Nat → Int64
  | 0 => w
  | c + 1 => if f (b + 2 + 8 * c) = head ∧ ¬ isSoV f z b (b + 2 + 8 * c) = 0 then (if 3 ≤ head then 1 else (lwEv f z b (b + 2 + 8 * c + 3) (b + 2 + 8 * c + 4)).1) else tellC f z b head w c
def setV (f : Nat → Int32) (z : Nat → Int64) (p : Int32) (h : Nat) (y t : Int32) : Nat → Int64 := fun j =>
  if j = 9 then (f 7).toInt64 else if j = 8 then t.toInt64 else if j = 7 then y.toInt64 else if j = 6 then (if p = -1 then -1 else (f (30 + 6 * p.toNatClampNeg + h) - f (78 + 6 * p.toNatClampNeg + h)).toInt64) else if j = 5 then (f (8 + h)).toInt64 else if j = 4 then (nI h).toInt64 else if j = 3 then (if p = -1 then -1 else (f (14 + p.toNatClampNeg)).toInt64) else if j = 2 then (if p = -1 then -1 else (f (146 + p.toNatClampNeg)).toInt64) else if j = 1 then p.toInt64 else z j
def tellV (f : Nat → Int32) (z : Nat → Int64) (head p : Int32) (h : Nat) (y t : Int32) (w : Int64) : Int64 := if f 4 = -1 then w else tellC f (setV f z p h y t) (185 + 900 * (f 4).toNatClampNeg) head w (f (185 + 900 * (f 4).toNatClampNeg + 1)).toNatClampNeg
def zEq (z z' : Nat → Int64) : Prop := ∀ j, (j < 1 ∨ 9 < j) → z' j = z j
theorem setV_z {f : Nat → Int32} {z z' : Nat → Int64} {p y t : Int32} {h : Nat} (e : zEq z z') : setV f z' p h y t = setV f z p h y t := by
  funext j
  unfold setV
  by_cases h9 : j < 1 ∨ 9 < j
  · rw [e j h9]
  · have : j = 9 ∨ j = 8 ∨ j = 7 ∨ j = 6 ∨ j = 5 ∨ j = 4 ∨ j = 3 ∨ j = 2 ∨ j = 1 := by omega
    rcases this with rfl | rfl | rfl | rfl | rfl | rfl | rfl | rfl | rfl <;> simp
theorem setV_out {f : Nat → Int32} {z : Nat → Int64} {p y t : Int32} {h : Nat} : zEq z (setV f z p h y t) := by
  intro j hj
  unfold setV
  rw [if_neg (by omega), if_neg (by omega), if_neg (by omega), if_neg (by omega), if_neg (by omega), if_neg (by omega), if_neg (by omega), if_neg (by omega), if_neg (by omega)]
theorem tellV_z {f : Nat → Int32} {z z' : Nat → Int64} {head p y t : Int32} {h : Nat} {w : Int64} (e : zEq z z') : tellV f z' head p h y t w = tellV f z head p h y t w := by
  unfold tellV
  rw [setV_z e]
section REF11
variable {S : hS} {o : Nat} {ad : Nat → Nat} {M : mS} {mT : mS}
theorem srcOk_fx {N : mS} {b c d : List Nat} {op arg : Nat → Int32} (hF : Fx [38] b c d M N) (hc : 3 ∉ c ∧ 24 ∉ c ∧ 25 ∉ c) (h : srcOk M op arg) : srcOk N op arg := by
  unfold srcOk at *
  rw [hF.1 20 (by simp), hF.1 34 (by simp), hF.2.2.1 3 hc.1, hF.2.2.1 24 hc.2.1, hF.2.2.1 25 hc.2.2]
  exact h
theorem f_isSo (hd : mD o ad) {q : Int32 → hS → Prop} {b c : Nat} (hl : lawOk (M.2.2.1 3) b) (hb9 : b + 900 ≤ 5585) (hc : c < 12) (hcl : (c : Int) < (M.2.2.1 3 (b + 1)).toInt) (h20 : M.1 20 = 0) (h34 : M.1 34 = nI b) (hr : rg (M.2.2.1 3 0) 0 6) (hp : rg (M.2.2.1 3 1) 0 8)
    (h : ∀ N, Fx [38] [39, 40] [] [37] M N → (¬ isSoV (M.2.2.1 3) (M.2.2.2 35) b (b + 2 + 8 * c) = 0 → ¬ 3 ≤ M.2.2.1 3 (b + 2 + 8 * c) → N.2.1 40 = (lwEv (M.2.2.1 3) (M.2.2.2 35) b (b + 2 + 8 * c + 3) (b + 2 + 8 * c + 4)).1) → q (isSoV (M.2.2.1 3) (M.2.2.2 35) b (b + 2 + 8 * c)) (ov S o ad N)) : w_X12_isSo q (ov S o ad M) o (nI (b + 2 + 8 * c)) := by
  obtain ⟨⟨l1, l2, x1, x2, x3, x4, x5⟩, ⟨t1, t2, y1, y2, y3, y4, y5⟩⟩ := hl.2 c hcl
  have hsrc : srcOk M (lwOp (M.2.2.1 3) b) (lwArg (M.2.2.1 3) b) := Or.inl ⟨h20, b, h34, hb9, fun _ => rfl, fun _ => rfl⟩
  have eS : lwEv (M.2.2.1 3) (M.2.2.2 35) b (b + 2 + 8 * c + 3) (b + 2 + 8 * c + 4) = evRun (lwOp (M.2.2.1 3) b) (lwArg (M.2.2.1 3) b) (M.2.2.2 35) l2 401 (0, l1, 0, fun _ => 0) := by
    unfold lwEv; rw [x1, x2, nI_clamp (by omega), nI_clamp (by omega)]
  have eT : lwEv (M.2.2.1 3) (M.2.2.2 35) b (b + 2 + 8 * c + 5) (b + 2 + 8 * c + 6) = evRun (lwOp (M.2.2.1 3) b) (lwArg (M.2.2.1 3) b) (M.2.2.2 35) t2 401 (0, t1, 0, fun _ => 0) := by
    unfold lwEv; rw [y1, y2, nI_clamp (by omega), nI_clamp (by omega)]
  have h59 : ∀ N, Fx [38] [39] [] [37] M N → ¬ (¬ M.2.2.1 3 (b + 2 + 8 * c + 6) ≤ M.2.2.1 3 (b + 2 + 8 * c + 5) ∧ (¬ (lwEv (M.2.2.1 3) (M.2.2.2 35) b (b + 2 + 8 * c + 5) (b + 2 + 8 * c + 6)).2 = 0 ∨ (lwEv (M.2.2.1 3) (M.2.2.2 35) b (b + 2 + 8 * c + 5) (b + 2 + 8 * c + 6)).1 = 0)) → w_X12_isSo_b59 q (ov S o ad N) o (nI (b + 2 + 8 * c)) := by
    intro N hF hT
    have er : N.2.2.1 = M.2.2.1 := funext fun j => hF.2.2.1 j (by simp)
    unfold w_X12_isSo_b59
    simp (disch := decide) only [oi_gI, oi_gJ, oi_gP, oi_pI, oi_pZ, oi_pJ, oi_oK, oi_aI hd, oi_aZ hd, oi_aJ hd, oi_sI hd, oi_sZ hd, oi_sJ hd, mI_1, mI_2, mJ_1, mJ_2, mJ_3, mA_1, mA_2, mA_3, mA_4, mL_1, mL_2, mL_3, mL_4, mK, Nat.reduceEqDiff, if_true, if_false, ite_true, ite_false, true_and, Nat.reduceLT, reduceIte, reduceCtorEq, cl_0, cl_1, cl_2, cl_3, cl_4, cl_5, cl_6, cl_7, cl_8, cl_9, cl_10, cl_11, cl_12, cl_13, cl_14, cl_15, vl_0_5585, vl_1_5585, vl_2_5585, vl_3_5585, vl_4_5585, vl_5_5585, vl_6_5585, vl_0_7, vl_1_7, vl_2_7, vl_3_7, vl_4_7, vl_5_7, vl_6_7]
    rw [lit_nI 4, nIadd, show nI (b + 2 + 8 * c) + 3 = nI (b + 2 + 8 * c + 3) from nIadd _ _, nI_clamp (by omega), nI_clamp (by omega), nI_clamp (by omega), er, x1, x2]
    refine ⟨vp_in_nI (by omega) (by omega), fun c3 => ?_, fun c3 => ⟨vp_in_nI (by omega) (by omega), vp_in_nI (by omega) (by omega), f_reckonAll hd (op := lwOp (M.2.2.1 3) b) (arg := lwArg (M.2.2.1 3) b) x3 x4 x5 (srcOk_fx hF (by simp) hsrc) (by rw [er]; exact hr) (by rw [er]; exact hp) (fun N2 hF2 hv => ?_)⟩⟩
    · have := h N (hF.le (by simp) (by simp) (by simp) (by simp)) (fun _ z => absurd c3 z)
      rw [isSoV, if_neg hT, if_pos c3] at this
      exact this
    · simp (disch := decide) only [oi_gI, oi_gJ, oi_gP, oi_pI, oi_pZ, oi_pJ, oi_oK, oi_aI hd, oi_aZ hd, oi_aJ hd, oi_sI hd, oi_sZ hd, oi_sJ hd, mI_1, mI_2, mJ_1, mJ_2, mJ_3, mA_1, mA_2, mA_3, mA_4, mL_1, mL_2, mL_3, mL_4, mK, Nat.reduceEqDiff, if_true, if_false, ite_true, ite_false, true_and, Nat.reduceLT, reduceIte, reduceCtorEq, cl_0, cl_1, cl_2, cl_3, cl_4, cl_5, cl_6, cl_7, cl_8, cl_9, cl_10, cl_11, cl_12, cl_13, cl_14, cl_15, vl_0_5585, vl_1_5585, vl_2_5585, vl_3_5585, vl_4_5585, vl_5_5585, vl_6_5585, vl_0_7, vl_1_7, vl_2_7, vl_3_7, vl_4_7, vl_5_7, vl_6_7]
      have hv2 := hv ((hF.1 20 (by simp)).trans h20)
      rw [hF.2.2.2 35 (by simp), ← eS] at hv2
      have v1 : N2.2.1 39 = _ := congrArg Prod.fst hv2
      have v2 : N2.1 38 = _ := congrArg Prod.snd hv2
      have := h (mJ N2 40 (N2.2.1 39)) (((hF.tr hF2).tr (Fx.j 40 _)).le (by simp) (by simp) (by simp) (by simp)) (fun _ _ => by rw [mJ_2, if_pos rfl]; exact v1)
      rw [isSoV, if_neg hT, if_neg c3, ← v2] at this
      refine ⟨fun e => ?_, fun e => ?_⟩
      · rw [if_neg e] at this; exact this
      · rw [if_pos e] at this; exact this
  unfold w_X12_isSo
  simp (disch := decide) only [oi_gI, oi_gJ, oi_gP, oi_pI, oi_pZ, oi_pJ, oi_oK, oi_aI hd, oi_aZ hd, oi_aJ hd, oi_sI hd, oi_sZ hd, oi_sJ hd, mI_1, mI_2, mJ_1, mJ_2, mJ_3, mA_1, mA_2, mA_3, mA_4, mL_1, mL_2, mL_3, mL_4, mK, Nat.reduceEqDiff, if_true, if_false, ite_true, ite_false, true_and, Nat.reduceLT, reduceIte, reduceCtorEq, cl_0, cl_1, cl_2, cl_3, cl_4, cl_5, cl_6, cl_7, cl_8, cl_9, cl_10, cl_11, cl_12, cl_13, cl_14, cl_15, vl_0_5585, vl_1_5585, vl_2_5585, vl_3_5585, vl_4_5585, vl_5_5585, vl_6_5585, vl_0_7, vl_1_7, vl_2_7, vl_3_7, vl_4_7, vl_5_7, vl_6_7]
  rw [lit_nI 6, nIadd, show nI (b + 2 + 8 * c) + 5 = nI (b + 2 + 8 * c + 5) from nIadd _ _, nI_clamp (by omega), nI_clamp (by omega)]
  refine ⟨vp_in_nI (by omega) (by omega), vp_in_nI (by omega) (by omega), fun c1 => h59 M Fx.rf' (fun z => z.1 c1), fun c1 => ⟨vp_in_nI (by omega) (by omega), vp_in_nI (by omega) (by omega), ?_⟩⟩
  have c1' := c1
  rw [y1, y2]
  refine f_reckonAll hd (op := lwOp (M.2.2.1 3) b) (arg := lwArg (M.2.2.1 3) b) y3 y4 y5 hsrc hr hp (fun N2 hF2 hv => ?_)
  have hv2 := hv h20
  rw [← eT] at hv2
  have v1 : N2.2.1 39 = _ := congrArg Prod.fst hv2
  have v2 : N2.1 38 = _ := congrArg Prod.snd hv2
  simp (disch := decide) only [oi_gI, oi_gJ, oi_gP, oi_pI, oi_pZ, oi_pJ, oi_oK, oi_aI hd, oi_aZ hd, oi_aJ hd, oi_sI hd, oi_sZ hd, oi_sJ hd, mI_1, mI_2, mJ_1, mJ_2, mJ_3, mA_1, mA_2, mA_3, mA_4, mL_1, mL_2, mL_3, mL_4, mK, Nat.reduceEqDiff, if_true, if_false, ite_true, ite_false, true_and, Nat.reduceLT, reduceIte, reduceCtorEq, cl_0, cl_1, cl_2, cl_3, cl_4, cl_5, cl_6, cl_7, cl_8, cl_9, cl_10, cl_11, cl_12, cl_13, cl_14, cl_15, vl_0_5585, vl_1_5585, vl_2_5585, vl_3_5585, vl_4_5585, vl_5_5585, vl_6_5585, vl_0_7, vl_1_7, vl_2_7, vl_3_7, vl_4_7, vl_5_7, vl_6_7, lgc0]
  have h0 : (¬ (lwEv (M.2.2.1 3) (M.2.2.2 35) b (b + 2 + 8 * c + 5) (b + 2 + 8 * c + 6)).2 = 0 ∨ (lwEv (M.2.2.1 3) (M.2.2.2 35) b (b + 2 + 8 * c + 5) (b + 2 + 8 * c + 6)).1 = 0) → q 0 (ov S o ad N2) := by
    intro z
    have e : isSoV (M.2.2.1 3) (M.2.2.2 35) b (b + 2 + 8 * c) = 0 := by rw [isSoV, if_pos ⟨c1', z⟩]
    have := h N2 (hF2.le (by simp) (by simp) (by simp) (by simp)) (fun z => absurd e z)
    rw [e] at this
    exact this
  rw [v1, v2]
  refine ⟨fun e => h0 (Or.inl e), fun e => ⟨fun e2 => h59 N2 hF2 (fun z => ?_), fun e2 => h0 (Or.inr e2)⟩⟩
  rcases z.2 with z | z
  · exact z e
  · exact e2 z
/-- all that asking a law changes -/
def Fz (M N : mS) : Prop := Fx [34, 38] [39, 40] [] [35, 37] M N ∧ zEq (M.2.2.2 35) (N.2.2.2 35)
theorem Fz.rf : Fz M M := ⟨Fx.rf', fun _ _ => rfl⟩
theorem Fz.tr {N P : mS} (h1 : Fz M N) (h2 : Fz N P) : Fz M P := ⟨(h1.1.tr h2.1).le (by simp) (by simp) (by simp) (by simp), fun j hj => (h2.2 j hj).trans (h1.2 j hj)⟩
theorem mOk_z {N : mS} (h : Fz M N) (hM : mOk mT M) : mOk mT N := mOk_fx h.1 hM (by simp)
theorem Fz.r {N : mS} (h : Fz M N) : N.2.2.1 = M.2.2.1 := funext fun j => h.1.2.2.1 j (by simp)
theorem rg_inR {x : Int32} {a : Int} {b : Nat} (h : rg x a b) (ha : 0 ≤ a) (hb : b < 2 ^ 31) : ∃ n : Nat, n ≤ b ∧ x = nI n := by
  obtain ⟨n, h1, h2, -⟩ := rg_nI h ha hb
  exact ⟨n, h1, h2⟩
theorem f_tells185 (hd : mD o ad) {q : Int64 → hS → Prop} {b : Nat} {head : Int32} {w : Int64} (hl : lawOk (M.2.2.1 3) b) (hb9 : b + 900 ≤ 5585) (h20 : M.1 20 = 0) (h34 : M.1 34 = nI b) (hr : rg (M.2.2.1 3 0) 0 6) (hp : rg (M.2.2.1 3 1) 0 8)
    (h : ∀ N, Fx [38] [39, 40] [] [37] M N → q (tellC (M.2.2.1 3) (M.2.2.2 35) b head w (M.2.2.1 3 (b + 1)).toNatClampNeg) (ov S o ad N)) : ∃ n, w_X12_tells_b185 q n (ov S o ad M) o head w 0 := by
  obtain ⟨m, hm, em⟩ := rg_inR (b := 12) hl.1 (by omega) (by omega)
  refine loop_m (σ := mS × Nat) (fun n s => w_X12_tells_b185 q n (ov S o ad s.1) o head (tellC (M.2.2.1 3) (M.2.2.2 35) b head w s.2) (nI s.2)) (fun s => Fx [38] [39, 40] [] [37] M s.1 ∧ s.2 ≤ m) (fun s => m - s.2) ?_ (M, 0) ⟨Fx.rf', Nat.zero_le _⟩
  rintro n ⟨N, c⟩ ⟨hF, hc⟩ ih
  dsimp only at hF hc ih ⊢
  have er : N.2.2.1 = M.2.2.1 := funext fun j => hF.2.2.1 j (by simp)
  have ez : N.2.2.2 35 = M.2.2.2 35 := hF.2.2.2 35 (by simp)
  rw [w_X12_tells_b185]
  simp (disch := decide) only [oi_gI, oi_gJ, oi_gP, oi_pI, oi_pZ, oi_pJ, oi_oK, oi_aI hd, oi_aZ hd, oi_aJ hd, oi_sI hd, oi_sZ hd, oi_sJ hd, mI_1, mI_2, mJ_1, mJ_2, mJ_3, mA_1, mA_2, mA_3, mA_4, mL_1, mL_2, mL_3, mL_4, mK, Nat.reduceEqDiff, if_true, if_false, ite_true, ite_false, true_and, Nat.reduceLT, reduceIte, reduceCtorEq, cl_0, cl_1, cl_2, cl_3, cl_4, cl_5, cl_6, cl_7, cl_8, cl_9, cl_10, cl_11, cl_12, cl_13, cl_14, cl_15, vl_0_5585, vl_1_5585, vl_2_5585, vl_3_5585, vl_4_5585, vl_5_5585, vl_6_5585, vl_0_7, vl_1_7, vl_2_7, vl_3_7, vl_4_7, vl_5_7, vl_6_7]
  rw [hF.1 34 (by simp), h34, nI_1, nI_clamp (by omega), er, em, nI_leI (by omega) (by omega)]
  refine ⟨vp_in_nI (by omega) (by omega), fun c1 => ?_, fun c1 y ey => ?_⟩
  · have := h N hF
    rw [em, nI_clamp (by omega)] at this
    rw [show c = m by omega]
    exact this
  rw [lit_nI 2, lit_nI 8, nImul, nIadd, nIadd] at ey
  subst ey
  rw [nI_clamp (by omega)]
  have hnx : ∀ N' v, Fx [38] [39, 40] [] [37] N N' → v = tellC (M.2.2.1 3) (M.2.2.2 35) b head w (c + 1) → w_X12_tells_b250 q (fun S v0 v1 v8 v10 => w_X12_tells_b185 q n S v0 v1 v8 v10) (ov S o ad N') o head v (nI c) := by
    rintro N' v hF' rfl y ey
    rw [ey, nI_1]
    exact ih (N', c + 1) ⟨(hF.tr hF').le (by simp) (by simp) (by simp) (by simp), by dsimp only; omega⟩ (by dsimp only; omega)
  refine ⟨vp_in_nI (by omega) (by omega), fun c2 => hnx N _ Fx.rf' (by rw [tellC, if_neg (fun z => c2 z.1)]), fun c2 => ?_⟩
  refine f_isSo hd (M := N) (b := b) (c := c) (by rw [er]; exact hl) hb9 (by omega) (by rw [er, em, nI_toInt (by omega)]; omega) ((hF.1 20 (by simp)).trans h20) ((hF.1 34 (by simp)).trans h34) (by rw [er]; exact hr) (by rw [er]; exact hp) (fun N2 hF2 hs => ?_)
  rw [er, ez] at hs ⊢
  refine ⟨fun e => hnx N2 _ hF2 (by rw [tellC, if_neg (fun z => z.2 e)]), fun e => ?_⟩
  unfold w_X12_tells_b248
  simp (disch := decide) only [oi_gI, oi_gJ, oi_gP, oi_pI, oi_pZ, oi_pJ, oi_oK, oi_aI hd, oi_aZ hd, oi_aJ hd, oi_sI hd, oi_sZ hd, oi_sJ hd, mI_1, mI_2, mJ_1, mJ_2, mJ_3, mA_1, mA_2, mA_3, mA_4, mL_1, mL_2, mL_3, mL_4, mK, Nat.reduceEqDiff, if_true, if_false, ite_true, ite_false, true_and, Nat.reduceLT, reduceIte, reduceCtorEq, cl_0, cl_1, cl_2, cl_3, cl_4, cl_5, cl_6, cl_7, cl_8, cl_9, cl_10, cl_11, cl_12, cl_13, cl_14, cl_15, vl_0_5585, vl_1_5585, vl_2_5585, vl_3_5585, vl_4_5585, vl_5_5585, vl_6_5585, vl_0_7, vl_1_7, vl_2_7, vl_3_7, vl_4_7, vl_5_7, vl_6_7]
  refine ⟨fun c3 => hnx N2 _ hF2 (by rw [tellC, if_pos ⟨c2, e⟩, if_pos c3]), fun c3 => hnx N2 _ hF2 (by rw [tellC, if_pos ⟨c2, e⟩, if_neg c3, hs e (by rw [c2]; exact c3)])⟩
theorem nI_nm1 {p : Nat} (h : p < 2 ^ 31) : ¬ nI p = -1 := by
  intro z
  have := congrArg Int32.toInt z
  rw [nI_toInt h] at this
  have e : (-1 : Int32).toInt = -1 := by decide
  omega
theorem lit_cl (n : Nat) (h : n < 2 ^ 31) : (OfNat.ofNat n : Int32).toNatClampNeg = n := by rw [lit_nI]; exact nI_clamp h
theorem f_tells (hd : mD o ad) (hM : mOk mT M) {q : Int64 → hS → Prop} {head x y t : Int32} {e : Nat} {w : Int64} (hx : x = -1 ∨ ∃ p : Nat, p < 8 ∧ x = nI p) (he : e < 6)
    (h : ∀ N, Fz M N → q (tellV (M.2.2.1 3) (M.2.2.2 35) head x e y t w) (ov S o ad N)) : w_X12_tells q (ov S o ad M) o head x (nI e) y t w := by
  have hf := hM.1.2.2.2.2.1
  have h3 := hM.1.2.2.2.1
  unfold w_X12_tells
  simp (disch := decide) only [oi_gI, oi_gJ, oi_gP, oi_pI, oi_pZ, oi_pJ, oi_oK, oi_aI hd, oi_aZ hd, oi_aJ hd, oi_sI hd, oi_sZ hd, oi_sJ hd, mI_1, mI_2, mJ_1, mJ_2, mJ_3, mA_1, mA_2, mA_3, mA_4, mL_1, mL_2, mL_3, mL_4, mK, Nat.reduceEqDiff, if_true, if_false, ite_true, ite_false, true_and, Nat.reduceLT, reduceIte, reduceCtorEq, cl_0, cl_1, cl_2, cl_3, cl_4, cl_5, cl_6, cl_7, cl_8, cl_9, cl_10, cl_11, cl_12, cl_13, cl_14, cl_15, vl_0_5585, vl_1_5585, vl_2_5585, vl_3_5585, vl_4_5585, vl_5_5585, vl_6_5585, vl_0_7, vl_1_7, vl_2_7, vl_3_7, vl_4_7, vl_5_7, vl_6_7]
  refine ⟨fun c => ?_, fun c => by have := h M Fz.rf; rw [tellV, if_pos c] at this; exact this⟩
  have c' : (M.2.2.1 3 4).toInt ≠ -1 := fun z => c (Int32.toInt_inj.mp z)
  obtain ⟨v, hv, ev⟩ := rg_inR (x := M.2.2.1 3 4) (a := 0) (b := 5) ⟨by omega, by have := h3.2; omega⟩ (by omega) (by omega)
  have hlaw : lawOk (M.2.2.1 3) (185 + 900 * v) := hM.1.2.2.2.2.2.2.2.2.1 v (by have := hf.2; rw [ev, nI_toInt (by omega)] at this; omega)
  have h20 := hM.2.2.2.2.2.2.2.2.1
  rw [ev, lit_nI 185, lit_nI 900, nImul, nIadd]
  have hend : ∀ N : mS, N.1 = (mI M 34 (nI (185 + 900 * v))).1 → N.2.1 = M.2.1 → N.2.2.1 = M.2.2.1 → Fx [] [] [] [35] (mI M 34 (nI (185 + 900 * v))) N → N.2.2.2 35 = setV (M.2.2.1 3) (M.2.2.2 35) x e y t → ∃ n, w_X12_tells_b185 q n (ov S o ad N) o head w 0 := by
    intro N n1 n2 n3 hF n4
    refine f_tells185 hd (b := 185 + 900 * v) (by rw [n3]; exact hlaw) (by omega) (by rw [n1, mI_1, if_neg (by omega)]; exact h20) (by rw [n1, mI_1, if_pos rfl]) (by rw [n3]; exact hM.1.1) (by rw [n3]; exact hM.1.2.1) (fun N2 hF2 => ?_)
    have hz : Fz M N2 := ⟨(((Fx.i 34 _).tr hF).tr hF2).le (by simp) (by simp) (by simp) (by simp), by rw [hF2.2.2.2 35 (by simp), n4]; exact setV_out⟩
    have := h N2 hz
    rw [tellV, if_neg c, ev, nI_clamp (by omega)] at this
    rw [n3, n4]
    exact this
  have he7 : vp_in (nI e) 6 := vp_in_nI he (by omega)
  have v13 : ∀ k : Nat, k < 13 → vp_in (nI k) 13 := fun k hk => vp_in_nI hk (by omega)
  rcases hx with rfl | ⟨p, hp, rfl⟩
  · refine ⟨v13 1 (by omega), fun z => absurd rfl z, fun _ => ?_⟩
    unfold w_X12_tells_b66 w_X12_tells_b93 w_X12_tells_b142
    simp (disch := decide) only [oi_gI, oi_gJ, oi_gP, oi_pI, oi_pZ, oi_pJ, oi_oK, oi_aI hd, oi_aZ hd, oi_aJ hd, oi_sI hd, oi_sZ hd, oi_sJ hd, mI_1, mI_2, mJ_1, mJ_2, mJ_3, mA_1, mA_2, mA_3, mA_4, mL_1, mL_2, mL_3, mL_4, mK, Nat.reduceEqDiff, if_true, if_false, ite_true, ite_false, true_and, Nat.reduceLT, reduceIte, reduceCtorEq, cl_0, cl_1, cl_2, cl_3, cl_4, cl_5, cl_6, cl_7, cl_8, cl_9, cl_10, cl_11, cl_12, cl_13, cl_14, cl_15, vl_0_5585, vl_1_5585, vl_2_5585, vl_3_5585, vl_4_5585, vl_5_5585, vl_6_5585, vl_0_7, vl_1_7, vl_2_7, vl_3_7, vl_4_7, vl_5_7, vl_6_7, mL_mL]
    rw [lit_nI 8, nIadd, nI_clamp (by omega)]
    refine ⟨v13 2 (by omega), fun z => absurd trivial z, fun _ => ⟨v13 3 (by omega), v13 4 (by omega), vp_in_nI (by omega) (by omega), v13 5 (by omega), fun z => absurd trivial z, fun _ => ⟨v13 6 (by omega), v13 7 (by omega), v13 8 (by omega), vp_in_iff.mpr (by decide), v13 9 (by omega), ?_⟩⟩⟩
    exact hend _ rfl rfl rfl (Fx.l 35 _) (by funext j; simp only [mL_4, if_true, vp_updL, setV])
  · have np := nI_nm1 (show p < 2 ^ 31 by omega)
    rw [lit_nI 146, nIadd, nI_clamp (by omega)]
    refine ⟨v13 1 (by omega), fun _ => ⟨vp_in_nI (by omega) (by omega), ?_⟩, fun z => absurd z np⟩
    unfold w_X12_tells_b66 w_X12_tells_b93
    simp (disch := decide) only [oi_gI, oi_gJ, oi_gP, oi_pI, oi_pZ, oi_pJ, oi_oK, oi_aI hd, oi_aZ hd, oi_aJ hd, oi_sI hd, oi_sZ hd, oi_sJ hd, mI_1, mI_2, mJ_1, mJ_2, mJ_3, mA_1, mA_2, mA_3, mA_4, mL_1, mL_2, mL_3, mL_4, mK, Nat.reduceEqDiff, if_true, if_false, ite_true, ite_false, true_and, Nat.reduceLT, reduceIte, reduceCtorEq, cl_0, cl_1, cl_2, cl_3, cl_4, cl_5, cl_6, cl_7, cl_8, cl_9, cl_10, cl_11, cl_12, cl_13, cl_14, cl_15, vl_0_5585, vl_1_5585, vl_2_5585, vl_3_5585, vl_4_5585, vl_5_5585, vl_6_5585, vl_0_7, vl_1_7, vl_2_7, vl_3_7, vl_4_7, vl_5_7, vl_6_7, mL_mL]
    rw [lit_nI 14, lit_nI 8, nIadd, nIadd, nI_clamp (by omega), nI_clamp (by omega)]
    refine ⟨v13 2 (by omega), fun _ => ⟨vp_in_nI (by omega) (by omega), v13 3 (by omega), v13 4 (by omega), vp_in_nI (by omega) (by omega), v13 5 (by omega), fun _ => s_leftOf hd hp he ?_, fun z => absurd z np⟩, fun z => absurd z np⟩
    unfold w_X12_tells_b142
    simp (disch := decide) only [oi_gI, oi_gJ, oi_gP, oi_pI, oi_pZ, oi_pJ, oi_oK, oi_aI hd, oi_aZ hd, oi_aJ hd, oi_sI hd, oi_sZ hd, oi_sJ hd, mI_1, mI_2, mJ_1, mJ_2, mJ_3, mA_1, mA_2, mA_3, mA_4, mL_1, mL_2, mL_3, mL_4, mK, Nat.reduceEqDiff, if_true, if_false, ite_true, ite_false, true_and, Nat.reduceLT, reduceIte, reduceCtorEq, cl_0, cl_1, cl_2, cl_3, cl_4, cl_5, cl_6, cl_7, cl_8, cl_9, cl_10, cl_11, cl_12, cl_13, cl_14, cl_15, vl_0_5585, vl_1_5585, vl_2_5585, vl_3_5585, vl_4_5585, vl_5_5585, vl_6_5585, vl_0_7, vl_1_7, vl_2_7, vl_3_7, vl_4_7, vl_5_7, vl_6_7, mL_mL]
    refine ⟨v13 6 (by omega), v13 7 (by omega), v13 8 (by omega), vp_in_iff.mpr (by decide), v13 9 (by omega), ?_⟩
    exact hend _ rfl rfl rfl (Fx.l 35 _) (by funext j; simp only [mL_4, if_true, vp_updL, setV, if_neg np, nI_clamp (show p < 2 ^ 31 by omega)])
end REF11
