/-! THE REFERENCE'S PILE, EXACTLY -/
def plAt : List (Nat × Nat) → (Nat → Int32) → (Nat → Int32) → Prop
  | [], _, _ => True
  | x :: π, f, g => f π.length = nI x.1 ∧ g π.length = nI x.2 ∧ plAt π f g
def outAt (out : List (Nat × Nat)) (f g : Nat → Int32) : Prop := ∀ i, (h : i < out.length) → f i = nI out[i].1 ∧ g i = nI out[i].2
/-- code and pile stand in M -/
def pR2 (M : mS) (out π : List (Nat × Nat)) : Prop := M.1 23 = nI out.length ∧ outAt out (M.2.2.1 24) (M.2.2.1 25) ∧ M.1 29 = nI π.length ∧ plAt π (M.2.2.1 27) (M.2.2.1 28)
/-- the pile's "and", "or" stand in the code, all are operations -/
def jOk (out π : List (Nat × Nat)) : Prop := ∀ x ∈ π, (20 ≤ x.1 ∧ x.1 ≤ 32) ∧ (x.1 = 29 ∨ x.1 = 30 → ∃ h : x.2 < out.length, (out[x.2]).1 = x.1)
theorem plAt_congr {f g f' g' : Nat → Int32} : ∀ {π : List (Nat × Nat)}, (∀ i, i < π.length → f' i = f i ∧ g' i = g i) → plAt π f g → plAt π f' g'
  | [], _, _ => trivial
  | x :: π, h, ⟨h1, h2, h3⟩ => ⟨(h _ (by simp)).1.trans h1, (h _ (by simp)).2.trans h2, plAt_congr (fun i hi => h i (by rw [List.length_cons]; omega)) h3⟩
theorem plAt_push {f g : Nat → Int32} {π : List (Nat × Nat)} {x : Nat × Nat} (h : plAt π f g) : plAt (x :: π) (upd f π.length (nI x.1)) (upd g π.length (nI x.2)) :=
  ⟨upd_self _ _ _, upd_self _ _ _, plAt_congr (fun i hi => ⟨upd_ne _ _ (by omega), upd_ne _ _ (by omega)⟩) h⟩
theorem outAt_emit {f g : Nat → Int32} {out : List (Nat × Nat)} {x : Nat × Nat} (h : outAt out f g) : outAt (out ++ [x]) (upd f out.length (nI x.1)) (upd g out.length (nI x.2)) := fun i hi => by
  rw [List.length_append, List.length_singleton] at hi
  by_cases c : i = out.length
  · subst c
    rw [upd_self, upd_self]
    simp
  · rw [upd_ne _ _ c, upd_ne _ _ c, List.getElem_append_left (by omega)]
    exact h i (by omega)
theorem outAt_set {f g : Nat → Int32} {out : List (Nat × Nat)} {x y : Nat} (h : outAt out f g) (hx : ∃ h : x < out.length, (out[x]).1 = y) : outAt (out.set x (y, out.length)) f (upd g x (nI out.length)) := fun i hi => by
  rw [List.length_set] at hi
  obtain ⟨h1, h2⟩ := hx
  by_cases c : i = x
  · subst c
    rw [List.getElem_set_self, upd_self]
    exact ⟨by rw [(h i h1).1, h2], rfl⟩
  · rw [List.getElem_set_ne (Ne.symm c), upd_ne _ _ c]
    exact h i hi
theorem jOk_op {out out' π : List (Nat × Nat)} (h : jOk out π) (hl : out.length ≤ out'.length) (he : ∀ i, (h1 : i < out.length) → (h2 : i < out'.length) → out'[i].1 = out[i].1) : jOk out' π := fun x hx => by
  obtain ⟨h1, h2⟩ := h x hx
  refine ⟨h1, fun z => ?_⟩
  obtain ⟨z1, z2⟩ := h2 z
  exact ⟨by omega, by rw [he _ z1 (by omega)]; exact z2⟩
theorem jOk_set {out π : List (Nat × Nat)} {x y n : Nat} (h : jOk out π) (hx : ∃ h : x < out.length, (out[x]).1 = y) : jOk (out.set x (y, n)) π := by
  obtain ⟨h1, h2⟩ := hx
  refine jOk_op h (by rw [List.length_set]; exact Nat.le_refl _) (fun i i1 i2 => ?_)
  by_cases c : i = x
  · subst c
    rw [List.getElem_set_self, h2]
  · rw [List.getElem_set_ne (Ne.symm c)]
theorem jOk_app {out π l : List (Nat × Nat)} (h : jOk out π) : jOk (out ++ l) π := jOk_op h (by rw [List.length_append]; omega) (fun i i1 i2 => by rw [List.getElem_append_left i1])
theorem jOk_t {out π : List (Nat × Nat)} {x : Nat × Nat} (h : jOk out (x :: π)) : jOk out π := fun y hy => h y (List.mem_cons_of_mem _ hy)
theorem em1_jOk {out π : List (Nat × Nat)} {x : Nat × Nat} (h : jOk out (x :: π)) : jOk (em1 out x) π ∧ (em1 out x).length ≤ out.length + 1 := by
  unfold em1
  split
  · rename_i c
    exact ⟨jOk_set (jOk_t h) ((h x List.mem_cons_self).2 c), by rw [List.length_set]; omega⟩
  · exact ⟨jOk_app (jOk_t h), by rw [List.length_append, List.length_singleton]; omega⟩
theorem stl_ok {L : Nat} : ∀ {π out : List (Nat × Nat)}, jOk out π → jOk (stl L π out).2 (stl L π out).1 ∧ (stl L π out).2.length + (stl L π out).1.length ≤ out.length + π.length ∧ out.length ≤ (stl L π out).2.length ∧ (stl L π out).1.length ≤ π.length
  | [], out, h => ⟨h, Nat.le_refl _, Nat.le_refl _, Nat.le_refl _⟩
  | x :: π, out, h => by
    rw [stl]
    split
    · obtain ⟨e1, e2⟩ := em1_jOk h
      obtain ⟨i1, i2, i3, i4⟩ := stl_ok (L := L) e1
      have e3 : out.length ≤ (em1 out x).length := by
        unfold em1
        split
        · rw [List.length_set]; exact Nat.le_refl _
        · rw [List.length_append]; omega
      exact ⟨i1, by rw [List.length_cons]; omega, by omega, by rw [List.length_cons]; omega⟩
    · exact ⟨h, Nat.le_refl _, Nat.le_refl _, Nat.le_refl _⟩
theorem bnV_n : ∀ n, n < 33 → bnV (nI n) = nI (bnd n) := by decide
theorem bnd_6 (n : Nat) : bnd n ≤ 6 := by
  unfold bnd
  split
  · omega
  · split
    · omega
    · split
      · omega
      · split
        · omega
        · split
          · omega
          · split <;> omega
theorem pR2_fx {a b c d : List Nat} {M N : mS} {out π : List (Nat × Nat)} (h : Fx a b c d M N) (hR : pR2 M out π) (ha : (23 ∉ a ∧ 29 ∉ a) ∧ (24 ∉ c ∧ 25 ∉ c ∧ 27 ∉ c ∧ 28 ∉ c)) : pR2 N out π := by
  unfold pR2 at *
  rw [h.1 23 ha.1.1, h.1 29 ha.1.2, h.2.2.1 24 ha.2.1, h.2.2.1 25 ha.2.2.1, h.2.2.1 27 ha.2.2.2.1, h.2.2.1 28 ha.2.2.2.2]
  exact hR
section RP
variable {S : hS} {o : Nat} {ad : Nat → Nat} {M : mS} {G : pG} {out π : List (Nat × Nat)}
theorem x_settle (hd : mD o ad) {q : hS → Prop} {L : Nat} (hR : pR2 M out π) (hj : jOk out π) (hn : out.length + π.length ≤ 400) (hL : L ≤ 6) (h : ∀ N, Fx [23, 29] [] [24, 25] [] M N → pR2 N (stl L π out).2 (stl L π out).1 → q (ov S o ad N)) : w_X12_settle q (ov S o ad M) o (nI L) := by
  refine loop_m (σ := mS × List (Nat × Nat) × List (Nat × Nat)) (fun n s => w_X12_settle_b0 q n (ov S o ad s.1) o (nI L)) (fun s => Fx [23, 29] [] [24, 25] [] M s.1 ∧ pR2 s.1 s.2.1 s.2.2 ∧ jOk s.2.1 s.2.2 ∧ s.2.1.length + s.2.2.length ≤ 400 ∧ stl L s.2.2 s.2.1 = stl L π out) (fun s => s.2.2.length) ?_ (M, out, π) ⟨Fx.rf', hR, hj, hn, rfl⟩
  rintro n ⟨N, out', π'⟩ ⟨hF, hRN, hjN, hnN, he⟩ ih
  dsimp only at hF hRN hjN hnN he ih ⊢
  obtain ⟨w1, w2, w3, w4⟩ := id hRN
  rw [w_X12_settle_b0]
  simp (disch := decide) only [oi_gI, oi_gJ, oi_gP, oi_pI, oi_pZ, oi_pJ, oi_oK, oi_aI hd, oi_aZ hd, oi_aJ hd, oi_sI hd, oi_sZ hd, oi_sJ hd, mI_1, mI_2, mJ_1, mJ_2, mJ_3, mA_1, mA_2, mA_3, mA_4, mL_1, mL_2, mL_3, mL_4, mK, Nat.reduceEqDiff, if_true, if_false, ite_true, ite_false, true_and, Nat.reduceLT, reduceIte, reduceCtorEq, cl_0, cl_1, cl_2, cl_3, cl_4, cl_5, cl_6, cl_7, cl_8, cl_9, cl_10, cl_11, cl_12, cl_13, cl_14, cl_15, vl_0_5585, vl_1_5585, vl_2_5585, vl_3_5585, vl_4_5585, vl_5_5585, vl_6_5585, vl_0_7, vl_1_7, vl_2_7, vl_3_7, vl_4_7, vl_5_7, vl_6_7]
  rw [w3, show (0 : Int32) = nI 0 from rfl, nI_leI (by omega) (by omega)]
  cases π' with
  | nil => exact ⟨fun _ => h N hF (by rw [← he]; exact hRN), fun z => absurd (Nat.le_refl 0) z⟩
  | cons x π' =>
    obtain ⟨p1, p2, p3⟩ := w4
    obtain ⟨j1, j2⟩ := hjN x List.mem_cons_self
    rw [List.length_cons] at hnN w3
    have ej : nI (π'.length + 1) - 1 = nI π'.length := by rw [nI_s1 (by omega)]; rfl
    rw [List.length_cons]
    refine ⟨fun z => by omega, fun _ => ?_⟩
    rw [ej, nI_clamp (by omega), p1]
    have b6 := bnd_6 x.1
    refine ⟨vp_in_nI (by omega) (by omega), s_binds ?_⟩
    rw [bnV_n x.1 (by omega), i32lt, nI_toInt (by omega), nI_toInt (by omega)]
    refine ⟨fun z => h N hF (by
      have : stl L (x :: π') out' = (x :: π', out') := by
        rw [stl, if_neg (by omega)]
      rw [← he, this]; exact hRN), fun z => ?_⟩
    have es : stl L (x :: π') out' = stl L π' (em1 out' x) := by
      rw [stl, if_pos (by omega)]
    simp (disch := decide) only [oi_gI, oi_gJ, oi_gP, oi_pI, oi_pZ, oi_pJ, oi_oK, oi_aI hd, oi_aZ hd, oi_aJ hd, oi_sI hd, oi_sZ hd, oi_sJ hd, mI_1, mI_2, mJ_1, mJ_2, mJ_3, mA_1, mA_2, mA_3, mA_4, mL_1, mL_2, mL_3, mL_4, mK, Nat.reduceEqDiff, if_true, if_false, ite_true, ite_false, true_and, Nat.reduceLT, reduceIte, reduceCtorEq, cl_0, cl_1, cl_2, cl_3, cl_4, cl_5, cl_6, cl_7, cl_8, cl_9, cl_10, cl_11, cl_12, cl_13, cl_14, cl_15, vl_0_5585, vl_1_5585, vl_2_5585, vl_3_5585, vl_4_5585, vl_5_5585, vl_6_5585, vl_0_7, vl_1_7, vl_2_7, vl_3_7, vl_4_7, vl_5_7, vl_6_7]
    rw [w3, ej, nI_clamp (by omega), p1, lit_nI 29, nI_eq (by omega) (by omega), lit_nI 30, nI_eq (by omega) (by omega)]
    have hA : (x.1 = 29 ∨ x.1 = 30) → w_X12_settle_b63 q (fun S v0 v1 => w_X12_settle_b0 q n S v0 v1) (ov S o ad (mI N 29 (nI π'.length))) o (nI L) := by
      intro c
      obtain ⟨k1, k2⟩ := j2 c
      unfold w_X12_settle_b63
      simp (disch := decide) only [oi_gI, oi_gJ, oi_gP, oi_pI, oi_pZ, oi_pJ, oi_oK, oi_aI hd, oi_aZ hd, oi_aJ hd, oi_sI hd, oi_sZ hd, oi_sJ hd, mI_1, mI_2, mJ_1, mJ_2, mJ_3, mA_1, mA_2, mA_3, mA_4, mL_1, mL_2, mL_3, mL_4, mK, Nat.reduceEqDiff, if_true, if_false, ite_true, ite_false, true_and, Nat.reduceLT, reduceIte, reduceCtorEq, cl_0, cl_1, cl_2, cl_3, cl_4, cl_5, cl_6, cl_7, cl_8, cl_9, cl_10, cl_11, cl_12, cl_13, cl_14, cl_15, vl_0_5585, vl_1_5585, vl_2_5585, vl_3_5585, vl_4_5585, vl_5_5585, vl_6_5585, vl_0_7, vl_1_7, vl_2_7, vl_3_7, vl_4_7, vl_5_7, vl_6_7]
      rw [nI_clamp (by omega), p2, w1, nI_clamp (by omega)]
      refine ⟨vp_in_nI (by omega) (by omega), vp_in_nI (by omega) (by omega), ih (_, out'.set x.2 (x.1, out'.length), π') ⟨((hF.tr (Fx.i 29 _)).tr (Fx.a 25 _)).le (by simp) (by simp) (by simp) (by simp), ⟨?_, ?_, ?_, ?_⟩, jOk_set (jOk_t hjN) ⟨k1, k2⟩, by dsimp only; rw [List.length_set]; omega, ?_⟩ (by dsimp only; rw [List.length_cons]; omega)⟩
      · simp [mA_1, mI_1, w1]
      · simp only [mA_3, mI_2, Nat.reduceEqDiff, if_false, if_true, reduceIte]
        exact outAt_set w2 ⟨k1, k2⟩
      · simp [mA_1, mI_1]
      · simp only [mA_3, mI_2, Nat.reduceEqDiff, if_false, reduceIte]
        exact p3
      · dsimp only
        rw [← he, es]
        unfold em1
        rw [if_pos c]
    refine ⟨vp_in_nI (by omega) (by omega), fun z2 => hA (Or.inl z2), fun z2 => ⟨vp_in_nI (by omega) (by omega), fun z3 => ⟨vp_in_nI (by omega) (by omega), ?_⟩, fun z3 => hA (Or.inr z3)⟩⟩
    refine f_emit hd (c := out'.length) (by simp [mI_1, w1]) (by omega) ?_
    have hF2 : Fx [29] [] [] [] N (mI N 29 (nI π'.length)) := Fx.i 29 _
    refine ih (mE (mI N 29 (nI π'.length)) out'.length (nI x.1) (nI 0), out' ++ [(x.1, 0)], π') ⟨((hF.tr hF2).tr mE_fx).le (by simp) (by simp) (by simp) (by simp), ⟨?_, ?_, ?_, ?_⟩, jOk_app (jOk_t hjN), by dsimp only; rw [List.length_append, List.length_singleton]; omega, ?_⟩ (by dsimp only; rw [List.length_cons]; omega)
    · rw [mE_23, List.length_append, List.length_singleton]
    · dsimp only
      rw [mE_24, mE_25]
      exact outAt_emit (x := (x.1, 0)) w2
    · rw [mE_fx.1 29 (by simp)]
      simp [mI_1]
    · rw [mE_fx.2.2.1 27 (by simp), mE_fx.2.2.1 28 (by simp)]
      exact p3
    · dsimp only
      rw [← he, es]
      unfold em1
      rw [if_neg (fun z => by rcases z with z | z; exact z2 z; exact z3 z)]
end RP
