/-! THE CLASS'S TOKENS, EXACTLY -/
/-- the tape is G; the token from place p on is looked at; but for the token all is as it was -/
def tpC (G : pG) (V : vR) : Prop := V 1 1 = nI G.2 ∧ G.2 ≤ 400 ∧ (∀ i, i < 400 → V 3 i = nI (G.1 i)) ∧ ∀ i, G.1 i < 256
def tkC (G : pG) (p : Nat) (V : vR) : Prop := V 1 2 = nI (tK G p) ∧ V 1 3 = nI (tS G p) ∧ V 1 5 = nI (tE G p) ∧ (tK G p = 2 → V 1 4 = nI (nV G p))
def okN (V : vR) : Prop := ∃ n, V 1 4 = nI n ∧ n ≤ 10000
def vF (V V' : vR) : Prop := (∀ k, k ≠ 1 → V' k = V k) ∧ V' 1 1 = V 1 1
theorem vF.rf {V : vR} : vF V V := ⟨fun _ _ => rfl, rfl⟩
theorem vF.tr {V V' V'' : vR} (h : vF V V') (h' : vF V' V'') : vF V V'' := ⟨fun k hk => (h'.1 k hk).trans (h.1 k hk), h'.2.trans h.2⟩
theorem vF.s {V : vR} {j : Nat} {x : Int32} (hj : j ≠ 1) : vF V (vS V 1 j x) := ⟨fun k hk => by rw [vS_ar, if_neg hk], by rw [vS_at, if_pos rfl, if_neg (Ne.symm hj)]⟩
theorem tpC.F {G : pG} {V V' : vR} (h : tpC G V) (hF : vF V V') : tpC G V' := by
  unfold tpC at *
  rw [hF.2, hF.1 3 (by decide)]
  exact h
theorem okN.s {V : vR} {j : Nat} {x : Int32} (h : okN V) (hj : j ≠ 4) : okN (vS V 1 j x) := by
  obtain ⟨n, h1, h2⟩ := h
  exact ⟨n, by rw [vS_at, if_pos rfl, if_neg (Ne.symm hj)]; exact h1, h2⟩
theorem nNum_le {G : pG} : ∀ (n j v : Nat), v ≤ 10000 → cNum G n j v ≤ 10000
  | 0, _, _, h => h
  | n + 1, j, v, h => by rw [cNum]; exact nNum_le n (j + 1) _ (by omega)
theorem nV_le {G : pG} {p : Nat} : nV G p ≤ 10000 := nNum_le _ _ _ (by omega)
section CT
variable {S : hS} {ad : Nat → Nat} {V : vR} {G : pG} {p : Nat} {tx : Nat → Nat}
theorem c_isLetter {T : hS} {q : Int32 → hS → Prop} {c : Nat} (hc : c < 256) (h1 : isLn c = true → q 1 T) (h0 : ¬ isLn c = true → q 0 T) : w_X9_isLetter q T (nI c) := by
  unfold w_X9_isLetter
  unfold isLn at h1 h0
  rw [decide_eq_true_eq] at h1 h0
  simp only [Int32.lt_iff_toInt_lt, nI_toInt (show c < 2 ^ 31 by omega), show (97 : Int32).toInt = 97 by decide, show (122 : Int32).toInt = 122 by decide]
  exact ⟨fun c => h0 (by omega), fun c => ⟨fun c2 => h0 (by omega), fun c2 => h1 (by omega)⟩⟩
theorem c_isDigit {T : hS} {q : Int32 → hS → Prop} {c : Nat} (hc : c < 256) (h1 : isDn c = true → q 1 T) (h0 : ¬ isDn c = true → q 0 T) : w_X9_isDigit q T (nI c) := by
  unfold w_X9_isDigit
  unfold isDn at h1 h0
  rw [decide_eq_true_eq] at h1 h0
  simp only [Int32.lt_iff_toInt_lt, nI_toInt (show c < 2 ^ 31 by omega), show (48 : Int32).toInt = 48 by decide, show (57 : Int32).toInt = 57 by decide]
  exact ⟨fun c => h0 (by omega), fun c => ⟨fun c2 => h0 (by omega), fun c2 => h1 (by omega)⟩⟩
theorem c_b93 (hd : rD ad) {q : hS → Prop} {t : Nat} (hG : tpC G V) (e5 : V 1 5 = nI t) (ht : t ≤ G.2) (h : ∀ V', vF V V' → V' 1 2 = V 1 2 → V' 1 3 = V 1 3 → V' 1 4 = V 1 4 → V' 1 5 = nI (ru isLn G t) → q (rv S ad V')) : ∃ n, w_X9_advance_b93 q n (rv S ad V) (ad 1) := by
  refine loop_m (σ := vR × Nat) (fun n s => w_X9_advance_b93 q n (rv S ad s.1) (ad 1)) (fun s => vF V s.1 ∧ s.1 1 2 = V 1 2 ∧ s.1 1 3 = V 1 3 ∧ s.1 1 4 = V 1 4 ∧ s.1 1 5 = nI s.2 ∧ t ≤ s.2 ∧ s.2 ≤ G.2 ∧ ru isLn G s.2 = ru isLn G t) (fun s => G.2 - s.2) ?_ (V, t) ⟨vF.rf, rfl, rfl, rfl, e5, Nat.le_refl _, ht, rfl⟩
  rintro n ⟨N, u⟩ ⟨hF, g2, g3, g4, g5, g6, g7, g8⟩ ih
  dsimp only at hF g2 g3 g4 g5 g6 g7 g8 ih ⊢
  obtain ⟨n1, hT, hb, h256⟩ := hG.F hF
  rw [w_X9_advance_b93]
  simp (disch := decide) only [ri_gI0 hd, ri_gI1 hd, ri_gI2 hd, ri_gP00 hd, ri_gP01 hd, ri_gP10 hd, ri_gP23 hd, ri_gP24 hd, ri_gP25 hd, ri_gP26 hd, ri_pI0 hd, ri_pZ0 hd, ri_pI1 hd, ri_pI2 hd, ri_oK0 hd, ri_oK1 hd, ri_oK2 hd, ri_aI hd, ri_sI hd, ri_aN hd, rN_3, rN_4, rN_5, rN_6, rN_7, vS_at, Nat.reduceEqDiff, if_true, if_false, ite_true, ite_false, true_and, Nat.reduceLT, reduceIte, reduceCtorEq]
  have fin : ru isLn G u = u → q (rv S ad N) := fun z => h N hF g2 g3 g4 (by rw [g5, ← g8, z])
  rw [n1, g5, nI_leI (by omega) (by omega), nI_clamp (by omega)]
  refine ⟨fun c => fin (ru_end c), fun c => ⟨vp_in_nI (by omega) (by omega), ?_⟩⟩
  rw [hb u (by omega)]
  refine c_isLetter (h256 u) (fun c2 => ⟨fun z => absurd z (by decide), fun _ => ?_⟩) (fun c2 => ⟨fun _ => fin (ru_no c2), fun z => absurd rfl z⟩)
  simp (disch := decide) only [ri_gI0 hd, ri_gI1 hd, ri_gI2 hd, ri_gP00 hd, ri_gP01 hd, ri_gP10 hd, ri_gP23 hd, ri_gP24 hd, ri_gP25 hd, ri_gP26 hd, ri_pI0 hd, ri_pZ0 hd, ri_pI1 hd, ri_pI2 hd, ri_oK0 hd, ri_oK1 hd, ri_oK2 hd, ri_aI hd, ri_sI hd, ri_aN hd, rN_3, rN_4, rN_5, rN_6, rN_7, vS_at, Nat.reduceEqDiff, if_true, if_false, ite_true, ite_false, true_and, Nat.reduceLT, reduceIte, reduceCtorEq]
  rw [g5, nI_1]
  refine ih (vS N 1 5 (nI (u + 1)), u + 1) ⟨hF.tr (vF.s (by decide)), ?_, ?_, ?_, ?_, by dsimp only; omega, by dsimp only; omega, ?_⟩ (by dsimp only; omega)
  · dsimp only; exact (vS_o (by decide)).trans g2
  · dsimp only; exact (vS_o (by decide)).trans g3
  · dsimp only; exact (vS_o (by decide)).trans g4
  · dsimp only; exact vS_self
  · dsimp only
    rw [← g8]
    exact (ru_go (by omega) c2).symm
theorem c_num {v b : Nat} (hv : v ≤ 10000) (hb : 48 ≤ b ∧ b ≤ 57) : (if (10000 : Int32) < nI v * 10 + nI b - 48 then (10000 : Int32) else nI v * 10 + nI b - 48) = nI (min (v * 10 + (b - 48)) 10000) := by
  have e : nI v * 10 + nI b - 48 = nI (v * 10 + (b - 48)) := by
    rw [lit_nI 10, nImul, nIadd, lit_nI 48, nIsub (by omega)]
    congr 1
    omega
  rw [e]
  have c : (10000 : Int32) < nI (v * 10 + (b - 48)) ↔ 10000 < v * 10 + (b - 48) := by
    rw [Int32.lt_iff_toInt_lt, nI_toInt (by omega), show (10000 : Int32).toInt = 10000 by decide]
    omega
  by_cases z : 10000 < v * 10 + (b - 48)
  · rw [if_pos (c.mpr z), lit_nI 10000, show min (v * 10 + (b - 48)) 10000 = 10000 by omega]
  · rw [if_neg (fun z2 => z (c.mp z2)), show min (v * 10 + (b - 48)) 10000 = v * 10 + (b - 48) by omega]
theorem c_b157 (hd : rD ad) {q : hS → Prop} {t : Nat} (hG : tpC G V) (e5 : V 1 5 = nI t) (ht : t ≤ G.2) (e4 : V 1 4 = nI 0) (h : ∀ V', vF V V' → V' 1 2 = V 1 2 → V' 1 3 = V 1 3 → V' 1 5 = nI (ru isDn G t) → V' 1 4 = nI (cNum G (ru isDn G t - t) t 0) → q (rv S ad V')) : ∃ n, w_X9_advance_b157 q n (rv S ad V) (ad 1) := by
  refine loop_m (σ := vR × Nat × Nat) (fun n s => w_X9_advance_b157 q n (rv S ad s.1) (ad 1)) (fun s => vF V s.1 ∧ s.1 1 2 = V 1 2 ∧ s.1 1 3 = V 1 3 ∧ s.1 1 4 = nI s.2.2 ∧ s.1 1 5 = nI s.2.1 ∧ t ≤ s.2.1 ∧ s.2.1 ≤ G.2 ∧ ru isDn G s.2.1 = ru isDn G t ∧ s.2.2 ≤ 10000 ∧ cNum G (ru isDn G t - s.2.1) s.2.1 s.2.2 = cNum G (ru isDn G t - t) t 0) (fun s => G.2 - s.2.1) ?_ (V, t, 0) ⟨vF.rf, rfl, rfl, e4, e5, Nat.le_refl _, ht, rfl, by dsimp only; omega, rfl⟩
  rintro n ⟨N, u, v⟩ ⟨hF, g2, g3, g4, g5, g6, g7, g8, g9, g10⟩ ih
  dsimp only at hF g2 g3 g4 g5 g6 g7 g8 g9 g10 ih ⊢
  obtain ⟨n1, hT, hb, h256⟩ := hG.F hF
  rw [w_X9_advance_b157]
  simp (disch := decide) only [ri_gI0 hd, ri_gI1 hd, ri_gI2 hd, ri_gP00 hd, ri_gP01 hd, ri_gP10 hd, ri_gP23 hd, ri_gP24 hd, ri_gP25 hd, ri_gP26 hd, ri_pI0 hd, ri_pZ0 hd, ri_pI1 hd, ri_pI2 hd, ri_oK0 hd, ri_oK1 hd, ri_oK2 hd, ri_aI hd, ri_sI hd, ri_aN hd, rN_3, rN_4, rN_5, rN_6, rN_7, vS_at, Nat.reduceEqDiff, if_true, if_false, ite_true, ite_false, true_and, Nat.reduceLT, reduceIte, reduceCtorEq]
  have fin : ru isDn G u = u → q (rv S ad N) := by
    intro z
    rw [z] at g8
    rw [← g8, Nat.sub_self] at g10
    exact h N hF g2 g3 (by rw [g5, ← g8]) (by rw [g4, ← g8, ← g10]; rfl)
  rw [n1, g5, nI_leI (by omega) (by omega), nI_clamp (by omega)]
  refine ⟨fun c => fin (ru_end c), fun c => ⟨vp_in_nI (by omega) (by omega), ?_⟩⟩
  rw [hb u (by omega)]
  refine c_isDigit (h256 u) (fun c2 => ⟨fun z => absurd z (by decide), fun _ => ?_⟩) (fun c2 => ⟨fun _ => fin (ru_no c2), fun z => absurd rfl z⟩)
  have c5 : 48 ≤ G.1 u ∧ G.1 u ≤ 57 := by
    unfold isDn at c2
    exact of_decide_eq_true c2
  have e1 : ru isDn G u = ru isDn G (u + 1) := ru_go (by omega) c2
  have le : u + 1 ≤ ru isDn G (u + 1) := le_ru
  simp (disch := decide) only [ri_gI0 hd, ri_gI1 hd, ri_gI2 hd, ri_gP00 hd, ri_gP01 hd, ri_gP10 hd, ri_gP23 hd, ri_gP24 hd, ri_gP25 hd, ri_gP26 hd, ri_pI0 hd, ri_pZ0 hd, ri_pI1 hd, ri_pI2 hd, ri_oK0 hd, ri_oK1 hd, ri_oK2 hd, ri_aI hd, ri_sI hd, ri_aN hd, rN_3, rN_4, rN_5, rN_6, rN_7, vS_at, Nat.reduceEqDiff, if_true, if_false, ite_true, ite_false, true_and, Nat.reduceLT, reduceIte, reduceCtorEq]
  rw [g5, nI_clamp (by omega), hb u (by omega), g4, c_num g9 c5, nI_1]
  refine ⟨vp_in_nI (by omega) (by omega), ih (vS (vS N 1 4 (nI (min (v * 10 + (G.1 u - 48)) 10000))) 1 5 (nI (u + 1)), u + 1, min (v * 10 + (G.1 u - 48)) 10000) ⟨(hF.tr (vF.s (by decide))).tr (vF.s (by decide)), ?_, ?_, ?_, ?_, by dsimp only; omega, by dsimp only; omega, ?_, by dsimp only; omega, ?_⟩ (by dsimp only; omega)⟩
  · dsimp only; exact (vS_o (by decide)).trans ((vS_o (by decide)).trans g2)
  · dsimp only; exact (vS_o (by decide)).trans ((vS_o (by decide)).trans g3)
  · dsimp only; exact (vS_o (by decide)).trans vS_self
  · dsimp only; exact vS_self
  · dsimp only
    rw [← g8]
    exact e1.symm
  · dsimp only
    rw [← g10, show ru isDn G t - u = (ru isDn G t - (u + 1)) + 1 by omega, cNum]
theorem c_b46 (hd : rD ad) {q : hS → Prop} (hG : tpC G V) (hp : p ≤ G.2) (e3 : V 1 3 = nI (tS G p)) (hn : okN V) (h : ∀ V', vF V V' → tkC G p V' → okN V' → q (rv S ad V')) : w_X9_advance_b46 q (rv S ad V) (ad 1) := by
  obtain ⟨n1, hT, hb, h256⟩ := id hG
  have t1 := tS_le hp
  have k4 := tK_4 G p
  unfold w_X9_advance_b46
  simp (disch := decide) only [ri_gI0 hd, ri_gI1 hd, ri_gI2 hd, ri_gP00 hd, ri_gP01 hd, ri_gP10 hd, ri_gP23 hd, ri_gP24 hd, ri_gP25 hd, ri_gP26 hd, ri_pI0 hd, ri_pZ0 hd, ri_pI1 hd, ri_pI2 hd, ri_oK0 hd, ri_oK1 hd, ri_oK2 hd, ri_aI hd, ri_sI hd, ri_aN hd, rN_3, rN_4, rN_5, rN_6, rN_7, vS_at, Nat.reduceEqDiff, if_true, if_false, ite_true, ite_false, true_and, Nat.reduceLT, reduceIte, reduceCtorEq]
  have elt : nI (tS G p) < nI G.2 ↔ tS G p < G.2 := by
    rw [Int32.lt_iff_toInt_lt, nI_toInt (by omega), nI_toInt (by omega)]
    omega
  rw [e3, n1, nI_clamp (by omega), elt]
  refine ⟨fun c => ⟨vp_in_nI (by omega) (by omega), ?_⟩, fun c => h _ ((vF.s (by decide)).tr (vF.s (by decide))) ⟨?_, ?_, ?_, fun z => ?_⟩ ((hn.s (by decide)).s (by decide))⟩
  · have c0 : ¬ G.2 ≤ tS G p := by omega
    rw [hb _ (by omega)]
    refine c_isLetter (h256 _) (fun c2 => ⟨fun z => absurd z (by decide), fun _ => ?_⟩) (fun c2 => ⟨fun _ => ?_, fun z => absurd rfl z⟩)
    · have ek : tK G p = 1 := by
        unfold tK
        rw [if_neg c0, if_pos c2]
      simp (disch := decide) only [ri_gI0 hd, ri_gI1 hd, ri_gI2 hd, ri_gP00 hd, ri_gP01 hd, ri_gP10 hd, ri_gP23 hd, ri_gP24 hd, ri_gP25 hd, ri_gP26 hd, ri_pI0 hd, ri_pZ0 hd, ri_pI1 hd, ri_pI2 hd, ri_oK0 hd, ri_oK1 hd, ri_oK2 hd, ri_aI hd, ri_sI hd, ri_aN hd, rN_3, rN_4, rN_5, rN_6, rN_7, vS_at, Nat.reduceEqDiff, if_true, if_false, ite_true, ite_false, true_and, Nat.reduceLT, reduceIte, reduceCtorEq]
      refine c_b93 hd (t := tS G p) ((hG.F (vF.s (by decide))).F (vF.s (by decide))) (by simp (disch := decide) only [ri_gI0 hd, ri_gI1 hd, ri_gI2 hd, ri_gP00 hd, ri_gP01 hd, ri_gP10 hd, ri_gP23 hd, ri_gP24 hd, ri_gP25 hd, ri_gP26 hd, ri_pI0 hd, ri_pZ0 hd, ri_pI1 hd, ri_pI2 hd, ri_oK0 hd, ri_oK1 hd, ri_oK2 hd, ri_aI hd, ri_sI hd, ri_aN hd, rN_3, rN_4, rN_5, rN_6, rN_7, vS_at, Nat.reduceEqDiff, if_true, if_false, ite_true, ite_false, true_and, Nat.reduceLT, reduceIte, reduceCtorEq]) t1 (fun V' hF f2 f3 f4 f5 => h V' (((vF.s (by decide)).tr (vF.s (by decide))).tr hF) ⟨?_, ?_, ?_, fun z => ?_⟩ ?_)
      · rw [f2, ek]; simp (disch := decide) only [ri_gI0 hd, ri_gI1 hd, ri_gI2 hd, ri_gP00 hd, ri_gP01 hd, ri_gP10 hd, ri_gP23 hd, ri_gP24 hd, ri_gP25 hd, ri_gP26 hd, ri_pI0 hd, ri_pZ0 hd, ri_pI1 hd, ri_pI2 hd, ri_oK0 hd, ri_oK1 hd, ri_oK2 hd, ri_aI hd, ri_sI hd, ri_aN hd, rN_3, rN_4, rN_5, rN_6, rN_7, vS_at, Nat.reduceEqDiff, if_true, if_false, ite_true, ite_false, true_and, Nat.reduceLT, reduceIte, reduceCtorEq]; rfl
      · rw [f3]; simp (disch := decide) only [ri_gI0 hd, ri_gI1 hd, ri_gI2 hd, ri_gP00 hd, ri_gP01 hd, ri_gP10 hd, ri_gP23 hd, ri_gP24 hd, ri_gP25 hd, ri_gP26 hd, ri_pI0 hd, ri_pZ0 hd, ri_pI1 hd, ri_pI2 hd, ri_oK0 hd, ri_oK1 hd, ri_oK2 hd, ri_aI hd, ri_sI hd, ri_aN hd, rN_3, rN_4, rN_5, rN_6, rN_7, vS_at, Nat.reduceEqDiff, if_true, if_false, ite_true, ite_false, true_and, Nat.reduceLT, reduceIte, reduceCtorEq]; exact e3
      · rw [f5, tE_1 ek]
      · omega
      · obtain ⟨n, x1, x2⟩ := hn
        exact ⟨n, by rw [f4]; simp (disch := decide) only [ri_gI0 hd, ri_gI1 hd, ri_gI2 hd, ri_gP00 hd, ri_gP01 hd, ri_gP10 hd, ri_gP23 hd, ri_gP24 hd, ri_gP25 hd, ri_gP26 hd, ri_pI0 hd, ri_pZ0 hd, ri_pI1 hd, ri_pI2 hd, ri_oK0 hd, ri_oK1 hd, ri_oK2 hd, ri_aI hd, ri_sI hd, ri_aN hd, rN_3, rN_4, rN_5, rN_6, rN_7, vS_at, Nat.reduceEqDiff, if_true, if_false, ite_true, ite_false, true_and, Nat.reduceLT, reduceIte, reduceCtorEq]; exact x1, x2⟩
    · simp (disch := decide) only [ri_gI0 hd, ri_gI1 hd, ri_gI2 hd, ri_gP00 hd, ri_gP01 hd, ri_gP10 hd, ri_gP23 hd, ri_gP24 hd, ri_gP25 hd, ri_gP26 hd, ri_pI0 hd, ri_pZ0 hd, ri_pI1 hd, ri_pI2 hd, ri_oK0 hd, ri_oK1 hd, ri_oK2 hd, ri_aI hd, ri_sI hd, ri_aN hd, rN_3, rN_4, rN_5, rN_6, rN_7, vS_at, Nat.reduceEqDiff, if_true, if_false, ite_true, ite_false, true_and, Nat.reduceLT, reduceIte, reduceCtorEq]
      rw [e3, nI_clamp (by omega), hb _ (by omega)]
      refine ⟨vp_in_nI (by omega) (by omega), c_isDigit (h256 _) (fun c3 => ⟨fun z => absurd z (by decide), fun _ => ?_⟩) (fun c3 => ⟨fun _ => ?_, fun z => absurd rfl z⟩)⟩
      · have ek : tK G p = 2 := by
          unfold tK
          rw [if_neg c0, if_neg c2, if_pos c3]
        simp (disch := decide) only [ri_gI0 hd, ri_gI1 hd, ri_gI2 hd, ri_gP00 hd, ri_gP01 hd, ri_gP10 hd, ri_gP23 hd, ri_gP24 hd, ri_gP25 hd, ri_gP26 hd, ri_pI0 hd, ri_pZ0 hd, ri_pI1 hd, ri_pI2 hd, ri_oK0 hd, ri_oK1 hd, ri_oK2 hd, ri_aI hd, ri_sI hd, ri_aN hd, rN_3, rN_4, rN_5, rN_6, rN_7, vS_at, Nat.reduceEqDiff, if_true, if_false, ite_true, ite_false, true_and, Nat.reduceLT, reduceIte, reduceCtorEq]
        refine c_b157 hd (t := tS G p) (((hG.F (vF.s (by decide))).F (vF.s (by decide))).F (vF.s (by decide))) (by simp (disch := decide) only [ri_gI0 hd, ri_gI1 hd, ri_gI2 hd, ri_gP00 hd, ri_gP01 hd, ri_gP10 hd, ri_gP23 hd, ri_gP24 hd, ri_gP25 hd, ri_gP26 hd, ri_pI0 hd, ri_pZ0 hd, ri_pI1 hd, ri_pI2 hd, ri_oK0 hd, ri_oK1 hd, ri_oK2 hd, ri_aI hd, ri_sI hd, ri_aN hd, rN_3, rN_4, rN_5, rN_6, rN_7, vS_at, Nat.reduceEqDiff, if_true, if_false, ite_true, ite_false, true_and, Nat.reduceLT, reduceIte, reduceCtorEq]) t1 (by simp (disch := decide) only [ri_gI0 hd, ri_gI1 hd, ri_gI2 hd, ri_gP00 hd, ri_gP01 hd, ri_gP10 hd, ri_gP23 hd, ri_gP24 hd, ri_gP25 hd, ri_gP26 hd, ri_pI0 hd, ri_pZ0 hd, ri_pI1 hd, ri_pI2 hd, ri_oK0 hd, ri_oK1 hd, ri_oK2 hd, ri_aI hd, ri_sI hd, ri_aN hd, rN_3, rN_4, rN_5, rN_6, rN_7, vS_at, Nat.reduceEqDiff, if_true, if_false, ite_true, ite_false, true_and, Nat.reduceLT, reduceIte, reduceCtorEq]; rfl) (fun V' hF f2 f3 f5 f4 => h V' ((((vF.s (by decide)).tr (vF.s (by decide))).tr (vF.s (by decide))).tr hF) ⟨?_, ?_, ?_, fun z => ?_⟩ ?_)
        · rw [f2, ek]; simp (disch := decide) only [ri_gI0 hd, ri_gI1 hd, ri_gI2 hd, ri_gP00 hd, ri_gP01 hd, ri_gP10 hd, ri_gP23 hd, ri_gP24 hd, ri_gP25 hd, ri_gP26 hd, ri_pI0 hd, ri_pZ0 hd, ri_pI1 hd, ri_pI2 hd, ri_oK0 hd, ri_oK1 hd, ri_oK2 hd, ri_aI hd, ri_sI hd, ri_aN hd, rN_3, rN_4, rN_5, rN_6, rN_7, vS_at, Nat.reduceEqDiff, if_true, if_false, ite_true, ite_false, true_and, Nat.reduceLT, reduceIte, reduceCtorEq]; rfl
        · rw [f3]; simp (disch := decide) only [ri_gI0 hd, ri_gI1 hd, ri_gI2 hd, ri_gP00 hd, ri_gP01 hd, ri_gP10 hd, ri_gP23 hd, ri_gP24 hd, ri_gP25 hd, ri_gP26 hd, ri_pI0 hd, ri_pZ0 hd, ri_pI1 hd, ri_pI2 hd, ri_oK0 hd, ri_oK1 hd, ri_oK2 hd, ri_aI hd, ri_sI hd, ri_aN hd, rN_3, rN_4, rN_5, rN_6, rN_7, vS_at, Nat.reduceEqDiff, if_true, if_false, ite_true, ite_false, true_and, Nat.reduceLT, reduceIte, reduceCtorEq]; exact e3
        · rw [f5, tE_2 ek]
        · rw [f4]
          unfold nV
          rw [tE_2 ek]
        · exact ⟨_, f4, nNum_le _ _ _ (by omega)⟩
      · have ek : tK G p = 3 := by
          unfold tK
          rw [if_neg c0, if_neg c2, if_neg c3]
        simp (disch := decide) only [ri_gI0 hd, ri_gI1 hd, ri_gI2 hd, ri_gP00 hd, ri_gP01 hd, ri_gP10 hd, ri_gP23 hd, ri_gP24 hd, ri_gP25 hd, ri_gP26 hd, ri_pI0 hd, ri_pZ0 hd, ri_pI1 hd, ri_pI2 hd, ri_oK0 hd, ri_oK1 hd, ri_oK2 hd, ri_aI hd, ri_sI hd, ri_aN hd, rN_3, rN_4, rN_5, rN_6, rN_7, vS_at, Nat.reduceEqDiff, if_true, if_false, ite_true, ite_false, true_and, Nat.reduceLT, reduceIte, reduceCtorEq]
        refine h _ (((vF.s (by decide)).tr (vF.s (by decide))).tr (vF.s (by decide))) ⟨?_, ?_, ?_, fun z => by omega⟩ (((hn.s (by decide)).s (by decide)).s (by decide))
        · simp (disch := decide) only [ri_gI0 hd, ri_gI1 hd, ri_gI2 hd, ri_gP00 hd, ri_gP01 hd, ri_gP10 hd, ri_gP23 hd, ri_gP24 hd, ri_gP25 hd, ri_gP26 hd, ri_pI0 hd, ri_pZ0 hd, ri_pI1 hd, ri_pI2 hd, ri_oK0 hd, ri_oK1 hd, ri_oK2 hd, ri_aI hd, ri_sI hd, ri_aN hd, rN_3, rN_4, rN_5, rN_6, rN_7, vS_at, Nat.reduceEqDiff, if_true, if_false, ite_true, ite_false, true_and, Nat.reduceLT, reduceIte, reduceCtorEq]; rw [ek]; rfl
        · simp (disch := decide) only [ri_gI0 hd, ri_gI1 hd, ri_gI2 hd, ri_gP00 hd, ri_gP01 hd, ri_gP10 hd, ri_gP23 hd, ri_gP24 hd, ri_gP25 hd, ri_gP26 hd, ri_pI0 hd, ri_pZ0 hd, ri_pI1 hd, ri_pI2 hd, ri_oK0 hd, ri_oK1 hd, ri_oK2 hd, ri_aI hd, ri_sI hd, ri_aN hd, rN_3, rN_4, rN_5, rN_6, rN_7, vS_at, Nat.reduceEqDiff, if_true, if_false, ite_true, ite_false, true_and, Nat.reduceLT, reduceIte, reduceCtorEq]; exact e3
        · simp (disch := decide) only [ri_gI0 hd, ri_gI1 hd, ri_gI2 hd, ri_gP00 hd, ri_gP01 hd, ri_gP10 hd, ri_gP23 hd, ri_gP24 hd, ri_gP25 hd, ri_gP26 hd, ri_pI0 hd, ri_pZ0 hd, ri_pI1 hd, ri_pI2 hd, ri_oK0 hd, ri_oK1 hd, ri_oK2 hd, ri_aI hd, ri_sI hd, ri_aN hd, rN_3, rN_4, rN_5, rN_6, rN_7, vS_at, Nat.reduceEqDiff, if_true, if_false, ite_true, ite_false, true_and, Nat.reduceLT, reduceIte, reduceCtorEq]; rw [tE_3 ek, nI_1]
  · have ek : tK G p = 0 := by
      unfold tK
      rw [if_pos (by omega)]
    simp (disch := decide) only [ri_gI0 hd, ri_gI1 hd, ri_gI2 hd, ri_gP00 hd, ri_gP01 hd, ri_gP10 hd, ri_gP23 hd, ri_gP24 hd, ri_gP25 hd, ri_gP26 hd, ri_pI0 hd, ri_pZ0 hd, ri_pI1 hd, ri_pI2 hd, ri_oK0 hd, ri_oK1 hd, ri_oK2 hd, ri_aI hd, ri_sI hd, ri_aN hd, rN_3, rN_4, rN_5, rN_6, rN_7, vS_at, Nat.reduceEqDiff, if_true, if_false, ite_true, ite_false, true_and, Nat.reduceLT, reduceIte, reduceCtorEq]
    rw [ek]
    rfl
  · simp (disch := decide) only [ri_gI0 hd, ri_gI1 hd, ri_gI2 hd, ri_gP00 hd, ri_gP01 hd, ri_gP10 hd, ri_gP23 hd, ri_gP24 hd, ri_gP25 hd, ri_gP26 hd, ri_pI0 hd, ri_pZ0 hd, ri_pI1 hd, ri_pI2 hd, ri_oK0 hd, ri_oK1 hd, ri_oK2 hd, ri_aI hd, ri_sI hd, ri_aN hd, rN_3, rN_4, rN_5, rN_6, rN_7, vS_at, Nat.reduceEqDiff, if_true, if_false, ite_true, ite_false, true_and, Nat.reduceLT, reduceIte, reduceCtorEq]; exact e3
  · have ek : tK G p = 0 := by
      unfold tK
      rw [if_pos (by omega)]
    simp (disch := decide) only [ri_gI0 hd, ri_gI1 hd, ri_gI2 hd, ri_gP00 hd, ri_gP01 hd, ri_gP10 hd, ri_gP23 hd, ri_gP24 hd, ri_gP25 hd, ri_gP26 hd, ri_pI0 hd, ri_pZ0 hd, ri_pI1 hd, ri_pI2 hd, ri_oK0 hd, ri_oK1 hd, ri_oK2 hd, ri_aI hd, ri_sI hd, ri_aN hd, rN_3, rN_4, rN_5, rN_6, rN_7, vS_at, Nat.reduceEqDiff, if_true, if_false, ite_true, ite_false, true_and, Nat.reduceLT, reduceIte, reduceCtorEq]
    rw [tE_0 ek]
  · unfold tK at z
    rw [if_pos (by omega)] at z
    omega
theorem c_adv (hd : rD ad) {q : hS → Prop} (hG : tpC G V) (hp : p ≤ G.2) (e5 : V 1 5 = nI p) (hn : okN V) (h : ∀ V', vF V V' → tkC G p V' → okN V' → q (rv S ad V')) : w_X9_advance q (rv S ad V) (ad 1) := by
  unfold w_X9_advance
  simp (disch := decide) only [ri_gI0 hd, ri_gI1 hd, ri_gI2 hd, ri_gP00 hd, ri_gP01 hd, ri_gP10 hd, ri_gP23 hd, ri_gP24 hd, ri_gP25 hd, ri_gP26 hd, ri_pI0 hd, ri_pZ0 hd, ri_pI1 hd, ri_pI2 hd, ri_oK0 hd, ri_oK1 hd, ri_oK2 hd, ri_aI hd, ri_sI hd, ri_aN hd, rN_3, rN_4, rN_5, rN_6, rN_7, vS_at, Nat.reduceEqDiff, if_true, if_false, ite_true, ite_false, true_and, Nat.reduceLT, reduceIte, reduceCtorEq]
  refine loop_m (σ := vR × Nat) (fun n s => w_X9_advance_b8 q n (rv S ad s.1) (ad 1)) (fun s => vF V s.1 ∧ okN s.1 ∧ s.1 1 3 = nI s.2 ∧ p ≤ s.2 ∧ s.2 ≤ G.2 ∧ ru isBn G s.2 = ru isBn G p) (fun s => G.2 - s.2) ?_ (vS V 1 3 (V 1 5), p) ⟨vF.s (by decide), hn.s (by decide), by dsimp only; exact vS_self.trans e5, Nat.le_refl _, hp, rfl⟩
  rintro n ⟨N, u⟩ ⟨hF, g2, g3, g4, g5, g6⟩ ih
  dsimp only at hF g2 g3 g4 g5 g6 ih ⊢
  have hGN := hG.F hF
  obtain ⟨n1, hT, hb, h256⟩ := id hGN
  have fin : ru isBn G u = u → w_X9_advance_b46 q (rv S ad N) (ad 1) := fun z => c_b46 hd hGN hp (by unfold tS; rw [g3, ← g6, z]) g2 (fun V' hF' ht hn' => h V' (hF.tr hF') ht hn')
  rw [w_X9_advance_b8]
  simp (disch := decide) only [ri_gI0 hd, ri_gI1 hd, ri_gI2 hd, ri_gP00 hd, ri_gP01 hd, ri_gP10 hd, ri_gP23 hd, ri_gP24 hd, ri_gP25 hd, ri_gP26 hd, ri_pI0 hd, ri_pZ0 hd, ri_pI1 hd, ri_pI2 hd, ri_oK0 hd, ri_oK1 hd, ri_oK2 hd, ri_aI hd, ri_sI hd, ri_aN hd, rN_3, rN_4, rN_5, rN_6, rN_7, vS_at, Nat.reduceEqDiff, if_true, if_false, ite_true, ite_false, true_and, Nat.reduceLT, reduceIte, reduceCtorEq]
  rw [n1, g3, nI_leI (by omega) (by omega), nI_clamp (by omega)]
  refine ⟨fun c => fin (ru_end c), fun c => ⟨vp_in_nI (by omega) (by omega), ?_⟩⟩
  have h2 := h256 u
  rw [hb u (by omega), lit_nI 32, nI_eq (by omega) (by omega)]
  refine ⟨fun c2 => fin (ru_no (fun z => c2 ?_)), fun c2 => ?_⟩
  · unfold isBn at z
    exact of_decide_eq_true z
  · rw [nI_1]
    refine ih (vS N 1 3 (nI (u + 1)), u + 1) ⟨hF.tr (vF.s (by decide)), g2.s (by decide), by dsimp only; exact vS_self, by dsimp only; omega, by dsimp only; omega, ?_⟩ (by dsimp only; omega)
    dsimp only
    rw [← g6]
    refine (ru_go (by omega) ?_).symm
    unfold isBn
    exact decide_eq_true c2
theorem c_isSign (hd : rD ad) {q : Int32 → hS → Prop} {c : Nat} {v : Int32} (ev : v = nI c) (hG : tpC G V) (hp : p ≤ G.2) (ht : tkC G p V) (hc : c < 256) (h1 : isSg G p c = true → q 1 (rv S ad V)) (h0 : ¬ isSg G p c = true → q 0 (rv S ad V)) : w_X9_isSign q (rv S ad V) (ad 1) v := by
  subst ev
  obtain ⟨n1, hT, hb, h256⟩ := id hG
  obtain ⟨t2, t3, t5, -⟩ := id ht
  have k4 := tK_4 G p
  have ts := tS_le hp
  unfold isSg at h1 h0
  rw [decide_eq_true_eq] at h1 h0
  unfold w_X9_isSign
  simp (disch := decide) only [ri_gI0 hd, ri_gI1 hd, ri_gI2 hd, ri_gP00 hd, ri_gP01 hd, ri_gP10 hd, ri_gP23 hd, ri_gP24 hd, ri_gP25 hd, ri_gP26 hd, ri_pI0 hd, ri_pZ0 hd, ri_pI1 hd, ri_pI2 hd, ri_oK0 hd, ri_oK1 hd, ri_oK2 hd, ri_aI hd, ri_sI hd, ri_aN hd, rN_3, rN_4, rN_5, rN_6, rN_7, vS_at, Nat.reduceEqDiff, if_true, if_false, ite_true, ite_false, true_and, Nat.reduceLT, reduceIte, reduceCtorEq]
  rw [n1, t2, t3, lit_nI 3, nI_eq (by omega) (by omega), nI_leI (by omega) (by omega), nI_clamp (by omega)]
  refine ⟨fun z => h0 (fun z2 => z z2.1), fun z => ?_⟩
  have lt := tK_lt (G := G) (p := p) (by omega)
  have h2 := h256 (tS G p)
  rw [hb _ (by omega), nI_eq (by omega) (by omega)]
  exact ⟨fun z => by omega, fun _ => ⟨vp_in_nI (by omega) (by omega), fun z2 => h0 (fun z3 => z2 z3.2), fun z2 => h1 ⟨z, z2⟩⟩⟩
theorem c_isNumber (hd : rD ad) {q : Int32 → hS → Prop} {lo hi : Nat} {v w : Int32} (ev : v = nI lo) (ew : w = nI hi) (hlo : lo < 2000) (hhi : hi < 2000) (ht : tkC G p V) (h1 : isNm G p lo hi = true → q 1 (rv S ad V)) (h0 : ¬ isNm G p lo hi = true → q 0 (rv S ad V)) : w_X9_isNumber q (rv S ad V) (ad 1) v w := by
  subst ev
  subst ew
  obtain ⟨t2, t3, t5, t4⟩ := id ht
  have k4 := tK_4 G p
  have l4 := nV_le (G := G) (p := p)
  unfold isNm at h1 h0
  rw [decide_eq_true_eq] at h1 h0
  unfold w_X9_isNumber
  simp (disch := decide) only [ri_gI0 hd, ri_gI1 hd, ri_gI2 hd, ri_gP00 hd, ri_gP01 hd, ri_gP10 hd, ri_gP23 hd, ri_gP24 hd, ri_gP25 hd, ri_gP26 hd, ri_pI0 hd, ri_pZ0 hd, ri_pI1 hd, ri_pI2 hd, ri_oK0 hd, ri_oK1 hd, ri_oK2 hd, ri_aI hd, ri_sI hd, ri_aN hd, rN_3, rN_4, rN_5, rN_6, rN_7, vS_at, Nat.reduceEqDiff, if_true, if_false, ite_true, ite_false, true_and, Nat.reduceLT, reduceIte, reduceCtorEq]
  rw [t2, lit_nI 2, nI_eq (by omega) (by omega)]
  refine ⟨fun z => h0 (fun z2 => z z2.1), fun z => ?_⟩
  rw [t4 z, Int32.lt_iff_toInt_lt, Int32.lt_iff_toInt_lt, nI_toInt (by omega), nI_toInt (by omega), nI_toInt (by omega)]
  exact ⟨fun c => h0 (fun z2 => by omega), fun c => ⟨fun c2 => h0 (fun z2 => by omega), fun c2 => h1 ⟨z, by omega, by omega⟩⟩⟩
theorem c_isWord (hd : rD ad) {q : Int32 → hS → Prop} {j : Nat} {r : String × Nat × String × List Nat} (hr : hTxs[j]? = some r) (hG : tpC G V) (hp : p ≤ G.2) (ht : tkC G p V) (h1 : isWd G p r.2.2.2 = true → q 1 (rv S ad V)) (h0 : ¬ isWd G p r.2.2.2 = true → q 0 (rv S ad V)) : w_X9_isWord tx q (rv S ad V) (ad 1) (tx j) := by
  obtain ⟨n1, hT, hb, h256⟩ := id hG
  obtain ⟨t2, t3, t5, -⟩ := id ht
  have k4 := tK_4 G p
  have ts := tS_le hp
  have te := tE_le hp
  obtain ⟨sl, sc⟩ := tx_small j r hr
  unfold isWd at h1 h0
  rw [decide_eq_true_eq] at h1 h0
  unfold w_X9_isWord
  simp (disch := decide) only [ri_gI0 hd, ri_gI1 hd, ri_gI2 hd, ri_gP00 hd, ri_gP01 hd, ri_gP10 hd, ri_gP23 hd, ri_gP24 hd, ri_gP25 hd, ri_gP26 hd, ri_pI0 hd, ri_pZ0 hd, ri_pI1 hd, ri_pI2 hd, ri_oK0 hd, ri_oK1 hd, ri_oK2 hd, ri_aI hd, ri_sI hd, ri_aN hd, rN_3, rN_4, rN_5, rN_6, rN_7, vS_at, Nat.reduceEqDiff, if_true, if_false, ite_true, ite_false, true_and, Nat.reduceLT, reduceIte, reduceCtorEq]
  rw [t2, t3, t5, lit_nI 1, nI_eq (by omega) (by omega)]
  refine ⟨fun z => h0 (fun z2 => z z2.1), fun z => ⟨j, r, hr, rfl, ?_⟩⟩
  have lt := tE_gt (G := G) (p := p) (by omega)
  dsimp only
  rw [nIsub (by omega), nI_eq (by omega) (by omega)]
  refine ⟨fun el => ?_, fun el => h0 (fun z2 => el z2.2.1)⟩
  refine loop_m (σ := Nat) (fun n s => w_X9_isWord_b28 tx q n (rv S ad V) (ad 1) (tx j) (nI s)) (fun s => s ≤ r.2.2.2.length ∧ ∀ i, i < s → G.1 (tS G p + i) = r.2.2.2.getD i 0) (fun s => r.2.2.2.length - s) ?_ 0 ⟨by omega, fun i hi => by omega⟩
  rintro n i ⟨g1, g2⟩ ih
  rw [w_X9_isWord_b28]
  refine ⟨j, r, hr, rfl, ?_⟩
  dsimp only
  rw [nI_leI (by omega) (by omega)]
  refine ⟨fun c => h1 ⟨z, el, fun i' hi => g2 i' (by omega)⟩, fun c => ?_⟩
  simp (disch := decide) only [ri_gI0 hd, ri_gI1 hd, ri_gI2 hd, ri_gP00 hd, ri_gP01 hd, ri_gP10 hd, ri_gP23 hd, ri_gP24 hd, ri_gP25 hd, ri_gP26 hd, ri_pI0 hd, ri_pZ0 hd, ri_pI1 hd, ri_pI2 hd, ri_oK0 hd, ri_oK1 hd, ri_oK2 hd, ri_aI hd, ri_sI hd, ri_aN hd, rN_3, rN_4, rN_5, rN_6, rN_7, vS_at, Nat.reduceEqDiff, if_true, if_false, ite_true, ite_false, true_and, Nat.reduceLT, reduceIte, reduceCtorEq]
  rw [t3, nIadd, nI_clamp (by omega)]
  refine ⟨vp_in_nI (by omega) (by omega), j, r, hr, rfl, vp_in_nI (by omega) (by omega), ?_⟩
  have h2 := h256 (tS G p + i)
  have s2 := sc i
  dsimp only
  rw [hb _ (by omega), nI_clamp (by omega), nI_eq (by omega) (by omega)]
  refine ⟨fun c2 y ey => ?_, fun c2 => h0 (fun z2 => c2 (z2.2.2 i (by omega)))⟩
  rw [ey, nI_1]
  refine ih (i + 1) ⟨by omega, fun i' hi => ?_⟩ (by omega)
  by_cases e : i' = i
  · rw [e]; exact c2
  · exact g2 i' (by omega)
end CT
