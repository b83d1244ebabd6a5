/-! what a method leaves as it was -/
def Fx (a b c d : List Nat) (M N : mS) : Prop := (∀ k, k ∉ a → N.1 k = M.1 k) ∧ (∀ k, k ∉ b → N.2.1 k = M.2.1 k) ∧ (∀ k, k ∉ c → N.2.2.1 k = M.2.2.1 k) ∧ ∀ k, k ∉ d → N.2.2.2 k = M.2.2.2 k
theorem Fx.rf {M : mS} : Fx [] [] [] [] M M := ⟨fun _ _ => rfl, fun _ _ => rfl, fun _ _ => rfl, fun _ _ => rfl⟩
theorem Fx.tr {a b c d a' b' c' d' : List Nat} {M N P : mS} (h : Fx a b c d M N) (h' : Fx a' b' c' d' N P) : Fx (a ++ a') (b ++ b') (c ++ c') (d ++ d') M P :=
  ⟨fun k hk => (h'.1 k (fun z => hk (List.mem_append_right _ z))).trans (h.1 k (fun z => hk (List.mem_append_left _ z))), fun k hk => (h'.2.1 k (fun z => hk (List.mem_append_right _ z))).trans (h.2.1 k (fun z => hk (List.mem_append_left _ z))), fun k hk => (h'.2.2.1 k (fun z => hk (List.mem_append_right _ z))).trans (h.2.2.1 k (fun z => hk (List.mem_append_left _ z))), fun k hk => (h'.2.2.2 k (fun z => hk (List.mem_append_right _ z))).trans (h.2.2.2 k (fun z => hk (List.mem_append_left _ z)))⟩
theorem Fx.le {a b c d a' b' c' d' : List Nat} {M N : mS} (h : Fx a b c d M N) (h1 : ∀ k ∈ a, k ∈ a') (h2 : ∀ k ∈ b, k ∈ b') (h3 : ∀ k ∈ c, k ∈ c') (h4 : ∀ k ∈ d, k ∈ d') : Fx a' b' c' d' M N :=
  ⟨fun k hk => h.1 k (fun z => hk (h1 k z)), fun k hk => h.2.1 k (fun z => hk (h2 k z)), fun k hk => h.2.2.1 k (fun z => hk (h3 k z)), fun k hk => h.2.2.2 k (fun z => hk (h4 k z))⟩
theorem Fx.i {M : mS} (k : Nat) (x : Int32) : Fx [k] [] [] [] M (mI M k x) := ⟨fun j hj => by rw [mI_1, if_neg (by simpa using hj)], fun _ _ => rfl, fun _ _ => rfl, fun _ _ => rfl⟩
theorem Fx.j {M : mS} (k : Nat) (x : Int64) : Fx [] [k] [] [] M (mJ M k x) := ⟨fun _ _ => rfl, fun j hj => by rw [mJ_2, if_neg (by simpa using hj)], fun _ _ => rfl, fun _ _ => rfl⟩
theorem Fx.a {M : mS} (k : Nat) (f : Nat → Int32) : Fx [] [] [k] [] M (mA M k f) := ⟨fun _ _ => rfl, fun _ _ => rfl, fun j hj => by rw [mA_3, if_neg (by simpa using hj)], fun _ _ => rfl⟩
theorem Fx.l {M : mS} (k : Nat) (f : Nat → Int64) : Fx [] [] [] [k] M (mL M k f) := ⟨fun _ _ => rfl, fun _ _ => rfl, fun _ _ => rfl, fun j hj => by rw [mL_4, if_neg (by simpa using hj)]⟩
/-- what hangs on nothing that was changed -/
theorem mOk_fx {a b c d : List Nat} {M N mT : mS} (h : Fx a b c d M N) (hM : mOk mT M) (ha : (8 ∉ a ∧ 13 ∉ a ∧ 20 ∉ a ∧ 59 ∉ a ∧ 60 ∉ a ∧ 11 ∉ a) ∧ (3 ∉ c ∧ 4 ∉ c ∧ 5 ∉ c ∧ 6 ∉ c ∧ 9 ∉ c ∧ 7 ∉ c ∧ 10 ∉ c ∧ 12 ∉ c)) : mOk mT N := by
  unfold mOk at *
  rw [h.1 8 ha.1.1, h.1 13 ha.1.2.1, h.1 20 ha.1.2.2.1, h.1 59 ha.1.2.2.2.1, h.1 60 ha.1.2.2.2.2.1, h.1 11 ha.1.2.2.2.2.2, h.2.2.1 3 ha.2.1, h.2.2.1 4 ha.2.2.1, h.2.2.1 5 ha.2.2.2.1, h.2.2.1 6 ha.2.2.2.2.1, h.2.2.1 9 ha.2.2.2.2.2.1, h.2.2.1 7 ha.2.2.2.2.2.2.1, h.2.2.1 10 ha.2.2.2.2.2.2.2.1, h.2.2.1 12 ha.2.2.2.2.2.2.2.2]
  exact hM
theorem mOk_row {c : List Nat} {a b d : List Nat} {M N mT : mS} (h : Fx a b c d M N) (hM : mOk mT M) (hr : rowOk (mT.2.2.1 3) (N.2.2.1 3)) (ha : (8 ∉ a ∧ 13 ∉ a ∧ 20 ∉ a ∧ 59 ∉ a ∧ 60 ∉ a ∧ 11 ∉ a) ∧ (4 ∉ c ∧ 5 ∉ c ∧ 6 ∉ c ∧ 9 ∉ c ∧ 7 ∉ c ∧ 10 ∉ c ∧ 12 ∉ c)) : mOk mT N := by
  unfold mOk at *
  rw [h.1 8 ha.1.1, h.1 13 ha.1.2.1, h.1 20 ha.1.2.2.1, h.1 59 ha.1.2.2.2.1, h.1 60 ha.1.2.2.2.2.1, h.1 11 ha.1.2.2.2.2.2, h.2.2.1 4 ha.2.1, h.2.2.1 5 ha.2.2.1, h.2.2.1 6 ha.2.2.2.1, h.2.2.1 9 ha.2.2.2.2.1, h.2.2.1 7 ha.2.2.2.2.2.1, h.2.2.1 10 ha.2.2.2.2.2.2.1, h.2.2.1 12 ha.2.2.2.2.2.2.2]
  exact ⟨hr, hM.2⟩
section REF5
variable {S : hS} {o : Nat} {ad : Nat → Nat} {M : mS} {mT : mS}
theorem f_tell (hd : mD o ad) {q : Int32 → hS → Prop} {v : Int32} (hv : -6 ≤ v.toInt) (h : ∀ N, Fx [1] [] [2] [] M N → q v (ov S o ad N)) : w_X12_tell q (ov S o ad M) o v :=
  s_tell hd hv (fun f => h _ ((Fx.i 1 _).tr (Fx.a 2 f)))
theorem f_change (hd : mD o ad) {q : Int32 → hS → Prop} {a : Nat} {v : Int32} (ha : a < 5585) (h : ∀ N, Fx [1] [] [3] [] M N → N.2.2.1 3 = upd (M.2.2.1 3) a v → q (M.2.2.1 3 a) (ov S o ad N)) : w_X12_change q (ov S o ad M) o (nI a) v :=
  s_change hd ha (h _ (((Fx.a 3 _).tr (Fx.i 1 _)).le (by simp) (by simp) (by simp) (by simp)) rfl)
theorem f_settled (hd : mD o ad) {q : Int32 → hS → Prop} {v : Int32} (hv : -6 ≤ v.toInt) (h : ∀ N, Fx [1, 8] [] [2] [] M N → (N.1 8 = 0 ∨ N.1 8 = M.1 8) → q v (ov S o ad N)) : w_X12_settled q (ov S o ad M) o v :=
  s_settled hd hv (fun x f u hu => h _ ((((Fx.i 8 u).tr (Fx.i 1 x)).tr (Fx.a 2 f)).le (by simp) (by simp) (by simp) (by simp)) (by simp [mA_1, mI_1]; exact hu))
theorem mOk_und {M N : mS} {a b c d : List Nat} (h : Fx a b c d M N) (hM : mOk mT M) (h8 : rg (N.1 8) 0 16) (h6 : undOk (N.2.2.1 6) 18) (h7 : srtOk (N.2.2.1 7)) (hr : rowOk (mT.2.2.1 3) (N.2.2.1 3)) (ha : (13 ∉ a ∧ 20 ∉ a ∧ 59 ∉ a ∧ 60 ∉ a ∧ 11 ∉ a) ∧ (4 ∉ c ∧ 5 ∉ c ∧ 9 ∉ c ∧ 10 ∉ c ∧ 12 ∉ c)) : mOk mT N := by
  unfold mOk at *
  rw [h.1 13 ha.1.1, h.1 20 ha.1.2.1, h.1 59 ha.1.2.2.1, h.1 60 ha.1.2.2.2.1, h.1 11 ha.1.2.2.2.2, h.2.2.1 4 ha.2.1, h.2.2.1 5 ha.2.2.1, h.2.2.1 9 ha.2.2.2.1, h.2.2.1 10 ha.2.2.2.2.1, h.2.2.1 12 ha.2.2.2.2.2]
  exact ⟨hr, hM.2.1, h6, hM.2.2.2.1, h7, hM.2.2.2.2.2.1, h8, hM.2.2.2.2.2.2.2⟩
theorem f_keepAll (hd : mD o ad) {q : hS → Prop} {k : Nat} (hk : k < 18) (h : ∀ N, Fx [] [] [6] [] M N → (∀ i, i < 121 → N.2.2.1 6 (121 * k + i) = M.2.2.1 3 (5 + i)) → (∀ j, (j < 121 * k ∨ 121 * k + 121 ≤ j) → N.2.2.1 6 j = M.2.2.1 6 j) → q (ov S o ad N)) : w_X12_keepAll q (ov S o ad M) o (nI k) :=
  s_keepAll hd hk (fun f h1 h2 => h _ (Fx.a 6 f) h1 h2)
theorem f_putBack (hd : mD o ad) {q : hS → Prop} {k : Nat} (hk : k < 18) (h : ∀ N, Fx [] [] [3] [] M N → (∀ i, i < 121 → N.2.2.1 3 (5 + i) = M.2.2.1 6 (121 * k + i)) → (∀ j, (j < 5 ∨ 126 ≤ j) → N.2.2.1 3 j = M.2.2.1 3 j) → q (ov S o ad N)) : w_X12_putBack q (ov S o ad M) o (nI k) :=
  s_putBack hd hk (fun f h1 h2 => h _ (Fx.a 3 f) h1 h2)
theorem undOk_keep {f g : Nat → Int32} {k n : Nat} (h : undOk f n) (hy : rg (g (121 * k)) 0 999) (ho : ∀ j, (j < 121 * k ∨ 121 * k + 121 ≤ j) → g j = f j) : undOk g n := by
  intro j hj
  by_cases e : j = k
  · subst e; exact hy
  · rw [ho _ (by omega)]; exact h j hj
theorem f_rem77 (hd : mD o ad) (hu : undOk (M.2.2.1 6) 18) (hs : srtOk (M.2.2.1 7)) {n : Nat} (hn : n < 16) (en : M.1 8 = nI n) (hy : rg (M.2.2.1 3 5) 0 999) {q : hS → Prop} {t : Int32} (ht : rg t 0 3) (h : ∀ N, Fx [8] [] [6, 7] [] M N → undOk (N.2.2.1 6) 18 → srtOk (N.2.2.1 7) → rg (N.1 8) 0 16 → q (ov S o ad N)) : w_X12_remember_b77 q (ov S o ad M) o t := by
  unfold w_X12_remember_b77
  simp (disch := decide) only [oi_gI, oi_gJ, oi_gP, oi_pI, oi_pZ, oi_pJ, oi_oK, oi_aI hd, oi_aZ hd, oi_aJ hd, oi_sI hd, oi_sZ hd, oi_sJ hd, mI_1, mI_2, mJ_1, mJ_2, mJ_3, mA_1, mA_2, mA_3, mA_4, mL_1, mL_2, mL_3, mL_4, mK, Nat.reduceEqDiff, if_true, if_false, ite_true, ite_false, true_and, Nat.reduceLT, reduceIte, reduceCtorEq]
  rw [en]
  refine f_keepAll hd (by omega) (fun N hF h1 h2 => ?_)
  simp (disch := decide) only [oi_gI, oi_gJ, oi_gP, oi_pI, oi_pZ, oi_pJ, oi_oK, oi_aI hd, oi_aZ hd, oi_aJ hd, oi_sI hd, oi_sZ hd, oi_sJ hd, mI_1, mI_2, mJ_1, mJ_2, mJ_3, mA_1, mA_2, mA_3, mA_4, mL_1, mL_2, mL_3, mL_4, mK, Nat.reduceEqDiff, if_true, if_false, ite_true, ite_false, true_and, Nat.reduceLT, reduceIte, reduceCtorEq]
  rw [hF.1 8 (by simp), en, nI_clamp (by omega)]
  refine ⟨vp_in_nI (by omega) (by omega), h _ (((hF.tr (Fx.a 7 _)).tr (Fx.i 8 _)).le (by simp) (by simp) (by simp) (by simp)) ?_ ?_ ?_⟩
  · show undOk (N.2.2.1 6) 18
    refine undOk_keep hu ?_ h2
    rw [show 121 * n = 121 * n + 0 by omega, h1 0 (by omega)]
    exact hy
  · show srtOk (upd (N.2.2.1 7) n t)
    rw [hF.2.2.1 7 (by simp)]
    intro k hk
    by_cases e : k = n
    · subst e; rw [upd_self]; exact ht
    · rw [upd_ne _ _ e]; exact hs k hk
  · show rg (nI n + 1) 0 16
    rw [nI_1]
    unfold rg
    rw [nI_toInt (by omega)]
    omega
end REF5
