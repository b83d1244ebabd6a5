/-! LAYER 2: what is followed, call by call, on both sides -/
def BI : List Nat := [1202, 20008, 20908, 30008, 30908]
section PAIRS
variable {Γ Γ' : kG} {Φ : kF} {S S' : hS} {x o rs rs' : Nat} {ρ : Nat → Nat} {T T2 M : mS} {A : List Nat} {a b c d e : Int32} {r : Int32}
theorem TK.gen (h : TK Γ S ρ rs T) (hs : St Γ Φ S) (hx : Γ x = some (11, 11, 0, rs, ρ)) (hg : ∀ a τ, τ.1 ≠ 11 → Γ a = some τ → Γ' a = some τ) (hsam : sam Γ A S S') (hA : ∀ n ∈ BI, n ∉ A) (e4 : T2.2.2.1 4 = T.2.2.1 4) (e5 : T2.2.2.1 5 = T.2.2.1 5) (et : eqT (sV S' (ρ 0) (bk 0 ρ)) (T2.2.2.1 3)) (el : fI S' (ρ 4) 1 = T2.1 13) (eb : ∀ j, j < 400 → aV S' (bk 4 ρ 0) j = T2.2.2.1 12 j) (er : nI rs' = T2.1 11) : TK Γ' S' ρ rs' T2 := by
  obtain ⟨h1, h2, h3, h4, h5, h6⟩ := h
  have ci := hsam.at hs (P_11_2 hs hx).2 (hA 1202 (by simp [BI]))
  refine ⟨et, fun k hk => ?_, fun k b hk hb2 => ?_, el, eb, er⟩
  · rw [aO_cell ci, e5]; exact h2 k hk
  · rw [aO_cell ci] at hb2
    obtain ⟨ρk, kb, e⟩ := h3 k b hk hb2
    have k01 : k = 0 ∨ k = 1 := by omega
    refine ⟨ρk, hg _ _ (show (8 : Nat) ≠ 11 by decide) kb, (sV_tk (hsam.at hs kb ?_) (hsam.at hs (P_8_8 hs kb).2 ?_)).tr (by rw [e4]; exact e)⟩
    · rcases k01 with rfl | rfl
      · exact hA 20008 (by simp [BI])
      · exact hA 30008 (by simp [BI])
    · rcases k01 with rfl | rfl
      · exact hA 20908 (by simp [BI])
      · exact hA 30908 (by simp [BI])
theorem TK.gt (h : TK Γ S ρ rs T) (hs : St Γ Φ S) (hx : Γ x = some (11, 11, 0, rs, ρ)) (hg : ∀ a τ, τ.1 ≠ 11 → Γ a = some τ → Γ' a = some τ) (hsam : sam Γ A S S') (hA : ∀ n ∈ 9 :: 1000 :: BI, n ∉ A) {f : Nat → Int32} (et : eqT (sV S' (ρ 0) (bk 0 ρ)) f) : TK Γ' S' ρ rs (mA T 3 f) := by
  have ht := (P_11_4 hs hx).2
  refine h.gen hs hx hg hsam (fun n hn => hA n (List.mem_cons_of_mem _ (List.mem_cons_of_mem _ hn))) rfl rfl et ?_ (fun j hj => ?_) h.2.2.2.2.2
  · rw [fI_cell (hsam.at hs ht (hA 9 (by simp)))]; exact h.2.2.2.1
  · rw [aV_cell (hsam.at hs (P_9_0 hs ht).2 (hA 1000 (by simp)))]; exact h.2.2.2.2.1 j hj
theorem TK.gs (h : TK Γ S ρ rs T) (hs : St Γ Φ S) (hx : Γ x = some (11, 11, 0, rs, ρ)) (hg : ∀ a τ, τ.1 ≠ 11 → Γ a = some τ → Γ' a = some τ) (hsam : sam Γ A S S') (hA : ∀ n ∈ 9 :: 1000 :: BI, n ∉ A) (et : eqT (sV S' (ρ 0) (bk 0 ρ)) (sV S (ρ 0) (bk 0 ρ))) : TK Γ' S' ρ rs T := by
  have := h.gt hs hx hg hsam hA (f := T.2.2.1 3) (et.tr h.1)
  rw [mA_self] at this
  exact this
theorem TK.gp (h : TK Γ S ρ rs T) (hs : St Γ Φ S) (hx : Γ x = some (11, 11, 0, rs, ρ)) (hg : ∀ a τ, τ.1 ≠ 11 → Γ a = some τ → Γ' a = some τ) (hsam : sam Γ A S S') (hA : ∀ n ∈ BI, n ∉ A) (et : eqT (sV S' (ρ 0) (bk 0 ρ)) (sV S (ρ 0) (bk 0 ρ))) {g : Nat → Int32} {z : Int32} (el : fI S' (ρ 4) 1 = z) (eb : ∀ j, j < 400 → aV S' (bk 4 ρ 0) j = g j) : TK Γ' S' ρ rs (mI (mA T 12 g) 13 z) :=
  h.gen hs hx hg hsam hA rfl rfl (et.tr h.1) el eb h.2.2.2.2.2
theorem IV.mok (h : IV S x o M T) : mOk M M := h.elim (fun _ h => h.elim (fun _ h => h.elim (fun _ h => h.elim (fun _ h => h.2.1))))
def idG {Γ : kG} : ∀ a (τ : kT), τ.1 ≠ 11 → Γ a = some τ → Γ a = some τ := fun _ _ _ h => h
theorem idO {Γ : kG} {Φ : kF} : ∀ a τ, Γ a = some τ → (∃ τ', Γ a = some τ') ∨ Φ a = none := fun _ τ h => Or.inl ⟨τ, h⟩
/-! house -/
def rngH (a b : Int32) : Prop := (0 ≤ a.toInt ∧ a.toInt ≤ 24) ∧ 0 ≤ b.toInt ∧ b.toInt ≤ 99
def Pho (M : mS) (a b r : Int32) (T : mS) : Prop := (¬ rngH a b ∧ r = -1 ∧ T = M) ∨ (rngH a b ∧ M.2.2.1 3 0 = 6 ∧ r = -5 ∧ T = M) ∨ (rngH a b ∧ ∃ n, n < 6 ∧ M.2.2.1 3 0 = nI n ∧ r = nI n ∧ T = mA M 3 (upd (M.2.2.1 3) 0 (nI (n + 1))))
theorem cc_house {q : Int32 → hS → Prop} (hI : IV S x o M M) (hq : ∀ r T S', Pho M a b r T → IV S' x o M T → q r S') : oK S x 11 ∧ w_X11_house q S x a b := by
  have hM := hI.mok
  obtain ⟨Γ, Φ, ρ, rs, hs, hf, hx, hT, hgo⟩ := hI.clx [11, 1216, 3, 8, 902, 903, 300, 301, 302]
  have hA : ∀ n ∈ 9 :: 1000 :: BI, n ∉ [11, 1216, 3, 8, 902, 903, 300, 301, 302] := by decide
  have e0 : sV S (ρ 0) (bk 0 ρ) 0 = M.2.2.1 3 0 := hT.1 0 (Or.inl (by omega))
  refine T_oK_11 hs hx (kx_X11_house hs hf hx (fun hn S' h' e => hq _ M S' (Or.inl ⟨hn, rfl, rfl⟩) (hgo Γ S' rs M idO h' hx (fun hsam => hT.gs hs hx idG hsam hA (eqT.of e)))) (fun hy hn S' h' e => hq _ M S' (Or.inr (Or.inl ⟨hy, ?_, rfl, rfl⟩)) (hgo Γ S' rs M idO h' hx (fun hsam => hT.gs hs hx idG hsam hA (eqT.of e)))) (fun hy n S' hn en h' e => hq _ _ S' (Or.inr (Or.inr ⟨hy, n, hn, e0.symm.trans en, rfl, rfl⟩)) (hgo Γ S' rs _ idO h' hx (fun hsam => hT.gt hs hx idG hsam hA ?_))))
  · rw [e0] at hn
    have := hM.1.1
    unfold rg at this
    exact Int32.toInt_inj.mp (by rw [show (6 : Int32).toInt = 6 by decide]; omega)
  · intro j hj
    rw [e]
    unfold hsR upd
    by_cases c : j = 0
    · rw [if_pos c, if_pos c]
    · have hj2 := hj
      unfold rTk at hj
      rw [if_neg c, if_neg c, if_neg (by omega), if_neg (by omega), if_neg (by omega), if_neg (by omega)]
      exact hT.1 j hj2
theorem rc_house {q : Int32 → hS → Prop} (hI : IV S x o M T) (hP : Pho M a b r T) (hq : ∀ S' N, IV S' x o N N → q r S') : oK S o 12 ∧ w_X12_house q S o a b := by
  obtain ⟨ad, hd, hM, e, hN⟩ := hI.ref
  rw [← e]
  refine ⟨ov_oK, p_house hd hM (fun hn N hm => ?_) (fun hy h6 N hm => ?_) (fun hy n hn en N hm => ?_)⟩
  · rcases hP with ⟨-, rfl, rfl⟩ | ⟨h, -⟩ | ⟨h, -⟩
    · exact hq _ N (hN N hm)
    · exact absurd h hn
    · exact absurd h hn
  · rcases hP with ⟨h, -⟩ | ⟨-, -, rfl, rfl⟩ | ⟨-, n, hn, en, -⟩
    · exact absurd hy h
    · exact hq _ N (hN N hm)
    · have := nI_inj (b := 6) (by omega) (by omega) (en.symm.trans h6)
      omega
  · rcases hP with ⟨h, -⟩ | ⟨-, h6, -⟩ | ⟨-, n', hn', en', rfl, rfl⟩
    · exact absurd hy h
    · have := nI_inj (b := 6) (by omega) (by omega) (en.symm.trans h6)
      omega
    · have : n' = n := nI_inj (by omega) (by omega) (en'.symm.trans en)
      subst this
      exact hq _ N (hN N hm)
/-! person -/
def Ppe (M : mS) (a b c r : Int32) (T : mS) : Prop := (¬ cmIn a b c ∧ r = -1 ∧ T = M) ∨ (cmIn a b c ∧ M.2.2.1 3 1 = 8 ∧ r = -5 ∧ T = M) ∨ (cmIn a b c ∧ ∃ n, n < 8 ∧ M.2.2.1 3 1 = nI n ∧ r = nI n ∧ T = mA M 3 (upd (upd (M.2.2.1 3) (162 + n) 0) 1 (nI (n + 1))))
theorem cc_person {q : Int32 → hS → Prop} (hI : IV S x o M M) (hq : ∀ r T S', Ppe M a b c r T → IV S' x o M T → q r S') : oK S x 11 ∧ w_X11_person q S x a b c := by
  have hM := hI.mok
  obtain ⟨Γ, Φ, ρ, rs, hs, hf, hx, hT, hgo⟩ := hI.clx [11, 1216, 3, 8, 2, 300, 301, 303, 905, 906, 907, 908]
  have hA : ∀ n ∈ 9 :: 1000 :: BI, n ∉ [11, 1216, 3, 8, 2, 300, 301, 303, 905, 906, 907, 908] := by decide
  have e0 : sV S (ρ 0) (bk 0 ρ) 1 = M.2.2.1 3 1 := hT.1 1 (Or.inl (by omega))
  refine T_oK_11 hs hx (kx_X11_person hs hf hx (fun hn S' h' e => hq _ M S' (Or.inl ⟨hn, rfl, rfl⟩) (hgo Γ S' rs M idO h' hx (fun hsam => hT.gs hs hx idG hsam hA (eqT.of e)))) (fun hy hn S' h' e => hq _ M S' (Or.inr (Or.inl ⟨hy, ?_, rfl, rfl⟩)) (hgo Γ S' rs M idO h' hx (fun hsam => hT.gs hs hx idG hsam hA (eqT.of e)))) (fun hy n S' hn en h' e => hq _ _ S' (Or.inr (Or.inr ⟨hy, n, hn, e0.symm.trans en, rfl, rfl⟩)) (hgo Γ S' rs _ idO h' hx (fun hsam => hT.gt hs hx idG hsam hA ?_))))
  · rw [e0] at hn
    have := hM.1.2.1
    unfold rg at this
    exact Int32.toInt_inj.mp (by rw [show (8 : Int32).toInt = 8 by decide]; omega)
  · intro j hj
    have hj2 := hj
    unfold rTk at hj
    rw [e j (by omega)]
    unfold psR upd
    by_cases c : j = 1
    · rw [if_pos c, if_pos c]
    · by_cases c2 : j = 162 + n
      · rw [if_neg c, if_neg c, if_neg (by omega), if_neg (by omega), if_neg (by omega), if_pos c2, if_pos c2]
      · rw [if_neg c, if_neg c, if_neg (by omega), if_neg (by omega), if_neg (by omega), if_neg c2, if_neg c2, if_neg (by omega), if_neg (by omega)]
        exact hT.1 j hj2
theorem rc_person {q : Int32 → hS → Prop} (hI : IV S x o M T) (hP : Ppe M a b c r T) (hq : ∀ S' N, IV S' x o N N → q r S') : oK S o 12 ∧ w_X12_person q S o a b c := by
  obtain ⟨ad, hd, hM, e, hN⟩ := hI.ref
  rw [← e]
  refine ⟨ov_oK, p_person hd hM (fun hn N hm => ?_) (fun hy h6 N hm => ?_) (fun hy n hn en N hm => ?_)⟩
  · rcases hP with ⟨-, rfl, rfl⟩ | ⟨h, -⟩ | ⟨h, -⟩
    · exact hq _ N (hN N hm)
    · exact absurd h hn
    · exact absurd h hn
  · rcases hP with ⟨h, -⟩ | ⟨-, -, rfl, rfl⟩ | ⟨-, n, hn, en, -⟩
    · exact absurd hy h
    · exact hq _ N (hN N hm)
    · have := nI_inj (b := 8) (by omega) (by omega) (en.symm.trans h6)
      omega
  · rcases hP with ⟨h, -⟩ | ⟨-, h6, -⟩ | ⟨-, n', hn', en', rfl, rfl⟩
    · exact absurd hy h
    · have := nI_inj (b := 8) (by omega) (by omega) (en.symm.trans h6)
      omega
    · have : n' = n := nI_inj (by omega) (by omega) (en'.symm.trans en)
      subst this
      exact hq _ N (hN N hm)
/-! will -/
def wB (b : Int32) (n : Nat) : Prop := 0 ≤ b.toInt ∧ b.toInt < 2 ^ n
def wP (a b : Int32) : Prop := (0 ≤ a.toInt ∧ a.toInt ≤ 7) ∧ btI b a
def Pwi (M : mS) (a b r : Int32) (T : mS) : Prop := ∃ n, n ≤ 8 ∧ M.2.2.1 3 1 = nI n ∧ (((¬ wB b n ∨ wP a b) ∧ r = -1 ∧ T = M) ∨ (wB b n ∧ ¬ wP a b ∧ ¬ (0 ≤ a.toInt ∧ a.toInt < n) ∧ r = -2 ∧ T = M) ∨ (wB b n ∧ ¬ wP a b ∧ ∃ p, p < n ∧ a = nI p ∧ r = M.2.2.1 3 (162 + p) ∧ T = mA M 3 (upd (M.2.2.1 3) (162 + p) b)))
theorem cc_will {q : Int32 → hS → Prop} (hI : IV S x o M M) (hq : ∀ r T S', Pwi M a b r T → IV S' x o M T → q r S') : oK S x 11 ∧ w_X11_will q S x a b := by
  have hM := hI.mok
  obtain ⟨n, hn, en⟩ := rg_inR (b := 8) hM.1.2.1 (by omega) (by omega)
  obtain ⟨Γ, Φ, ρ, rs, hs, hf, hx, hT, hgo⟩ := hI.clx [11, 1216, 908]
  have hA : ∀ n ∈ 9 :: 1000 :: BI, n ∉ [11, 1216, 908] := by decide
  have e0 : sV S (ρ 0) (bk 0 ρ) 1 = nI n := (hT.1 1 (Or.inl (by omega))).trans en
  refine T_oK_11 hs hx (kx_X11_will hs hf hx hn e0 (fun hb S' h' e => hq _ M S' ⟨n, hn, en, Or.inl ⟨hb, rfl, rfl⟩⟩ (hgo Γ S' rs M idO h' hx (fun hsam => hT.gs hs hx idG hsam hA (eqT.of e)))) (fun h1 h2 h3 S' h' e => hq _ M S' ⟨n, hn, en, Or.inr (Or.inl ⟨h1, h2, h3, rfl, rfl⟩)⟩ (hgo Γ S' rs M idO h' hx (fun hsam => hT.gs hs hx idG hsam hA (eqT.of e)))) (fun h1 h2 p hp ep S' h' e => hq _ _ S' ⟨n, hn, en, Or.inr (Or.inr ⟨h1, h2, p, hp, ep, hT.1 (162 + p) (Or.inr (by omega)), rfl⟩)⟩ (hgo Γ S' rs _ idO h' hx (fun hsam => hT.gt hs hx idG hsam hA ?_))))
  intro j hj
  rw [e]
  unfold upd
  by_cases c : j = 162 + p
  · rw [if_pos c, if_pos c]
  · rw [if_neg c, if_neg c]
    exact hT.1 j hj
theorem rc_will {q : Int32 → hS → Prop} (hI : IV S x o M T) (hP : Pwi M a b r T) (hq : ∀ S' N, IV S' x o N N → q r S') : oK S o 12 ∧ w_X12_will q S o a b := by
  obtain ⟨ad, hd, hM, e, hN⟩ := hI.ref
  obtain ⟨n, hn, en, hP⟩ := hP
  rw [← e]
  refine ⟨ov_oK, p_will hd hM hn en (fun hb N hm => ?_) (fun h1 h2 h3 N hm => ?_) (fun h1 h2 p hp ep N hm => ?_)⟩
  · rcases hP with ⟨-, rfl, rfl⟩ | ⟨h1, h2, -⟩ | ⟨h1, h2, -⟩
    · exact hq _ N (hN N hm)
    · exact (hb.elim (fun z => z h1) h2).elim
    · exact (hb.elim (fun z => z h1) h2).elim
  · rcases hP with ⟨hb, -⟩ | ⟨-, -, -, rfl, rfl⟩ | ⟨-, -, p, hp, ep, -⟩
    · exact (hb.elim (fun z => z h1) h2).elim
    · exact hq _ N (hN N hm)
    · exfalso
      rw [ep, nI_toInt (by omega)] at h3
      omega
  · rcases hP with ⟨hb, -⟩ | ⟨-, -, h3, -⟩ | ⟨-, -, p', hp', ep', rfl, rfl⟩
    · exact (hb.elim (fun z => z h1) h2).elim
    · exfalso
      rw [ep, nI_toInt (by omega)] at h3
      omega
    · have : p' = p := nI_inj (by omega) (by omega) (ep'.symm.trans ep)
      subst this
      exact hq _ N (hN N hm)
/-! forget, clue -/
theorem cc_forget {q : Int32 → hS → Prop} (hI : IV S x o M M) (hq : ∀ r T S', r = M.2.2.1 3 2 ∧ T = mA M 3 (upd (M.2.2.1 3) 2 0) → IV S' x o M T → q r S') : oK S x 11 ∧ w_X11_forget q S x := by
  obtain ⟨Γ, Φ, ρ, rs, hs, hf, hx, hT, hgo⟩ := hI.clx [8]
  have hA : ∀ n ∈ 9 :: 1000 :: BI, n ∉ [8] := by decide
  refine T_oK_11 hs hx (kx_X11_forget hs hf hx (fun S' h' e => hq _ _ S' ⟨hT.1 2 (Or.inl (by omega)), rfl⟩ (hgo Γ S' rs _ idO h' hx (fun hsam => hT.gt hs hx idG hsam hA ?_))))
  intro j hj
  rw [e]
  unfold upd
  by_cases c : j = 2
  · rw [if_pos c, if_pos c]
  · rw [if_neg c, if_neg c]
    exact hT.1 j hj
theorem rc_forget {q : Int32 → hS → Prop} (hI : IV S x o M T) (hP : r = M.2.2.1 3 2 ∧ T = mA M 3 (upd (M.2.2.1 3) 2 0)) (hq : ∀ S' N, IV S' x o N N → q r S') : oK S o 12 ∧ w_X12_forget q S o := by
  obtain ⟨ad, hd, hM, e, hN⟩ := hI.ref
  obtain ⟨rfl, rfl⟩ := hP
  rw [← e]
  exact ⟨ov_oK, p_forget hd hM (fun N hm => hq _ N (hN N hm))⟩
def Pcl (M : mS) (a b r : Int32) (T : mS) : Prop := (¬ (0 ≤ b.toInt ∧ b.toInt ≤ 99) ∧ r = -1 ∧ T = M) ∨ ((0 ≤ b.toInt ∧ b.toInt ≤ 99) ∧ ((¬ (0 ≤ a.toInt ∧ a.toInt < (M.2.2.1 3 0).toInt) ∧ r = -2 ∧ T = M) ∨ ((0 ≤ a.toInt ∧ a.toInt < (M.2.2.1 3 0).toInt) ∧ ((M.2.2.1 3 2 = 6 ∧ r = -5 ∧ T = M) ∨ ∃ n, n < 6 ∧ M.2.2.1 3 2 = nI n ∧ r = nI (n + 1) ∧ T = mA M 3 (upd (M.2.2.1 3) 2 (nI (n + 1)))))))
theorem cc_clue {q : Int32 → hS → Prop} (hI : IV S x o M M) (hq : ∀ r T S', Pcl M a b r T → IV S' x o M T → q r S') : oK S x 11 ∧ w_X11_clue q S x a b := by
  have hM := hI.mok
  obtain ⟨Γ, Φ, ρ, rs, hs, hf, hx, hT, hgo⟩ := hI.clx [11, 1216, 8, 910, 911]
  have hA : ∀ n ∈ 9 :: 1000 :: BI, n ∉ [11, 1216, 8, 910, 911] := by decide
  have e0 : sV S (ρ 0) (bk 0 ρ) 0 = M.2.2.1 3 0 := hT.1 0 (Or.inl (by omega))
  have e2 : sV S (ρ 0) (bk 0 ρ) 2 = M.2.2.1 3 2 := hT.1 2 (Or.inl (by omega))
  refine T_oK_11 hs hx (kx_X11_clue hs hf hx (fun h1 S' h' e => hq _ M S' (Or.inl ⟨h1, rfl, rfl⟩) (hgo Γ S' rs M idO h' hx (fun hsam => hT.gs hs hx idG hsam hA (eqT.of e)))) (fun h1 h2 S' h' e => hq _ M S' (Or.inr ⟨h1, Or.inl ⟨by rw [← e0]; exact h2, rfl, rfl⟩⟩) (hgo Γ S' rs M idO h' hx (fun hsam => hT.gs hs hx idG hsam hA (eqT.of e)))) (fun h1 h2 h3 S' h' e => hq _ M S' (Or.inr ⟨h1, Or.inr ⟨by rw [← e0]; exact h2, Or.inl ⟨?_, rfl, rfl⟩⟩⟩) (hgo Γ S' rs M idO h' hx (fun hsam => hT.gs hs hx idG hsam hA (eqT.of e)))) (fun h1 h2 n hn en S' h' e => hq _ _ S' (Or.inr ⟨h1, Or.inr ⟨by rw [← e0]; exact h2, Or.inr ⟨n, hn, e2.symm.trans en, rfl, rfl⟩⟩⟩) (hgo Γ S' rs _ idO h' hx (fun hsam => hT.gt hs hx idG hsam hA ?_))))
  · rw [e2] at h3
    have := hM.1.2.2.1
    unfold rg at this
    exact Int32.toInt_inj.mp (by rw [show (6 : Int32).toInt = 6 by decide]; omega)
  · intro j hj
    have hj2 := hj
    unfold rTk at hj
    rw [e]
    unfold upd
    by_cases c : j = 2
    · rw [if_pos c, if_pos c]
    · rw [if_neg c, if_neg c, if_neg (by omega), if_neg (by omega)]
      exact hT.1 j hj2
theorem rc_clue {q : Int32 → hS → Prop} (hI : IV S x o M T) (hP : Pcl M a b r T) (hq : ∀ S' N, IV S' x o N N → q r S') : oK S o 12 ∧ w_X12_clue q S o a b := by
  obtain ⟨ad, hd, hM, e, hN⟩ := hI.ref
  rw [← e]
  refine ⟨ov_oK, p_clue hd hM (fun h1 N hm => ?_) (fun h1 h2 N hm => ?_) (fun h1 h2 h3 N hm => ?_) (fun h1 h2 n hn en N hm => ?_)⟩
  · rcases hP with ⟨-, rfl, rfl⟩ | ⟨h, -⟩
    · exact hq _ N (hN N hm)
    · exact absurd h h1
  · rcases hP with ⟨h, -⟩ | ⟨-, ⟨-, rfl, rfl⟩ | ⟨h, -⟩⟩
    · exact absurd h1 h
    · exact hq _ N (hN N hm)
    · exact absurd h h2
  · rcases hP with ⟨h, -⟩ | ⟨-, ⟨h, -⟩ | ⟨-, ⟨-, rfl, rfl⟩ | ⟨n, hn, en, -⟩⟩⟩
    · exact absurd h1 h
    · exact absurd h2 h
    · exact hq _ N (hN N hm)
    · have := nI_inj (b := 6) (by omega) (by omega) (en.symm.trans h3)
      omega
  · rcases hP with ⟨h, -⟩ | ⟨-, ⟨h, -⟩ | ⟨-, ⟨h3, -⟩ | ⟨n', hn', en', rfl, rfl⟩⟩⟩
    · exact absurd h1 h
    · exact absurd h2 h
    · have := nI_inj (b := 6) (by omega) (by omega) (en.symm.trans h3)
      omega
    · have : n' = n := nI_inj (by omega) (by omega) (en'.symm.trans en)
      subst this
      exact hq _ N (hN N hm)
/-! feed, end, rust -/
theorem fo4_lt {f g : Nat → Int32} {m : Nat} {v : Int32} (h : ∀ j, j < 400 → f j = g j) : ∀ j, j < 400 → fo4 f m v j = fo4 g m v j := fun j hj => by
  unfold fo4 upd
  by_cases c3 : j = m + 3
  · rw [if_pos c3, if_pos c3]
  · by_cases c2 : j = m + 2
    · rw [if_neg c3, if_neg c3, if_pos c2, if_pos c2]
    · by_cases c1 : j = m + 1
      · rw [if_neg c3, if_neg c3, if_neg c2, if_neg c2, if_pos c1, if_pos c1]
      · by_cases c0 : j = m
        · rw [if_neg c3, if_neg c3, if_neg c2, if_neg c2, if_neg c1, if_neg c1, if_pos c0, if_pos c0]
        · rw [if_neg c3, if_neg c3, if_neg c2, if_neg c2, if_neg c1, if_neg c1, if_neg c0, if_neg c0]
          exact h j hj
def Pfe (M : mS) (a b c d e r : Int32) (T : mS) : Prop := ∃ m, m ≤ 400 ∧ M.1 13 = nI m ∧ ((380 < m ∧ r = -1 ∧ T = M) ∨ (m ≤ 380 ∧ r = nI (m + 20) ∧ T = mI (mA M 12 (fo20 (M.2.2.1 12) m a b c d e)) 13 (nI (m + 20))))
theorem cc_feed {q : Int32 → hS → Prop} (hI : IV S x o M M) (hq : ∀ r T S', Pfe M a b c d e r T → IV S' x o M T → q r S') : oK S x 11 ∧ w_X11_feed q S x a b c d e := by
  have hM := hI.mok
  obtain ⟨m, hm, em⟩ := rg_inR (b := 400) hM.2.2.2.2.2.2.2.1 (by omega) (by omega)
  obtain ⟨Γ, Φ, ρ, rs, hs, hf, hx, hT, hgo⟩ := hI.clx [9, 1000]
  have hA : ∀ n ∈ BI, n ∉ [9, 1000] := by decide
  refine T_oK_11 hs hx (kx_X11_feed hs hf hx hm (hT.2.2.2.1.trans em) (fun h380 => hq _ M S ⟨m, hm, em, Or.inl ⟨h380, rfl, rfl⟩⟩ (hgo Γ S rs M idO hs hx (fun _ => hT))) (fun h380 S' h' e1 e2 => hq _ _ S' ⟨m, hm, em, Or.inr ⟨h380, rfl, rfl⟩⟩ (hgo Γ S' rs _ idO h' hx (fun hsam => hT.gp hs hx idG hsam hA (eqT.of (sV_sam hs (P_11_0 hs hx).2 hsam (by simp))) e1 (fun j hj => ?_)))))
  rw [e2]
  exact fo4_lt (fo4_lt (fo4_lt (fo4_lt (fo4_lt hT.2.2.2.2.1)))) j hj
theorem rc_feed {q : Int32 → hS → Prop} (hI : IV S x o M T) (hP : Pfe M a b c d e r T) (hq : ∀ S' N, IV S' x o N N → q r S') : oK S o 12 ∧ w_X12_feed q S o a b c d e := by
  obtain ⟨ad, hd, hM, e', hN⟩ := hI.ref
  obtain ⟨m, hm, em, hP⟩ := hP
  rw [← e']
  refine ⟨ov_oK, p_feed hd hM hm em (fun h N hm => ?_) (fun h N hm => ?_)⟩
  · rcases hP with ⟨-, rfl, rfl⟩ | ⟨h2, -⟩
    · exact hq _ N (hN N hm)
    · omega
  · rcases hP with ⟨h2, -⟩ | ⟨-, rfl, rfl⟩
    · omega
    · exact hq _ N (hN N hm)
def Pen (M : mS) (a r : Int32) (T : mS) : Prop := (¬ (0 ≤ a.toInt ∧ a.toInt ≤ (M.1 13).toInt) ∧ r = -1 ∧ T = M) ∨ ((0 ≤ a.toInt ∧ a.toInt ≤ (M.1 13).toInt) ∧ r = a ∧ T = mI M 13 a)
theorem cc_end {q : Int32 → hS → Prop} (hI : IV S x o M M) (hq : ∀ r T S', Pen M a r T → IV S' x o M T → q r S') : oK S x 11 ∧ w_X11_end q S x a := by
  obtain ⟨Γ, Φ, ρ, rs, hs, hf, hx, hT, hgo⟩ := hI.clx [9]
  have hA : ∀ n ∈ BI, n ∉ [9] := by decide
  have e0 := hT.2.2.2.1
  refine T_oK_11 hs hx (kx_X11_end hs hf hx (fun h => hq _ M S (Or.inl ⟨by rw [← e0]; exact h, rfl, rfl⟩) (hgo Γ S rs M idO hs hx (fun _ => hT))) (fun h S' h' e1 e2 => hq _ _ S' (Or.inr ⟨by rw [← e0]; exact h, rfl, rfl⟩) (hgo Γ S' rs _ idO h' hx (fun hsam => ?_))))
  have := hT.gp (Γ' := Γ) hs hx idG hsam hA (eqT.of (sV_sam hs (P_11_0 hs hx).2 hsam (by simp))) (g := M.2.2.1 12) e1 (fun j hj => by rw [e2]; exact hT.2.2.2.2.1 j hj)
  rw [mA_self] at this
  exact this
theorem rc_end {q : Int32 → hS → Prop} (hI : IV S x o M T) (hP : Pen M a r T) (hq : ∀ S' N, IV S' x o N N → q r S') : oK S o 12 ∧ w_X12_end q S o a := by
  obtain ⟨ad, hd, hM, e, hN⟩ := hI.ref
  rw [← e]
  refine ⟨ov_oK, p_end hd hM (fun h N hm => ?_) (fun h N hm => ?_)⟩
  · rcases hP with ⟨-, rfl, rfl⟩ | ⟨h2, -⟩
    · exact hq _ N (hN N hm)
    · exact absurd h2 h
  · rcases hP with ⟨h2, -⟩ | ⟨-, rfl, rfl⟩
    · exact absurd h h2
    · exact hq _ N (hN N hm)
theorem cc_rust {q : Int32 → hS → Prop} (hI : IV S x o M M) (hq : ∀ r T S', r = M.1 11 ∧ T = M → IV S' x o M T → q r S') : oK S x 11 ∧ w_X11_rust q S x := by
  obtain ⟨Γ, Φ, ρ, rs, hs, hf, hx, hT, hgo⟩ := hI.clx []
  exact T_oK_11 hs hx (kx_X11_rust hs hx (hq _ M S ⟨hT.2.2.2.2.2, rfl⟩ (hgo Γ S rs M idO hs hx (fun _ => hT))))
theorem rc_rust {q : Int32 → hS → Prop} (hI : IV S x o M T) (hP : r = M.1 11 ∧ T = M) (hq : ∀ S' N, IV S' x o N N → q r S') : oK S o 12 ∧ w_X12_rust q S o := by
  obtain ⟨ad, hd, hM, e, hN⟩ := hI.ref
  obtain ⟨rfl, rfl⟩ := hP
  rw [← e]
  exact ⟨ov_oK, p_rust hM (fun N hm => hq _ N (hN N hm))⟩
/-! row -/
theorem cmAt_lt {f g : Nat → Int32} {m k n : Nat} (hm : m ≤ 400) (h : ∀ j, j < 400 → f j = g j) (hc : cmAt f m k n) : cmAt g m k n := by
  unfold cmAt at *
  rw [← h k (by omega), ← h (k + 1) (by omega), ← h (k + 2) (by omega), ← h (k + 3) (by omega)]
  exact hc
theorem cmN_lt {f g : Nat → Int32} {m n : Nat} (hm : m ≤ 400) (h : ∀ j, j < 400 → f j = g j) : ∀ j, cmN f m n j = cmN g m n j
  | 0 => rfl
  | j + 1 => by
    have ih := cmN_lt (n := n) hm h j
    by_cases c : cmAt f m (4 * j) (cmN f m n j)
    · rw [cmN_y c, cmN_y (by rw [← ih]; exact cmAt_lt hm h c), ih]
    · rw [cmN_n c, cmN_n (fun z => c (by rw [ih]; exact cmAt_lt hm (fun j hj => (h j hj).symm) z)), ih]
def Pro (M : mS) (r : Int32) (T : mS) : Prop := ∃ n m, n ≤ 8 ∧ M.2.2.1 3 1 = nI n ∧ m ≤ 400 ∧ M.1 13 = nI m ∧ ((m = 0 ∧ r = -6 ∧ T = mI M 13 0) ∨ (¬ m = 0 ∧ ∃ J, J = (m + 3) / 4 ∧ r = nI (cmN (M.2.2.1 12) m n J - n) ∧ T = mI (mI (mA M 3 (cmR (M.2.2.1 3) n (cmN (M.2.2.1 12) m n J))) 13 0) 11 (nI (J - (cmN (M.2.2.1 12) m n J - n)))))
theorem cc_row {q : Int32 → hS → Prop} (hI : IV S x o M M) (hq : ∀ r T S', Pro M r T → IV S' x o M T → q r S') : oK S x 11 ∧ w_X11_row q S x := by
  have hM := hI.mok
  obtain ⟨n, hn, en⟩ := rg_inR (b := 8) hM.1.2.1 (by omega) (by omega)
  obtain ⟨m, hm, em⟩ := rg_inR (b := 400) hM.2.2.2.2.2.2.2.1 (by omega) (by omega)
  obtain ⟨Γ, Φ, ρ, rs, hs, hf, hx, hT, hgo⟩ := hI.clx [11, 1216, 3, 9, 8, 2, 300, 301, 303, 905, 906, 907, 908]
  have hA : ∀ n ∈ BI, n ∉ [11, 1216, 3, 9, 8, 2, 300, 301, 303, 905, 906, 907, 908] := by decide
  have ht := (P_11_4 hs hx).2
  have e1 : sV S (ρ 0) (bk 0 ρ) 1 = nI n := (hT.1 1 (Or.inl (by omega))).trans en
  refine T_oK_11 hs hx (kx_X11_row hs hf hx hn e1 hm (hT.2.2.2.1.trans em) (fun h0 S' h' hsam0 => hq _ _ S' ⟨n, m, hn, en, hm, em, Or.inl ⟨h0, rfl, rfl⟩⟩ (hgo Γ S' rs _ idO h' hx (fun _ => ?_))) (fun h0 J eJ S' h' e2 e3 => hq _ _ S' ⟨n, m, hn, en, hm, em, Or.inr ⟨h0, J, eJ, ?_, rfl⟩⟩ (hgo _ S' (J - (cmN (aV S (bk 4 ρ 0)) m n J - n)) _ (fun a τ ha => ?_) h' kset_in (fun hsam => ?_))))
  · have := hT.gp (Γ' := Γ) hs hx idG hsam0 (by decide) (eqT.of (sV_sam hs (P_11_0 hs hx).2 hsam0 (by simp))) (g := M.2.2.1 12) (z := 0) ((fI_cell (hsam0.at hs ht (by simp)) 1).trans (hT.2.2.2.1.trans (by rw [em, h0]; rfl))) (fun j hj => by rw [aV_cell (hsam0.at hs (P_9_0 hs ht).2 (by simp))]; exact hT.2.2.2.2.1 j hj)
    rw [mA_self] at this
    exact this
  · rw [cmN_lt hm hT.2.2.2.2.1]
  · unfold kset at ha
    split at ha
    · rename_i e
      exact Or.inl ⟨_, e ▸ hx⟩
    · exact Or.inl ⟨_, ha⟩
  · refine hT.gen hs hx (R_g hx) hsam hA rfl rfl (fun j hj => ?_) e2 (fun j hj => ?_) ?_
    · rw [e3 j hj, cmN_lt hm hT.2.2.2.2.1]
      show cmR _ _ _ j = cmR _ _ _ j
      unfold cmR
      by_cases c : j = 1
      · rw [if_pos c, if_pos c]
      · rw [if_neg c, if_neg c]
        by_cases c2 : 162 + n ≤ j ∧ j < 162 + cmN (M.2.2.1 12) m n J
        · rw [if_pos c2, if_pos c2]
        · rw [if_neg c2, if_neg c2]; exact hT.1 j hj
    · rw [aV_cell (hsam.at hs (P_9_0 hs ht).2 (by simp))]; exact hT.2.2.2.2.1 j hj
    · rw [cmN_lt hm hT.2.2.2.2.1]; rfl
theorem rc_row {q : Int32 → hS → Prop} (hI : IV S x o M T) (hP : Pro M r T) (hq : ∀ S' N, IV S' x o N N → q r S') : oK S o 12 ∧ w_X12_row q S o := by
  obtain ⟨ad, hd, hM, e, hN⟩ := hI.ref
  obtain ⟨n, m, hn, en, hm, em, hP⟩ := hP
  rw [← e]
  refine ⟨ov_oK, p_row hd hM hn en hm em (fun h0 N hm' => ?_) (fun h0 J eJ N hm' => ?_)⟩
  · rcases hP with ⟨-, rfl, rfl⟩ | ⟨h, -⟩
    · exact hq _ N (hN N hm')
    · exact absurd h0 h
  · rcases hP with ⟨h, -⟩ | ⟨-, J', eJ', rfl, rfl⟩
    · exact absurd h h0
    · have : J' = J := eJ'.trans eJ.symm
      subst this
      exact hq _ N (hN N hm')
end PAIRS
