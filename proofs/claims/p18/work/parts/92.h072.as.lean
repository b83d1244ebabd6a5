/-! THE CLASS'S WHOLE STATE -/
/-- a suburb with its laws -/
abbrev sW : Type := (Nat → Int32) × (Nat → List pCl)
/-- town, images, what can be undone, tape, numbers (fault stopped status drawn drawn), refusals, what was drawn -/
abbrev aS : Type := sW × (Nat → Option sW) × uL × pG × (Nat → Int32) × (Nat → Int32) × (Nat → Int32)
def sbN (i : Nat) : List Nat := [8 + 10000 * i, 2 + 10000 * i, 300 + 10000 * i, 301 + 10000 * i, 302 + 10000 * i, 303 + 10000 * i, 902 + 10000 * i, 903 + 10000 * i, 905 + 10000 * i, 906 + 10000 * i, 907 + 10000 * i, 908 + 10000 * i, 910 + 10000 * i, 911 + 10000 * i, 915 + 10000 * i]
def txN : List Nat := [19, 1112, 1113, 1114, 1115]
def imN : List Nat := 1202 :: (sbN 2 ++ sbN 3 ++ txN)
def scK (k : Nat) : Nat := if k = 0 then 13 else if k = 1 then 14 else if k = 2 then 17 else if k = 3 then 11 else 12
def subR (Γ : kG) (S : hS) (b i : Nat) (ρ : Nat → Nat) (t : sW) : Prop := Γ b = some (8, 8 + 10000 * i, i, 0, ρ) ∧ sV S b ρ = t.1 ∧ rB t.1 ∧ lwsS Γ S ρ t.2 (iR t.1 3) ∧ ∀ j : Nat, (j : Int) < iR t.1 3 → okL (t.2 j)
def imR (Γ : kG) (S : hS) (ρ : Nat → Nat) (im : Nat → Option sW) : Prop := ∀ k, k < 2 → (im k = none → aO S (ρ 2) k = none) ∧ ∀ t, im k = some t → ∃ b ρk, aO S (ρ 2) k = some b ∧ subR Γ S b (2 + k) ρk t
def scR (S : hS) (x : Nat) (sc : Nat → Int32) : Prop := ∀ k, k < 5 → fI S x (scK k) = sc k
def rfR (S : hS) (ρ : Nat → Nat) (rf : Nat → Int32) : Prop := ∀ j, j < 7 → aV S (ρ 16) j = rf j
def drR (S : hS) (ρ : Nat → Nat) (dr : Nat → Int32) : Prop := ∀ j, j < 48 → aV S (ρ 10) j = dr j
def CR (Γ : kG) (S : hS) (x : Nat) (ρ : Nat → Nat) (rs : Nat) (T : aS) : Prop := Γ x = some (11, 11, 0, rs, ρ) ∧ subR Γ S (ρ 0) 0 (bk 0 ρ) T.1 ∧ imR Γ S ρ T.2.1 ∧ lgS Γ S (ρ 3) (bk 3 ρ) T.2.2.1 ∧ tpS S (ρ 4) (bk 4 ρ) T.2.2.2.1 ∧ scR S x T.2.2.2.2.1 ∧ rfR S ρ T.2.2.2.2.2.1 ∧ drR S ρ T.2.2.2.2.2.2 ∧ bk 5 ρ 1 = ρ 4 ∧ ∀ y ∈ T.2.2.1, rB y.2
/-- what is refused, what is accepted -/
def spRef (v : Nat) (T : aS) : Int32 × aS := (wI (-(v : Int)), (T.1, T.2.1, T.2.2.1, T.2.2.2.1, upd T.2.2.2.2.1 2 (wI (-(v : Int))), upd T.2.2.2.2.2.1 v (T.2.2.2.2.2.1 v + 1), T.2.2.2.2.2.2))
def spAcc (v : Int32) (T : aS) : Int32 × aS := (v, (T.1, T.2.1, T.2.2.1, T.2.2.2.1, upd T.2.2.2.2.1 2 0, T.2.2.2.2.2))
section AS
variable {Γ Γ' : kG} {Φ : kF} {S S' : hS} {x b i rs : Nat} {ρ ρg β : Nat → Nat} {A : List Nat} {T : aS} {t : sW}
theorem subR.ask (h : subR Γ S b i ρ t) {a : Nat} {ρa : Nat → Nat} (ha : Γ a = some (0, 0, 0, 0, ρa)) : askS Γ S a b i ρa ρ t.2 := by
  obtain ⟨h1, h2, h3, h4, h5⟩ := h
  refine ⟨ha, h1, by rw [h2]; exact h3, by rw [h2]; exact h4, ?_⟩
  rw [h2]
  unfold csF
  split
  · exact okL_nil
  · have := h3.2.1
    exact h5 _ (by omega)
theorem subR.okc (h : subR Γ S b i ρ t) : okL (csF t.1 t.2) := by
  obtain ⟨h1, h2, h3, h4, h5⟩ := h
  unfold csF
  split
  · exact okL_nil
  · have := h3.2.1
    exact h5 _ (by omega)
theorem subR.sm (h : subR Γ S b i ρ t) (hs : St Γ Φ S) (hg : gro Γ Φ Γ') (hm : sam Γ A S S') (hA : ∀ n ∈ sbN i ++ txN, n ∉ A) : subR Γ' S' b i ρ t := by
  obtain ⟨h1, h2, h3, h4, h5⟩ := h
  have no : ∀ n ∈ sbN i ++ txN, n ∉ A := hA
  have e : sV S' b ρ = sV S b ρ := sV_sam hs h1 hm ⟨no _ (by simp [sbN]), no _ (by simp [sbN]), no _ (by simp [sbN]), no _ (by simp [sbN]), no _ (by simp [sbN]), no _ (by simp [sbN]), no _ (by simp [sbN]), no _ (by simp [sbN]), no _ (by simp [sbN]), no _ (by simp [sbN]), no _ (by simp [sbN]), no _ (by simp [sbN]), no _ (by simp [sbN]), no _ (by simp [sbN])⟩
  refine ⟨hg.1 _ _ h1, e.trans h2, h3, (h4.sm hs h1 hm ⟨no _ (by simp [sbN]), no _ (by simp [txN]), no _ (by simp [txN]), no _ (by simp [txN]), no _ (by simp [txN]), no _ (by simp [txN])⟩).gr hg, h5⟩
theorem imR.sm {im : Nat → Option sW} (h : imR Γ S ρ im) (hs : St Γ Φ S) (hx : Γ x = some (11, 11, 0, rs, ρ)) (hg : gro Γ Φ Γ') (hm : sam Γ A S S') (hA : ∀ n ∈ imN, n ∉ A) : imR Γ' S' ρ im := by
  intro k hk
  obtain ⟨h1, h2⟩ := h k hk
  have w := hm.at hs (P_11_2 hs hx).2 (hA 1202 (by simp [imN]))
  refine ⟨fun z => by rw [aO_cell w]; exact h1 z, fun t ht => ?_⟩
  obtain ⟨b, ρk, e1, e2⟩ := h2 t ht
  refine ⟨b, ρk, by rw [aO_cell w]; exact e1, e2.sm hs hg hm (fun n hn => hA n ?_)⟩
  unfold imN
  have k01 : k = 0 ∨ k = 1 := by omega
  rcases List.mem_append.mp hn with z | z
  · rcases k01 with rfl | rfl
    · exact List.mem_cons_of_mem _ (List.mem_append.mpr (Or.inl (List.mem_append.mpr (Or.inl z))))
    · exact List.mem_cons_of_mem _ (List.mem_append.mpr (Or.inl (List.mem_append.mpr (Or.inr z))))
  · exact List.mem_cons_of_mem _ (List.mem_append.mpr (Or.inr z))
theorem lgS.sg {us : uL} {g : Nat} (h : lgS Γ S g ρg us) (hs : St Γ Φ S) (hk : Γ g = some (3, 3, 0, 0, ρg)) (hg : gro Γ Φ Γ') (hm : sam Γ A S S') (hA : ∀ n ∈ lgNm, n ∉ A) : lgS Γ' S' g ρg us := (h.sm hs hk hm ⟨hA _ (by simp [lgNm]), hA _ (by simp [lgNm]), hA _ (by simp [lgNm]), fun _ hj _ hx => hA _ (lgNm_in hj hx)⟩).gr (fun a τ _ ha => hg.1 a τ ha)
theorem tpS.sm {G : pG} {a : Nat} (h : tpS S a β G) (hs : St Γ Φ S) (ha : Γ a = some (9, 9, 0, 0, β)) (hm : sam Γ A S S') (hA : 9 ∉ A ∧ 1000 ∉ A) : tpS S' a β G := by
  obtain ⟨h1, h2, h3, h4⟩ := h
  have w := hm.at hs ha hA.1
  have w2 := hm.at hs (P_9_0 hs ha).2 hA.2
  exact ⟨by rw [fI_cell w]; exact h1, h2, fun i hi => by rw [aV_cell w2]; exact h3 i hi, h4⟩
theorem scR.sm {sc : Nat → Int32} (h : scR S x sc) (hs : St Γ Φ S) (hx : Γ x = some (11, 11, 0, rs, ρ)) (hm : sam Γ A S S') (hA : 11 ∉ A) : scR S' x sc := fun k hk => by
  rw [fI_cell (hm.at hs hx hA)]
  exact h k hk
theorem rfR.sm {rf : Nat → Int32} (h : rfR S ρ rf) (hs : St Γ Φ S) (hx : Γ x = some (11, 11, 0, rs, ρ)) (hm : sam Γ A S S') (hA : 1216 ∉ A) : rfR S' ρ rf := fun j hj => by
  rw [aV_cell (hm.at hs (P_11_16 hs hx).2 hA)]
  exact h j hj
theorem drR.sm {dr : Nat → Int32} (h : drR S ρ dr) (hs : St Γ Φ S) (hx : Γ x = some (11, 11, 0, rs, ρ)) (hm : sam Γ A S S') (hA : 1210 ∉ A) : drR S' ρ dr := fun j hj => by
  rw [aV_cell (hm.at hs (P_11_10 hs hx).2 hA)]
  exact h j hj
theorem scK_11 {k : Nat} (hk : k < 5) (h : scK k = 17) : k = 2 := by
  unfold scK at h
  repeat' (split at h)
  all_goals omega
theorem cx_accept {q : Int32 → hS → Prop} {v : Int32} (h : CR Γ S x ρ rs T) (hs : St Γ Φ S) (hf : fre Γ Φ [11]) (k : ∀ S', St Γ Φ S' → sam Γ [11] S S' → CR Γ S' x ρ rs (spAcc v T).2 → q (spAcc v T).1 S') : w_X11_accept q S x v := by
  obtain ⟨hx, h1, h2, h3, h4, h5, h6, h7, h8⟩ := h
  unfold w_X11_accept
  refine T_pI_11_17 (frz_St (L := [11]) hs) (frz_fre hf (fun _ x => x)) hx (by simp) (fun S1 s1' i1 q1 a1 => ?_)
  obtain ⟨s1, m1⟩ := frz_un hs s1'
  refine k S1 s1 m1 ⟨hx, h1.sm hs gro_rf m1 (by decide), h2.sm hs hx gro_rf m1 (by decide), h3.sg hs (P_11_3 hs hx).2 gro_rf m1 (by decide), h4.sm hs (P_11_4 hs hx).2 m1 (by decide), fun j hj => ?_, h6.sm hs hx m1 (by decide), h7.sm hs hx m1 (by decide), h8⟩
  show fI S1 x (scK j) = upd T.2.2.2.2.1 2 0 j
  unfold upd
  by_cases c : j = 2
  · rw [if_pos c, c]; exact i1
  · rw [if_neg c, q1.I (fun z => c (scK_11 hj z.2))]
    exact h5 j hj
theorem cx_refuse {q : Int32 → hS → Prop} {n : Nat} {v : Int32} (h : CR Γ S x ρ rs T) (hs : St Γ Φ S) (hf : fre Γ Φ [11, 1216]) (ev : v = wI (-(n : Int))) (hn : 1 ≤ n ∧ n < 7) (k : ∀ S', St Γ Φ S' → sam Γ [11, 1216] S S' → CR Γ S' x ρ rs (spRef n T).2 → q (spRef n T).1 S') : w_X11_refuse q S x v := by
  obtain ⟨hx, h1, h2, h3, h4, h5, h6, h7, h8⟩ := h
  have vi : v.toInt = -(n : Int) := by rw [ev]; exact wI_i (by omega)
  have nv : -v = nI n := by
    apply Int32.toInt_inj.mp
    rw [fb_negI (by omega), vi, nI_toInt (by omega)]
    omega
  have hst := frz_St (L := [11, 1216]) hs
  have hfr := frz_fre (S := S) hf (fun _ x => x)
  unfold w_X11_refuse
  refine T_pI_11_17 hst (hfr.sub (by simp)) (L := [11]) hx (by simp) (fun S1 s1 i1 q1 a1 => ⟨fun z => ?_, fun _ => E_gP_11_16 s1 hx (fun kr => T_aN_20 s1 kr (fun x14 e14 => ⟨fun z => ?_, fun _ => E_gP_11_16 s1 hx (fun _ => ?_)⟩))⟩)
  · rw [Int32.le_iff_toInt_le, vi, z0I] at z
    omega
  · have e : (-x14).toInt = -7 := by rw [fb_negI (by omega), e14]; rfl
    rw [Int32.le_iff_toInt_le, e, vi] at z
    omega
  rw [nv]
  refine T_aI_20 s1 kr (by rw [nI_toInt (by omega)]; omega) (fun x26 e26 _ => T_sI_20 s1 (hfr.sub (by simp)) (L := [1216]) kr (by simp) (by rw [nI_toInt (by omega)]; omega) (fun S2 s2' q2 a2 o2 v2 => ?_))
  obtain ⟨s2, m2⟩ := frz_un hs s2'
  rw [nI_clamp (by omega)] at e26 v2
  rw [show v = (spRef n T).1 from ev]
  refine k S2 s2 m2 ⟨hx, h1.sm hs gro_rf m2 (by decide), h2.sm hs hx gro_rf m2 (by decide), h3.sg hs (P_11_3 hs hx).2 gro_rf m2 (by decide), h4.sm hs (P_11_4 hs hx).2 m2 (by decide), fun j hj => ?_, fun j hj => ?_, h7.sm hs hx m2 (by decide), h8⟩
  · show fI S2 x (scK j) = upd T.2.2.2.2.1 2 (wI (-(n : Int))) j
    rw [q2.I]
    unfold upd
    by_cases c : j = 2
    · rw [if_pos c, c, ← ev]; exact i1
    · rw [if_neg c, q1.I (fun z => c (scK_11 hj z.2))]
      exact h5 j hj
  · show aV S2 (ρ 16) j = upd T.2.2.2.2.2.1 n (T.2.2.2.2.2.1 n + 1) j
    rw [v2, e26]
    unfold upd
    by_cases c : j = n
    · rw [if_pos c, if_pos c, a1.1, h6 n (by omega)]
    · rw [if_neg c, if_neg c, a1.1]
      exact h6 j hj
end AS
