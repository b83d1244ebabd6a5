/-! THE CLASS'S LEDGERS AND LOG, EXACTLY -/
/-- a ledger's cells as the row's places 5 and 8 .. 125 -/
def leV (S : hS) (d : Nat) (β : Nat → Nat) (i : Nat) : Int32 := if i = 5 then fI S d 5 else if i < 14 then aV S (β 2) (i - 8) else if i < 22 then aV S (β 3) (i - 14) else if i < 30 then dB (fI S d 4) (i - 22) else if i < 78 then aV S (β 0) (i - 30) else aV S (β 1) (i - 78)
def inLe (i : Nat) : Prop := i = 5 ∨ (8 ≤ i ∧ i < 126)
theorem sV_le {S : hS} {b : Nat} {ρ : Nat → Nat} {i : Nat} (h : inLe i) : sV S b ρ i = leV S (ρ 0) (bk 0 ρ) i := by
  unfold inLe at h
  unfold sV leV
  by_cases c : i = 5
  · subst c; rfl
  · rw [if_neg (show ¬ i < 8 by omega), if_neg c]
    by_cases c1 : i < 14
    · rw [if_pos c1, if_pos c1]
    rw [if_neg c1, if_neg c1]
    by_cases c2 : i < 22
    · rw [if_pos c2, if_pos c2]
    rw [if_neg c2, if_neg c2]
    by_cases c3 : i < 30
    · rw [if_pos c3, if_pos c3]
    rw [if_neg c3, if_neg c3]
    by_cases c4 : i < 78
    · rw [if_pos c4, if_pos c4]
    · rw [if_neg c4, if_neg c4, if_pos (by omega)]
def leN (i : Nat) : List Nat := [2 + 10000 * i, 300 + 10000 * i, 301 + 10000 * i, 302 + 10000 * i, 303 + 10000 * i]
section LG
variable {Γ : kG} {Φ : kF} {S : hS} {d d' i i' g u : Nat} {β β' ρg : Nat → Nat}
theorem leK (h : St Γ Φ S) (hd : Γ d = some (2, 2 + 10000 * i, i, 0, β)) : Γ (β 0) = some (20, 300 + 10000 * i, 48, 0, k0) ∧ Γ (β 1) = some (20, 301 + 10000 * i, 48, 0, k0) ∧ Γ (β 2) = some (20, 302 + 10000 * i, 6, 0, k0) ∧ Γ (β 3) = some (20, 303 + 10000 * i, 8, 0, k0) := ⟨(P_2_0 h hd).2, (P_2_1 h hd).2, (P_2_2 h hd).2, (P_2_3 h hd).2⟩
theorem leV_sam {S' : hS} {A : List Nat} (h : St Γ Φ S) (hd : Γ d = some (2, 2 + 10000 * i, i, 0, β)) (hm : sam Γ A S S') (hA : ∀ x ∈ leN i, x ∉ A) : leV S' d β = leV S d β := by
  obtain ⟨k0', k1', k2', k3'⟩ := leK h hd
  have w := hm.at h hd (hA _ (by simp [leN]))
  have w0 := hm.at h k0' (hA _ (by simp [leN]))
  have w1 := hm.at h k1' (hA _ (by simp [leN]))
  have w2 := hm.at h k2' (hA _ (by simp [leN]))
  have w3 := hm.at h k3' (hA _ (by simp [leN]))
  funext j
  unfold leV
  rw [fI_cell w, fI_cell w, aV_cell w0, aV_cell w1, aV_cell w2, aV_cell w3]
theorem cpy_all {f g : Nat → Int32} {n j : Nat} (hj : j < n) : va_cpy f g 0 0 n j = f j := by
  unfold va_cpy
  rw [if_pos (by omega)]
  congr 1
  omega
theorem kx_copyL {q : hS → Prop} (h : St Γ Φ S) (hd : Γ d = some (2, 2 + 10000 * i, i, 0, β)) (hs : Γ d' = some (2, 2 + 10000 * i', i', 0, β')) (hne : i ≠ i') (hf : fre Γ Φ (leN i)) (k : ∀ S', St Γ Φ S' → sam Γ (leN i) S S' → (∀ j, inLe j → leV S' d β j = leV S d' β' j) → q S') : w_X2_copyFrom q S d d' := by
  have hfr := frz_fre (S := S) hf (fun _ x => x)
  have hst := frz_St (L := leN i) h
  have back : ∀ S', St Γ (frz Γ Φ S (leN i)) S' → St Γ Φ S' ∧ sam Γ (leN i) S S' := fun S' h' => frz_un h h'
  generalize frz Γ Φ S (leN i) = Ψ at hfr hst back
  obtain ⟨d0, d1, d2, d3⟩ := leK h hd
  obtain ⟨s0, s1, s2, s3⟩ := leK h hs
  have src : ∀ S', St Γ Ψ S' → leV S' d' β' = leV S d' β' := fun S' h' => leV_sam h hs (back S' h').2 (by simp [leN]; omega)
  have srA : ∀ S' x τ, St Γ Ψ S' → Γ x = some τ → τ.2.1 ∉ leN i → aV S' x = aV S x := fun S' x τ h' hx hn => funext fun j => aV_cell ((back S' h').2.at h hx hn) j
  have srI : ∀ S' j, St Γ Ψ S' → fI S' d' j = fI S d' j := fun S' j h' => fI_cell ((back S' h').2.at h hs (by simp [leN]; omega)) j
  have z0 : (0 : Int32).toNatClampNeg = 0 := by decide
  have z0' : (0 : Int32).toInt = 0 := by decide
  unfold w_X2_copyFrom
  refine E_gP_2_0 hst hs (fun _ => E_gP_2_0 hst hd (fun _ => E_gP_2_0 hst hd (fun kb => T_aN_20 hst kb (fun x14 e14 => T_cI_20 hst s0 hfr d0 (by simp [leN]) (by omega) (fun S1 h1 q1 a1 o1 v1 => ?_)))))
  refine E_gP_2_1 h1 hs (fun _ => E_gP_2_1 h1 hd (fun _ => E_gP_2_1 h1 hd (fun kb => T_aN_20 h1 kb (fun x32 e32 => T_cI_20 h1 s1 hfr d1 (by simp [leN]) (by omega) (fun S2 h2 q2 a2 o2 v2 => ?_)))))
  refine E_gP_2_2 h2 hs (fun _ => E_gP_2_2 h2 hd (fun _ => E_gP_2_2 h2 hd (fun kb => T_aN_20 h2 kb (fun x50 e50 => T_cI_20 h2 s2 hfr d2 (by simp [leN]) (by omega) (fun S3 h3 q3 a3 o3 v3 => ?_)))))
  refine E_gP_2_3 h3 hs (fun _ => E_gP_2_3 h3 hd (fun _ => E_gP_2_3 h3 hd (fun kb => T_aN_20 h3 kb (fun x68 e68 => T_cI_20 h3 s3 hfr d3 (by simp [leN]) (by omega) (fun S4 h4 q4 a4 o4 v4 => ?_)))))
  refine T_gI_2_4 h4 hs (fun x74 e74 _ => T_pI_2_4 h4 hfr hd (by simp [leN]) (fun S5 h5 i5 q5 a5 => T_gI_2_5 h5 hs (fun x82 e82 _ => T_pI_2_5 h5 hfr hd (by simp [leN]) (fun S6 h6 i6 q6 a6 => ?_))))
  obtain ⟨g6, m6⟩ := back S6 h6
  refine k S6 g6 m6 (fun j hj => ?_)
  have c48 : ∀ {x : Int32} {n : Nat}, x.toInt = (n : Int) → x.toNatClampNeg = n := fun {x n} e => by have := cl_eq (i := x) (by omega); omega
  rw [z0, c48 e14] at v1
  rw [z0, c48 e32] at v2
  rw [z0, c48 e50] at v3
  rw [z0, c48 e68] at v4
  have n01 : β 0 ≠ β 1 := nmne d0 d1 (by dsimp only; omega)
  have n02 : β 0 ≠ β 2 := nmne d0 d2 (by dsimp only; omega)
  have n03 : β 0 ≠ β 3 := nmne d0 d3 (by dsimp only; omega)
  have n12 : β 1 ≠ β 2 := nmne d1 d2 (by dsimp only; omega)
  have n13 : β 1 ≠ β 3 := nmne d1 d3 (by dsimp only; omega)
  have n23 : β 2 ≠ β 3 := nmne d2 d3 (by dsimp only; omega)
  have A0 : ∀ t, t < 48 → aV S6 (β 0) t = aV S (β' 0) t := fun t ht => by
    rw [a6.1, a5.1, a4 _ t n03, a3 _ t n02, a2 _ t n01, v1, cpy_all ht]
  have A1 : ∀ t, t < 48 → aV S6 (β 1) t = aV S (β' 1) t := fun t ht => by
    rw [a6.1, a5.1, a4 _ t n13, a3 _ t n12, v2, cpy_all ht, srA S1 _ _ h1 s1 (by simp [leN]; omega)]
  have A2 : ∀ t, t < 6 → aV S6 (β 2) t = aV S (β' 2) t := fun t ht => by
    rw [a6.1, a5.1, a4 _ t n23, v3, cpy_all ht, srA S2 _ _ h2 s2 (by simp [leN]; omega)]
  have A3 : ∀ t, t < 8 → aV S6 (β 3) t = aV S (β' 3) t := fun t ht => by
    rw [a6.1, a5.1, v4, cpy_all ht, srA S3 _ _ h3 s3 (by simp [leN]; omega)]
  have F4 : fI S6 d 4 = fI S d' 4 := by rw [q6.I (by omega), i5, e74, srI S4 4 h4]
  have F5 : fI S6 d 5 = fI S d' 5 := by rw [i6, e82, srI S5 5 h5]
  unfold inLe at hj
  unfold leV
  rw [F4, F5]
  by_cases c : j = 5
  · rw [if_pos c, if_pos c]
  rw [if_neg c, if_neg c]
  by_cases c1 : j < 14
  · rw [if_pos c1, if_pos c1]; exact A2 _ (by omega)
  rw [if_neg c1, if_neg c1]
  by_cases c2 : j < 22
  · rw [if_pos c2, if_pos c2]; exact A3 _ (by omega)
  rw [if_neg c2, if_neg c2]
  by_cases c3 : j < 30
  · rw [if_pos c3, if_pos c3]
  rw [if_neg c3, if_neg c3]
  by_cases c4 : j < 78
  · rw [if_pos c4, if_pos c4]; exact A0 _ (by omega)
  · rw [if_neg c4, if_neg c4]; exact A1 _ (by omega)
/-- what can be undone: kinds and rows, the oldest first -/
abbrev uL : Type := List (Nat × (Nat → Int32))
def lgS (Γ : kG) (S : hS) (g : Nat) (ρg : Nat → Nat) (us : uL) : Prop := ∃ nx : Nat, nx < 16 ∧ us.length ≤ 16 ∧ fI S g 2 = nI nx ∧ fI S g 3 = nI us.length ∧ ∀ k, (h : k < us.length) → aV S (ρg 1) ((nx + 16 - us.length + k) % 16) = nI (us[k]).1 ∧ (us[k]).1 ≤ 3 ∧ ∃ d β, aO S (ρg 0) ((nx + 16 - us.length + k) % 16) = some d ∧ Γ d = some (2, 2 + 10000 * (10 + (nx + 16 - us.length + k) % 16), 10 + (nx + 16 - us.length + k) % 16, 0, β) ∧ ∀ j, inLe j → leV S d β j = (us[k]).2 j
def pushU (us : uL) (x : Nat × (Nat → Int32)) : uL := (if us.length = 16 then us.tail else us) ++ [x]
theorem lgS.sm {S' : hS} {A : List Nat} {us : uL} (h : lgS Γ S g ρg us) (hs : St Γ Φ S) (hg : Γ g = some (3, 3, 0, 0, ρg)) (hm : sam Γ A S S') (hA : 3 ∉ A ∧ 400 ∉ A ∧ 401 ∉ A ∧ ∀ j, j < 16 → ∀ x ∈ leN (10 + j), x ∉ A) : lgS Γ S' g ρg us := by
  obtain ⟨nx, h1, h2, h3, h4, h5⟩ := h
  obtain ⟨a1, a2, a3, a4⟩ := hA
  have wg := hm.at hs hg a1
  have w0 := hm.at hs (P_3_0 hs hg).2 a2
  have w1 := hm.at hs (P_3_1 hs hg).2 a3
  refine ⟨nx, h1, h2, by rw [fI_cell wg]; exact h3, by rw [fI_cell wg]; exact h4, fun k hk => ?_⟩
  obtain ⟨e1, e2, d, β, e3, e4, e5⟩ := h5 k hk
  refine ⟨by rw [aV_cell w1]; exact e1, e2, d, β, by rw [aO_cell w0]; exact e3, e4, fun j hj => ?_⟩
  rw [leV_sam hs e4 hm (a4 _ (Nat.mod_lt _ (by omega)))]
  exact e5 j hj
theorem lgS.gr {Γ' : kG} {us : uL} (h : lgS Γ S g ρg us) (hg : ∀ a τ, τ.1 ≠ 11 → Γ a = some τ → Γ' a = some τ) : lgS Γ' S g ρg us := by
  obtain ⟨nx, h1, h2, h3, h4, h5⟩ := h
  refine ⟨nx, h1, h2, h3, h4, fun k hk => ?_⟩
  obtain ⟨e1, e2, d, β, e3, e4, e5⟩ := h5 k hk
  exact ⟨e1, e2, d, β, e3, hg _ _ (show (2 : Nat) ≠ 11 by decide) e4, e5⟩
end LG
