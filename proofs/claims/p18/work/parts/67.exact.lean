/-! LAYER 2, the class: what its methods do to a suburb's row, to the tape -/
theorem pIx {z : Int32} (m : Nat) (hm : m < 2 ^ 31) (h1 : 0 ≤ z.toInt) (h2 : z.toInt < m) : ∃ n : Nat, n < m ∧ z = nI n := by
  refine ⟨z.toInt.toNat, by omega, ?_⟩
  apply Int32.toInt_inj.mp
  rw [nI_toInt (by omega)]
  omega
/-- the row with a house more -/
def hsR (f : Nat → Int32) (n : Nat) (p r : Int32) : Nat → Int32 := fun i => if i = 0 then nI (n + 1) else if i = 126 + n then p else if i = 132 + n then r else if i = 8 + n then 0 else if 30 ≤ i ∧ i < 126 ∧ i % 6 = n then 0 else f i
def hsL (f : Nat → Int32) (n m : Nat) : Nat → Int32 := fun i => if 30 ≤ i ∧ i < 126 ∧ i % 6 = n ∧ ((i - 30) / 6) % 8 < m then 0 else f i
/-- the row with a person more (but for the dead) -/
def psR (f : Nat → Int32) (n : Nat) (p a m : Int32) : Nat → Int32 := fun i => if i = 1 then nI (n + 1) else if i = 138 + n then p else if i = 146 + n then a else if i = 154 + n then -1 else if i = 162 + n then 0 else if i = 14 + n then m else if 30 ≤ i ∧ i < 126 ∧ ((i - 30) / 6) % 8 = n then 0 else f i
def psL (f : Nat → Int32) (n m : Nat) : Nat → Int32 := fun i => if 30 ≤ i ∧ i < 126 ∧ ((i - 30) / 6) % 8 = n ∧ i % 6 < m then 0 else f i
section EXACT
variable {Γ : kG} {Φ : kF} {S : hS} {a b c n o i i' : Nat} {ρ ρ' ρa : Nat → Nat} {rs : Nat} {tx : Nat → Nat}
theorem kx_isWithin {q : Int32 → hS → Prop} {v w : Int32} (k0 : ¬ (0 ≤ v.toInt ∧ v.toInt ≤ w.toInt) → q 0 S) (k1 : (0 ≤ v.toInt ∧ v.toInt ≤ w.toInt) → q 1 S) : w_X11_isWithin q S v w := by
  unfold w_X11_isWithin
  simp only [Int32.lt_iff_toInt_lt, z0I]
  exact ⟨fun c => k0 (by omega), fun c => ⟨fun c2 => k0 (by omega), fun c2 => k1 (by omega)⟩⟩
theorem kx_X8_hasPerson {q : Int32 → hS → Prop} {v : Int32} (h : St Γ Φ S) (hb : Γ b = some (8, 8 + 10000 * i, i, 0, ρ)) (h0 : ¬ (0 ≤ v.toInt ∧ v.toInt < (sV S b ρ 1).toInt) → q 0 S) (h1 : 0 ≤ v.toInt → v.toInt < (sV S b ρ 1).toInt → (sV S b ρ 1).toInt ≤ 8 → q 1 S) : w_X8_hasPerson q S b v := by
  unfold w_X8_hasPerson
  simp only [Int32.lt_iff_toInt_lt, Int32.le_iff_toInt_le, z0I]
  exact ⟨fun c => h0 (by omega), fun c => V_gI_4 h hb (fun r => ⟨fun c2 => h0 (by omega), fun c2 => h1 (by omega) (by omega) r.2⟩)⟩
theorem kx_X8_hasHouse {q : Int32 → hS → Prop} {v : Int32} (h : St Γ Φ S) (hb : Γ b = some (8, 8 + 10000 * i, i, 0, ρ)) (h0 : ¬ (0 ≤ v.toInt ∧ v.toInt < (sV S b ρ 0).toInt) → q 0 S) (h1 : 0 ≤ v.toInt → v.toInt < (sV S b ρ 0).toInt → (sV S b ρ 0).toInt ≤ 6 → q 1 S) : w_X8_hasHouse q S b v := by
  unfold w_X8_hasHouse
  simp only [Int32.lt_iff_toInt_lt, Int32.le_iff_toInt_le, z0I]
  exact ⟨fun c => h0 (by omega), fun c => V_gI_1 h hb (fun r => ⟨fun c2 => h0 (by omega), fun c2 => h1 (by omega) (by omega) r.2⟩)⟩
theorem kx_slot {q : Int32 → hS → Prop} {p h : Nat} (k : q (nI (p * 6 + h)) S) : w_X11_slot q S (nI p) (nI h) := by
  unfold w_X11_slot
  rw [lit_nI 6, nImul, nIadd]
  exact k
theorem kx_X8_addHouse {q : Int32 → hS → Prop} {v w : Int32} (h : St Γ Φ S) (hb : Γ b = some (8, 8 + 10000 * i, i, 0, ρ)) (hf : fre Γ Φ [8 + 10000 * i, 902 + 10000 * i, 903 + 10000 * i, 300 + 10000 * i, 301 + 10000 * i, 302 + 10000 * i]) (k0 : ¬ (sV S b ρ 0).toInt < 6 → q (-1) S) (k : ∀ n S', n < 6 → sV S b ρ 0 = nI n → St Γ Φ S' → sV S' b ρ = hsR (sV S b ρ) n v w → q (nI n) S') : w_X8_addHouse q S b v w := by
  have t6 : (6 : Int32).toInt = 6 := by decide
  unfold w_X8_addHouse
  refine V_gI_1 h hb (fun r0 => ⟨fun c => V_gI_1 h hb (fun _ => V_gI_1 h hb (fun _ => ?_)), fun c => k0 (fun z => c (by rw [Int32.lt_iff_toInt_lt, t6]; exact z))⟩)
  obtain ⟨n, hn, en⟩ := pIx 6 (by omega) r0.1 (by rw [Int32.lt_iff_toInt_lt, t6] at c; exact c)
  rw [en, nI_1]
  refine V_pI_1 h hb hf (by simp) (by rw [nI_toInt (by omega)]; omega) (fun S1 h1 v1 => E_gP_8_2 h1 hb (fun _ => V_sI_p h1 hb hf (by simp) (nI_toInt (by omega)) hn (fun S2 h2 v2 => E_gP_8_3 h2 hb (fun _ => V_sI_b h2 hb hf (by simp) (nI_toInt (by omega)) hn (fun S3 h3 v3 => E_gP_8_0 h3 hb (fun hg => E_gP_2_2 h3 hg (fun _ => V_sI_w h3 hb hf (by simp) (nI_toInt (by omega)) hn (fun S4 h4 v4 => ?_))))))))
  have key := loop_m (σ := hS × Nat) (fun t s => w_X8_addHouse_b53 q t s.1 b (nI n) (nI s.2)) (fun s => St Γ Φ s.1 ∧ s.2 ≤ 8 ∧ sV s.1 b ρ = hsL (sV S4 b ρ) n s.2) (fun s => 8 - s.2) ?_ (S4, 0) ⟨h4, Nat.zero_le _, ?_⟩
  · exact key
  · rintro t ⟨S5, m⟩ ⟨h5, hm, e⟩ ih
    dsimp only at h5 hm e ih ⊢
    rw [w_X8_addHouse_b53]
    refine ⟨fun c => ?_, fun c => E_gP_8_0 h5 hb (fun hg => E_gP_2_0 h5 hg (fun _ => ?_))⟩
    · have c := (nI_leI (a := 8) (b := m) (by omega) (by omega)).mp c
      have : m = 8 := by omega
      subst this
      refine k n S5 hn en h5 ?_
      rw [e, v4, v3, v2, v1]
      funext j
      unfold hsL hsR upd
      by_cases d0 : j = 0
      · subst d0; rw [if_neg (by omega), if_neg (by omega), if_neg (by omega), if_neg (by omega), if_pos rfl, if_pos rfl]
      · by_cases d1 : 30 ≤ j ∧ j < 126 ∧ j % 6 = n
        · rw [if_pos (by omega), if_neg d0, if_neg (by omega), if_neg (by omega), if_neg (by omega), if_pos d1]
        · rw [if_neg (by omega)]
          by_cases d2 : j = 8 + n
          · rw [if_pos d2, if_neg d0, if_neg (by omega), if_neg (by omega), if_pos d2]
          · rw [if_neg d2]
            by_cases d3 : j = 132 + n
            · rw [if_pos d3, if_neg d0, if_neg (by omega), if_pos d3]
            · rw [if_neg d3]
              by_cases d4 : j = 126 + n
              · rw [if_pos d4, if_neg d0, if_pos d4]
              · rw [if_neg d4, if_neg d0, if_neg d0, if_neg d4, if_neg d3, if_neg d2, if_neg d1]
    · have c : m < 8 := (nI_not_le (a := 8) (b := m) (by omega) (by omega)).mp c
      refine kx_slot (V_sI_r h5 hb hf (by simp) (nI_toInt (by omega)) (by omega) (fun S6 h6 v6 => E_gP_8_0 h6 hb (fun hg6 => E_gP_2_1 h6 hg6 (fun _ => kx_slot (V_sI_u h6 hb hf (by simp) (nI_toInt (by omega)) (by omega) (fun S7 h7 v7 y ey => ?_))))))
      rw [ey, nI_1]
      refine ih (S7, m + 1) ⟨h7, by dsimp only; omega, ?_⟩ (by dsimp only; omega)
      dsimp only
      rw [v7, v6, e]
      funext j
      unfold hsL upd
      dsimp only
      by_cases d1 : j = 78 + (m * 6 + n)
      · rw [if_pos d1, if_pos (by omega)]
      · rw [if_neg d1]
        by_cases d2 : j = 30 + (m * 6 + n)
        · rw [if_pos d2, if_pos (by omega)]
        · rw [if_neg d2]
          by_cases d3 : 30 ≤ j ∧ j < 126 ∧ j % 6 = n ∧ ((j - 30) / 6) % 8 < m
          · rw [if_pos d3, if_pos (by omega)]
          · rw [if_neg d3, if_neg (by omega)]
  · dsimp only
    funext j
    unfold hsL
    rw [if_neg (by omega)]
theorem kx_X8_addPerson {q : Int32 → hS → Prop} {v w u : Int32} (h : St Γ Φ S) (hb : Γ b = some (8, 8 + 10000 * i, i, 0, ρ)) (hf : fre Γ Φ [8 + 10000 * i, 2 + 10000 * i, 905 + 10000 * i, 906 + 10000 * i, 907 + 10000 * i, 908 + 10000 * i, 300 + 10000 * i, 301 + 10000 * i, 303 + 10000 * i]) (k0 : ¬ (sV S b ρ 1).toInt < 8 → q (-1) S) (k : ∀ n S', n < 8 → sV S b ρ 1 = nI n → St Γ Φ S' → (∀ j, ¬ (22 ≤ j ∧ j < 30) → sV S' b ρ j = psR (sV S b ρ) n v w u j) → q (nI n) S') : w_X8_addPerson q S b v w u := by
  have t8 : (8 : Int32).toInt = 8 := by decide
  unfold w_X8_addPerson
  refine V_gI_4 h hb (fun r0 => ⟨fun c => V_gI_4 h hb (fun _ => V_gI_4 h hb (fun _ => ?_)), fun c => k0 (fun z => c (by rw [Int32.lt_iff_toInt_lt, t8]; exact z))⟩)
  obtain ⟨n, hn, en⟩ := pIx 8 (by omega) r0.1 (by rw [Int32.lt_iff_toInt_lt, t8] at c; exact c)
  rw [en, nI_1]
  refine V_pI_4 h hb hf (by simp) (by rw [nI_toInt (by omega)]; omega) (fun S1 h1 v1 => E_gP_8_5 h1 hb (fun _ => V_sI_h h1 hb hf (by simp) (nI_toInt (by omega)) hn (fun S2 h2 v2 => E_gP_8_6 h2 hb (fun _ => V_sI_a h2 hb hf (by simp) (nI_toInt (by omega)) hn (fun S3 h3 v3 => E_gP_8_7 h3 hb (fun _ => V_sI_n h3 hb hf (by simp) (nI_toInt (by omega)) hn (fun S4 h4 v4 => E_gP_8_8 h4 hb (fun _ => V_sI_e h4 hb hf (by simp) (nI_toInt (by omega)) hn (fun S5 h5 v5 => E_gP_8_0 h5 hb (fun hg => E_gP_2_3 h5 hg (fun _ => V_sI_m h5 hb hf (by simp) (nI_toInt (by omega)) hn (fun S6 h6 v6 => E_gP_8_0 h6 hb (fun hg6 => T_gI_2_4 h6 hg6 (fun x75 _ _ => V_pI_d h6 hb hf (by simp) (fun S7 h7 v7 _ => ?_)))))))))))))))
  have key := loop_m (σ := hS × Nat) (fun t s => w_X8_addPerson_b91 q t s.1 b (nI n) (nI s.2)) (fun s => St Γ Φ s.1 ∧ s.2 ≤ 6 ∧ sV s.1 b ρ = psL (sV S7 b ρ) n s.2) (fun s => 6 - s.2) ?_ (S7, 0) ⟨h7, Nat.zero_le _, ?_⟩
  · exact key
  · rintro t ⟨S8, m⟩ ⟨h8, hm, e⟩ ih
    dsimp only at h8 hm e ih ⊢
    rw [w_X8_addPerson_b91]
    refine ⟨fun c => ?_, fun c => E_gP_8_0 h8 hb (fun hg => E_gP_2_0 h8 hg (fun _ => ?_))⟩
    · have c := (nI_leI (a := 6) (b := m) (by omega) (by omega)).mp c
      have : m = 6 := by omega
      subst this
      refine k n S8 hn en h8 (fun j hj => ?_)
      rw [e, v7, v6, v5, v4, v3, v2, v1]
      unfold psL psR upd
      dsimp only
      by_cases d0 : j = 1
      · subst d0; rw [if_neg (by omega), if_neg (by omega), if_neg (by omega), if_neg (by omega), if_neg (by omega), if_neg (by omega), if_neg (by omega), if_pos rfl, if_pos rfl]
      · by_cases d1 : 30 ≤ j ∧ j < 126 ∧ ((j - 30) / 6) % 8 = n
        · rw [if_pos (by omega), if_neg d0, if_neg (by omega), if_neg (by omega), if_neg (by omega), if_neg (by omega), if_neg (by omega), if_pos d1]
        · rw [if_neg (by omega), if_neg hj]
          by_cases d2 : j = 14 + n
          · rw [if_pos d2, if_neg d0, if_neg (by omega), if_neg (by omega), if_neg (by omega), if_neg (by omega), if_pos d2]
          · rw [if_neg d2]
            by_cases d3 : j = 162 + n
            · rw [if_pos d3, if_neg d0, if_neg (by omega), if_neg (by omega), if_neg (by omega), if_pos d3]
            · rw [if_neg d3]
              by_cases d4 : j = 154 + n
              · rw [if_pos d4, if_neg d0, if_neg (by omega), if_neg (by omega), if_pos d4]
              · rw [if_neg d4]
                by_cases d5 : j = 146 + n
                · rw [if_pos d5, if_neg d0, if_neg (by omega), if_pos d5]
                · rw [if_neg d5]
                  by_cases d6 : j = 138 + n
                  · rw [if_pos d6, if_neg d0, if_pos d6]
                  · rw [if_neg d6, if_neg d0, if_neg d0, if_neg d6, if_neg d5, if_neg d4, if_neg d3, if_neg d2, if_neg d1]
    · have c : m < 6 := (nI_not_le (a := 6) (b := m) (by omega) (by omega)).mp c
      refine kx_slot (V_sI_r h8 hb hf (by simp) (nI_toInt (by omega)) (by omega) (fun S9 h9 v9 => E_gP_8_0 h9 hb (fun hg9 => E_gP_2_1 h9 hg9 (fun _ => kx_slot (V_sI_u h9 hb hf (by simp) (nI_toInt (by omega)) (by omega) (fun S10 h10 v10 y ey => ?_))))))
      rw [ey, nI_1]
      refine ih (S10, m + 1) ⟨h10, by dsimp only; omega, ?_⟩ (by dsimp only; omega)
      dsimp only
      rw [v10, v9, e]
      funext j
      unfold psL upd
      dsimp only
      by_cases d1 : j = 78 + (n * 6 + m)
      · rw [if_pos d1, if_pos (by omega)]
      · rw [if_neg d1]
        by_cases d2 : j = 30 + (n * 6 + m)
        · rw [if_pos d2, if_pos (by omega)]
        · rw [if_neg d2]
          by_cases d3 : 30 ≤ j ∧ j < 126 ∧ ((j - 30) / 6) % 8 = n ∧ j % 6 < m
          · rw [if_pos d3, if_pos (by omega)]
          · rw [if_neg d3, if_neg (by omega)]
  · dsimp only
    funext j
    unfold psL
    rw [if_neg (by omega)]
/-- all of a ledger, of a suburb, is copied -/
theorem kx_X2_copyFrom {q : hS → Prop} (h : St Γ Φ S) (hb : Γ b = some (8, 8 + 10000 * i, i, 0, ρ)) (ha : Γ a = some (8, 8 + 10000 * i', i', 0, ρ')) (hne : i ≠ i') (hf : fre Γ Φ [2 + 10000 * i, 300 + 10000 * i, 301 + 10000 * i, 302 + 10000 * i, 303 + 10000 * i]) (k : ∀ S', St Γ Φ S' → (∀ j, (5 = j ∨ (8 ≤ j ∧ j < 126)) → sV S' b ρ j = sV S a ρ' j) → (∀ j, ¬ (5 = j ∨ (8 ≤ j ∧ j < 126)) → sV S' b ρ j = sV S b ρ j) → q S') : w_X2_copyFrom q S (ρ 0) (ρ' 0) := by
  -- what is copied from stays
  have hfr : fre Γ (frz Γ Φ S [2 + 10000 * i, 300 + 10000 * i, 301 + 10000 * i, 302 + 10000 * i, 303 + 10000 * i]) [2 + 10000 * i, 300 + 10000 * i, 301 + 10000 * i, 302 + 10000 * i, 303 + 10000 * i] := frz_fre hf (fun _ x => x)
  have hst := frz_St (L := [2 + 10000 * i, 300 + 10000 * i, 301 + 10000 * i, 302 + 10000 * i, 303 + 10000 * i]) h
  have src : ∀ S', St Γ (frz Γ Φ S [2 + 10000 * i, 300 + 10000 * i, 301 + 10000 * i, 302 + 10000 * i, 303 + 10000 * i]) S' → sV S' a ρ' = sV S a ρ' := fun S' h' => sV_sam h ha (frz_un h h').2 (by simp only [List.mem_cons, List.not_mem_nil, or_false]; omega)
  have k' : ∀ S', St Γ (frz Γ Φ S [2 + 10000 * i, 300 + 10000 * i, 301 + 10000 * i, 302 + 10000 * i, 303 + 10000 * i]) S' → (∀ j, (5 = j ∨ (8 ≤ j ∧ j < 126)) → sV S' b ρ j = sV S a ρ' j) → (∀ j, ¬ (5 = j ∨ (8 ≤ j ∧ j < 126)) → sV S' b ρ j = sV S b ρ j) → q S' := fun S' h' => k S' (frz_un h h').1
  generalize frz Γ Φ S [2 + 10000 * i, 300 + 10000 * i, 301 + 10000 * i, 302 + 10000 * i, 303 + 10000 * i] = Ψ at hfr hst src k'
  have hgb := (P_8_0 h hb).2
  have hga := (P_8_0 h ha).2
  unfold w_X2_copyFrom
  refine E_gP_2_0 hst hga (fun _ => E_gP_2_0 hst hgb (fun kb => E_gP_2_0 hst hgb (fun _ => T_aN_20 hst kb (fun x14 e14 => V_cI_r hst hb ha hfr (by simp) rfl e14 (fun S1 h1 v1 => ?_)))))
  refine E_gP_2_1 h1 hga (fun _ => E_gP_2_1 h1 hgb (fun kb => E_gP_2_1 h1 hgb (fun _ => T_aN_20 h1 kb (fun x32 e32 => V_cI_u h1 hb ha hfr (by simp) rfl e32 (fun S2 h2 v2 => ?_)))))
  refine E_gP_2_2 h2 hga (fun _ => E_gP_2_2 h2 hgb (fun kb => E_gP_2_2 h2 hgb (fun _ => T_aN_20 h2 kb (fun x50 e50 => V_cI_w h2 hb ha hfr (by simp) rfl e50 (fun S3 h3 v3 => ?_)))))
  refine E_gP_2_3 h3 hga (fun _ => E_gP_2_3 h3 hgb (fun kb => E_gP_2_3 h3 hgb (fun _ => T_aN_20 h3 kb (fun x68 e68 => V_cI_m h3 hb ha hfr (by simp) rfl e68 (fun S4 h4 v4 => ?_)))))
  refine T_gI_2_4 h4 hga (fun x74 e74 _ => V_pI_d h4 hb hfr (by simp) (fun S5 h5 v5 _ => V_gI_y h5 ha (V_pI_y h5 hb hfr (by simp) (fun S6 h6 v6 => k' S6 h6 ?_ ?_))))
  · intro j hj
    rw [v6, v5, v4, v3, v2, v1, src S5 h5, src S3 h3, src S2 h2, src S1 h1]
    unfold upd
    dsimp only
    by_cases d0 : j = 5
    · rw [if_pos d0, d0]
    · rw [if_neg d0]
      by_cases d1 : 22 ≤ j ∧ j < 30
      · rw [if_pos d1, e74, sV_k (S := S4) (b := a) (by omega), src S4 h4, show 22 + (j - 22) = j by omega]
      · rw [if_neg d1]
        by_cases d2 : 14 ≤ j ∧ j < 22
        · rw [if_pos d2]
        · rw [if_neg d2]
          by_cases d3 : 8 ≤ j ∧ j < 14
          · rw [if_pos d3]
          · rw [if_neg d3]
            by_cases d4 : 78 ≤ j ∧ j < 126
            · rw [if_pos d4]
            · rw [if_neg d4, if_pos (by omega)]
  · intro j hj
    rw [v6, v5, v4, v3, v2, v1]
    unfold upd
    dsimp only
    rw [if_neg (by omega), if_neg (by omega), if_neg (by omega), if_neg (by omega), if_neg (by omega), if_neg (by omega)]
theorem sV_hi {j : Nat} (hj : 182 ≤ j) : sV S b ρ j = 0 := by
  unfold sV
  rw [if_neg (by omega), if_neg (by omega), if_neg (by omega), if_neg (by omega), if_neg (by omega), if_neg (by omega), if_neg (by omega), if_neg (by omega), if_neg (by omega), if_neg (by omega), if_neg (by omega), if_neg (by omega), if_neg (by omega)]
theorem kx_X8_copyFrom {q : hS → Prop} (h : St Γ Φ S) (hb : Γ b = some (8, 8 + 10000 * i, i, 0, ρ)) (ha : Γ a = some (8, 8 + 10000 * i', i', 0, ρ')) (hne : i ≠ i') (hf : fre Γ Φ [2 + 10000 * i, 300 + 10000 * i, 301 + 10000 * i, 302 + 10000 * i, 303 + 10000 * i, 8 + 10000 * i, 902 + 10000 * i, 903 + 10000 * i, 905 + 10000 * i, 906 + 10000 * i, 907 + 10000 * i, 908 + 10000 * i, 910 + 10000 * i, 911 + 10000 * i, 915 + 10000 * i]) (k : ∀ S', St Γ Φ S' → sV S' b ρ = sV S a ρ' → (∀ j, j < 6 → aO S' (ρ 15) j = aO S (ρ' 15) j) → q S') : w_X8_copyFrom q S b a := by
  have hfr : fre Γ (frz Γ Φ S [2 + 10000 * i, 300 + 10000 * i, 301 + 10000 * i, 302 + 10000 * i, 303 + 10000 * i, 8 + 10000 * i, 902 + 10000 * i, 903 + 10000 * i, 905 + 10000 * i, 906 + 10000 * i, 907 + 10000 * i, 908 + 10000 * i, 910 + 10000 * i, 911 + 10000 * i, 915 + 10000 * i]) [2 + 10000 * i, 300 + 10000 * i, 301 + 10000 * i, 302 + 10000 * i, 303 + 10000 * i, 8 + 10000 * i, 902 + 10000 * i, 903 + 10000 * i, 905 + 10000 * i, 906 + 10000 * i, 907 + 10000 * i, 908 + 10000 * i, 910 + 10000 * i, 911 + 10000 * i, 915 + 10000 * i] := frz_fre hf (fun _ x => x)
  have hst := frz_St (L := [2 + 10000 * i, 300 + 10000 * i, 301 + 10000 * i, 302 + 10000 * i, 303 + 10000 * i, 8 + 10000 * i, 902 + 10000 * i, 903 + 10000 * i, 905 + 10000 * i, 906 + 10000 * i, 907 + 10000 * i, 908 + 10000 * i, 910 + 10000 * i, 911 + 10000 * i, 915 + 10000 * i]) h
  have src : ∀ S', St Γ (frz Γ Φ S [2 + 10000 * i, 300 + 10000 * i, 301 + 10000 * i, 302 + 10000 * i, 303 + 10000 * i, 8 + 10000 * i, 902 + 10000 * i, 903 + 10000 * i, 905 + 10000 * i, 906 + 10000 * i, 907 + 10000 * i, 908 + 10000 * i, 910 + 10000 * i, 911 + 10000 * i, 915 + 10000 * i]) S' → sV S' a ρ' = sV S a ρ' := fun S' h' => sV_sam h ha (frz_un h h').2 (by simp only [List.mem_cons, List.not_mem_nil, or_false]; omega)
  have srO : ∀ S', St Γ (frz Γ Φ S [2 + 10000 * i, 300 + 10000 * i, 301 + 10000 * i, 302 + 10000 * i, 303 + 10000 * i, 8 + 10000 * i, 902 + 10000 * i, 903 + 10000 * i, 905 + 10000 * i, 906 + 10000 * i, 907 + 10000 * i, 908 + 10000 * i, 910 + 10000 * i, 911 + 10000 * i, 915 + 10000 * i]) S' → ∀ j, aO S' (ρ' 15) j = aO S (ρ' 15) j := fun S' h' => aO_cell ((frz_un h h').2.at h (P_8_15 h ha).2 (by simp only [List.mem_cons, List.not_mem_nil, or_false]; omega))
  have k' : ∀ S', St Γ (frz Γ Φ S [2 + 10000 * i, 300 + 10000 * i, 301 + 10000 * i, 302 + 10000 * i, 303 + 10000 * i, 8 + 10000 * i, 902 + 10000 * i, 903 + 10000 * i, 905 + 10000 * i, 906 + 10000 * i, 907 + 10000 * i, 908 + 10000 * i, 910 + 10000 * i, 911 + 10000 * i, 915 + 10000 * i]) S' → sV S' b ρ = sV S a ρ' → (∀ j, j < 6 → aO S' (ρ 15) j = aO S (ρ' 15) j) → q S' := fun S' h' => k S' (frz_un h h').1
  generalize frz Γ Φ S [2 + 10000 * i, 300 + 10000 * i, 301 + 10000 * i, 302 + 10000 * i, 303 + 10000 * i, 8 + 10000 * i, 902 + 10000 * i, 903 + 10000 * i, 905 + 10000 * i, 906 + 10000 * i, 907 + 10000 * i, 908 + 10000 * i, 910 + 10000 * i, 911 + 10000 * i, 915 + 10000 * i] = Ψ at hfr hst src srO k'
  have hgb := (P_8_0 h hb).2
  unfold w_X8_copyFrom
  refine E_gP_8_0 hst hb (fun _ => E_gP_8_0 hst ha (fun _ => T_oK_2 hst hgb (kx_X2_copyFrom hst hb ha hne (hfr.sub (by simp)) (fun S0 h0 u0 w0 => ?_))))
  refine V_gI_1 h0 ha (fun r => V_pI_1 h0 hb hfr (by simp) r (fun S1 h1 v1 => ?_))
  refine E_gP_8_2 h1 ha (fun _ => E_gP_8_2 h1 hb (fun kb => E_gP_8_2 h1 hb (fun _ => T_aN_20 h1 kb (fun x e => V_cI_p h1 hb ha hfr (by simp) rfl e (fun S2 h2 v2 => ?_)))))
  refine E_gP_8_3 h2 ha (fun _ => E_gP_8_3 h2 hb (fun kb => E_gP_8_3 h2 hb (fun _ => T_aN_20 h2 kb (fun x e => V_cI_b h2 hb ha hfr (by simp) rfl e (fun S3 h3 v3 => ?_)))))
  refine V_gI_4 h3 ha (fun r => V_pI_4 h3 hb hfr (by simp) r (fun S4 h4 v4 => ?_))
  refine E_gP_8_5 h4 ha (fun _ => E_gP_8_5 h4 hb (fun kb => E_gP_8_5 h4 hb (fun _ => T_aN_20 h4 kb (fun x e => V_cI_h h4 hb ha hfr (by simp) rfl e (fun S5 h5 v5 => ?_)))))
  refine E_gP_8_6 h5 ha (fun _ => E_gP_8_6 h5 hb (fun kb => E_gP_8_6 h5 hb (fun _ => T_aN_20 h5 kb (fun x e => V_cI_a h5 hb ha hfr (by simp) rfl e (fun S6 h6 v6 => ?_)))))
  refine E_gP_8_7 h6 ha (fun _ => E_gP_8_7 h6 hb (fun kb => E_gP_8_7 h6 hb (fun _ => T_aN_20 h6 kb (fun x e => V_cI_n h6 hb ha hfr (by simp) rfl e (fun S7 h7 v7 => ?_)))))
  refine E_gP_8_8 h7 ha (fun _ => E_gP_8_8 h7 hb (fun kb => E_gP_8_8 h7 hb (fun _ => T_aN_20 h7 kb (fun x e => V_cI_e h7 hb ha hfr (by simp) rfl e (fun S8 h8 v8 => ?_)))))
  refine V_gI_9 h8 ha (fun r => V_pI_9 h8 hb hfr (by simp) r (fun S9 h9 v9 => ?_))
  refine E_gP_8_10 h9 ha (fun _ => E_gP_8_10 h9 hb (fun kb => E_gP_8_10 h9 hb (fun _ => T_aN_21 h9 kb (fun x e => V_cI_c h9 hb ha hfr (by simp) rfl e (fun S10 h10 v10 => ?_)))))
  refine E_gP_8_11 h10 ha (fun _ => E_gP_8_11 h10 hb (fun kb => E_gP_8_11 h10 hb (fun _ => T_aN_20 h10 kb (fun x e => V_cI_d h10 hb ha hfr (by simp) rfl e (fun S11 h11 v11 => ?_)))))
  refine V_gI_12 h11 ha (V_pI_12 h11 hb hfr (by simp) (fun S12 h12 v12 => V_gI_13 h12 ha (V_pI_13 h12 hb hfr (by simp) (fun S13 h13 v13 => V_gI_14 h13 ha (fun r => V_pI_14 h13 hb hfr (by simp) r (fun S14 h14 v14 => ?_))))))
  refine loop_m (σ := hS × Nat) (fun t s => w_X8_copyFrom_b205 q t s.1 b a (nI s.2)) (fun s => St Γ Ψ s.1 ∧ s.2 ≤ 6 ∧ sV s.1 b ρ = sV S14 b ρ ∧ ∀ j, j < s.2 → aO s.1 (ρ 15) j = aO S (ρ' 15) j) (fun s => 6 - s.2) ?_ (S14, 0) ⟨h14, Nat.zero_le _, rfl, fun j hj => absurd hj (Nat.not_lt_zero j)⟩
  rintro t ⟨S15, m⟩ ⟨h15, hm, e, eo⟩ ih
  dsimp only at h15 hm e eo ih ⊢
  rw [w_X8_copyFrom_b205]
  refine ⟨fun c => V_gI_16 h15 ha (T_pI_8_16 h15 hfr hb (by simp) (fun S16 h16 e1 e2 e3 => k' S16 h16 ?_ (fun j hj => ?_))), fun c => ?_⟩
  · rw [sV_p16 h15 hb e1 e2 e3, e, v14, v13, v12, v11, v10, v9, v8, v7, v6, v5, v4, v3, v2, v1, src S15 h15, src S13 h13, src S12 h12, src S11 h11, src S10 h10, src S9 h9, src S8 h8, src S7 h7, src S6 h6, src S5 h5, src S4 h4, src S3 h3, src S2 h2, src S1 h1, src S0 h0]
    have u1 := u0
    funext j
    unfold upd
    dsimp only
    by_cases d0 : j = 4
    · rw [if_pos d0, d0]
    rw [if_neg d0]
    by_cases d1 : j = 3
    · rw [if_pos d1, d1]
    rw [if_neg d1]
    by_cases d2 : j = 7
    · rw [if_pos d2, d2]
    rw [if_neg d2]
    by_cases d3 : j = 6
    · rw [if_pos d3, d3]
    rw [if_neg d3]
    by_cases d4 : 171 ≤ j ∧ j < 182 ∧ j % 2 = 1
    · rw [if_pos d4]
    rw [if_neg d4]
    by_cases d5 : 170 ≤ j ∧ j < 181 ∧ j % 2 = 0
    · rw [if_pos d5]
    rw [if_neg d5]
    by_cases d6 : j = 2
    · rw [if_pos d6, d6]
    rw [if_neg d6]
    by_cases d7 : 162 ≤ j ∧ j < 170
    · rw [if_pos d7]
    rw [if_neg d7]
    by_cases d8 : 154 ≤ j ∧ j < 162
    · rw [if_pos d8]
    rw [if_neg d8]
    by_cases d9 : 146 ≤ j ∧ j < 154
    · rw [if_pos d9]
    rw [if_neg d9]
    by_cases d10 : 138 ≤ j ∧ j < 146
    · rw [if_pos d10]
    rw [if_neg d10]
    by_cases d11 : j = 1
    · rw [if_pos d11, d11]
    rw [if_neg d11]
    by_cases d12 : 132 ≤ j ∧ j < 138
    · rw [if_pos d12]
    rw [if_neg d12]
    by_cases d13 : 126 ≤ j ∧ j < 132
    · rw [if_pos d13]
    rw [if_neg d13]
    by_cases d14 : j = 0
    · rw [if_pos d14, d14]
    rw [if_neg d14]
    by_cases d15 : 5 = j ∨ (8 ≤ j ∧ j < 126)
    · rw [u0 j d15]
    · rw [sV_hi (by omega), sV_hi (by omega)]
  · rw [e3.2]
    have c := (nI_leI (a := 6) (b := m) (by omega) (by omega)).mp c
    exact eo j (by omega)
  · have c : m < 6 := (nI_not_le (a := 6) (b := m) (by omega) (by omega)).mp c
    have r := nI_toInt (n := m) (by omega)
    refine E_gP_8_15 h15 hb (fun kd => E_gP_8_15 h15 ha (fun ks => T_aR_28 h15 ks (by omega) (fun x ex hx => T_stR_28 h15 hfr kd (by simp) (by omega) hx (fun S16 h16 e1 e2 e3 e4 y ey => ?_))))
    rw [ey, nI_1]
    refine ih (S16, m + 1) ⟨h16, by dsimp only; omega, ?_, fun j hj => ?_⟩ (by dsimp only; omega)
    · dsimp only
      rw [← e]
      exact sV_congr (fun k => e1.I _ _) (fun k => e1.I _ _) (e2 _) (e2 _) (e2 _) (e2 _) (e2 _) (e2 _) (e2 _) (e2 _) (e2 _) (e2 _) (e2 _) (e2 _)
    · dsimp only at hj ⊢
      rw [nI_clamp (by omega)] at e4 ex
      rw [e4]
      by_cases d : j = m
      · rw [if_pos d, ex, d, srO S15 h15]
      · rw [if_neg d]; exact eo j (by omega)
/-! the tape -/
theorem kx_X9_addFour {q : hS → Prop} {v : Int32} {m : Nat} (h : St Γ Φ S) (ht : Γ a = some (9, 9, 0, 0, ρa)) (hf : fre Γ Φ [9, 1000]) (hm : m + 4 ≤ 400) (em : fI S a 1 = nI m) (k : ∀ S', St Γ Φ S' → fI S' a 1 = nI (m + 4) → aV S' (ρa 0) = fo4 (aV S (ρa 0)) m v → q S') : w_X9_addFour q S a v := by
  have key : ∀ (S : hS) (j : Nat), St Γ Φ S → fI S a 1 = nI j → j < 400 → ∀ n (b1 b2 : Int32), ¬ b1 < 0 → b2 = b1 + (-8) → (∀ S', St Γ Φ S' → fI S' a 1 = nI (j + 1) → aV S' (ρa 0) = upd (aV S (ρa 0)) j ((v >>> (b1 &&& 31)) &&& 255) → w_X9_addFour_b3 q n S' a v b2) → w_X9_addFour_b3 q (n + 1) S a v b1 := by
    intro S j h ej hj n b1 b2 hb eb hw
    have r := nI_toInt (n := j) (by omega)
    rw [w_X9_addFour_b3]
    refine ⟨fun z => absurd z hb, fun _ => T_gI_9_1 h ht (fun x8 e8 _ => ⟨fun c => ?_, fun _ => E_gP_9_0 h ht (fun kb => T_gI_9_1 h ht (fun x22 e22 _ => T_sI_22 h hf kb (by simp) (by rw [e22, ej]; omega) (and255 _) (fun S1 h1 q1 _ _ a1 => T_gI_9_1 h1 ht (fun x35 e35 _ => T_pI_9_1 h1 hf ht (by simp) ?_ (fun S2 h2 i2 _ a2 y ey => ?_)))))⟩)⟩
    · rw [e8, ej] at c
      exact absurd ((nI_leI (a := 400) (b := j) (by omega) (by omega)).mp c) (by omega)
    · rw [e35, q1.I, ej, nI_1, nI_toInt (by omega)]
      omega
    · rw [ey, ← eb]
      refine hw S2 h2 (by rw [i2, e35, q1.I, ej, nI_1]) (funext fun t => ?_)
      rw [a2.1, a1, e22, ej, nI_clamp (by omega)]
      rfl
  refine ⟨5, key S m h em (by omega) 4 24 16 (by decide) (by decide) (fun S1 h1 e1 f1 => key S1 (m + 1) h1 e1 (by omega) 3 16 8 (by decide) (by decide) (fun S2 h2 e2 f2 => key S2 (m + 2) h2 e2 (by omega) 2 8 0 (by decide) (by decide) (fun S3 h3 e3 f3 => key S3 (m + 3) h3 e3 (by omega) 1 0 (-8) (by decide) (by decide) (fun S4 h4 e4 f4 => ?_))))⟩
  rw [w_X9_addFour_b3]
  exact ⟨fun _ => k S4 h4 e4 (by rw [f4, f3, f2, f1]; rfl), fun c => absurd (by decide) c⟩
end EXACT
