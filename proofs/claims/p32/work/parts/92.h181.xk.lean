/-! AN EXCHANGE: the search and the masks come to the same -/
def cvX (F : Nat → Int32) (n : Nat) (f : Nat → Nat) (k t : Nat) : Int := if alX F n f k t = true then VXs n (edF F) (upN f k t) (k + 1) else -1
section XK
variable {n : Nat} {F : Nat → Int32} {f g : Nat → Nat}
theorem ed_w : ∀ k t, edF F k t = true → 0 ≤ iR F (154 + k) := fun _ _ h => (edF_iff.mp h).2.2.1
theorem cv_t (hn : n ≤ 8) {k t : Nat} (hk : k < n) (hr : RXs F n f k) (hI : IXs n f k) (ht : t < n) : cvX F n f k t = if t ≠ k ∧ 0 ≤ opX (edF F) (MX n (edF F)) k (mkQ n f k) t then (cntP n f k : Int) + opX (edF F) (MX n (edF F)) k (mkQ n f k) t else -1 := by
  have p2 := pw_256 n (by omega)
  have ml := mkQ_lt k (by omega) hr
  have b := MX_b (n := n) (ed := edF F) (mkQ n f k ||| 2 ^ t)
  have hI : cnA (mkQ n f k) = k := hI
  obtain ⟨u1, u2⟩ := mkQ_up (n := n) (f := f) (k := k) (t := t)
  rw [if_neg (by omega)] at u1 u2
  unfold cvX
  by_cases al : alX F n f k t = true
  · rw [if_pos al]
    have ag : alG F n f k t = true := by
      rcases alX_iff.mp al with z | z
      · omega
      · exact z
    obtain ⟨a1, a2, a3, a4, a5⟩ := al_no ag
    have nb : (mkQ n f k).testBit t = false := bit_no (fun z => by
      obtain ⟨i, i1, i2⟩ := (mkQ_bit k).mp z
      by_cases ci : f i = n
      · have : piX n f i = i := if_pos ci
        rw [this] at i2
        rw [i2] at i1 ci
        exact a5 ⟨i1, ci⟩
      · have : piX n f i = f i := if_neg ci
        rw [this] at i2
        exact a4 i i1 i2)
    have cn := mk_cn _ (by omega) t (by omega) nb
    unfold VXs
    rw [u1, u2]
    unfold opX
    rw [nb, if_neg (by decide : ¬ false = true)]
    by_cases r0 : 0 ≤ MX n (edF F) (mkQ n f k ||| 2 ^ t)
    · have eo : (if MX n (edF F) (mkQ n f k ||| 2 ^ t) = -1 ∨ k = t then MX n (edF F) (mkQ n f k ||| 2 ^ t) else if edF F k t = true then MX n (edF F) (mkQ n f k ||| 2 ^ t) + 1 else -1) = MX n (edF F) (mkQ n f k ||| 2 ^ t) + 1 := by rw [if_neg (by omega), if_pos a1]
      rw [eo, if_pos ⟨by omega, r0⟩, if_pos ⟨a2, by omega⟩]
      omega
    · have eo : (if MX n (edF F) (mkQ n f k ||| 2 ^ t) = -1 ∨ k = t then MX n (edF F) (mkQ n f k ||| 2 ^ t) else if edF F k t = true then MX n (edF F) (mkQ n f k ||| 2 ^ t) + 1 else -1) = MX n (edF F) (mkQ n f k ||| 2 ^ t) := if_pos (Or.inl (by omega))
      rw [eo, if_neg (fun z => r0 z.2), if_neg (fun z => r0 z.2)]
  · rw [if_neg al, if_neg]
    rintro ⟨z1, z2⟩
    apply al
    have nb : (mkQ n f k).testBit t = false := bit_no (fun z => by
      unfold opX at z2
      rw [if_pos z] at z2
      omega)
    have cn := mk_cn _ (by omega) t (by omega) nb
    have no : ∀ i, i < k → piX n f i ≠ t := fun i hi e => by
      have := (mkQ_bit k).mpr ⟨i, hi, e⟩
      rw [nb] at this
      cases this
    unfold opX at z2
    rw [nb, if_neg (by decide : ¬ false = true)] at z2
    have r0 : 0 ≤ MX n (edF F) (mkQ n f k ||| 2 ^ t) := by
      split at z2
      · exact z2
      · split at z2 <;> omega
    rw [if_neg (by omega)] at z2
    have a1 : edF F k t = true := by
      by_cases e : edF F k t = true
      · exact e
      · rw [if_neg e] at z2
        omega
    refine alX_iff.mpr (Or.inr (al_yes a1 z1 ?_ (fun i hi e => no i hi ?_) (fun e => no t e.1 (if_pos e.2))))
    · by_cases c : t < k
      · have hf := hr t c
        by_cases cf : f t = n
        · exact absurd (show piX n f t = t from if_pos cf) (no t c)
        · exact ed_w _ _ (al_no (hf.2 cf)).1
      · exact MX_nw hn (wt := fun k => 0 ≤ iR F (154 + k)) ed_w _ (mkQ n f k ||| 2 ^ t) t rfl (mk_lt ml ht) r0 ht (by omega) (bit_or.mpr (Or.inr rfl))
    · have : piX n f i = f i := if_neg (by omega)
      rw [this, e]
theorem cv_n (hn : n ≤ 8) {k : Nat} (hk : k < n) (hr : RXs F n f k) (hI : IXs n f k) : cvX F n f k n = if 0 ≤ opX (edF F) (MX n (edF F)) k (mkQ n f k) k then (cntP n f k : Int) + opX (edF F) (MX n (edF F)) k (mkQ n f k) k else -1 := by
  have p2 := pw_256 n (by omega)
  have ml := mkQ_lt k (by omega) hr
  have hI : cnA (mkQ n f k) = k := hI
  obtain ⟨u1, u2⟩ := mkQ_up (n := n) (f := f) (k := k) (t := n)
  rw [if_pos rfl] at u1 u2
  unfold cvX
  rw [if_pos (alX_iff.mpr (Or.inl rfl))]
  unfold VXs
  rw [u1, u2]
  unfold opX
  by_cases c : (mkQ n f k).testBit k = true
  · rw [mk_set _ (by omega) k (by omega) c, if_neg (fun z => by omega), if_pos c, if_neg (by omega)]
  · have cn := mk_cn _ (by omega) k (by omega) (bit_no c)
    rw [if_neg c, if_pos (Or.inr rfl)]
    by_cases r0 : 0 ≤ MX n (edF F) (mkQ n f k ||| 2 ^ k)
    · rw [if_pos ⟨by omega, r0⟩, if_pos r0]
      rfl
    · rw [if_neg (fun z => r0 z.2), if_neg r0]
theorem cv_no (hn : n ≤ 8) {k t : Nat} (hk : k < n) (hr : RXs F n f k) (hI : ¬ IXs n f k) (ht : t ≤ n) : cvX F n f k t = -1 := by
  unfold cvX
  by_cases al : alX F n f k t = true
  · rw [if_pos al]
    unfold VXs
    refine if_neg (fun z => ?_)
    have hr' := RXs_up hr ht al
    have i1 := ((IXs_s hn (by omega) hr').mp z.1).1
    have := (mkQ_cg (n := n) (f := f) (g := upN f k t) k (fun i hi => if_neg (by omega))).1
    unfold IXs at i1 hI
    rw [this] at i1
    exact hI i1
  · rw [if_neg al]
theorem VX_lo {k : Nat} : -1 ≤ VXs n (edF F) f k := by
  unfold VXs
  split <;> omega
/-- the children's best is the masks' -/
theorem cv_max (hn : n ≤ 8) {k : Nat} (hk : k < n) (hr : RXs F n f k) : (∀ t, t ≤ n → cvX F n f k t ≤ VXs n (edF F) f k) ∧ (0 ≤ VXs n (edF F) f k → ∀ ts, ts = (if pkX n (edF F) k (mkQ n f k) = k then n else pkX n (edF F) k (mkQ n f k)) → ts ≤ n ∧ cvX F n f k ts = VXs n (edF F) f k ∧ ∀ t, t < ts → cvX F n f k t < VXs n (edF F) f k) := by
  have p2 := pw_256 n (by omega)
  have ml := mkQ_lt k (by omega) hr
  by_cases hI : IXs n f k
  · have hI' : cnA (mkQ n f k) = k := hI
    have nf : mkQ n f k ≠ 2 ^ n - 1 := fun z => by
      have := (mk_full n (by omega)).1
      rw [← z] at this
      omega
    have ms := MX_s (ed := edF F) hn ml nf
    rw [hI'] at ms
    have ge : ∀ t, t < n → opX (edF F) (MX n (edF F)) k (mkQ n f k) t ≤ MX n (edF F) (mkQ n f k) := fun t ht => by
      rw [ms]
      exact mxI_ge n t ht
    have vx : VXs n (edF F) f k = if 0 ≤ MX n (edF F) (mkQ n f k) then (cntP n f k : Int) + MX n (edF F) (mkQ n f k) else -1 := by
      unfold VXs
      by_cases z : 0 ≤ MX n (edF F) (mkQ n f k)
      · rw [if_pos ⟨hI', z⟩, if_pos z]
      · rw [if_neg (fun y => z y.2), if_neg z]
    have ct := fun t (ht : t < n) => cv_t hn hk hr hI ht
    have cn := cv_n hn hk hr hI
    refine ⟨fun t ht => ?_, fun h0 ts ets => ?_⟩
    · by_cases e : t = n
      · rw [e, cn, vx]
        have := ge k hk
        split <;> split <;> omega
      · rw [ct t (by omega), vx]
        have := ge t (by omega)
        split
        · rename_i z
          rw [if_pos (by omega)]
          omega
        · split <;> omega
    · have m0 : 0 ≤ MX n (edF F) (mkQ n f k) := by
        rw [vx] at h0
        by_cases z : 0 ≤ MX n (edF F) (mkQ n f k)
        · exact z
        · rw [if_neg z] at h0
          omega
      rw [if_pos m0] at vx
      obtain ⟨q1, q2, q3, q4⟩ := pk_sp (ed := edF F) hn ml nf m0
      rw [hI'] at q1 q2 q3 q4
      have low : ∀ t, t < n → (t = k ∨ opX (edF F) (MX n (edF F)) k (mkQ n f k) t ≠ MX n (edF F) (mkQ n f k)) → cvX F n f k t < VXs n (edF F) f k := fun t ht hh => by
        rw [ct t ht, vx]
        have := ge t ht
        split
        · rename_i z
          rcases hh with y | y
          · exact absurd y z.1
          · omega
        · omega
      by_cases c : pkX n (edF F) k (mkQ n f k) = k
      · rw [if_pos c] at ets
        rw [c] at q3
        refine ⟨by omega, by rw [ets, cn, q3, if_pos m0, vx], fun t ht => low t (by omega) ?_⟩
        by_cases e : t = k
        · exact Or.inl e
        · exact Or.inr (fun z => (pk_fst (by omega) e z).1 c)
      · rw [if_neg c] at ets
        refine ⟨by omega, by rw [ets, ct _ q1, q3, if_pos ⟨c, m0⟩, vx], fun t ht => low t (by omega) ?_⟩
        by_cases e : t = k
        · exact Or.inl e
        · refine Or.inr (fun z => ?_)
          have := (pk_fst (by omega) e z).2
          omega
  · have vx : VXs n (edF F) f k = -1 := by
      unfold VXs
      exact if_neg (fun z => hI z.1)
    rw [vx]
    refine ⟨fun t ht => ?_, fun h0 => absurd h0 (by decide)⟩
    rw [cv_no hn hk hr hI ht]
    exact Int.le_refl _
theorem df_main (hn : n ≤ 8) : ∀ d f st, d ≤ n → RXs F n f (n - d) → -1 ≤ st.1 → eqU n (dfX n (alX F n) (lvX n) d f st) (mgX st (VXs n (edF F) f (n - d)) (cplX n (edF F) d f))
  | 0, f, st, _, hr, hs => by
    rw [Nat.sub_zero] at hr ⊢
    have p2 := pw_256 n (by omega)
    obtain ⟨e1, e2⟩ := lvX_e hn hr
    have ml := mkQ_lt n (Nat.le_refl _) hr
    have ev : lvX n f = VXs n (edF F) f n := by
      by_cases hI : IXs n f n
      · have full := ((mk_full n (by omega)).2 _ (by omega) ml).2 hI
        unfold VXs
        rw [e1 hI, full, MX_full hn, if_pos ⟨(mk_full n (by omega)).1, Int.le_refl _⟩, Int.add_zero]
      · unfold VXs
        rw [e2 hI, if_neg (fun z => hI z.1)]
    rw [dfX, cplX]
    unfold lfX mgX
    rw [ev]
    exact ⟨rfl, fun _ _ => rfl⟩
  | d + 1, f, st, hd, hr, hs => by
    obtain ⟨k, ek⟩ : ∃ k, k = n - (d + 1) := ⟨_, rfl⟩
    rw [← ek] at hr ⊢
    have hk : k < n := by omega
    have nd : n - d = k + 1 := by omega
    rw [dfX, cplX, ← ek]
    have st0 := fld_first (n := n) (g := fun t st => if alX F n f k t = true then dfX n (alX F n) (lvX n) d (upN f k t) st else st) (v := cvX F n f k) (w := fun t => cplX n (edF F) d (upN f k t)) (n + 1) 0 st hs (fun t s h1 h2 h3 => ?_)
    · obtain ⟨c1, c2⟩ := cv_max hn hk hr
      have lo := VX_lo (n := n) (F := F) (f := f) (k := k)
      rcases st0 with ⟨i1, i2⟩ | ⟨u, u1, u2, u3, u4, u5, u6⟩
      · have le : ¬ st.1 < VXs n (edF F) f k := fun z => by
          obtain ⟨t1, t2, _⟩ := c2 (by omega) _ rfl
          have := i2 _ (Nat.zero_le _) (show (if pkX n (edF F) k (mkQ n f k) = k then n else pkX n (edF F) k (mkQ n f k)) < 0 + (n + 1) by omega)
          omega
        have e : mgX st (VXs n (edF F) f k) (cplX n (edF F) d (upN f k (if pkX n (edF F) k (mkQ n f k) = k then n else pkX n (edF F) k (mkQ n f k)))) = st := if_neg le
        rw [e]
        exact i1
      · have cu := c1 u (by omega)
        obtain ⟨t1, t2, t3⟩ := c2 (by omega) _ rfl
        obtain ⟨ts, ets⟩ : ∃ ts, ts = (if pkX n (edF F) k (mkQ n f k) = k then n else pkX n (edF F) k (mkQ n f k)) := ⟨_, rfl⟩
        rw [← ets] at t1 t2 t3 ⊢
        have h1 := u5 ts (Nat.zero_le _) (by omega)
        have et : u = ts := by
          by_cases a : u < ts
          · have := t3 u a
            omega
          · by_cases b : ts < u
            · have := u6 ts (Nat.zero_le _) b
              omega
            · omega
        rw [et, t2] at u4
        have e : mgX st (VXs n (edF F) f k) (cplX n (edF F) d (upN f k ts)) = (VXs n (edF F) f k, cplX n (edF F) d (upN f k ts)) := if_pos (by omega)
        rw [e]
        exact u4
    · by_cases al : alX F n f k t = true
      · rw [if_pos al]
        have hr' := RXs_up hr (by omega) al
        have ih := df_main hn d (upN f k t) s (by omega) (by rw [nd]; exact hr') h3
        have ec : cvX F n f k t = VXs n (edF F) (upN f k t) (k + 1) := if_pos al
        rw [ec, ← nd]
        exact ih
      · have ec : cvX F n f k t = -1 := if_neg al
        rw [if_neg al, ec]
        unfold mgX
        rw [if_neg (by omega)]
        exact ⟨rfl, fun _ _ => rfl⟩
theorem cpl_gv (hn : n ≤ 8) {ed : Nat → Nat → Bool} : ∀ d f, d ≤ n → mkQ n f (n - d) = mkX n ed (n - d) → (∀ p, p < n - d → cplX n ed d f p = f p) ∧ ∀ p, n - d ≤ p → p < n → (if cplX n ed d f p = n then 100 else cplX n ed d f p) = gvX n ed p
  | 0, f, _, _ => ⟨fun _ _ => rfl, fun p h1 h2 => by omega⟩
  | d + 1, f, hd, hm => by
    obtain ⟨k, ek⟩ : ∃ k, k = n - (d + 1) := ⟨_, rfl⟩
    rw [← ek] at hm ⊢
    have nd : n - d = k + 1 := by omega
    obtain ⟨x1, x2, x3⟩ := mkX_sp (ed := ed) hn k (by omega)
    have nf : mkX n ed k ≠ 2 ^ n - 1 := fun z => by
      have := (mk_full n (by omega)).1
      rw [← z] at this
      omega
    obtain ⟨q1, q2, q3, q4⟩ := pk_sp (ed := ed) hn x1 nf x3
    rw [x2] at q1 q2 q3 q4
    rw [cplX, ← ek, hm]
    obtain ⟨ts, ets⟩ : ∃ ts, ts = (if pkX n ed k (mkX n ed k) = k then n else pkX n ed k (mkX n ed k)) := ⟨_, rfl⟩
    rw [← ets]
    obtain ⟨u1, _⟩ := mkQ_up (n := n) (f := f) (k := k) (t := ts)
    have um : mkQ n (upN f k ts) (n - d) = mkX n ed (n - d) := by
      rw [nd, u1, mkX, hm, ets]
      by_cases c : pkX n ed k (mkX n ed k) = k
      · rw [if_pos c, if_pos rfl, c]
      · rw [if_neg c, if_neg (by omega)]
    obtain ⟨i1, i2⟩ := cpl_gv hn d (upN f k ts) (by omega) um
    refine ⟨fun p hp => ?_, fun p h1 h2 => ?_⟩
    · rw [i1 p (by omega)]
      exact if_neg (by omega)
    · by_cases c : p = k
      · rw [i1 p (by omega), show upN f k ts p = ts from if_pos c, c, ets]
        unfold gvX
        by_cases e : pkX n ed k (mkX n ed k) = k
        · rw [if_pos e, if_pos e, if_pos rfl]
        · rw [if_neg e, if_neg e, if_neg (by omega)]
      · exact i2 p (by omega) h2
/-- the search's end -/
theorem fiX_e (hn : n ≤ 8) : (fiX n (alX F n) (lvX n)).1 = MX n (edF F) 0 ∧ ∀ p, p < n → (if (fiX n (alX F n) (lvX n)).2 p = n then 100 else (fiX n (alX F n) (lvX n)).2 p) = gvX n (edF F) p := by
  have m0 := MX_0 (ed := edF F) hn
  have d := df_main (F := F) hn n (fun _ => 0) (-1, fun _ => 0) (Nat.le_refl _) (fun i hi => by omega) (Int.le_refl _)
  rw [Nat.sub_self] at d
  have v : VXs n (edF F) (fun _ => 0) 0 = MX n (edF F) 0 := by
    unfold VXs
    rw [mkQ, cntP, if_pos ⟨by decide, m0⟩]
    omega
  rw [v] at d
  have e : mgX ((-1 : Int), fun _ : Nat => 0) (MX n (edF F) 0) (cplX n (edF F) n (fun _ => 0)) = (MX n (edF F) 0, cplX n (edF F) n (fun _ => 0)) := if_pos (by dsimp only; omega)
  rw [e] at d
  obtain ⟨_, c⟩ := cpl_gv hn (ed := edF F) n (fun _ => 0) (Nat.le_refl _) (by rw [Nat.sub_self]; rfl)
  refine ⟨d.1, fun p hp => ?_⟩
  have e2 : (fiX n (alX F n) (lvX n)).2 p = cplX n (edF F) n (fun _ => 0) p := d.2 p hp
  rw [e2]
  exact c p (by omega) hp
end XK
