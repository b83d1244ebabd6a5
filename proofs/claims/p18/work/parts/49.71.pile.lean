/-! LAYER 2, the reference: the pile of what waits, and the code that is written -/
def ao (x : Int32) : Prop := x = 29 ∨ x = 30
def isB (x : Int32) : Prop := 20 ≤ x.toInt ∧ x.toInt ≤ 27
def pH (pl : Nat → Int32) : Nat → Nat
  | 0 => 0
  | i + 1 => pH pl i + if 20 ≤ (pl i).toInt ∧ (pl i).toInt ≤ 27 then 1 else 0
def pE (pl : Nat → Int32) : Nat → Nat
  | 0 => 0
  | i + 1 => pE pl i + if 20 ≤ (pl i).toInt ∧ (pl i).toInt ≤ 28 then 1 else 0
def pB (pl : Nat → Int32) : Nat → Int
  | 0 => -1
  | i + 1 => if 31 ≤ (pl i).toInt then (pl i).toInt else pB pl i
theorem pH_congr {pl pl' : Nat → Int32} : ∀ n, (∀ i, i < n → pl' i = pl i) → pH pl' n = pH pl n
  | 0, _ => rfl
  | n + 1, h => by rw [pH, pH, pH_congr n (fun i hi => h i (by omega)), h n (by omega)]
theorem pE_congr {pl pl' : Nat → Int32} : ∀ n, (∀ i, i < n → pl' i = pl i) → pE pl' n = pE pl n
  | 0, _ => rfl
  | n + 1, h => by rw [pE, pE, pE_congr n (fun i hi => h i (by omega)), h n (by omega)]
theorem pB_congr {pl pl' : Nat → Int32} : ∀ n, (∀ i, i < n → pl' i = pl i) → pB pl' n = pB pl n
  | 0, _ => rfl
  | n + 1, h => by rw [pB, pB, pB_congr n (fun i hi => h i (by omega)), h n (by omega)]
theorem ao_i {x : Int32} (h : ao x) : 29 ≤ x.toInt ∧ x.toInt ≤ 30 := by
  rcases h with rfl | rfl <;> decide
theorem ao_n {x : Int32} (h : ¬ ao x) (h1 : x.toInt ≤ 30) (h2 : 29 ≤ x.toInt) : False := by
  have : x.toInt = 29 ∨ x.toInt = 30 := by omega
  rcases this with e | e
  · exact h (Or.inl (Int32.toInt_inj.mp (by rw [e]; decide)))
  · exact h (Or.inr (Int32.toInt_inj.mp (by rw [e]; decide)))
theorem stepOk_c {op arg : Int32} {d d' : Nat → Nat} {k c c' : Nat} (hk : k < c) (hc : c ≤ c') (hd : ∀ j, j ≤ c → d' j = d j) (h : stepOk op arg d k c) : stepOk op arg d' k c' := by
  unfold stepOk at *
  rw [hd k (by omega), hd (k + 1) (by omega)]
  rcases h with h | h | h | ⟨h1, h2, h3, t, h4, h5, h6, h7⟩
  · exact Or.inl h
  · exact Or.inr (Or.inl h)
  · exact Or.inr (Or.inr (Or.inl h))
  · exact Or.inr (Or.inr (Or.inr ⟨h1, h2, h3, t, h4, h5, by omega, by rw [hd t h6]; exact h7⟩))
/-- the code from lo to c with the pile's p places: e values more than the pile has taken -/
def sgF (op arg pl pa : Nat → Int32) (lo c p l e : Nat) : Prop := ∃ d : Nat → Nat, d lo = 0 ∧ (∀ k, d k ≤ l) ∧ d c = pH pl p + e ∧ (∀ k, lo ≤ k → k < c → stepOk (op k) (arg k) d k c ∨ ∃ i, i < p ∧ ao (pl i) ∧ pa i = nI k) ∧ ∀ i k, i < p → ao (pl i) → pa i = nI k → k < c → d k = pH pl i + 1 ∧ d (k + 1) + 1 = d k ∧ ao (op k)
/-- where the pile's and, or stand in the code -/
def pk (pl pa : Nat → Int32) (lo c p : Nat) : Prop := ∀ i, i < p → ao (pl i) → ∃ k, pa i = nI k ∧ lo ≤ k ∧ k < c
def bs (pl : Nat → Int32) (p : Nat) : Prop := ∀ i, i < p → (25 ≤ (pl i).toInt ∧ (pl i).toInt ≤ 31) → pB pl i ≠ 32
section SG
variable {op arg pl pa : Nat → Int32} {lo c p l e : Nat}
theorem sg_start : sgF op arg pl pa lo lo 0 l 0 := ⟨fun _ => 0, rfl, fun _ => Nat.zero_le _, rfl, fun k h1 h2 => by omega, fun i k hi => by omega⟩
theorem sg_emit {x y : Int32} {D p' l' e' : Nat} (h : sgF op arg pl pa lo c p l e) (hk : pk pl pa lo c p) (hlo : lo ≤ c) (hc : c ≤ 400) (hp : p' ≤ p) (hnp : ∀ i, p' ≤ i → i < p → ¬ ao (pl i)) (hl : l ≤ l') (hD : D ≤ l') (hD' : D = pH pl p' + e') (hs : ∀ d : Nat → Nat, d c = pH pl p + e → d (c + 1) = D → stepOk x y d c (c + 1)) : sgF (upd op c x) (upd arg c y) pl pa lo (c + 1) p' l' e' := by
  obtain ⟨d, d1, d2, d3, d4, d5⟩ := h
  have dn : ∀ j, j ≤ c → (fun k => if k = c + 1 then D else d k) j = d j := fun j hj => if_neg (by omega)
  refine ⟨fun k => if k = c + 1 then D else d k, by rw [dn lo hlo]; exact d1, fun k => ?_, by rw [← hD']; exact if_pos rfl, fun k k1 k2 => ?_, fun i k i1 i2 i3 i4 => ?_⟩
  · dsimp only
    split
    · exact hD
    · have := d2 k; omega
  · by_cases kc : k = c
    · subst kc
      left
      rw [upd_self, upd_self]
      exact hs _ ((dn k (Nat.le_refl _)).trans d3) (if_pos rfl)
    · rw [upd_ne _ _ kc, upd_ne _ _ kc]
      rcases d4 k k1 (by omega) with z | ⟨i, i1, i2, i3⟩
      · exact Or.inl (stepOk_c (by omega) (by omega) dn z)
      · by_cases ip : i < p'
        · exact Or.inr ⟨i, ip, i2, i3⟩
        · exact absurd i2 (hnp i (by omega) i1)
  · obtain ⟨k', a1, a2, a3⟩ := hk i (by omega) i2
    have kk : k = k' := by
      rw [i3] at a1
      exact (nI_eq (by omega) (by omega)).mp a1
    subst kk
    rw [dn k (by omega), dn (k + 1) (by omega), upd_ne _ _ (by omega)]
    exact d5 i k (by omega) i2 i3 a3
theorem sg_pop {k : Nat} (h : sgF op arg pl pa lo c (p + 1) l 1) (hao : ao (pl p)) (hk : pa p = nI k) (hk1 : lo ≤ k) (hk2 : k < c) (hc : c ≤ 400) : sgF op (upd arg k (nI c)) pl pa lo c p l 1 := by
  obtain ⟨d, d1, d2, d3, d4, d5⟩ := h
  have ai := ao_i hao
  have e1 : pH pl (p + 1) = pH pl p := by rw [pH, if_neg (by omega)]; rfl
  obtain ⟨b1, b2, b3⟩ := d5 p k (by omega) hao hk hk2
  rw [e1] at d3
  refine ⟨d, d1, d2, d3, fun j j1 j2 => ?_, fun i j i1 i2 i3 i4 => d5 i j (by omega) i2 i3 i4⟩
  by_cases kj : j = k
  · subst kj
    left
    rw [upd_self]
    exact Or.inr (Or.inr (Or.inr ⟨b3, by omega, b2, c, rfl, hk2, Nat.le_refl _, by omega⟩))
  · rw [upd_ne _ _ kj]
    rcases d4 j j1 j2 with z | ⟨i, i1, i2, i3⟩
    · exact Or.inl z
    · by_cases ip : i = p
      · subst ip
        rw [hk] at i3
        exact absurd ((nI_eq (by omega) (by omega)).mp i3).symm kj
      · exact Or.inr ⟨i, by omega, i2, i3⟩
theorem sg_push {x y : Int32} {e' : Nat} (h : sgF op arg pl pa lo c p l e) (hx : ¬ ao x) (he : e = e' + if 20 ≤ x.toInt ∧ x.toInt ≤ 27 then 1 else 0) : sgF op arg (upd pl p x) (upd pa p y) lo c (p + 1) l e' := by
  obtain ⟨d, d1, d2, d3, d4, d5⟩ := h
  have cg : ∀ n, n ≤ p → pH (upd pl p x) n = pH pl n := fun n hn => pH_congr n (fun i hi => upd_ne _ _ (by omega))
  refine ⟨d, d1, d2, ?_, fun j j1 j2 => ?_, fun i j i1 i2 i3 i4 => ?_⟩
  · rw [pH, cg p (Nat.le_refl _), upd_self, d3]
    omega
  · rcases d4 j j1 j2 with z | ⟨i, i1, i2, i3⟩
    · exact Or.inl z
    · exact Or.inr ⟨i, by omega, by rw [upd_ne _ _ (by omega)]; exact i2, by rw [upd_ne _ _ (by omega)]; exact i3⟩
  · by_cases ip : i = p
    · subst ip; rw [upd_self] at i2; exact absurd i2 hx
    · rw [upd_ne _ _ ip] at i2 i3
      rw [cg i (by omega)]
      exact d5 i j (by omega) i2 i3 i4
theorem sg_ao {x y : Int32} (h : sgF op arg pl pa lo c p l 1) (hk : pk pl pa lo c p) (hx : ao x) (hlo : lo ≤ c) (hc : c ≤ 400) : sgF (upd op c x) (upd arg c y) (upd pl p x) (upd pa p (nI c)) lo (c + 1) (p + 1) l 0 := by
  obtain ⟨d, d1, d2, d3, d4, d5⟩ := h
  have ai := ao_i hx
  have cg : ∀ n, n ≤ p → pH (upd pl p x) n = pH pl n := fun n hn => pH_congr n (fun i hi => upd_ne _ _ (by omega))
  have dn : ∀ j, j ≤ c → (fun k => if k = c + 1 then pH pl p else d k) j = d j := fun j hj => if_neg (by omega)
  refine ⟨fun k => if k = c + 1 then pH pl p else d k, by rw [dn lo hlo]; exact d1, fun k => ?_, ?_, fun k k1 k2 => ?_, fun i k i1 i2 i3 i4 => ?_⟩
  · dsimp only
    split
    · have := d2 c; omega
    · exact d2 k
  · dsimp only
    rw [if_pos rfl, pH, cg p (Nat.le_refl _), upd_self, if_neg (by omega)]
    rfl
  · by_cases kc : k = c
    · subst kc
      exact Or.inr ⟨p, by omega, by rw [upd_self]; exact hx, upd_self _ _ _⟩
    · rw [upd_ne _ _ kc, upd_ne _ _ kc]
      rcases d4 k k1 (by omega) with z | ⟨i, i1, i2, i3⟩
      · exact Or.inl (stepOk_c (by omega) (by omega) dn z)
      · exact Or.inr ⟨i, by omega, by rw [upd_ne _ _ (by omega)]; exact i2, by rw [upd_ne _ _ (by omega)]; exact i3⟩
  · by_cases ip : i = p
    · subst ip
      rw [upd_self] at i3
      have kc : k = c := ((nI_eq (by omega) (by omega)).mp i3).symm
      subst kc
      rw [dn k (Nat.le_refl _), upd_self, cg i (Nat.le_refl _)]
      exact ⟨d3, by dsimp only; rw [if_pos rfl, d3], hx⟩
    · rw [upd_ne _ _ ip] at i2 i3
      obtain ⟨k', a1, a2, a3⟩ := hk i (by omega) i2
      have kk : k = k' := by
        rw [i3] at a1
        exact (nI_eq (by omega) (by omega)).mp a1
      subst kk
      rw [dn k (by omega), dn (k + 1) (by omega), upd_ne _ _ (by omega), cg i (by omega)]
      exact d5 i k (by omega) i2 i3 a3
theorem sg_drop (h : sgF op arg pl pa lo c (p + 1) l e) (hx : 31 ≤ (pl p).toInt) : sgF op arg pl pa lo c p l e := by
  obtain ⟨d, d1, d2, d3, d4, d5⟩ := h
  refine ⟨d, d1, d2, ?_, fun j j1 j2 => ?_, fun i j i1 i2 i3 i4 => d5 i j (by omega) i2 i3 i4⟩
  · rw [d3, pH, if_neg (by omega)]; rfl
  · rcases d4 j j1 j2 with z | ⟨i, i1, i2, i3⟩
    · exact Or.inl z
    · by_cases ip : i = p
      · subst ip
        have := ao_i i2
        omega
      · exact Or.inr ⟨i, by omega, i2, i3⟩
/-- the argument of a leaf is free -/
theorem sg_arg {k : Nat} {y : Int32} (h : sgF op arg pl pa lo c p l e) (hk : rg (op k) 0 9) : sgF op (upd arg k y) pl pa lo c p l e := by
  obtain ⟨d, d1, d2, d3, d4, d5⟩ := h
  refine ⟨d, d1, d2, d3, fun j j1 j2 => ?_, d5⟩
  by_cases kj : j = k
  · subst kj
    rcases d4 j j1 j2 with z | z
    · left
      rcases z with z | z | z | z
      · exact Or.inl z
      · have := z.1.1; have := hk.2; omega
      · have := hk.2; rw [z.1] at this; exact absurd this (by decide)
      · have := ao_i z.1; have := hk.2; omega
    · exact Or.inr z
  · rw [upd_ne _ _ kj]; exact d4 j j1 j2
theorem sg_code (h : sgF op arg pl pa lo c 0 l e) (hl : l ≤ 399) : codeOk op arg lo c := by
  obtain ⟨d, d1, d2, d3, d4, d5⟩ := h
  refine ⟨d, d1, fun k => by have := d2 k; omega, fun k k1 k2 => ?_⟩
  rcases d4 k k1 k2 with z | ⟨i, i1, -⟩
  · exact z
  · omega
theorem codeOk_congr {op' arg' : Nat → Int32} (h : codeOk op arg lo c) (he : ∀ k, k < c → op' k = op k ∧ arg' k = arg k) : codeOk op' arg' lo c := by
  obtain ⟨d, d1, d2, d3⟩ := h
  refine ⟨d, d1, d2, fun k k1 k2 => ?_⟩
  rw [(he k k2).1, (he k k2).2]
  exact d3 k k1 k2
theorem pk_mono {c' : Nat} (h : pk pl pa lo c p) (hc : c ≤ c') {p' : Nat} (hp : p' ≤ p) : pk pl pa lo c' p' := fun i hi ha => by
  obtain ⟨k, a, b, d⟩ := h i (by omega) ha
  exact ⟨k, a, b, by omega⟩
theorem pk_push {x y : Int32} (h : pk pl pa lo c p) (hx : ao x → ∃ k, y = nI k ∧ lo ≤ k ∧ k < c) : pk (upd pl p x) (upd pa p y) lo c (p + 1) := fun i hi ha => by
  by_cases ip : i = p
  · subst ip
    rw [upd_self] at ha
    rw [upd_self]
    exact hx ha
  · rw [upd_ne _ _ ip] at ha
    rw [upd_ne _ _ ip]
    exact h i (by omega) ha
theorem bs_le {p' : Nat} (h : bs pl p) (hp : p' ≤ p) : bs pl p' := fun i hi => h i (by omega)
theorem bs_push {x : Int32} (h : bs pl p) (hx : (25 ≤ x.toInt ∧ x.toInt ≤ 31) → pB pl p ≠ 32) : bs (upd pl p x) (p + 1) := fun i hi hr => by
  have cg : ∀ n, n ≤ p → pB (upd pl p x) n = pB pl n := fun n hn => pB_congr n (fun i hi => upd_ne _ _ (by omega))
  rw [cg i (by omega)]
  by_cases ip : i = p
  · subst ip
    rw [upd_self] at hr
    exact hx hr
  · rw [upd_ne _ _ ip] at hr
    exact h i (by omega) hr
theorem pB_push {x : Int32} : pB (upd pl p x) (p + 1) = if 31 ≤ x.toInt then x.toInt else pB pl p := by
  rw [pB, upd_self, pB_congr (pl := pl) p (fun i hi => upd_ne _ _ (by omega))]
theorem pE_push {x : Int32} : pE (upd pl p x) (p + 1) = pE pl p + if 20 ≤ x.toInt ∧ x.toInt ≤ 28 then 1 else 0 := by
  rw [pE, upd_self, pE_congr (pl := pl) p (fun i hi => upd_ne _ _ (by omega))]
end SG
