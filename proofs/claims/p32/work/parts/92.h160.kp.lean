/-! RINGS KEPT, ON PAPER AND IN THE CLASS -/
def mxN (g : Nat → Nat) : Nat → Nat
  | 0 => 0
  | m + 1 => if mxN g m < g m then g m else mxN g m
def lsN (P : Nat → Bool) : Nat → Nat
  | 0 => 0
  | n + 1 => if P (lsN P n) = true then lsN P n else n + 1
/-- the most, where d years are left of n -/
def kpV (W : Nat → Nat) (n : Nat) : Nat → Nat → Nat
  | 0, _ => 0
  | d + 1, l => mxN (fun m => wa (W (n - 1 - d)) m + kpV W n d (l - m)) (l + 1)
def Kv (W : Nat → Nat) (n y l : Nat) : Nat := kpV W n (n - y) l
def chN (W : Nat → Nat) (n y l : Nat) : Nat := lsN (fun m => decide (wa (W y) m + Kv W n (y + 1) (l - m) = Kv W n y l)) l
def lfK (W : Nat → Nat) (n k : Nat) : Nat → Nat
  | 0 => k
  | y + 1 => lfK W n k y - chN W n y (lfK W n k y)
section KPP
variable {g : Nat → Nat} {P : Nat → Bool} {W : Nat → Nat} {n : Nat}
theorem mxN_le {B : Nat} : ∀ m, (∀ j, j < m → g j ≤ B) → mxN g m ≤ B
  | 0, _ => Nat.zero_le _
  | m + 1, h => by
    have := mxN_le m (fun j hj => h j (by omega))
    have := h m (by omega)
    rw [mxN]
    split <;> omega
theorem mxN_at : ∀ m, 0 < m → ∃ j, j < m ∧ mxN g m = g j
  | 1, _ => ⟨0, by omega, by
    rw [mxN, mxN]
    split <;> omega⟩
  | m + 2, _ => by
    obtain ⟨j, h1, h2⟩ := mxN_at (m + 1) (by omega)
    rw [mxN]
    split
    · exact ⟨m + 1, by omega, rfl⟩
    · exact ⟨j, by omega, h2⟩
theorem lsN_sp : ∀ n, lsN P n ≤ n ∧ (∀ m, m < lsN P n → P m = false) ∧ ∀ m, m ≤ n → P m = true → P (lsN P n) = true
  | 0 => ⟨Nat.le_refl _, fun m hm => absurd hm (Nat.not_lt_zero _), fun m hm h => by
    have : m = 0 := by omega
    rw [this] at h
    exact h⟩
  | n + 1 => by
    obtain ⟨h1, h2, h3⟩ := lsN_sp n
    rw [lsN]
    by_cases c : P (lsN P n) = true
    · rw [if_pos c]
      exact ⟨by omega, h2, fun _ _ _ => c⟩
    · rw [if_neg c]
      refine ⟨Nat.le_refl _, fun m hm => ?_, fun m hm h => ?_⟩
      · cases e : P m with
        | false => rfl
        | true => exact absurd (h3 m (by omega) e) c
      · by_cases e : m = n + 1
        · rw [← e]; exact h
        · exact absurd (h3 m (by omega) h) c
theorem lsN_is {m n : Nat} (hm : m ≤ n) (h : m < n → P m = true) (h0 : ∀ j, j < m → P j = false) : lsN P n = m := by
  obtain ⟨a, b, c⟩ := lsN_sp (P := P) n
  by_cases l : lsN P n < m
  · by_cases e : lsN P n < n
    · have z := h0 _ l
      by_cases mn : m < n
      · have := c m hm (h mn)
        rw [z] at this
        cases this
      · have em : m = n := by omega
        have lp : lsN P n = lsN P n := rfl
        exfalso
        have : ∀ k, (∀ j, j < k → P j = false) → lsN P k = k := by
          intro k
          induction k with
          | zero => intro _; rfl
          | succ k ih =>
            intro hk
            rw [lsN, ih (fun j hj => hk j (by omega)), if_neg (by rw [hk k (by omega)]; decide)]
        have q := this n (fun j hj => h0 j (by omega))
        omega
    · omega
  · by_cases g : m < lsN P n
    · have := b m g
      rw [h (by omega)] at this
      cases this
    · omega
theorem Kv_0 {l : Nat} : Kv W n n l = 0 := by
  unfold Kv
  rw [Nat.sub_self]
  rfl
theorem Kv_s {y l : Nat} (hy : y < n) : Kv W n y l = mxN (fun m => wa (W y) m + Kv W n (y + 1) (l - m)) (l + 1) := by
  unfold Kv
  rw [show n - y = n - (y + 1) + 1 by omega, kpV, show n - 1 - (n - (y + 1)) = y by omega]
theorem Kv_le (hW : ∀ y, W y ≤ 99) : ∀ d y l, n - y = d → l ≤ 20 → Kv W n y l ≤ 1980 * d
  | 0, y, l, h, hl => by
    unfold Kv
    rw [h]
    exact Nat.zero_le _
  | d + 1, y, l, h, hl => by
    rw [Kv_s (by omega)]
    refine mxN_le _ (fun j hj => ?_)
    have h1 := wa_le (hW y) j
    have h2 := Kv_le hW d (y + 1) (l - j) (by omega) (by omega)
    have : 99 * j ≤ 1980 := by omega
    omega
/-- one use is the best -/
theorem chN_at {y l : Nat} (hy : y < n) : chN W n y l ≤ l ∧ wa (W y) (chN W n y l) + Kv W n (y + 1) (l - chN W n y l) = Kv W n y l ∧ ∀ m, m < chN W n y l → wa (W y) m + Kv W n (y + 1) (l - m) ≠ Kv W n y l := by
  obtain ⟨a, b, c⟩ := lsN_sp (P := fun m => decide (wa (W y) m + Kv W n (y + 1) (l - m) = Kv W n y l)) l
  obtain ⟨j, j1, j2⟩ := mxN_at (g := fun m => wa (W y) m + Kv W n (y + 1) (l - m)) (l + 1) (by omega)
  rw [← Kv_s hy] at j2
  refine ⟨a, ?_, fun m hm e => ?_⟩
  · have := c j (by omega) (by rw [decide_eq_true_eq]; exact j2.symm)
    exact of_decide_eq_true this
  · have := b m hm
    exact absurd e (of_decide_eq_false this)
theorem lfK_le {k : Nat} : ∀ y, lfK W n k y ≤ k
  | 0 => Nat.le_refl _
  | y + 1 => by
    have := lfK_le (k := k) y
    rw [lfK]
    omega
end KPP
theorem gn_all : ∀ w, w < 100 → ∀ m, m < 21 → (fun p : Int32 => (p * nI w) - ((p * (p - 1)) / 2)) (if nI w < nI m then nI w else nI m) = nI (wa w m) := by decide +kernel
section KPC
variable {Γ : kG} {Φ : kF} {S : hS} {a : Nat} {ρa : Nat → Nat} {L : List Nat} {W : Nat → Nat}
theorem kx_gain {q : Int32 → hS → Prop} {y m : Nat} (h : St Γ Φ S) (ha : Γ a = some (7, 7, 0, 0, ρa)) (hy : y < 8) (hw : aV S (ρa 1) y = nI (W y)) (hW : W y ≤ 99) (hm : m ≤ 20) (k : q (nI (wa (W y) m)) S) : w_X7_gain q S a (nI y) (nI m) := by
  have rd : ∀ {P : Int32 → Prop}, P (nI (W y)) → aI S (ρa 1) (nI y) P := by
    intro P kk
    refine T_aI_20 h (P_7_1 h ha).2 ⟨by rw [nI_toInt (by omega)]; omega, by rw [nI_toInt (by omega)]; omega⟩ (fun x ex _ => ?_)
    rw [nI_clamp (by omega), hw] at ex
    rw [ex]
    exact kk
  unfold w_X7_gain
  refine E_gP_7_1 h ha (fun _ => rd (fun y10 e10 => E_gP_7_1 h ha (fun _ => rd ?_)))
  have := gn_all (W y) (by omega) m (by omega)
  rw [← e10] at this
  dsimp only at this
  rw [this]
  exact k
theorem T7_3 {P : Int32 → Prop} {j v : Nat} (h : St Γ Φ S) (ha : Γ a = some (7, 7, 0, 0, ρa)) (hj : j < 189) (hv : aV S (ρa 3) j = nI v) (k : P (nI v)) : aI S (ρa 3) (nI j) P := by
  refine T_aI_20 h (P_7_3 h ha).2 ⟨by rw [nI_toInt (by omega)]; omega, by rw [nI_toInt (by omega)]; omega⟩ (fun x ex _ => ?_)
  rw [nI_clamp (by omega), hv] at ex
  rw [ex]
  exact k
theorem ent_nI (y l : Nat) : nI y * 21 + nI l = nI (21 * y + l) := by rw [lit_nI 21, nImul, nIadd, show y * 21 + l = 21 * y + l by omega]
theorem kx_firstBest {q : Int32 → hS → Prop} {n k y l : Nat} (h : St Γ Φ S) (ha : Γ a = some (7, 7, 0, 0, ρa)) (hn : n ≤ 8) (hy : y < n) (hW : ∀ y, W y ≤ 99) (hk : k ≤ 20) (hl : l ≤ k) (hw : aV S (ρa 1) y = nI (W y)) (hK : ∀ y', y ≤ y' → y' ≤ n → ∀ l, l ≤ k → aV S (ρa 3) (21 * y' + l) = nI (Kv W n y' l)) (kq : q (nI (chN W n y l)) S) : w_X7_firstBestUse q S a (nI y) (nI l) := by
  have c := chN_at (W := W) (n := n) (l := l) hy
  refine loop_m (σ := Nat) (fun t m => w_X7_firstBestUse_b2 q t S a (nI y) (nI l) (nI m)) (fun m => m ≤ chN W n y l) (fun m => chN W n y l - m) ?_ 0 (Nat.zero_le _)
  rintro t m hm ih
  rw [w_X7_firstBestUse_b2, nI_leI (by omega) (by omega)]
  refine ⟨fun z => ?_, fun z => T_oK_7 h ha (kx_gain h ha (by omega) hw (hW y) (by omega) (E_gP_7_3 h ha (fun _ => ?_)))⟩
  · have : chN W n y l = l := by omega
    rw [this] at kq
    exact kq
  · have b1 := Kv_le (n := n) hW _ (y + 1) (l - m) rfl (by omega)
    have b2 := Kv_le (n := n) hW _ y l rfl (by omega)
    have b3 := wa_le (hW y) m
    unfold w_X7_entry
    rw [show nI y + 1 = nI (y + 1) by rw [nI_1], nIsub (by omega), ent_nI (y + 1) (l - m)]
    refine T7_3 h ha (by omega) (hK (y + 1) (by omega) (by omega) (l - m) (by omega)) (E_gP_7_3 h ha (fun _ => ?_))
    rw [ent_nI]
    refine T7_3 h ha (by omega) (hK y (Nat.le_refl _) (by omega) l (by omega)) ?_
    rw [nIadd, nI_eq (by omega) (by omega)]
    refine ⟨fun z y43 e43 => ?_, fun z => ?_⟩
    · rw [e43, nI_1]
      have : m ≠ chN W n y l := fun e => z (by rw [e]; exact c.2.1)
      exact ih (m + 1) (by omega) (by omega)
    · have : m = chN W n y l := by
        by_cases e : m < chN W n y l
        · exact absurd z (c.2.2 m e)
        · omega
      rw [this]
      exact kq
theorem kx_keepRings {q : Int32 → hS → Prop} {n k : Nat} (h : St Γ Φ S) (hf : fre Γ Φ L) (h802 : 802 ∈ L) (h803 : 803 ∈ L) (ha : Γ a = some (7, 7, 0, 0, ρa)) (hn : n ≤ 8) (hW : ∀ y, W y ≤ 99) (hk : k ≤ 20) (hw : ∀ y, y < n → aV S (ρa 1) y = nI (W y)) (kq : ∀ S', St Γ Φ S' → (∀ y, y < n → aV S' (ρa 2) y = nI (chN W n y (lfK W n k y))) → q (nI (Kv W n 0 k)) S') : w_X7_keepRings q S a (nI k) (nI n) := by
  have g1 := (P_7_1 h ha).2
  have g2 := (P_7_2 h ha).2
  have g3 := (P_7_3 h ha).2
  have n13 : ρa 1 ≠ ρa 3 := nmne g1 g3 (by decide)
  have n12 : ρa 1 ≠ ρa 2 := nmne g1 g2 (by decide)
  have n32 : ρa 3 ≠ ρa 2 := nmne g3 g2 (by decide)
  have lt : ∀ u v : Nat, u < 2 ^ 31 → v < 2 ^ 31 → (nI u < nI v ↔ u < v) := fun u v hu hv => by rw [Int32.lt_iff_toInt_lt, nI_toInt (by omega), nI_toInt (by omega)]; omega
  -- the row of uses
  have k121 : ∀ S', St Γ Φ S' → (∀ y, y < n → aV S' (ρa 1) y = nI (W y)) → (∀ y', y' ≤ n → ∀ l, l ≤ k → aV S' (ρa 3) (21 * y' + l) = nI (Kv W n y' l)) → ∃ t, w_X7_keepRings_b121 q t S' a (nI k) (nI n) (nI k) 0 := by
    intro S' h hw hK
    refine loop_m (σ := hS × Nat) (fun t s => w_X7_keepRings_b121 q t s.1 a (nI k) (nI n) (nI (lfK W n k s.2)) (nI s.2)) (fun s => s.2 ≤ n ∧ St Γ Φ s.1 ∧ (∀ y, y < n → aV s.1 (ρa 1) y = nI (W y)) ∧ (∀ y', y' ≤ n → ∀ l, l ≤ k → aV s.1 (ρa 3) (21 * y' + l) = nI (Kv W n y' l)) ∧ ∀ y, y < s.2 → aV s.1 (ρa 2) y = nI (chN W n y (lfK W n k y))) (fun s => n - s.2) ?_ (S', 0) ⟨Nat.zero_le _, h, hw, hK, fun y hy => absurd hy (Nat.not_lt_zero _)⟩
    rintro t ⟨S, y⟩ ⟨hy, h, hw, hK, hU⟩ ih
    dsimp only at hy h hw hK hU ih ⊢
    have ll := lfK_le (W := W) (n := n) (k := k) y
    rw [w_X7_keepRings_b121, nI_leI (by omega) (by omega)]
    refine ⟨fun c => E_gP_7_3 h ha (fun _ => ?_), fun c => E_gP_7_2 h ha (fun _ => T_oK_7 h ha (kx_firstBest h ha hn (by omega) hW hk ll (hw y (by omega)) (fun y' _ h2 l hl => hK y' h2 l hl) ?_))⟩
    · unfold w_X7_entry
      rw [show (0 : Int32) * 21 + nI k = nI k by rw [Int32.zero_mul, Int32.zero_add]]
      have := hK 0 (Nat.zero_le _) k (Nat.le_refl _)
      rw [show 21 * 0 + k = k by omega] at this
      exact T7_3 h ha (by omega) this (kq S h (fun y hy => hU y (by omega)))
    · have cc := chN_at (W := W) (n := n) (y := y) (l := lfK W n k y) (by omega)
      refine T_sI_20 h hf g2 h802 ⟨by rw [nI_toInt (by omega)]; omega, by rw [nI_toInt (by omega)]; omega⟩ (fun S' h' _ s2 _ s4 => E_gP_7_2 h' ha (fun _ => T_aI_20 h' g2 ⟨by rw [nI_toInt (by omega)]; omega, by rw [nI_toInt (by omega)]; omega⟩ (fun x ex _ y150 e150 y151 e151 => ?_)))
      rw [nI_clamp (by omega), s4, nI_clamp (by omega), if_pos rfl] at ex
      rw [ex, nIsub (by omega)] at e150
      rw [e150, e151, nI_1]
      refine ih (S', y + 1) ⟨by dsimp only; omega, h', fun y' hy' => by rw [s2 _ _ n12]; exact hw y' hy', fun y' h1 l h2 => by rw [s2 _ _ n32]; exact hK y' h1 l h2, fun y' hy' => ?_⟩ (by dsimp only; omega)
      dsimp only at hy' ⊢
      rw [s4, nI_clamp (by omega)]
      by_cases c2 : y' = y
      · rw [if_pos c2, c2]
      · rw [if_neg c2]
        exact hU y' (by omega)
  -- the years downwards
  have k28 : ∀ S', St Γ Φ S' → (∀ y, y < n → aV S' (ρa 1) y = nI (W y)) → (∀ l, l ≤ k → aV S' (ρa 3) (21 * n + l) = nI 0) → ∃ t, w_X7_keepRings_b28 q t S' a (nI k) (nI n) (nI n - 1) := by
    intro S' h hw hK
    refine loop_m (σ := hS × Nat) (fun t s => w_X7_keepRings_b28 q t s.1 a (nI k) (nI n) (nI s.2 - 1)) (fun s => s.2 ≤ n ∧ St Γ Φ s.1 ∧ (∀ y, y < n → aV s.1 (ρa 1) y = nI (W y)) ∧ ∀ y', s.2 ≤ y' → y' ≤ n → ∀ l, l ≤ k → aV s.1 (ρa 3) (21 * y' + l) = nI (Kv W n y' l)) (fun s => s.2) ?_ (S', n) ⟨Nat.le_refl _, h, hw, fun y' a1 a2 l hl => ?_⟩
    · rintro t ⟨S, m⟩ ⟨hm, h, hw, hK⟩ ih
      dsimp only at hm h hw hK ih ⊢
      rw [w_X7_keepRings_b28]
      cases m with
      | zero => exact ⟨fun _ => k121 S h hw (fun y' a1 l hl => hK y' (Nat.zero_le _) a1 l hl), fun c => absurd (by decide) c⟩
      | succ y =>
        rw [nI_pm1]
        refine ⟨fun c => absurd c (by rw [Int32.lt_iff_toInt_lt, nI_toInt (by omega), show (0 : Int32).toInt = 0 by decide]; omega), fun _ => ?_⟩
        refine loop_m (σ := hS × Nat) (fun t' s => w_X7_keepRings_b35 q (fun S v0 v1 v2 v3 => w_X7_keepRings_b28 q t S v0 v1 v2 v3) t' s.1 a (nI k) (nI n) (nI y) (nI s.2)) (fun s => s.2 ≤ k + 1 ∧ St Γ Φ s.1 ∧ (∀ y, y < n → aV s.1 (ρa 1) y = nI (W y)) ∧ (∀ y', y + 1 ≤ y' → y' ≤ n → ∀ l, l ≤ k → aV s.1 (ρa 3) (21 * y' + l) = nI (Kv W n y' l)) ∧ ∀ l, l < s.2 → aV s.1 (ρa 3) (21 * y + l) = nI (Kv W n y l)) (fun s => k + 1 - s.2) ?_ (S, 0) ⟨Nat.zero_le _, h, hw, hK, fun l hl => absurd hl (Nat.not_lt_zero _)⟩
        rintro t' ⟨S, l⟩ ⟨hl, h, hw, hK, hK'⟩ ih'
        dsimp only at hl h hw hK hK' ih' ⊢
        rw [w_X7_keepRings_b35, lt k l (by omega) (by omega)]
        refine ⟨fun c y110 e110 => ?_, fun c => ?_⟩
        · rw [e110, nI_am1]
          refine ih (S, y) ⟨by dsimp only; omega, h, hw, fun y' a1 a2 l' hl' => ?_⟩ (by dsimp only; omega)
          dsimp only at a1
          by_cases ey : y' = y
          · rw [ey]; exact hK' l' (by omega)
          · exact hK y' (by omega) a2 l' hl'
        obtain ⟨g, eg⟩ : ∃ g, g = fun m => wa (W y) m + Kv W n (y + 1) (l - m) := ⟨_, rfl⟩
        have gb : ∀ m, m ≤ l → g m ≤ 20000 := by
          intro m hm
          have b1 := Kv_le (n := n) hW _ (y + 1) (l - m) rfl (by omega)
          have b3 := wa_le (hW y) m
          rw [eg]
          dsimp only
          omega
        refine loop_m (σ := Nat) (fun t'' m => w_X7_keepRings_b47 q (fun S v0 v1 v2 v3 => w_X7_keepRings_b28 q t S v0 v1 v2 v3) (fun S v0 v1 v2 v3 v4 => w_X7_keepRings_b35 q (fun S v0 v1 v2 v3 => w_X7_keepRings_b28 q t S v0 v1 v2 v3) t' S v0 v1 v2 v3 v4) t'' S a (nI k) (nI n) (nI y) (nI l) (nI (mxN g m)) (nI m)) (fun m => m ≤ l + 1) (fun m => l + 1 - m) ?_ 0 (Nat.zero_le _)
        rintro t'' m hm ih''
        rw [w_X7_keepRings_b47, lt l m (by omega) (by omega)]
        have mb : mxN g m ≤ 20000 := mxN_le m (fun j hj => gb j (by omega))
        refine ⟨fun c2 => E_gP_7_3 h ha (fun _ => ?_), fun c2 => T_oK_7 h ha (kx_gain h ha (by omega) (hw y (by omega)) (hW y) (by omega) (E_gP_7_3 h ha (fun _ => ?_)))⟩
        · have em : m = l + 1 := by omega
          unfold w_X7_entry
          rw [ent_nI]
          refine T_sI_20 h hf g3 h803 ⟨by rw [nI_toInt (by omega)]; omega, by rw [nI_toInt (by omega)]; omega⟩ (fun S' h' _ s2 _ s4 y104 e104 => ?_)
          rw [nI_clamp (by omega)] at s4
          rw [e104, nI_1]
          refine ih' (S', l + 1) ⟨by dsimp only; omega, h', fun y' hy' => by rw [s2 _ _ n13]; exact hw y' hy', fun y' a1 a2 l' hl' => ?_, fun l' hl' => ?_⟩ (by dsimp only; omega)
          · dsimp only
            rw [s4, if_neg (by omega)]
            exact hK y' a1 a2 l' hl'
          · dsimp only at hl' ⊢
            rw [s4]
            by_cases e : l' = l
            · rw [if_pos (by omega), e, Kv_s (by omega), ← eg, em]
            · rw [if_neg (by omega)]
              exact hK' l' (by omega)
        · unfold w_X7_entry
          rw [show nI y + 1 = nI (y + 1) by rw [nI_1], nIsub (by omega), ent_nI (y + 1) (l - m)]
          refine T7_3 h ha (by omega) (hK (y + 1) (Nat.le_refl _) (by omega) (l - m) (by omega)) (fun y83 e83 y85 e85 => ?_)
          have ge : wa (W y) m + Kv W n (y + 1) (l - m) = g m := by rw [eg]
          have gm := gb m (by omega)
          rw [nIadd, ge] at e83
          have : y83 = nI (mxN g (m + 1)) := by
            rw [e83, mxN]
            by_cases c3 : mxN g m < g m
            · rw [if_pos c3, if_pos ((lt _ _ (by omega) (by omega)).mpr c3)]
            · rw [if_neg c3, if_neg (fun z => c3 ((lt _ _ (by omega) (by omega)).mp z))]
          rw [this, e85, nI_1]
          exact ih'' (m + 1) (by omega) (by omega)
    · dsimp only at a1
      have : y' = n := by omega
      rw [this, Kv_0]
      exact hK l hl
  refine loop_m (σ := hS × Nat) (fun t s => w_X7_keepRings_b2 q t s.1 a (nI k) (nI n) (nI s.2)) (fun s => s.2 ≤ k + 1 ∧ St Γ Φ s.1 ∧ (∀ y, y < n → aV s.1 (ρa 1) y = nI (W y)) ∧ ∀ l, l < s.2 → aV s.1 (ρa 3) (21 * n + l) = nI 0) (fun s => k + 1 - s.2) ?_ (S, 0) ⟨Nat.zero_le _, h, hw, fun l hl => absurd hl (Nat.not_lt_zero _)⟩
  rintro t ⟨S, l⟩ ⟨hl, h, hw, hz⟩ ih
  dsimp only at hl h hw hz ih ⊢
  rw [w_X7_keepRings_b2, lt k l (by omega) (by omega)]
  refine ⟨fun c y27 e27 => ?_, fun c => E_gP_7_3 h ha (fun _ => ?_)⟩
  · rw [e27]
    exact k28 S h hw (fun l' hl' => hz l' (by omega))
  · unfold w_X7_entry
    rw [ent_nI]
    refine T_sI_20 h hf g3 h803 ⟨by rw [nI_toInt (by omega)]; omega, by rw [nI_toInt (by omega)]; omega⟩ (fun S' h' _ s2 _ s4 y18 e18 => ?_)
    rw [nI_clamp (by omega)] at s4
    rw [e18, nI_1]
    refine ih (S', l + 1) ⟨by dsimp only; omega, h', fun y' hy' => by rw [s2 _ _ n13]; exact hw y' hy', fun l' hl' => ?_⟩ (by dsimp only; omega)
    dsimp only at hl' ⊢
    rw [s4]
    by_cases e : l' = l
    · rw [if_pos (by omega)]
      rfl
    · rw [if_neg (by omega)]
      exact hz l' (by omega)
end KPC
