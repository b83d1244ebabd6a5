/-! A ROUND OF VISITS, IN THE CLASS -/
section VB
variable {Γ : kG} {Φ : kF} {S S' : hS} {a b i : Nat} {ρ ρa : Nat → Nat} {L : List Nat}
theorem sV_pl {k : Nat} (h : St Γ Φ S) (ha : Γ a = some (4, 4, 0, 0, ρa)) (hb : Γ b = some (8, 8 + 10000 * i, i, 0, ρ)) (e1 : sEqx S S' a k) (e2 : aEq S S') : sV S' b ρ = sV S b ρ := by
  obtain ⟨kg, kr, ku, kw, km, kp, kb, kh, ka, kn, ke, kc, kd⟩ := sK h hb
  have n1 : b ≠ a := nmne hb ha (by dsimp only; omega)
  have n2 : ρ 0 ≠ a := nmne kg ha (by dsimp only; omega)
  have ei : ∀ d j, d ≠ a → fI S' d j = fI S d j := fun d j hd => by unfold fI; rw [e1 d j (fun z => hd z.1)]
  exact sV_congr (fun k => ei _ _ n1) (fun k => ei _ _ n2) (fun j => e2.1 _ j) (fun j => e2.1 _ j) (fun j => e2.1 _ j) (fun j => e2.1 _ j) (fun j => e2.1 _ j) (fun j => e2.1 _ j) (fun j => e2.1 _ j) (fun j => e2.1 _ j) (fun j => e2.1 _ j) (fun j => e2.1 _ j) (fun j => e2.1 _ j) (fun j => e2.1 _ j)
theorem fI_x {k j : Nat} (e : sEqx S S' a k) (hj : j ≠ k) : fI S' a j = fI S a j := by unfold fI; rw [e a j (fun z => hj z.2)]
theorem fI_q {j : Nat} (e : sEq S S') : fI S' a j = fI S a j := by unfold fI; rw [e]
/-- what the walk keeps -/
def wkI (Γ : kG) (Φ : kF) (a b : Nat) (ρ ρa : Nat → Nat) (F : Nat → Int32) (n : Nat) (S : hS) (st : vtS) (k : Nat) (f : Nat → Nat) : Prop := St Γ Φ S ∧ sV S b ρ = F ∧ (fI S a 1 = nI n ∧ fI S a 4 = nI st.1 ∧ fI S a 2 = nI st.2.1) ∧ bdV n st ∧ (∀ j, j < st.1 → aV S (ρa 3) j = nI (st.2.2 j)) ∧ ∀ j, j < k → aV S (ρa 0) j = nI (f j)
theorem kx_walk {F : Nat → Int32} {n p : Nat} (hf : fre Γ Φ L) (h4 : 4 ∈ L) (h500 : 500 ∈ L) (h503 : 503 ∈ L) (ha : Γ a = some (4, 4, 0, 0, ρa)) (hb : Γ b = some (8, 8 + 10000 * i, i, 0, ρ)) (hB : rB F) (hp : (p : Int) < iR F 1) (hn : n ≤ 99) : ∀ (d : Nat) (S : hS) (q : hS → Prop) (k v m : Nat) (f : Nat → Nat) (st : vtS), wkI Γ Φ a b ρ ρa F n S st k f → k ≤ 6 → 7 ≤ d + k → v ≤ n → m < 64 → (∀ j, j < k → f j < 6) → (∀ h, h < 6 → (m.testBit h = true ↔ ∃ j, j < k ∧ f j = h)) → (∀ S', wkI Γ Φ a b ρ ρa F n S' (viS F p n (6 - k) k f v (bvU k v f st)) k f → q S') → wr_W d 0 q S a b (nI p) (frV F p f k) (nI v) (nI m) (nI k) := by
  have b0 := rB_0 hB
  have b1 := rB_1 hB
  have iH : iR F 0 = nHR F := by unfold nHR; omega
  have e0 : F 0 = nI (nHR F) := by
    apply Int32.toInt_inj.mp
    have : iR F 0 = (F 0).toInt := rfl
    rw [nI_toInt (by omega)]; omega
  have lt : ∀ u v : Nat, u < 2 ^ 31 → v < 2 ^ 31 → (nI u < nI v ↔ u < v) := fun u v hu hv => by rw [Int32.lt_iff_toInt_lt, nI_toInt (by omega), nI_toInt (by omega)]; omega
  have g0 := fun S' (h' : St Γ Φ S') => (P_4_0 h' ha).2
  have g3 := fun S' (h' : St Γ Φ S') => (P_4_3 h' ha).2
  intro d
  induction d with
  | zero => intro S q k v m f st hw hk hd; omega
  | succ d ihd =>
    intro S q k v m f st hw hk hd hv hm hf6 hbit kq
    have hbd := hw.2.2.2.1
    -- behind the look whether it is better
    have k54 : ∀ S', wkI Γ Φ a b ρ ρa F n S' (bvU k v f st) k f → w_X4_walk_b54 (wr_W d) q S' a b (nI p) (frV F p f k) (nI v) (nI m) (nI k) := by
      intro S' hw
      obtain ⟨st1, est⟩ : ∃ st1, st1 = bvU k v f st := ⟨_, rfl⟩
      rw [← est] at hw kq
      unfold w_X4_walk_b54
      rw [lit_nI 6, lt k 6 (by omega) (by omega)]
      refine ⟨fun ck => ?_, fun ck => ?_⟩
      · rw [show 6 - k = (5 - k) + 1 by omega, viS] at kq
        obtain ⟨G, eG⟩ : ∃ G : Nat → vtS → vtS, G = fun h st => if okVi F p n f k v h = true then viS F p n (5 - k) (k + 1) (upN f k h) (nxV F p f k v h) (bvU (k + 1) (nxV F p f k v h) (upN f k h) st) else st := ⟨_, rfl⟩
        rw [← eG] at kq
        refine loop_m (σ := hS × Nat) (fun t s => w_X4_walk_b65 (wr_W d) q t s.1 a b (nI p) (frV F p f k) (nI v) (nI m) (nI k) (nI s.2)) (fun s => s.2 ≤ nHR F ∧ wkI Γ Φ a b ρ ρa F n s.1 (fldX G 0 s.2 st1) k f) (fun s => nHR F - s.2) ?_ (S', 0) ⟨Nat.zero_le _, hw⟩
        rintro t ⟨S, h⟩ ⟨hh, hw⟩ ih
        dsimp only at hh hw ih ⊢
        obtain ⟨hs, eF, ⟨f1, f4, f2⟩, hbd, hr, hwr⟩ := hw
        have hw : wkI Γ Φ a b ρ ρa F n S (fldX G 0 h st1) k f := ⟨hs, eF, ⟨f1, f4, f2⟩, hbd, hr, hwr⟩
        have no : h < nHR F → ¬ okVi F p n f k v h = true → w_X4_walk_b155 (wr_W d) q (fun S v0 v1 v2 v3 v4 v5 v6 v7 => w_X4_walk_b65 (wr_W d) q t S v0 v1 v2 v3 v4 v5 v6 v7) S a b (nI p) (frV F p f k) (nI v) (nI m) (nI k) (nI h) := by
          intro hl hno y ey
          rw [ey, nI_1]
          refine ih (S, h + 1) ⟨by dsimp only; omega, ?_⟩ (by dsimp only; omega)
          dsimp only
          rw [fldX_s, Nat.zero_add, eG]
          dsimp only
          rw [if_neg hno, ← eG]
          exact hw
        rw [w_X4_walk_b65]
        refine V_gI_1 hs hb (fun _ => ?_)
        rw [eF, e0, nI_leI (by omega) (by omega)]
        refine ⟨fun c => ?_, fun c => E_gP_8_2 hs hb (fun _ => V_aI_p hs hb (nI_toInt (by omega)) (by omega) ?_)⟩
        · have eh : h = nHR F := by omega
          rw [eh] at hw
          exact kq S hw
        · rw [eF]
          unfold w_X11_stepsBetween
          intro y88 e88
          have ste := st_e hB (p := p) (h := h) (by omega) hf6 (by omega)
          have e88 : y88 = nI (nxV F p f k v h) := by
            have : y88 = nI v + stE (frV F p f k) (F (126 + h)) := e88
            rw [this, ste.1, nIadd]
            rfl
          have nxb : nxV F p f k v h ≤ 107 := by
            unfold nxV
            omega
          have bt := mk_bit m (by omega) h (by omega)
          have new : m.testBit h = true ↔ ∃ j, j < k ∧ f j = h := hbit h (by omega)
          refine kx_hasBit (by omega) rfl (fun cb => ⟨fun _ => no (by omega) (fun z => ?_), fun z => absurd z (by decide)⟩) (fun cb => ⟨fun z => absurd rfl z, fun _ => T_oK_8 hs hb (kx_leftOf hs hb (by rw [eF]; exact hB) rfl rfl (by rw [eF]; exact hp) (by rw [eF]; omega) (fun r er => ⟨fun cl => no (by omega) (fun z => ?_), fun cl => T_gI_4_1 hs ha (fun x ex _ => ⟨fun cx => no (by omega) (fun z => ?_), fun cx => E_gP_4_0 hs ha (fun _ => T_sI_20 hs hf (g0 S hs) h500 ⟨by rw [nI_toInt (by omega)]; omega, by rw [nI_toInt (by omega)]; omega⟩ (fun S1 h1 s1 s2 _ s4 => E_gP_8_2 h1 hb (fun _ => V_aI_p h1 hb (nI_toInt (by omega)) (by omega) (T_oK_4 h1 ha ?_))))⟩)⟩))⟩)
          · obtain ⟨j, j1, j2⟩ := new.mp (bt.mp cb)
            exact (okVi_iff.mp z).1 j j1 j2
          · rw [Int32.lt_iff_toInt_lt, er, eF, show (1 : Int32).toInt = 1 by decide] at cl
            have := (okVi_iff.mp z).2.1
            omega
          · rw [ex, f1, e88, lt n _ (by omega) (by omega)] at cx
            have := (okVi_iff.mp z).2.2
            omega
          · have nb : ∀ j, j < k → f j ≠ h := fun j j1 j2 => cb (bt.mpr (new.mpr ⟨j, j1, j2⟩))
            rw [ex, f1, e88, lt n _ (by omega) (by omega)] at cx
            rw [Int32.lt_iff_toInt_lt, er, eF, show (1 : Int32).toInt = 1 by decide] at cl
            have ok : okVi F p n f k v h = true := okVi_iff.mpr ⟨nb, by omega, by omega⟩
            have n30 : ρa 3 ≠ ρa 0 := nmne (g3 S hs) (g0 S hs) (by decide)
            rw [nI_clamp (by omega)] at s4
            have sv1 : sV S1 b ρ = F := by rw [← eF]; exact sV_arr hs hb (g0 S hs) (by omega) s1 s2
            have w1 : wkI Γ Φ a b ρ ρa F n S1 (fldX G 0 h st1) (k + 1) (upN f k h) := by
              refine ⟨h1, sv1, ⟨by rw [fI_q s1]; exact f1, by rw [fI_q s1]; exact f4, by rw [fI_q s1]; exact f2⟩, hbd, fun j hj => by rw [s2 _ _ n30]; exact hr j hj, fun j hj => ?_⟩
              rw [s4]
              unfold upN
              by_cases c2 : j = k
              · rw [if_pos c2, if_pos c2]
              · rw [if_neg c2, if_neg c2]
                exact hwr j (by omega)
            rw [sv1, e88, nI_1, mk_or m (by omega) h (by omega)]
            have efr : F (126 + h) = frV F p (upN f k h) (k + 1) := by
              unfold frV upN
              rw [if_neg (by omega), Nat.add_sub_cancel, if_pos rfl]
            rw [efr]
            have m64 : m ||| 2 ^ h < 64 := mk_lt (n := 6) hm (by omega)
            refine ihd S1 _ (k + 1) (nxV F p f k v h) (m ||| 2 ^ h) (upN f k h) (fldX G 0 h st1) w1 (by omega) (by omega) (by omega) m64 (fun j hj => ?_) (fun x hx => ?_) (fun S2 hw2 => ?_)
            · unfold upN
              split
              · omega
              · exact hf6 j (by omega)
            · rw [bit_or, hbit x hx]
              unfold upN
              constructor
              · rintro (⟨j, j1, j2⟩ | z)
                · exact ⟨j, by omega, by rw [if_neg (by omega)]; exact j2⟩
                · exact ⟨k, by omega, by rw [if_pos rfl]; exact z⟩
              · rintro ⟨j, j1, j2⟩
                by_cases c2 : j = k
                · rw [if_pos c2] at j2
                  exact Or.inr j2
                · rw [if_neg c2] at j2
                  exact Or.inl ⟨j, by omega, j2⟩
            · intro y ey
              rw [ey, nI_1]
              refine ih (S2, h + 1) ⟨by dsimp only; omega, ?_⟩ (by dsimp only; omega)
              dsimp only
              rw [fldX_s, Nat.zero_add, eG]
              dsimp only
              rw [if_pos ok, ← eG]
              rw [show 6 - (k + 1) = 5 - k by omega] at hw2
              obtain ⟨a1, a2, a3, a4, a5, a6⟩ := hw2
              refine ⟨a1, a2, a3, a4, a5, fun j hj => ?_⟩
              rw [a6 j (by omega)]
              unfold upN
              rw [if_neg (by omega)]
      · have e6 : 6 - k = 0 := by omega
        rw [e6, viS] at kq
        exact kq S' hw
    obtain ⟨hs, eF, ⟨f1, f4, f2⟩, hbd, hr, hwr⟩ := hw
    have same : ¬ (st.1 < k ∨ (k = st.1 ∧ v < st.2.1)) → w_X4_walk_b54 (wr_W d) q S a b (nI p) (frV F p f k) (nI v) (nI m) (nI k) := by
      intro z
      refine k54 S ?_
      have : bvU k v f st = st := if_neg z
      rw [this]
      exact ⟨hs, eF, ⟨f1, f4, f2⟩, hbd, hr, hwr⟩
    have better : (st.1 < k ∨ (k = st.1 ∧ v < st.2.1)) → w_X4_walk_b27 (wr_W d) q S a b (nI p) (frV F p f k) (nI v) (nI m) (nI k) := by
      intro z
      unfold w_X4_walk_b27
      refine T_pI_4_4 hs hf ha h4 ⟨by rw [nI_toInt (by omega)]; omega, by rw [nI_toInt (by omega)]; omega⟩ (fun S1 h1 p1 x1 q1 => T_pI_4_2 h1 hf ha h4 (fun S2 h2 p2 x2 q2 => E_gP_4_0 h2 ha (fun _ => E_gP_4_3 h2 ha (fun _ => T_cI_20 h2 (g0 S2 h2) hf (g3 S2 h2) h503 ⟨⟨by decide, by decide, by rw [nI_toInt (by omega)]; omega⟩, by rw [nI_toInt (by omega), show (0 : Int32).toInt = 0 by decide]; omega, by rw [nI_toInt (by omega), show (0 : Int32).toInt = 0 by decide]; omega⟩ (fun S3 h3 s1 s2 _ s4 => k54 S3 ?_)))))
      have n03 : ρa 0 ≠ ρa 3 := nmne (g0 S2 h2) (g3 S2 h2) (by decide)
      have e : bvU k v f st = (k, v, f) := if_pos z
      rw [e]
      have sv1 : sV S1 b ρ = F := by rw [sV_pl hs ha hb x1 q1]; exact eF
      have sv2 : sV S2 b ρ = F := by rw [sV_pl h1 ha hb x2 q2]; exact sv1
      refine ⟨h3, by rw [sV_arr h2 hb (g3 S2 h2) (by omega) s1 s2]; exact sv2, ⟨?_, ?_, ?_⟩, ⟨hk, hv, hf6⟩, fun j hj => ?_, fun j hj => ?_⟩
      · rw [fI_q s1, fI_x x2 (by omega), fI_x x1 (by omega)]
        exact f1
      · rw [fI_q s1, fI_x x2 (by omega)]
        exact p1
      · rw [fI_q s1]
        exact p2
      · dsimp only at hj ⊢
        rw [s4, nI_clamp (by omega), show (0 : Int32).toNatClampNeg = 0 by decide, cpy_all hj, q2.1, q1.1]
        exact hwr j hj
      · rw [s2 _ _ n03, q2.1, q1.1]
        exact hwr j hj
    have bd := hbd
    unfold bdV at bd
    show wb_X4_walk (wr_W d) q S a b (nI p) (frV F p f k) (nI v) (nI m) (nI k)
    unfold wb_X4_walk
    refine T_gI_4_4 hs ha (fun x ex _ => ?_)
    rw [ex, f4, lt _ _ (by omega) (by omega)]
    refine ⟨fun c => better (Or.inl c), fun c => T_gI_4_4 hs ha (fun x' ex' _ => ?_)⟩
    rw [ex', f4, nI_eq (by omega) (by omega)]
    refine ⟨fun c2 => same (fun z => z.elim c (fun y => c2 y.1)), fun c2 => T_gI_4_2 hs ha (fun x2 ex2 _ => ?_)⟩
    rw [ex2, f2, nI_leI (by omega) (by omega)]
    refine ⟨fun c3 => same (fun z => z.elim c (fun y => by omega)), fun c3 => better (Or.inr ⟨c2, by omega⟩)⟩
end VB
