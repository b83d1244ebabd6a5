/-! LAYER 2, the class: its own methods, those that change what is followed -/
theorem shb9 : ∀ n, n < 9 → ((1 : Int32) <<< (nI n &&& 31)).toInt = (2 : Int) ^ n := by decide +kernel
theorem bit8 : ∀ m, m < 256 → ∀ p, p < 8 → m < 2 ^ p → ¬ ((nI m >>> (nI p &&& 31)) &&& 1) = 1 := by decide +kernel
section MAIN2
variable {Γ : kG} {Φ : kF} {S : hS} {a b c n o i i' : Nat} {ρ ρ' ρa : Nat → Nat} {rs : Nat} {tx : Nat → Nat} {L : List Nat}
theorem kx_refuse {q : Int32 → hS → Prop} {v : Int32} (h : St Γ Φ S) (hf : fre Γ Φ [11, 1216]) (ha : Γ a = some (11, 11, 0, rs, ρ)) (k : ∀ S', St Γ Φ S' → sam Γ [11, 1216] S S' → q v S') : w_X11_refuse q S a v :=
  kc_X11_refuse (frz_St h) (frz_fre hf (fun _ x => x)) ha (fun S' h' => k S' (frz_un h h').1 (frz_un h h').2)
theorem kx_accept {q : Int32 → hS → Prop} {v : Int32} (h : St Γ Φ S) (hf : fre Γ Φ [11]) (ha : Γ a = some (11, 11, 0, rs, ρ)) (k : ∀ S', St Γ Φ S' → sam Γ [11] S S' → q v S') : w_X11_accept q S a v :=
  kc_X11_accept (frz_St h) (frz_fre hf (fun _ x => x)) ha (fun S' h' => k S' (frz_un h h').1 (frz_un h h').2)
theorem kx_clear {q : hS → Prop} (h : St Γ Φ S) (hf : fre Γ Φ [3]) (ha : Γ a = some (3, 3, 0, 0, ρ)) (k : ∀ S', St Γ Φ S' → sam Γ [3] S S' → q S') : w_X3_clear q S a :=
  kc_X3_clear (frz_St h) (frz_fre hf (fun _ x => x)) ha (fun S' h' => k S' (frz_un h h').1 (frz_un h h').2)
theorem kx_X11_house {q : Int32 → hS → Prop} {v w : Int32} (h : St Γ Φ S) (hf : fre Γ Φ [11, 1216, 3, 8, 902, 903, 300, 301, 302]) (ha : Γ a = some (11, 11, 0, rs, ρ)) (k1 : ¬ ((0 ≤ v.toInt ∧ v.toInt ≤ 24) ∧ 0 ≤ w.toInt ∧ w.toInt ≤ 99) → ∀ S', St Γ Φ S' → sV S' (ρ 0) (bk 0 ρ) = sV S (ρ 0) (bk 0 ρ) → q (-1) S') (k5 : ((0 ≤ v.toInt ∧ v.toInt ≤ 24) ∧ 0 ≤ w.toInt ∧ w.toInt ≤ 99) → ¬ (sV S (ρ 0) (bk 0 ρ) 0).toInt < 6 → ∀ S', St Γ Φ S' → sV S' (ρ 0) (bk 0 ρ) = sV S (ρ 0) (bk 0 ρ) → q (-5) S') (k : ((0 ≤ v.toInt ∧ v.toInt ≤ 24) ∧ 0 ≤ w.toInt ∧ w.toInt ≤ 99) → ∀ n S', n < 6 → sV S (ρ 0) (bk 0 ρ) 0 = nI n → St Γ Φ S' → sV S' (ρ 0) (bk 0 ρ) = hsR (sV S (ρ 0) (bk 0 ρ)) n v w → q (nI n) S') : w_X11_house q S a v w := by
  have t24 : (24 : Int32).toInt = 24 := by decide
  have t99 : (99 : Int32).toInt = 99 := by decide
  have t6 : (6 : Int32).toInt = 6 := by decide
  have hb := (P_11_0 h ha).2
  have b18 : ¬ ((0 ≤ v.toInt ∧ v.toInt ≤ 24) ∧ 0 ≤ w.toInt ∧ w.toInt ≤ 99) → w_X11_house_b18 q S a := fun hn => T_oK_11 h ha (kx_refuse h (hf.sub (by simp)) ha (fun S' h' hs => k1 hn S' h' (sV_sam h hb hs (by simp))))
  unfold w_X11_house
  refine kx_isWithin (fun n1 => ⟨fun _ => b18 (fun z => n1 (by rw [t24]; exact z.1)), fun z => absurd rfl z⟩) (fun y1 => ⟨fun z => absurd z (by decide), fun _ => kx_isWithin (fun n2 => ⟨fun z => absurd rfl z, fun _ => b18 (fun z => n2 (by rw [t99]; exact z.2))⟩) (fun y2 => ⟨fun _ => ?_, fun z => absurd z (by decide)⟩)⟩)
  rw [t24] at y1
  rw [t99] at y2
  refine E_gP_11_0 h ha (fun _ => V_gI_1 h hb (fun r => ⟨fun c => E_gP_11_3 h ha (fun kl => T_oK_3 h kl (kx_clear h (hf.sub (by simp)) kl (fun S1 h1 s1 => E_gP_11_0 h1 ha (fun _ => T_oK_8 h1 hb (kx_X8_addHouse h1 hb (hf.sub (by simp)) (fun n0 => ?_) (fun n S2 hn en h2 e2 => T_oK_11 h2 ha (kx_accept h2 (hf.sub (by simp)) ha (fun S3 h3 s3 => ?_)))))))), fun c => T_oK_11 h ha (kx_refuse h (hf.sub (by simp)) ha (fun S' h' hs => k5 ⟨y1, y2⟩ ?_ S' h' (sV_sam h hb hs (by simp))))⟩))
  · exfalso
    rw [sV_sam h hb s1 (by simp)] at n0
    rw [Int32.lt_iff_toInt_lt, t6] at c
    exact n0 c
  · have e1 := sV_sam h hb s1 (by simp)
    refine k ⟨y1, y2⟩ n S3 hn (by rw [← e1]; exact en) h3 ?_
    rw [sV_sam h2 hb s3 (by simp), e2, e1]
  · rw [Int32.lt_iff_toInt_lt, t6] at c
    exact c
theorem kx_X11_person {q : Int32 → hS → Prop} {v w u : Int32} (h : St Γ Φ S) (hf : fre Γ Φ [11, 1216, 3, 8, 2, 300, 301, 303, 905, 906, 907, 908]) (ha : Γ a = some (11, 11, 0, rs, ρ)) (k1 : ¬ cmIn v w u → ∀ S', St Γ Φ S' → sV S' (ρ 0) (bk 0 ρ) = sV S (ρ 0) (bk 0 ρ) → q (-1) S') (k5 : cmIn v w u → ¬ (sV S (ρ 0) (bk 0 ρ) 1).toInt < 8 → ∀ S', St Γ Φ S' → sV S' (ρ 0) (bk 0 ρ) = sV S (ρ 0) (bk 0 ρ) → q (-5) S') (k : cmIn v w u → ∀ n S', n < 8 → sV S (ρ 0) (bk 0 ρ) 1 = nI n → St Γ Φ S' → (∀ j, ¬ (22 ≤ j ∧ j < 30) → sV S' (ρ 0) (bk 0 ρ) j = psR (sV S (ρ 0) (bk 0 ρ)) n v w u j) → q (nI n) S') : w_X11_person q S a v w u := by
  have t24 : (24 : Int32).toInt = 24 := by decide
  have t99 : (99 : Int32).toInt = 99 := by decide
  have t999 : (999 : Int32).toInt = 999 := by decide
  have t8 : (8 : Int32).toInt = 8 := by decide
  have hb := (P_11_0 h ha).2
  have b28 : ¬ cmIn v w u → w_X11_person_b28 q S a := fun hn => T_oK_11 h ha (kx_refuse h (hf.sub (by simp)) ha (fun S' h' hs => k1 hn S' h' (sV_sam h hb hs (by simp))))
  unfold w_X11_person
  refine kx_isWithin (fun n1 => ⟨fun _ => b28 (fun z => n1 (by rw [t24]; exact z.1)), fun z => absurd rfl z⟩) (fun y1 => ⟨fun z => absurd z (by decide), fun _ => kx_isWithin (fun n2 => ⟨fun _ => b28 (fun z => n2 (by rw [t99]; exact z.2.1)), fun z => absurd rfl z⟩) (fun y2 => ⟨fun z => absurd z (by decide), fun _ => kx_isWithin (fun n3 => ⟨fun z => absurd rfl z, fun _ => b28 (fun z => n3 (by rw [t999]; exact z.2.2))⟩) (fun y3 => ⟨fun _ => ?_, fun z => absurd z (by decide)⟩)⟩)⟩)
  rw [t24] at y1
  rw [t99] at y2
  rw [t999] at y3
  refine E_gP_11_0 h ha (fun _ => V_gI_4 h hb (fun r => ⟨fun c => E_gP_11_3 h ha (fun kl => T_oK_3 h kl (kx_clear h (hf.sub (by simp)) kl (fun S1 h1 s1 => E_gP_11_0 h1 ha (fun _ => T_oK_8 h1 hb (kx_X8_addPerson h1 hb (hf.sub (by simp)) (fun n0 => ?_) (fun n S2 hn en h2 e2 => T_oK_11 h2 ha (kx_accept h2 (hf.sub (by simp)) ha (fun S3 h3 s3 => ?_)))))))), fun c => T_oK_11 h ha (kx_refuse h (hf.sub (by simp)) ha (fun S' h' hs => k5 ⟨y1, y2, y3⟩ ?_ S' h' (sV_sam h hb hs (by simp))))⟩))
  · exfalso
    rw [sV_sam h hb s1 (by simp)] at n0
    rw [Int32.lt_iff_toInt_lt, t8] at c
    exact n0 c
  · have e1 := sV_sam h hb s1 (by simp)
    refine k ⟨y1, y2, y3⟩ n S3 hn (by rw [← e1]; exact en) h3 (fun j hj => ?_)
    rw [sV_sam h2 hb s3 (by simp), e2 j hj, e1]
  · rw [Int32.lt_iff_toInt_lt, t8] at c
    exact c
theorem kx_X11_will {q : Int32 → hS → Prop} {v w : Int32} {n : Nat} (h : St Γ Φ S) (hf : fre Γ Φ [11, 1216, 908]) (ha : Γ a = some (11, 11, 0, rs, ρ)) (hn9 : n ≤ 8) (en : sV S (ρ 0) (bk 0 ρ) 1 = nI n) (k1 : ¬ (0 ≤ w.toInt ∧ w.toInt < 2 ^ n) ∨ ((0 ≤ v.toInt ∧ v.toInt ≤ 7) ∧ btI w v) → ∀ S', St Γ Φ S' → sV S' (ρ 0) (bk 0 ρ) = sV S (ρ 0) (bk 0 ρ) → q (-1) S') (k2 : (0 ≤ w.toInt ∧ w.toInt < 2 ^ n) → ¬ ((0 ≤ v.toInt ∧ v.toInt ≤ 7) ∧ btI w v) → ¬ (0 ≤ v.toInt ∧ v.toInt < n) → ∀ S', St Γ Φ S' → sV S' (ρ 0) (bk 0 ρ) = sV S (ρ 0) (bk 0 ρ) → q (-2) S') (k : (0 ≤ w.toInt ∧ w.toInt < 2 ^ n) → ¬ ((0 ≤ v.toInt ∧ v.toInt ≤ 7) ∧ btI w v) → ∀ p, p < n → v = nI p → ∀ S', St Γ Φ S' → sV S' (ρ 0) (bk 0 ρ) = upd (sV S (ρ 0) (bk 0 ρ)) (162 + p) w → q (sV S (ρ 0) (bk 0 ρ) (162 + p)) S') : w_X11_will q S a v w := by
  have hb := (P_11_0 h ha).2
  have n8 : (2 : Int) ^ n ≤ 256 := by
    have : ∀ n, n < 9 → (2 : Int) ^ n ≤ 256 := by decide
    exact this n (by omega)
  have b50 : (¬ (0 ≤ w.toInt ∧ w.toInt < 2 ^ n) ∨ ((0 ≤ v.toInt ∧ v.toInt ≤ 7) ∧ btI w v)) → w_X11_will_b50 q S a := fun hn => T_oK_11 h ha (kx_refuse h (hf.sub (by simp)) ha (fun S' h' hs => k1 hn S' h' (sV_sam h hb hs (by simp))))
  have b26 : ∀ x, ¬ (0 ≤ w.toInt ∧ w.toInt < 2 ^ n) → w_X11_will_b26 q S a v w x := by
    intro x hn
    unfold w_X11_will_b26 w_X11_will_b31
    exact ⟨fun _ => b50 (Or.inl hn), fun z => absurd z (by decide)⟩
  -- one who is not known has no bit
  have nob : (0 ≤ w.toInt ∧ w.toInt < 2 ^ n) → ¬ (0 ≤ v.toInt ∧ v.toInt < n) → ¬ ((0 ≤ v.toInt ∧ v.toInt ≤ 7) ∧ btI w v) := by
    rintro hw hv ⟨hv7, hb7⟩
    obtain ⟨p, hp, rfl⟩ := pIx 8 (by omega) hv7.1 (by omega)
    obtain ⟨m, hm, rfl⟩ := pIx 256 (by omega) hw.1 (by omega)
    rw [nI_toInt (by omega)] at hv hw
    refine bit8 m hm p hp ?_ hb7
    have h1 : m < 2 ^ n := by
      have := hw.2
      exact_mod_cast this
    exact Nat.lt_of_lt_of_le h1 (Nat.pow_le_pow_right (by omega) (by omega))
  have b56 : ∀ x, (x = 0 ∧ ¬ (0 ≤ v.toInt ∧ v.toInt < n)) ∨ (x = 1 ∧ (0 ≤ v.toInt ∧ v.toInt < n) ∧ ¬ ((0 ≤ v.toInt ∧ v.toInt ≤ 7) ∧ btI w v)) → (0 ≤ w.toInt ∧ w.toInt < 2 ^ n) → w_X11_will_b56 q S a v w x := by
    rintro x (⟨rfl, hv⟩ | ⟨rfl, hv, hnb⟩) hw
    · exact ⟨fun z => absurd rfl z, fun _ => T_oK_11 h ha (kx_refuse h (hf.sub (by simp)) ha (fun S' h' hs => k2 hw (nob hw hv) hv S' h' (sV_sam h hb hs (by simp))))⟩
    · refine ⟨fun _ => ?_, fun z => absurd z (by decide)⟩
      obtain ⟨p, hp, rfl⟩ := pIx n (by omega) hv.1 hv.2
      refine E_gP_11_0 h ha (fun _ => E_gP_8_8 h hb (fun _ => V_aI_e h hb (nI_toInt (by omega)) (by omega) (E_gP_11_0 h ha (fun _ => E_gP_8_8 h hb (fun _ => V_sI_e h hb hf (by simp) (nI_toInt (by omega)) (by omega) (fun S1 h1 v1 => T_oK_11 h1 ha (kx_accept h1 (hf.sub (by simp)) ha (fun S2 h2 s2 => ?_))))))))
      exact k hw hnb p hp rfl S2 h2 (by rw [sV_sam h1 hb s2 (by simp), v1])
  unfold w_X11_will
  have e1 : (sV S (ρ 0) (bk 0 ρ) 1).toInt = n := by rw [en, nI_toInt (by omega)]
  have rest : ∀ x, (x = 0 ∧ ¬ (0 ≤ v.toInt ∧ v.toInt < n)) ∨ (x = 1 ∧ (0 ≤ v.toInt ∧ v.toInt < n)) → ((w < 0 → w_X11_will_b26 q S a v w x) ∧ (¬ w < 0 → gP S a 11 0 (fun x16 => gI S x16 8 4 (fun x19 => (w < (1 <<< (x19 &&& 31)) → w_X11_will_b31 q S a v w x 0) ∧ (¬ w < (1 <<< (x19 &&& 31)) → w_X11_will_b26 q S a v w x))))) := by
    intro x hx
    refine ⟨fun c => b26 x (fun z => ?_), fun c => E_gP_11_0 h ha (fun _ => V_gI_4 h hb (fun r => ?_))⟩
    · rw [Int32.lt_iff_toInt_lt, z0I] at c; omega
    rw [en, Int32.lt_iff_toInt_lt, shb9 n (by omega)]
    rw [Int32.lt_iff_toInt_lt, z0I] at c
    refine ⟨fun c2 => ?_, fun c2 => b26 x (fun z => c2 z.2)⟩
    have hw : 0 ≤ w.toInt ∧ w.toInt < 2 ^ n := ⟨by omega, c2⟩
    unfold w_X11_will_b31
    refine ⟨fun z => absurd rfl z, fun _ => ⟨fun z => b56 x (hx.elim Or.inl (fun y => absurd (y.1.symm.trans z) (by decide))) hw, fun z => ?_⟩⟩
    obtain ⟨rfl, hv⟩ : x = 1 ∧ (0 ≤ v.toInt ∧ v.toInt < n) := hx.elim (fun y => absurd y.1 z) id
    have v31 : ¬ v < 0 ∧ ¬ 31 ≤ v := by
      rw [Int32.lt_iff_toInt_lt, Int32.le_iff_toInt_le, z0I]
      have : (31 : Int32).toInt = 31 := by decide
      omega
    unfold w_X11_hasBit
    refine ⟨fun z => absurd z v31.1, fun _ => ⟨fun z => absurd z v31.2, fun _ => ⟨fun nb => ⟨fun _ => b56 1 (Or.inr ⟨rfl, hv, fun y => nb y.2⟩) hw, fun z => absurd rfl z⟩, fun bt => ⟨fun z => absurd z (by decide), fun _ => b50 (Or.inr ⟨⟨hv.1, by omega⟩, bt⟩)⟩⟩⟩⟩
  exact E_gP_11_0 h ha (fun _ => T_oK_8 h hb (kx_X8_hasPerson h hb (fun n0 => rest 0 (Or.inl ⟨rfl, by rw [e1] at n0; exact n0⟩)) (fun y1 y2 _ => rest 1 (Or.inr ⟨rfl, y1, by rw [e1] at y2; exact y2⟩))))
theorem kx_X11_forget {q : Int32 → hS → Prop} (h : St Γ Φ S) (hf : fre Γ Φ [8]) (ha : Γ a = some (11, 11, 0, rs, ρ)) (k : ∀ S', St Γ Φ S' → sV S' (ρ 0) (bk 0 ρ) = upd (sV S (ρ 0) (bk 0 ρ)) 2 0 → q (sV S (ρ 0) (bk 0 ρ) 2) S') : w_X11_forget q S a := by
  have hb := (P_11_0 h ha).2
  unfold w_X11_forget
  exact E_gP_11_0 h ha (fun _ => V_gI_9 h hb (fun _ => E_gP_11_0 h ha (fun _ => V_pI_9 h hb hf (by simp) (by decide) (fun S1 h1 v1 => k S1 h1 v1))))
theorem kx_X11_clue {q : Int32 → hS → Prop} {v w : Int32} (h : St Γ Φ S) (hf : fre Γ Φ [11, 1216, 8, 910, 911]) (ha : Γ a = some (11, 11, 0, rs, ρ)) (g1 : ¬ (0 ≤ w.toInt ∧ w.toInt ≤ 99) → ∀ S', St Γ Φ S' → sV S' (ρ 0) (bk 0 ρ) = sV S (ρ 0) (bk 0 ρ) → q (-1) S') (g2 : (0 ≤ w.toInt ∧ w.toInt ≤ 99) → ¬ (0 ≤ v.toInt ∧ v.toInt < (sV S (ρ 0) (bk 0 ρ) 0).toInt) → ∀ S', St Γ Φ S' → sV S' (ρ 0) (bk 0 ρ) = sV S (ρ 0) (bk 0 ρ) → q (-2) S') (g5 : (0 ≤ w.toInt ∧ w.toInt ≤ 99) → (0 ≤ v.toInt ∧ v.toInt < (sV S (ρ 0) (bk 0 ρ) 0).toInt) → ¬ (sV S (ρ 0) (bk 0 ρ) 2).toInt < 6 → ∀ S', St Γ Φ S' → sV S' (ρ 0) (bk 0 ρ) = sV S (ρ 0) (bk 0 ρ) → q (-5) S') (k : (0 ≤ w.toInt ∧ w.toInt ≤ 99) → (0 ≤ v.toInt ∧ v.toInt < (sV S (ρ 0) (bk 0 ρ) 0).toInt) → ∀ n, n < 6 → sV S (ρ 0) (bk 0 ρ) 2 = nI n → ∀ S', St Γ Φ S' → sV S' (ρ 0) (bk 0 ρ) = upd (upd (upd (sV S (ρ 0) (bk 0 ρ)) (170 + 2 * n) v) (171 + 2 * n) w) 2 (nI (n + 1)) → q (nI (n + 1)) S') : w_X11_clue q S a v w := by
  have t99 : (99 : Int32).toInt = 99 := by decide
  have t6 : (6 : Int32).toInt = 6 := by decide
  have hb := (P_11_0 h ha).2
  unfold w_X11_clue
  refine kx_isWithin (fun n1 => ⟨fun z => absurd rfl z, fun _ => T_oK_11 h ha (kx_refuse h (hf.sub (by simp)) ha (fun S' h' hs => g1 (fun z => n1 (by rw [t99]; exact z)) S' h' (sV_sam h hb hs (by simp))))⟩) (fun y1 => ⟨fun _ => ?_, fun z => absurd z (by decide)⟩)
  rw [t99] at y1
  refine E_gP_11_0 h ha (fun _ => T_oK_8 h hb (kx_X8_hasHouse h hb (fun n2 => ⟨fun z => absurd rfl z, fun _ => T_oK_11 h ha (kx_refuse h (hf.sub (by simp)) ha (fun S' h' hs => g2 y1 n2 S' h' (sV_sam h hb hs (by simp))))⟩) (fun y2 y3 y4 => ⟨fun _ => E_gP_11_0 h ha (fun _ => V_gI_9 h hb (fun r => ⟨fun c => ?_, fun c => T_oK_11 h ha (kx_refuse h (hf.sub (by simp)) ha (fun S' h' hs => g5 y1 ⟨y2, y3⟩ (by rw [Int32.lt_iff_toInt_lt, t6] at c; exact c) S' h' (sV_sam h hb hs (by simp))))⟩)), fun z => absurd z (by decide)⟩)))
  obtain ⟨n, hn, en⟩ := pIx 6 (by omega) r.1 (by rw [Int32.lt_iff_toInt_lt, t6] at c; exact c)
  have i2 : ∀ (f : Nat → Int32) (x y : Int32), f 2 = nI n → upd (upd f (170 + 2 * n) x) (171 + 2 * n) y 2 = nI n := fun f x y e => by
    unfold upd
    rw [if_neg (by omega), if_neg (by omega), e]
  refine E_gP_11_0 h ha (fun _ => E_gP_8_10 h hb (fun _ => E_gP_11_0 h ha (fun _ => V_gI_9 h hb (fun _ => ?_))))
  rw [en]
  refine V_sI_c h hb hf (by simp) (nI_toInt (by omega)) hn (by omega) (fun S1 h1 v1 => E_gP_11_0 h1 ha (fun _ => E_gP_8_11 h1 hb (fun _ => E_gP_11_0 h1 ha (fun _ => V_gI_9 h1 hb (fun _ => ?_)))))
  rw [v1, show upd (sV S (ρ 0) (bk 0 ρ)) (170 + 2 * n) v 2 = nI n from by unfold upd; rw [if_neg (by omega), en]]
  refine V_sI_d h1 hb hf (by simp) (nI_toInt (by omega)) hn (fun S2 h2 v2 => E_gP_11_0 h2 ha (fun _ => V_gI_9 h2 hb (fun _ => ?_)))
  rw [v2, v1, i2 _ _ _ en, nI_1]
  refine V_pI_9 h2 hb hf (by simp) (by rw [nI_toInt (by omega)]; omega) (fun S3 h3 v3 => E_gP_11_0 h3 ha (fun _ => V_gI_9 h3 hb (fun _ => T_oK_11 h3 ha (kx_accept h3 (hf.sub (by simp)) ha (fun S4 h4 s4 => ?_)))))
  have := k y1 ⟨y2, y3⟩ n hn en S4 h4 (by rw [sV_sam h3 hb s4 (by simp), v3, v2, v1])
  rw [v3]
  exact this
theorem kx_X11_feed {q : Int32 → hS → Prop} {v w t e f : Int32} {m : Nat} (h : St Γ Φ S) (hf : fre Γ Φ [9, 1000]) (ha : Γ a = some (11, 11, 0, rs, ρ)) (hm : m ≤ 400) (em : fI S (ρ 4) 1 = nI m) (k0 : 380 < m → q (-1) S) (k : m ≤ 380 → ∀ S', St Γ Φ S' → fI S' (ρ 4) 1 = nI (m + 20) → aV S' (bk 4 ρ 0) = fo20 (aV S (bk 4 ρ 0)) m v w t e f → q (nI (m + 20)) S') : w_X11_feed q S a v w t e f := by
  have ht := (P_11_4 h ha).2
  unfold w_X11_feed
  refine E_gP_11_4 h ha (fun _ => T_gI_9_1 h ht (fun x4 e4 _ => ?_))
  rw [e4, em, show nI m + 20 = nI (m + 20) from nIadd m 20, lit_nI 400, nI_leI (by omega) (by omega)]
  refine ⟨fun c => E_gP_11_4 h ha (fun _ => T_oK_9 h ht (kx_X9_addFour (m := m) h ht hf (by omega) em (fun S1 h1 m1 f1 => E_gP_11_4 h1 ha (fun _ => T_oK_9 h1 ht (kx_X9_addFour (m := m + 4) h1 ht hf (by omega) m1 (fun S2 h2 m2 f2 => E_gP_11_4 h2 ha (fun _ => T_oK_9 h2 ht (kx_X9_addFour (m := m + 8) h2 ht hf (by omega) m2 (fun S3 h3 m3 f3 => E_gP_11_4 h3 ha (fun _ => T_oK_9 h3 ht (kx_X9_addFour (m := m + 12) h3 ht hf (by omega) m3 (fun S4 h4 m4 f4 => E_gP_11_4 h4 ha (fun _ => T_oK_9 h4 ht (kx_X9_addFour (m := m + 16) h4 ht hf (by omega) m4 (fun S5 h5 m5 f5 => E_gP_11_4 h5 ha (fun _ => T_gI_9_1 h5 ht (fun x64 e64 _ => ?_))))))))))))))))), fun c => k0 (by omega)⟩
  rw [e64, m5]
  exact k (by omega) S5 h5 m5 (by rw [f5, f4, f3, f2, f1]; rfl)
theorem kx_X11_end {q : Int32 → hS → Prop} {v : Int32} (h : St Γ Φ S) (hf : fre Γ Φ [9]) (ha : Γ a = some (11, 11, 0, rs, ρ)) (k0 : ¬ (0 ≤ v.toInt ∧ v.toInt ≤ (fI S (ρ 4) 1).toInt) → q (-1) S) (k : (0 ≤ v.toInt ∧ v.toInt ≤ (fI S (ρ 4) 1).toInt) → ∀ S', St Γ Φ S' → fI S' (ρ 4) 1 = v → aV S' (bk 4 ρ 0) = aV S (bk 4 ρ 0) → q v S') : w_X11_end q S a v := by
  have ht := (P_11_4 h ha).2
  unfold w_X11_end
  refine E_gP_11_4 h ha (fun _ => T_gI_9_1 h ht (fun x5 e5 r5 => kx_isWithin (fun n1 => ⟨fun z => absurd rfl z, fun _ => k0 (by rw [e5] at n1; exact n1)⟩) (fun y1 => ⟨fun _ => E_gP_11_4 h ha (fun _ => T_pI_9_1 h hf ht (by simp) (by omega) (fun S1 h1 e1 _ a1 => k (by rw [e5] at y1; exact y1) S1 h1 e1 (funext (a1.1 _)))), fun z => absurd z (by decide)⟩)))
theorem kx_X11_rust {q : Int32 → hS → Prop} (h : St Γ Φ S) (ha : Γ a = some (11, 11, 0, rs, ρ)) (k : q (nI rs) S) : w_X11_rust q S a := by
  unfold w_X11_rust
  refine T_gI_11_15 h ha (fun x e _ => ?_)
  rw [e, (T_rs h ha).1]
  exact k
/-- one who comes by the tape -/
theorem kx_X11_let {q : Int32 → hS → Prop} {k m : Nat} (h : St Γ Φ S) (hf : fre Γ Φ [8, 2, 300, 301, 303, 905, 906, 907, 908]) (ha : Γ a = some (11, 11, 0, rs, ρ)) (hk : k < 400) (hm : m ≤ 400) (em : fI S (ρ 4) 1 = nI m) {n : Nat} (hn : n ≤ 8) (en : sV S (ρ 0) (bk 0 ρ) 1 = nI n) (k0 : ¬ cmAt (aV S (bk 4 ρ 0)) m k n → q 0 S) (k1 : cmAt (aV S (bk 4 ρ 0)) m k n → ∀ S', St Γ Φ S' → (∀ j, ¬ (22 ≤ j ∧ j < 30) → sV S' (ρ 0) (bk 0 ρ) j = psR (sV S (ρ 0) (bk 0 ρ)) n (aV S (bk 4 ρ 0) k) (aV S (bk 4 ρ 0) (k + 1)) (10 * aV S (bk 4 ρ 0) (k + 2) + aV S (bk 4 ρ 0) (k + 3)) j) → q 1 S') : w_X11_let q S a (nI k) := by
  have t8 : (8 : Int32).toInt = 8 := by decide
  have t25 : (25 : Int32).toInt = 25 := by decide
  have t99 : (99 : Int32).toInt = 99 := by decide
  have t9 : (9 : Int32).toInt = 9 := by decide
  have t10 : (10 : Int32).toInt = 10 := by decide
  have t999 : (999 : Int32).toInt = 999 := by decide
  have hb := (P_11_0 h ha).2
  have ht := (P_11_4 h ha).2
  have e1 : (sV S (ρ 0) (bk 0 ρ) 1).toInt = n := by rw [en, nI_toInt (by omega)]
  unfold w_X11_let
  refine E_gP_11_4 h ha (fun _ => T_gI_9_1 h ht (fun x7 e7 _ => ?_))
  rw [e7, em, show nI k + 4 = nI (k + 4) from nIadd k 4, show nI k + 1 = nI (k + 1) from nIadd k 1, show nI k + 2 = nI (k + 2) from nIadd k 2, show nI k + 3 = nI (k + 3) from nIadd k 3, nI_ltI (by omega) (by omega)]
  refine ⟨fun c => k0 (fun z => by have := z.1; omega), fun c => E_gP_11_0 h ha (fun _ => V_gI_4 h hb (fun r => ⟨fun c2 => ?_, fun c2 => k0 (fun z => c2 (by rw [Int32.lt_iff_toInt_lt, e1, t8]; have := z.2.2.2; omega))⟩))⟩
  rw [Int32.lt_iff_toInt_lt, e1, t8] at c2
  have rd : ∀ {P : Int32 → Prop} (d : Nat), d < 4 → ((0 ≤ (aV S (bk 4 ρ 0) (k + d)).toInt ∧ (aV S (bk 4 ρ 0) (k + d)).toInt ≤ 255) → P (aV S (bk 4 ρ 0) (k + d))) → aI S (bk 4 ρ 0) (nI (k + d)) P := by
    intro P d hd hP
    refine T_aI_22 h (P_9_0 h ht).2 (by rw [nI_toInt (by omega)]; omega) (fun x ex rx => ?_)
    rw [nI_clamp (by omega)] at ex
    subst ex
    exact hP rx.2
  refine E_gP_11_4 h ha (fun _ => E_gP_9_0 h ht (fun _ => rd 0 (by omega) (fun r0 => E_gP_11_4 h ha (fun _ => E_gP_9_0 h ht (fun _ => rd 1 (by omega) (fun r1 => E_gP_11_4 h ha (fun _ => E_gP_9_0 h ht (fun _ => rd 2 (by omega) (fun r2 => E_gP_11_4 h ha (fun _ => E_gP_9_0 h ht (fun _ => rd 3 (by omega) (fun r3 y83 e83 => ?_))))))))))))
  have m1 : ((10 : Int32) * aV S (bk 4 ρ 0) (k + 2)).toInt = 10 * (aV S (bk 4 ρ 0) (k + 2)).toInt := by rw [fb_mulI (by rw [t10]; omega) (by rw [t10]; omega), t10]
  have m2 : y83.toInt = 10 * (aV S (bk 4 ρ 0) (k + 2)).toInt + (aV S (bk 4 ρ 0) (k + 3)).toInt := by rw [e83, fb_addI (by rw [m1]; omega) (by rw [m1]; omega), m1]
  have e0 : k + 0 = k := rfl
  rw [e0] at r0
  simp only [Int32.lt_iff_toInt_lt, Int32.le_iff_toInt_le, t25, t99, t9, t999, e0]
  have no : ¬ ((aV S (bk 4 ρ 0) k).toInt ≤ 24 ∧ (aV S (bk 4 ρ 0) (k + 1)).toInt ≤ 99 ∧ (aV S (bk 4 ρ 0) (k + 3)).toInt ≤ 9 ∧ y83.toInt ≤ 999) → q 0 S := fun hh => k0 (fun z => hh ⟨z.2.2.1.1.2, z.2.2.1.2.1.2, by have := z.2.1; rw [Int32.lt_iff_toInt_lt, t10] at this; omega, by rw [e83]; exact z.2.2.1.2.2.2⟩)
  refine ⟨fun d => no (fun z => by omega), fun d1 => ⟨fun d => no (fun z => by omega), fun d2 => ⟨fun d => no (fun z => by omega), fun d3 => ⟨fun d4 => E_gP_11_0 h ha (fun _ => T_oK_8 h hb (kx_X8_addPerson h hb (hf.sub (by simp)) (fun z => absurd (by rw [e1]; omega) z) (fun n' S1 hn' en' h1 v1 => k1 ⟨by omega, by rw [Int32.lt_iff_toInt_lt, t10]; omega, ⟨⟨r0.1, by omega⟩, ⟨r1.1, by omega⟩, by rw [← e83]; omega, by rw [← e83]; omega⟩, by omega⟩ S1 h1 (fun j hj => ?_)))), fun d => no (fun z => d z.2.2.2)⟩⟩⟩⟩
  have : n' = n := nI_inj (by omega) (by omega) (en'.symm.trans en)
  subst this
  rw [v1 j hj, e83]
end MAIN2
