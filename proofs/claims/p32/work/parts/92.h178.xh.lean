/-! AN EXCHANGE, THE REFERENCE'S SEARCH -/
section XH
variable {S : hS} {o : Nat} {ad : Nat → Nat} {M : mS} {mT : mS} {F : Nat → Int32} {n : Nat}
theorem wI_up {z : Int} (h : -1 ≤ z ∧ z ≤ 9) : wI z + 1 = wI (z + 1) := wI_add (wI_i (by omega)) (by decide) (by omega) (by omega)
theorem alX_iff {f : Nat → Nat} {k t : Nat} : alX F n f k t = true ↔ t = n ∨ alG F n f k t = true := by
  unfold alX
  rw [Bool.or_eq_true, decide_eq_true_eq]
set_option maxHeartbeats 1600000 in
theorem x_findExchange (hd : mD o ad) (hM : mOk mT M) (hB : rB F) (hG : ∀ i, i < 185 → M.2.2.1 3 i = F i) (en : n = nPR F) {q : Int32 → hS → Prop} (h : ∀ N, Fx [] [] [45, 46] [] M N → (0 ≤ (fiX n (alX F n) (lvX n)).1 → ∀ p, p < n → N.2.2.1 46 p = nI (if (fiX n (alX F n) (lvX n)).2 p = n then 100 else (fiX n (alX F n) (lvX n)).2 p)) → q (wI (fiX n (alX F n) (lvX n)).1) (ov S o ad N)) : w_X12_findExchange q (ov S o ad M) o := by
  have bb1 := rB_1 hB
  have iP : iR F 1 = n := by rw [en]; unfold nPR; omega
  have hP : n ≤ 8 := by omega
  have eP : M.2.2.1 3 1 = nI n := by
    rw [hG 1 (by omega)]
    apply Int32.toInt_inj.mp
    have : iR F 1 = (F 1).toInt := rfl
    rw [nI_toInt (by omega)]; omega
  have z0 : (0 : Int32).toInt = 0 := by decide
  have zm : (-1 : Int32).toInt = -1 := by decide
  unfold w_X12_findExchange
  simp (disch := decide) only [oi_gI, oi_gJ, oi_gP, oi_pI, oi_pZ, oi_pJ, oi_oK, oi_aI hd, oi_aZ hd, oi_aJ hd, oi_sI hd, oi_sZ hd, oi_sJ hd, mI_1, mI_2, mJ_1, mJ_2, mJ_3, mA_1, mA_2, mA_3, mA_4, mL_1, mL_2, mL_3, mL_4, mK, Nat.reduceEqDiff, if_true, if_false, ite_true, ite_false, true_and, Nat.reduceLT, reduceIte, reduceCtorEq, cl_0, cl_1, cl_2, cl_3, cl_4, cl_5, cl_6, cl_7, cl_8, cl_9, cl_10, cl_11, cl_12, cl_13, cl_14, cl_15, vl_0_5585, vl_1_5585, vl_2_5585, vl_3_5585, vl_4_5585, vl_5_5585, vl_6_5585, vl_0_7, vl_1_7, vl_2_7, vl_3_7, vl_4_7, vl_5_7, vl_6_7]
  rw [eP]
  refine ⟨vp_in_iff.mpr (by decide), ?_⟩
  refine loop_m (σ := mS × Nat × Int32 × (Nat → Nat) × xS) (fun m s => w_X12_findExchange_b18 q m (ov S o ad s.1) o (nI n) (wI s.2.2.2.2.1) s.2.2.1) (fun s => Fx [] [] [45, 46] [] M s.1 ∧ vE (s.1.2.2.1 45) n s.2.1 ∧ s.2.2.1.toInt = (s.2.1 : Int) - 1 ∧ (∀ i, i + 1 < s.2.1 → s.1.2.2.1 45 i = nI (s.2.2.2.1 i) ∧ s.2.2.2.1 i ≤ n) ∧ ((s.2.1 = 0 → s.2.2.2.2 = fiX n (alX F n) (lvX n)) ∧ ∀ k, s.2.1 = k + 1 → atX n (alX F n) (lvX n) k s.2.2.2.1 ((s.1.2.2.1 45 k).toInt + 1).toNat s.2.2.2.2) ∧ (-1 ≤ s.2.2.2.2.1 ∧ s.2.2.2.2.1 ≤ 8) ∧ (0 ≤ s.2.2.2.2.1 → ∀ p, p < n → s.1.2.2.1 46 p = nI (if s.2.2.2.2.2 p = n then 100 else s.2.2.2.2.2 p))) (fun s => vx (s.1.2.2.1 45) n s.2.1) ?_ (mA M 45 (upd (M.2.2.1 45) 0 (-1)), 1, 0, (fun _ => 0), (-1, fun _ => 0)) ⟨(Fx.a 45 _).le (by simp) (by simp) (by simp) (by simp), ⟨by dsimp only; omega, fun i hi => by dsimp only at hi; omega, fun k hk => ?_⟩, by show (0 : Int32).toInt = ((1 : Nat) : Int) - 1; decide, fun i hi => by dsimp only at hi; omega, ⟨fun z => absurd (show (1 : Nat) = 0 from z) (by decide), fun k hk => ?_⟩, (show (-1 : Int) ≤ -1 ∧ (-1 : Int) ≤ 8 by decide), fun z => absurd (show (0 : Int) ≤ -1 from z) (by decide)⟩
  · rintro m ⟨N, j, kk, f, st⟩ ⟨hF, hv, hkk, hA, hX, hs, hb⟩ ih
    dsimp only at hF hv hkk hA hX hs hb ih ⊢
    have hN : mOk mT N := mOk_fx hF hM (by simp)
    have n3 : N.2.2.1 3 = M.2.2.1 3 := hF.2.2.1 3 (by simp)
    have eP' : N.2.2.1 3 1 = nI n := by rw [n3]; exact eP
    have hGN : ∀ i, i < 185 → N.2.2.1 3 i = F i := fun i hi => by rw [n3]; exact hG i hi
    rw [w_X12_findExchange_b18]
    rw [i32lt, z0]
    refine ⟨fun c => ?_, fun c => ?_⟩
    · have e0 := hX.1 (by omega)
      rw [e0] at hb ⊢
      exact h N hF hb
    have hjP := hv.1
    obtain ⟨k, rfl⟩ : ∃ k, j = k + 1 := ⟨j - 1, by omega⟩
    have ek : kk = nI k := Int32.toInt_inj.mp (by rw [nI_toInt (by omega)]; omega)
    subst ek
    have hat := hX.2 k rfl
    have hk0 := hv.2.2 k rfl
    -- one step back
    have pop : ∀ Q (st' : xS) y, Fx [] [] [45, 46] [] M Q → (∀ i, i < k → Q.2.2.1 45 i = N.2.2.1 45 i) → y = nI k + (-1) → ((k = 0 → st' = fiX n (alX F n) (lvX n)) ∧ ∀ k', k = k' + 1 → atX n (alX F n) (lvX n) k' f (f k' + 1) st') → (-1 ≤ st'.1 ∧ st'.1 ≤ 8) → (0 ≤ st'.1 → ∀ p, p < n → Q.2.2.1 46 p = nI (if st'.2 p = n then 100 else st'.2 p)) → w_X12_findExchange_b18 q m (ov S o ad Q) o (nI n) (wI st'.1) y := by
      intro Q st' y hQ hq ey hx hs' hb'
      obtain ⟨p1, p2⟩ := x_pop hv hP hq
      refine ih (Q, k, y, f, st') ⟨hQ, p1, ?_, fun i hi => ?_, ⟨hx.1, fun k' hk' => ?_⟩, hs', hb'⟩ p2
      · dsimp only
        rw [ey, fb_addI] <;> rw [nI_toInt (by omega), zm] <;> omega
      · dsimp only at hi ⊢
        rw [hq i (by omega)]
        exact hA i (by omega)
      · dsimp only at hk' ⊢
        obtain ⟨a1, a2⟩ := hA k' (by omega)
        rw [hq k' (by omega), a1, nI_toInt (by omega)]
        have := hx.2 k' hk'
        rw [show (((f k' : Nat) : Int) + 1).toNat = f k' + 1 by omega]
        exact this
    rw [nI_eq (by omega) (by omega)]
    refine ⟨fun c1 => ?_, fun c1 => ⟨ov_oK, ?_⟩⟩
    · have hkP : k < n := by omega
      obtain ⟨e1, -, -⟩ := x_t hv hP
      obtain ⟨t, et⟩ : ∃ t : Nat, ((N.2.2.1 45 k).toInt + 1).toNat = t := ⟨_, rfl⟩
      rw [et] at hat
      have e1t : (N.2.2.1 45 k + 1).toInt = t := by rw [e1]; omega
      have en1 : N.2.2.1 45 k + 1 = nI t := Int32.toInt_inj.mp (by rw [nI_toInt (by omega)]; exact e1t)
      simp (disch := decide) only [oi_gI, oi_gJ, oi_gP, oi_pI, oi_pZ, oi_pJ, oi_oK, oi_aI hd, oi_aZ hd, oi_aJ hd, oi_sI hd, oi_sZ hd, oi_sJ hd, mI_1, mI_2, mJ_1, mJ_2, mJ_3, mA_1, mA_2, mA_3, mA_4, mL_1, mL_2, mL_3, mL_4, mK, Nat.reduceEqDiff, if_true, if_false, ite_true, ite_false, true_and, Nat.reduceLT, reduceIte, reduceCtorEq, cl_0, cl_1, cl_2, cl_3, cl_4, cl_5, cl_6, cl_7, cl_8, cl_9, cl_10, cl_11, cl_12, cl_13, cl_14, cl_15, vl_0_5585, vl_1_5585, vl_2_5585, vl_3_5585, vl_4_5585, vl_5_5585, vl_6_5585, vl_0_7, vl_1_7, vl_2_7, vl_3_7, vl_4_7, vl_5_7, vl_6_7]
      rw [nI_clamp (by omega), upd_self, i32ge, nI_toInt (by omega)]
      have hFu : Fx [] [] [45, 46] [] M (mA N 45 (upd (N.2.2.1 45) k (N.2.2.1 45 k + 1))) := (hF.tr (Fx.a 45 _)).le (by simp) (by simp) (by simp) (by simp)
      have e45 : (mA N 45 (upd (N.2.2.1 45) k (N.2.2.1 45 k + 1))).2.2.1 45 = upd (N.2.2.1 45) k (N.2.2.1 45 k + 1) := by simp [mA_3]
      have e46 : ∀ g, (mA N 45 g).2.2.1 46 = N.2.2.1 46 := fun g => by simp [mA_3]
      refine ⟨vp_in_nI (by omega) (by omega), vp_in_nI (by omega) (by omega), vp_in_nI (by omega) (by omega), fun c2 => ⟨vp_in_nI (by omega) (by omega), ?_⟩, fun c2 y ey => pop _ st y hFu (fun i hi => by rw [e45, upd_ne _ _ (by omega)]) ey ?_ hs (fun z p hp => by rw [e46]; exact hb z p hp)⟩
      · have tn : t ≤ n := by rw [e1t] at c2; omega
        have trA : ∀ i, i < k → (mA N 45 (upd (N.2.2.1 45) k (N.2.2.1 45 k + 1))).2.2.1 45 i = nI (tr0 k f i) ∧ tr0 k f i ≤ n := fun i hi => by
          rw [e45, upd_ne _ _ (by omega)]
          unfold tr0
          rw [if_pos hi]
          exact hA i (by omega)
        have stay : ¬ alX F n (tr0 k f) k t = true → w_X12_findExchange_b18 q m (ov S o ad (mA N 45 (upd (N.2.2.1 45) k (N.2.2.1 45 k + 1)))) o (nI n) (wI st.1) (nI k) := by
          intro na
          obtain ⟨s1, s2⟩ := x_stay hv hP c2
          refine ih (mA N 45 (upd (N.2.2.1 45) k (N.2.2.1 45 k + 1)), k + 1, nI k, f, st) ⟨hFu, by dsimp only; rw [e45]; exact s1, by dsimp only; rw [nI_toInt (by omega)]; omega, fun i hi => ?_, ⟨fun z => absurd z (by dsimp only; omega), fun k' hk' => ?_⟩, hs, fun z p hp => by dsimp only; rw [e46]; exact hb z p hp⟩ (by dsimp only; rw [e45]; exact s2)
          · dsimp only at hi ⊢
            rw [e45, upd_ne _ _ (by omega)]
            exact hA i (by omega)
          · dsimp only at hk' ⊢
            obtain rfl : k' = k := by omega
            rw [e45, upd_self, e1t, show ((t : Int) + 1).toNat = t + 1 by omega]
            exact atX_no hkP hat tn na
        have push : alX F n (tr0 k f) k t = true → w_X12_findExchange_b155 q (fun S v0 v1 v2 v3 => w_X12_findExchange_b18 q m S v0 v1 v2 v3) (ov S o ad (mA N 45 (upd (N.2.2.1 45) k (N.2.2.1 45 k + 1)))) o (nI n) (wI st.1) (nI k) := by
          intro ya y ey
          rw [nI_1] at ey
          rw [ey]
          simp (disch := decide) only [oi_gI, oi_gJ, oi_gP, oi_pI, oi_pZ, oi_pJ, oi_oK, oi_aI hd, oi_aZ hd, oi_aJ hd, oi_sI hd, oi_sZ hd, oi_sJ hd, mI_1, mI_2, mJ_1, mJ_2, mJ_3, mA_1, mA_2, mA_3, mA_4, mL_1, mL_2, mL_3, mL_4, mK, Nat.reduceEqDiff, if_true, if_false, ite_true, ite_false, true_and, Nat.reduceLT, reduceIte, reduceCtorEq, cl_0, cl_1, cl_2, cl_3, cl_4, cl_5, cl_6, cl_7, cl_8, cl_9, cl_10, cl_11, cl_12, cl_13, cl_14, cl_15, vl_0_5585, vl_1_5585, vl_2_5585, vl_3_5585, vl_4_5585, vl_5_5585, vl_6_5585, vl_0_7, vl_1_7, vl_2_7, vl_3_7, vl_4_7, vl_5_7, vl_6_7, mA_mA]
          rw [nI_clamp (by omega)]
          obtain ⟨s1, s2⟩ := x_push hv hP hkP c2
          have f45 : (mA N 45 (upd (upd (N.2.2.1 45) k (N.2.2.1 45 k + 1)) (k + 1) (-1))).2.2.1 45 = upd (upd (N.2.2.1 45) k (N.2.2.1 45 k + 1)) (k + 1) (-1) := by simp [mA_3]
          refine ⟨vp_in_nI (by omega) (by omega), ih (mA N 45 (upd (upd (N.2.2.1 45) k (N.2.2.1 45 k + 1)) (k + 1) (-1)), k + 2, nI (k + 1), upN f k t, st) ⟨(hF.tr (Fx.a 45 _)).le (by simp) (by simp) (by simp) (by simp), by dsimp only; rw [f45]; exact s1, by dsimp only; rw [nI_toInt (by omega)]; omega, fun i hi => ?_, ⟨fun z => absurd z (by dsimp only; omega), fun k' hk' => ?_⟩, hs, fun z p hp => by dsimp only; rw [e46]; exact hb z p hp⟩ (by dsimp only; rw [f45]; exact s2)⟩
          · dsimp only at hi ⊢
            rw [f45, upd_ne _ _ (by omega)]
            unfold upN
            by_cases ci : i = k
            · rw [ci, upd_self, if_pos rfl]
              exact ⟨en1, tn⟩
            · rw [upd_ne _ _ ci, if_neg ci]
              exact hA i (by omega)
          · dsimp only at hk' ⊢
            obtain rfl : k' = k + 1 := by omega
            rw [f45, upd_self, zm]
            exact atX_in hkP hat tn ya
        rw [en1, nI_eq (by omega) (by omega)]
        rw [en1] at stay push trA
        refine ⟨fun c3 => push (alX_iff.mpr (Or.inl c3)), fun c3 => s_lives hd (by omega) (fun lk => ⟨fun z => absurd z (by decide), fun _ => ⟨ov_oK, ?_⟩⟩) (fun lk => ⟨fun _ => stay (fun z => ?_), fun z => absurd rfl z⟩)⟩
        · have lk' : iR F (22 + k) = 0 := by
            have : (N.2.2.1 3 (22 + k)).toInt = iR F (22 + k) := by rw [hGN _ (by omega)]; rfl
            rw [← this]
            have lk : N.2.2.1 3 (22 + k) = 0 := lk
            rw [lk]
            decide
          refine x_canGive (M := mA N 45 (upd (N.2.2.1 45) k (nI t))) (F := F) (n := n) (f := tr0 k f) (g := t) hd hB (fun i hi => hGN i hi) en hkP (by omega) (by rw [← en1, e45, upd_self]) trA lk' ⟨fun z => stay (fun y => ?_), fun z => push (alX_iff.mpr (Or.inr ?_))⟩
          · rcases alX_iff.mp y with y | y
            · exact c3 y
            · rw [if_pos y] at z
              exact absurd z (by decide)
          · cases y : alG F n (tr0 k f) k t with
            | true => rfl
            | false =>
              rw [y, if_neg (by decide)] at z
              exact absurd rfl z
        · rcases alX_iff.mp z with z | z
          · exact c3 z
          · unfold alG at z
            simp only [Bool.and_eq_true] at z
            have := (edF_iff.mp z.1.1.1.1).1
            refine lk ?_
            show N.2.2.1 3 (22 + k) = 0
            rw [hGN _ (by omega)]
            exact Int32.toInt_inj.mp (by rw [z0]; exact this)
      · have etn : t = n + 1 := by
          rw [e1t] at c2
          omega
        rw [etn] at hat
        refine ⟨fun z => ?_, fun k' hk' => ?_⟩
        · subst z
          exact atX_fin (by omega) hat
        · subst hk'
          rcases atX_out hat hkP with z | z
          · exact z
          · have := (hA k' (by omega)).2
            omega
    · -- all have a giver
      subst c1
      have trA : ∀ i, i < k → N.2.2.1 45 i = nI (tr0 k f i) ∧ tr0 k f i ≤ k := fun i hi => by
        unfold tr0
        rw [if_pos hi]
        exact hA i (by omega)
      have lb := lvX_b (f := tr0 k f) hP (fun i hi => (trA i hi).2)
      have t0' : ((N.2.2.1 45 k).toInt + 1).toNat = 0 := by
        rcases hat with ⟨h1, _, _⟩ | ⟨_, h2, _⟩
        · omega
        · exact h2
      rw [t0'] at hat
      refine x_gets (n := k) (f := tr0 k f) hd hP eP' trA ?_
      obtain ⟨r, er⟩ : ∃ r, lvX k (tr0 k f) = r := ⟨_, rfl⟩
      rw [er] at lb ⊢
      have wlt : wI r ≤ wI st.1 ↔ ¬ st.1 < r := by rw [Int32.le_iff_toInt_le, wI_i (by omega), wI_i (by omega)]; omega
      have nxt : (k = 0 → lfX (lvX k) (tr0 k f) st = fiX k (alX F k) (lvX k)) ∧ ∀ k', k = k' + 1 → atX k (alX F k) (lvX k) k' f (f k' + 1) (lfX (lvX k) (tr0 k f) st) := by
        refine ⟨fun z => ?_, fun k' hk' => ?_⟩
        · exact atX_l0 z (by rw [z] at hat ⊢; exact hat)
        · have a2 := (hA k' (by omega)).2
          have := hat
          rw [hk'] at this a2 ⊢
          exact atX_lf this rfl a2
      refine loop_m (σ := (Nat → Int32) × Nat) (fun n' s => w_X12_findExchange_b36 q (fun S v0 v1 v2 v3 => w_X12_findExchange_b18 q m S v0 v1 v2 v3) n' (ov S o ad (mA N 46 s.1)) o (nI k) (wI st.1) (nI k) (wI r) (nI s.2)) (fun s => s.2 ≤ k ∧ (s.2 = 0 → s.1 = N.2.2.1 46) ∧ (¬ st.1 < r → s.1 = N.2.2.1 46) ∧ ∀ p, p < s.2 → s.1 p = nI (if tr0 k f p = k then 100 else tr0 k f p)) (fun s => k - s.2) ?_ (N.2.2.1 46, 0) ⟨Nat.zero_le _, fun _ => rfl, fun _ => rfl, fun p hp => absurd hp (Nat.not_lt_zero _)⟩ |> (fun z => by rw [mA_self] at z; exact z)
      rintro n' ⟨g, i⟩ ⟨hi, hg0, hg1, hg⟩ ih'
      dsimp only at hi hg0 hg1 hg ih' ⊢
      have hFg : Fx [] [] [45, 46] [] M (mA N 46 g) := (hF.tr (Fx.a 46 _)).le (by simp) (by simp) (by simp) (by simp)
      have f46 : (mA N 46 g).2.2.1 46 = g := by simp [mA_3]
      have f45 : (mA N 46 g).2.2.1 45 = N.2.2.1 45 := by simp [mA_3]
      have k84 : (st.1 < r → i = k) → w_X12_findExchange_b84 q (fun S v0 v1 v2 v3 => w_X12_findExchange_b18 q m S v0 v1 v2 v3) (ov S o ad (mA N 46 g)) o (nI k) (wI st.1) (nI k) (wI r) := by
        intro hik
        unfold w_X12_findExchange_b84
        rw [wlt]
        refine ⟨fun c2 y ey => ?_, fun c2 y ey => ?_⟩
        · have e : lfX (lvX k) (tr0 k f) st = st := by
            unfold lfX
            rw [er, if_neg c2]
          rw [e] at nxt
          refine pop _ st y hFg (fun _ _ => by rw [f45]) ey nxt hs (fun z p hp => ?_)
          rw [f46, hg1 c2]
          exact hb z p hp
        · have c2 := Decidable.of_not_not c2
          have e : lfX (lvX k) (tr0 k f) st = (r, tr0 k f) := by
            unfold lfX
            rw [er, if_pos c2]
          rw [e] at nxt
          refine pop _ (r, tr0 k f) y hFg (fun _ _ => by rw [f45]) ey nxt (by dsimp only; omega) (fun z p hp => ?_)
          dsimp only
          rw [f46]
          exact hg p (by rw [hik c2]; exact hp)
      have k77 : ∀ v : Int32, i < k → st.1 < r → v = nI (if tr0 k f i = k then 100 else tr0 k f i) → w_X12_findExchange_b77 q (fun S v0 v1 v2 v3 => w_X12_findExchange_b18 q m S v0 v1 v2 v3) (fun S v0 v1 v2 v3 v4 v5 => w_X12_findExchange_b36 q (fun S v0 v1 v2 v3 => w_X12_findExchange_b18 q m S v0 v1 v2 v3) n' S v0 v1 v2 v3 v4 v5) (ov S o ad (mA N 46 g)) o (nI k) (wI st.1) (nI k) (wI r) (nI i) v (nI i) (ad 46) := by
        intro v hik hlt ev
        unfold w_X12_findExchange_b77
        simp (disch := decide) only [oi_gI, oi_gJ, oi_gP, oi_pI, oi_pZ, oi_pJ, oi_oK, oi_aI hd, oi_aZ hd, oi_aJ hd, oi_sI hd, oi_sZ hd, oi_sJ hd, mI_1, mI_2, mJ_1, mJ_2, mJ_3, mA_1, mA_2, mA_3, mA_4, mL_1, mL_2, mL_3, mL_4, mK, Nat.reduceEqDiff, if_true, if_false, ite_true, ite_false, true_and, Nat.reduceLT, reduceIte, reduceCtorEq, cl_0, cl_1, cl_2, cl_3, cl_4, cl_5, cl_6, cl_7, cl_8, cl_9, cl_10, cl_11, cl_12, cl_13, cl_14, cl_15, vl_0_5585, vl_1_5585, vl_2_5585, vl_3_5585, vl_4_5585, vl_5_5585, vl_6_5585, vl_0_7, vl_1_7, vl_2_7, vl_3_7, vl_4_7, vl_5_7, vl_6_7, mA_mA]
        rw [nI_clamp (by omega)]
        refine ⟨vp_in_nI (by omega) (by omega), fun y ey => ?_⟩
        rw [ey, nI_1]
        refine ih' (upd g i v, i + 1) ⟨by dsimp only; omega, fun z => absurd z (by dsimp only; omega), fun z => absurd hlt z, fun p hp => ?_⟩ (by dsimp only; omega)
        dsimp only at hp ⊢
        by_cases cp : p = i
        · rw [cp, upd_self, ev]
        · rw [upd_ne _ _ cp]
          exact hg p (by omega)
      rw [w_X12_findExchange_b36]
      simp (disch := decide) only [oi_gI, oi_gJ, oi_gP, oi_pI, oi_pZ, oi_pJ, oi_oK, oi_aI hd, oi_aZ hd, oi_aJ hd, oi_sI hd, oi_sZ hd, oi_sJ hd, mI_1, mI_2, mJ_1, mJ_2, mJ_3, mA_1, mA_2, mA_3, mA_4, mL_1, mL_2, mL_3, mL_4, mK, Nat.reduceEqDiff, if_true, if_false, ite_true, ite_false, true_and, Nat.reduceLT, reduceIte, reduceCtorEq, cl_0, cl_1, cl_2, cl_3, cl_4, cl_5, cl_6, cl_7, cl_8, cl_9, cl_10, cl_11, cl_12, cl_13, cl_14, cl_15, vl_0_5585, vl_1_5585, vl_2_5585, vl_3_5585, vl_4_5585, vl_5_5585, vl_6_5585, vl_0_7, vl_1_7, vl_2_7, vl_3_7, vl_4_7, vl_5_7, vl_6_7]
      rw [nI_leI (by omega) (by omega), wlt]
      refine ⟨fun c2 => k84 (fun _ => by omega), fun c2 => ⟨fun c3 => k84 (fun z => absurd z c3), fun c3 => ?_⟩⟩
      have c3 := Decidable.of_not_not c3
      obtain ⟨a1, a2⟩ := trA i (by omega)
      rw [nI_clamp (by omega), a1, nI_eq (by omega) (by omega)]
      refine ⟨vp_in_nI (by omega) (by omega), fun c4 => ⟨vp_in_nI (by omega) (by omega), k77 _ (by omega) c3 (by rw [if_neg c4])⟩, fun c4 => k77 _ (by omega) c3 (by rw [if_pos c4]; rfl)⟩
  · dsimp only at hk ⊢
    obtain rfl : k = 0 := by omega
    have e45 : (mA M 45 (upd (M.2.2.1 45) 0 (-1))).2.2.1 45 0 = -1 := by rw [mA_3, if_pos rfl, upd_self]
    rw [e45, zm]
    omega
  · dsimp only at hk ⊢
    obtain rfl : k = 0 := by omega
    have e45 : (mA M 45 (upd (M.2.2.1 45) 0 (-1))).2.2.1 45 0 = -1 := by rw [mA_3, if_pos rfl, upd_self]
    rw [e45, zm]
    exact atX_st _
end XH
