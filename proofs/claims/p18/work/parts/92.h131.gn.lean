/-! GENERATIONS IN THE REFERENCE: THE LOOP -/
def Fg (M N : mS) : Prop := Fx [34, 38] [39, 40, 57] [3] [35, 37] M N
/-- in the midst of generations -/
def GI (mT M0 : mS) (T : aS) (k : Nat) (s : gS) (M : mS) : Prop := mOk mT M ∧ Fg M0 M ∧ cut (M.2.2.1 3) = s.1 ∧ (∀ i, 185 ≤ i → M.2.2.1 3 i = M0.2.2.1 3 i) ∧ rB s.1 ∧ (∀ i, ¬ inLe i → s.1 i = T.1.1 i) ∧ M.2.1 57 = jN s.2.1 ∧ s.2.1 ≤ 1000003 ∧ s.2.2 ≤ k
section GN
variable {S : hS} {o : Nat} {ad : Nat → Nat} {M N P M0 : mS} {mT : mS} {T T' : aS} {rs : Nat} {f g : Nat → Int32} {s s' : gS} {k n : Nat}
theorem Fg.tr (h : Fg M N) (h' : Fg N P) : Fg M P := (Fx.tr h h').le (by simp) (by simp) (by simp) (by simp)
theorem GI.QM (h : GI mT M0 T k s M) (hL : lawG (M0.2.2.1 3) T.1.2) (h0 : cut (M0.2.2.1 3) = T.1.1) : QM M T.1.2 := by
  obtain ⟨g1, g2, g3, g4, g5, g6, g7, g8, g9⟩ := h
  refine ⟨rB_cut.mp (by rw [g3]; exact g5), lawG_cg g4 ?_ hL⟩
  rw [← iR_cut (f := M.2.2.1 3) (by omega), ← iR_cut (f := M0.2.2.1 3) (by omega), g3, h0]
  exact iR_ge (g6 3 (by unfold inLe; omega))
theorem GI.cs (h : GI mT M0 T k s M) : csF s.1 T.1.2 = csF T.1.1 T.1.2 := by
  unfold csF iR
  rw [h.2.2.2.2.2.1 4 (by unfold inLe; omega)]
theorem ringF_5 {cs : List pCl} {p h : Nat} : ringF f cs p h 5 = f 5 := by
  unfold ringF
  rw [upd_ne _ _ (by omega), upd_ne _ _ (by omega)]
/-- a year's draw is over -/
theorem x_gen182 (hd : mD o ad) {q : Int32 → hS → Prop} {K : hS → Nat → Int32 → Int32 → Int32 → Prop} {v2 : Int32} {v3 : Nat} (h : K (ov S o ad M) o v2 (nI v3) (nI (k + 1))) : w_X12_generations_b182 q K (ov S o ad M) o v2 (nI v3) (nI k) := by
  intro y ey
  rw [ey, nI_1]
  exact h
theorem x_gen149 (hd : mD o ad) {q : Int32 → hS → Prop} {K : hS → Nat → Int32 → Int32 → Int32 → Prop} {v2 : Int32} {p v3 : Nat} {e : Nat} {c : Int32} {f1 : Nat → Int32} (hL : lawG (M0.2.2.1 3) T.1.2) (h0 : cut (M0.2.2.1 3) = T.1.1) (hp : p < nPR s.1) (he : e < 8) (hI : GI mT M0 T k s M) (hy : iR s.1 5 < 999) (hc : c.toInt = 0 ∨ c.toInt = 1) (hv : (v3 : Int) = s.2.2 + c.toInt) (hs2 : s.2.2 ≤ 1000) (hK : ∀ N, GI mT M0 T (k + 1) (genB s.1 e p, s.2.1, v3) N → K (ov S o ad N) o v2 (nI v3) (nI (k + 1))) : w_X12_generations_b149 q K (ov S o ad M) o v2 (nI k) (nI p) (nI e) c (nI s.2.2) := by
  have hQ := hI.QM hL h0
  obtain ⟨g1, g2, g3, g4, g5, g6, g7, g8, g9⟩ := id hI
  have b1 := rB_1 g5
  have p8 : p < 8 := by unfold nPR at hp; omega
  have ey0 : nI s.2.2 + c = nI v3 := by
    apply Int32.toInt_inj.mp
    rw [fb_addI (by rw [nI_toInt (by omega)]; omega) (by rw [nI_toInt (by omega)]; omega), nI_toInt (by omega), nI_toInt (by omega)]
    omega
  have lvi : liveR s.1 p = true ↔ M.2.2.1 3 (22 + p) = 0 := by
    unfold liveR
    rw [decide_eq_true_eq, i32_z, ← g3]
    unfold iR
    rw [cut_lt (by omega)]
  intro y ey
  rw [ey, ey0]
  have fin : ∀ f', genB s.1 e p = f' → ∀ N, mOk mT N → Fg M N → cut (N.2.2.1 3) = f' → (∀ i, 185 ≤ i → N.2.2.1 3 i = M.2.2.1 3 i) → N.2.1 57 = M.2.1 57 → GI mT M0 T (k + 1) (genB s.1 e p, s.2.1, v3) N := by
    intro f' ef N hN hF hcut hhi h57
    have := genB_ok (e := e) (p := p) g5
    exact ⟨hN, g2.tr hF, by rw [hcut, ef], fun i hi => by rw [hhi i hi, g4 i hi], this.1, fun i hi => (this.2 i hi).trans (g6 i hi), by rw [h57]; exact g7, g8, by show v3 ≤ k + 1; omega⟩
  refine ⟨fun ce => ⟨fun c1 => ?_, fun c1 => ⟨ov_oK, x_passIt hd hQ.1 (fun s2 hs2' => ?_)⟩⟩, fun ce => ⟨ov_oK, s_lives hd p8 (fun cl => ⟨fun z => absurd z (by decide), fun _ => ⟨ov_oK, x_dieIt hd hQ.1 p8 (fun s2 hs2' hse => ?_)⟩⟩) (fun cd => ⟨fun _ => ?_, fun z => absurd rfl z⟩)⟩⟩
  · have e0 : ¬ e = 0 := fun z => ce (by rw [z]; rfl)
    have e1 : ¬ e = 1 := fun z => c1 (by rw [z]; rfl)
    refine x_gen182 hd (hK M (fin s.1 ?_ M g1 Fx.rf' g3 (fun _ _ => rfl) rfl))
    unfold genB
    rw [if_neg e0, if_neg e1]
  · have e1 : e = 1 := nI_inj (by omega) (by omega) c1
    have hs' : dvR (M.2.2.1 3) (passF s.1) s2 := by rw [← g3]; exact hs2'
    have hyM : iR (M.2.2.1 3) 5 < 999 := by rw [← iR_cut (by omega), g3]; exact hy
    refine x_gen182 hd (hK _ (fin (passF s.1) ?_ _ (pass_ok g1 hQ.1 hyM hs2') ((Fx.a 3 _).le (by simp) (by simp) (by simp) (by simp)) hs'.1 hs'.2 rfl))
    unfold genB passD
    rw [if_neg (by omega), if_pos e1, if_neg (fun z => z hy)]
  · have e0 : e = 0 := nI_inj (by omega) (by omega) ce
    have hs' : dvR (M.2.2.1 3) (dieF s.1 p) s2 := by rw [← g3]; exact hs2'
    have lv : liveR s.1 p = true := lvi.mpr cl
    refine ⟨fun _ => x_gen182 hd (hK _ (fin (dieF s.1 p) ?_ _ (mOk_r g1 (hse.ok g1.1)) ((Fx.a 3 _).le (by simp) (by simp) (by simp) (by simp)) hs'.1 hs'.2 rfl)), fun z => absurd z (fun w => by rw [ce] at w; exact absurd w (by decide))⟩
    unfold genB dieD
    rw [if_pos e0, Int.toNat_natCast, if_neg (fun z => z ⟨by omega, by unfold nPR at hp; omega⟩), if_neg (fun z => z lv)]
  · have e0 : e = 0 := nI_inj (by omega) (by omega) ce
    have lv : ¬ liveR s.1 p = true := fun z => cd (lvi.mp z)
    refine ⟨fun _ => x_gen182 hd (hK M (fin s.1 ?_ M g1 Fx.rf' g3 (fun _ _ => rfl) rfl)), fun z => absurd z (fun w => by rw [ce] at w; exact absurd w (by decide))⟩
    unfold genB dieD
    rw [if_pos e0, Int.toNat_natCast, if_neg (fun z => z ⟨by omega, by unfold nPR at hp; omega⟩), if_pos lv]
end GN
