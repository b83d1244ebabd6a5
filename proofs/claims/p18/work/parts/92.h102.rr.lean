/-! THE REFERENCE'S WHOLE STATE -/
def snp (f g : Nat → Int32) : Nat → Int32 := fun j => if j = 6 ∨ j = 7 then f j else g j
/-- what can be undone stands in the rows u (snapshots) and s (sorts) -/
def undU (u s f : Nat → Int32) (us : uL) : Prop := us.length ≤ 16 ∧ ∀ k, (h : k < us.length) → s k = nI (us[k]).1 ∧ (us[k]).1 ≤ 3 ∧ ∀ i, i < 121 → u (121 * k + i) = snp f (us[k]).2 (5 + i)
def imgM (f g : Nat → Int32) (im : Nat → Option sW) : Prop := ∀ k, k < 2 → (im k = none → g k = 0) ∧ ∀ t, im k = some t → g k ≠ 0 ∧ cut (fun i => f (5585 * k + i)) = t.1 ∧ lawG (fun i => f (5585 * k + i)) t.2
def scM (M : mS) (sc : Nat → Int32) : Prop := M.1 18 = sc 0 ∧ M.1 55 = sc 1 ∧ M.1 1 = sc 2
def drM (M : mS) (sc dr : Nat → Int32) : Prop := (M.1 59 = sc 3 ∨ (M.1 59 = -1 ∧ sc 3 = 0)) ∧ (M.1 60 = sc 4 ∨ (M.1 60 = -1 ∧ sc 4 = 0)) ∧ ∀ j, j < 48 → M.2.2.1 58 j = dr j
def cnM (M : mS) : Prop := wdsM M ∧ hdM M ∧ acM M
def luM (M : mS) (us : uL) : Prop := M.1 8 = nI us.length ∧ undU (M.2.2.1 6) (M.2.2.1 7) (M.2.2.1 3) us
/-- the reference is at T -/
def RR (M : mS) (rs : Nat) (T : aS) : Prop := (cut (M.2.2.1 3) = T.1.1 ∧ lawG (M.2.2.1 3) T.1.2) ∧ imgM (M.2.2.1 4) (M.2.2.1 5) T.2.1 ∧ luM M T.2.2.1 ∧ tpM T.2.2.2.1 M ∧ scM M T.2.2.2.2.1 ∧ (∀ j, j < 7 → M.2.2.1 2 j = T.2.2.2.2.2.1 j) ∧ drM M T.2.2.2.2.1 T.2.2.2.2.2.2 ∧ M.1 11 = nI rs ∧ cnM M
/-- bounds of a state -/
def aB (T : aS) : Prop := rB T.1.1 ∧ (∀ k, k < 2 → ∀ t, T.2.1 k = some t → rB t.1) ∧ ∀ y ∈ T.2.2.1, rB y.2
section RRS
variable {S : hS} {o : Nat} {ad : Nat → Nat} {M N : mS} {mT : mS} {T : aS} {rs : Nat} {L : Nat → List pCl} {us : uL} {f g u s : Nat → Int32}
theorem lawG_cg (h : ∀ i, 185 ≤ i → g i = f i) (h3 : iR g 3 = iR f 3) (hL : lawG f L) : lawG g L := by
  obtain ⟨h1, h2⟩ := hL
  refine ⟨fun i hi => ?_, fun i hi => h2 i (by rw [← h3]; exact hi)⟩
  obtain ⟨⟨a1, a2, a3⟩, b, c⟩ := h1 i (by rw [← h3]; exact hi)
  refine ⟨⟨?_, fun j hj => ?_, fun k hk => ?_⟩, b, c⟩
  · rw [h _ (by omega)]; exact a1
  · rw [h _ (by omega), h _ (by omega), h _ (by omega), h _ (by omega), h _ (by omega)]; exact a2 j hj
  · dsimp only
    rw [h _ (by omega), h _ (by omega)]; exact a3 k hk
theorem undU_cg {u' s' f' : Nat → Int32} (hu : ∀ j, j < 1936 → u' j = u j) (hs : ∀ k, k < 16 → s' k = s k) (h6 : f' 6 = f 6 ∧ f' 7 = f 7) (h : undU u s f us) : undU u' s' f' us := by
  refine ⟨h.1, fun k hk => ?_⟩
  obtain ⟨h1, h2, h3⟩ := h.2 k hk
  have := h.1
  refine ⟨by rw [hs k (by omega)]; exact h1, h2, fun i hi => ?_⟩
  rw [hu _ (by omega), h3 i hi]
  unfold snp
  by_cases c : 5 + i = 6 ∨ 5 + i = 7
  · rw [if_pos c, if_pos c]
    rcases c with c | c
    · rw [c]; exact h6.1.symm
    · rw [c]; exact h6.2.symm
  · rw [if_neg c, if_neg c]
theorem cnM.fx {a b c d : List Nat} (h : cnM M) (hF : Fx a b c d M N) (hd : 31 ∉ d ∧ 32 ∉ d ∧ 33 ∉ d ∧ 51 ∉ d) : cnM N := by
  unfold cnM wdsM hdM acM at *
  rw [hF.2.2.2 31 hd.1, hF.2.2.2 32 hd.2.1, hF.2.2.2 33 hd.2.2.1, hF.2.2.2 51 hd.2.2.2]
  exact h
theorem RR.fx {a b c d : List Nat} (h : RR M rs T) (hF : Fx a b c d M N) (ha : 8 ∉ a ∧ 13 ∉ a ∧ 18 ∉ a ∧ 55 ∉ a ∧ 1 ∉ a ∧ 59 ∉ a ∧ 60 ∉ a ∧ 11 ∉ a) (hc : 2 ∉ c ∧ 3 ∉ c ∧ 4 ∉ c ∧ 5 ∉ c ∧ 6 ∉ c ∧ 7 ∉ c ∧ 12 ∉ c ∧ 58 ∉ c) (hd : 31 ∉ d ∧ 32 ∉ d ∧ 33 ∉ d ∧ 51 ∉ d) : RR N rs T := by
  obtain ⟨h1, h2, h3, h4, h5, h6, h7, h8, h9⟩ := h
  obtain ⟨a8, a13, a18, a55, a1, a59, a60, a11⟩ := ha
  obtain ⟨c2, c3, c4, c5, c6, c7, c12, c58⟩ := hc
  refine ⟨?_, ?_, ?_, ?_, ?_, ?_, ?_, ?_, h9.fx hF hd⟩
  · rw [hF.2.2.1 3 c3]; exact h1
  · rw [hF.2.2.1 4 c4, hF.2.2.1 5 c5]; exact h2
  · unfold luM; rw [hF.1 8 a8, hF.2.2.1 6 c6, hF.2.2.1 7 c7, hF.2.2.1 3 c3]; exact h3
  · unfold tpM; rw [hF.1 13 a13, hF.2.2.1 12 c12]; exact h4
  · unfold scM; rw [hF.1 18 a18, hF.1 55 a55, hF.1 1 a1]; exact h5
  · rw [hF.2.2.1 2 c2]; exact h6
  · unfold drM; rw [hF.1 59 a59, hF.1 60 a60, hF.2.2.1 58 c58]; exact h7
  · rw [hF.1 11 a11]; exact h8
/-- behind a deed: the row, what can be undone -/
theorem RR.deed {a b d : List Nat} {f' : Nat → Int32} {us' : uL} (h : RR M rs T) (hF : Fx a b [3, 6, 7] d M N) (ha : 13 ∉ a ∧ 18 ∉ a ∧ 55 ∉ a ∧ 1 ∉ a ∧ 59 ∉ a ∧ 60 ∉ a ∧ 11 ∉ a) (hd : 31 ∉ d ∧ 32 ∉ d ∧ 33 ∉ d ∧ 51 ∉ d) (hc : cut (N.2.2.1 3) = f') (hr : ∀ i, 185 ≤ i → N.2.2.1 3 i = M.2.2.1 3 i) (h3 : f' 3 = T.1.1 3) (hu : luM N us') : RR N rs ((f', T.1.2), T.2.1, us', T.2.2.2) := by
  obtain ⟨h1, h2, h3', h4, h5, h6, h7, h8, h9⟩ := h
  obtain ⟨a13, a18, a55, a1, a59, a60, a11⟩ := ha
  have e3 : iR (N.2.2.1 3) 3 = iR (M.2.2.1 3) 3 := by
    rw [← iR_cut (f := N.2.2.1 3) (by omega), ← iR_cut (f := M.2.2.1 3) (by omega), hc, h1.1]
    exact iR_ge h3
  refine ⟨⟨hc, lawG_cg hr e3 h1.2⟩, ?_, hu, ?_, ?_, ?_, ?_, ?_, h9.fx hF hd⟩
  · rw [hF.2.2.1 4 (by simp), hF.2.2.1 5 (by simp)]; exact h2
  · unfold tpM; rw [hF.1 13 a13, hF.2.2.1 12 (by simp)]; exact h4
  · unfold scM; rw [hF.1 18 a18, hF.1 55 a55, hF.1 1 a1]; exact h5
  · rw [hF.2.2.1 2 (by simp)]; exact h6
  · unfold drM; rw [hF.1 59 a59, hF.1 60 a60, hF.2.2.1 58 (by simp)]; exact h7
  · rw [hF.1 11 a11]; exact h8
theorem RR.QM (h : RR M rs T) (hA : aB T) : QM M T.1.2 := ⟨rB_cut.mp (by rw [h.1.1]; exact hA.1), h.1.2⟩
theorem RR.at (h : RR M rs T) {i : Nat} (hi : i < 185) : M.2.2.1 3 i = T.1.1 i := by rw [← h.1.1, cut_lt hi]
theorem RR.iR (h : RR M rs T) {i : Nat} (hi : i < 185) : iR (M.2.2.1 3) i = iR T.1.1 i := iR_ge (h.at hi)
/-- the scratch of a call -/
theorem RR.z {x : Int32} (h : RR M rs T) : RR (mI M 0 x) rs T := h.fx (Fx.i 0 x) (by simp) (by simp) (by simp)
theorem wI_neg {n : Nat} (hn : n < 7) : (wI (-(n : Int))).toInt = -(n : Int) := wI_i (by omega)
theorem r_tell (hd : mD o ad) (hM : mOk mT M) (hR : RR M rs T) {q : Int32 → hS → Prop} {v : Int32} {code : Int} (ev : v.toInt = code) (hc : -6 ≤ code) (h : ∀ N, mOk mT N → RR N rs (spTell code T).2 → q (spTell code T).1 (ov S o ad N)) : w_X12_tell q (ov S o ad M) o v := by
  have ve : v = wI code := wI_of ev
  refine x_tell hd (by omega) ?_
  have hm : mOk mT (tlM M v) := mOk_fx tlM_fx hM (by simp)
  unfold spTell at h
  have z0 : (0 : Int32).toInt = 0 := by decide
  obtain ⟨h1, h2, h3, h4, h5, h6, h7, h8, h9⟩ := hR
  unfold tlM at hm ⊢
  by_cases c : code < 0
  · rw [if_pos c] at h
    obtain ⟨n, rfl⟩ : ∃ n : Nat, code = -(n : Int) := ⟨(-code).toNat, by omega⟩
    have hn : n < 7 := by omega
    rw [show (-(-(n : Int))).toNat = n by omega] at h
    have c0 : ¬ 0 ≤ v := by rw [Int32.le_iff_toInt_le, z0, ev]; omega
    have en : (-v).toNatClampNeg = n := by
      have : -v = nI n := by
        apply Int32.toInt_inj.mp
        rw [fb_negI (by omega), ev, nI_toInt (by omega)]
        omega
      rw [this, nI_clamp (by omega)]
    rw [if_neg c0, en] at hm ⊢
    rw [ve] at hm ⊢
    refine h _ hm ⟨?_, ?_, ?_, ?_, ?_, fun j hj => ?_, ?_, ?_, ?_⟩
    · exact h1
    · exact h2
    · exact h3
    · exact h4
    · refine ⟨h5.1, h5.2.1, ?_⟩
      show wI (-(n : Int)) = upd T.2.2.2.2.1 2 (wI (-(n : Int))) 2
      rw [upd_self]
    · show upd (M.2.2.1 2) n (M.2.2.1 2 n + 1) j = upd T.2.2.2.2.2.1 n (T.2.2.2.2.2.1 n + 1) j
      unfold upd
      rw [h6 n hn, h6 j hj]
    · exact h7
    · exact h8
    · exact h9
  · rw [if_neg c] at h
    have c0 : 0 ≤ v := by rw [Int32.le_iff_toInt_le, z0, ev]; omega
    rw [if_pos c0] at hm ⊢
    rw [ve]
    refine h _ hm ⟨?_, ?_, ?_, ?_, ?_, ?_, ?_, ?_, ?_⟩
    · exact h1
    · exact h2
    · exact h3
    · exact h4
    · refine ⟨h5.1, h5.2.1, ?_⟩
      show (0 : Int32) = upd T.2.2.2.2.1 2 0 2
      rw [upd_self]
    · exact h6
    · exact h7
    · exact h8
    · exact h9
end RRS
