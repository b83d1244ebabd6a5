/-! THE REFERENCE'S ORDERS, EXACTLY: READORDER -/
def ordT3 (G : pG) (h : Nat) (s : Option pA × Option pA × Option pA) (q : Nat × Nat) : (Nat × Nat) × Option pOr := match prTm G q.1 q.2 with
  | (q, none) => (q, none)
  | (q, some n) => match prIf G orW q.1 q.2 with
    | (r, none) => (r, none)
    | (r, some t) => (r, some (h, s, n, t))
def ordT2 (G : pG) (h : Nat) (s0 s1 : Option pA) (q : Nat × Nat) : (Nat × Nat) × Option pOr := match (if h = 1 then prNx G [111, 102] q.1 q.2 else (q, some none) : oR) with
  | (q, none) => (q, none)
  | (q, some s2) => ordT3 G h (s0, s1, s2) q
def ordT1 (G : pG) (h : Nat) (s0 : Option pA) (q : Nat × Nat) : (Nat × Nat) × Option pOr := match (if h = 0 then prNx G [97, 116] q.1 q.2 else if h = 1 then prNx G [116, 111] q.1 q.2 else (q, some none) : oR) with
  | (q, none) => (q, none)
  | (q, some s1) => ordT2 G h s0 s1 q
def ordT0 (G : pG) (h : Nat) (z : oR) : (Nat × Nat) × Option pOr := match z with
  | (q, none) => (q, none)
  | (q, some s0) => ordT1 G h s0 q
theorem prOrd_eq {G : pG} {p k h : Nat} (hw : whW G acW p = some h) : prOrd G p k = ordT0 G h (if h < 3 then opt (prS G orW 8 (tE G p) k) else ((tE G p, k), some none)) := by
  unfold prOrd
  rw [hw]
  rfl
/-- the code of a clause as the reference has it -/
def rOr (c : pOr) (out : List (Nat × Nat)) : List (Nat × Nat) := (((out ++ oR' c.2.1.1 out.length) ++ oR' c.2.1.2.1 (out ++ oR' c.2.1.1 out.length).length) ++ oR' c.2.1.2.2 ((out ++ oR' c.2.1.1 out.length) ++ oR' c.2.1.2.1 (out ++ oR' c.2.1.1 out.length).length).length) ++ oR' c.2.2.2 (((out ++ oR' c.2.1.1 out.length) ++ oR' c.2.1.2.1 (out ++ oR' c.2.1.1 out.length).length) ++ oR' c.2.1.2.2 ((out ++ oR' c.2.1.1 out.length) ++ oR' c.2.1.2.1 (out ++ oR' c.2.1.1 out.length).length).length).length
section RS2
variable {S : hS} {o : Nat} {ad : Nat → Nat} {M : mS} {G : pG} {p k : Nat}
theorem x_T3 (hd : mD o ad) {q : hS → Prop} {n h : Nat} {s : Option pA × Option pA × Option pA} {out : List (Nat × Nat)} (hn : n < 12) (hR : R0 G M p k out) (e20 : M.1 20 = 1) (h1 : ∀ r m t, ordT3 G h s (p, k) = (r, some (h, s, m, t)) → ∀ N, OF M N → R0 G N r.1 r.2 (out ++ oR' t out.length) → N.1 21 = M.1 21 → N.1 20 = 1 → (∀ j, j < 10 * n + 7 → N.2.2.1 52 j = M.2.2.1 52 j) → mkP (out ++ oR' t out.length) N (10 * n + 7) t → N.2.2.1 52 (10 * n + 9) = nI m → q (ov S o ad N)) (h0 : ∀ r, ordT3 G h s (p, k) = (r, none) → ∀ N, OF M N → RBo G N r.1 → q (ov S o ad N)) : w_X12_readOrder_b164 q (ov S o ad M) o (nI (10 * n)) := by
  unfold ordT3 at h1 h0
  refine x_or164 hd hn hR e20 (fun r m r2 t e1 e2 N hL hN a b c d e => h1 r2 m t ?_ N hL hN a b c d e) (fun r hr N hL hB => h0 r ?_ N hL hB)
  · dsimp only
    rw [e1]
    dsimp only
    rw [e2]
  · dsimp only
    rcases hr with e | ⟨r', m, e1, e2⟩
    · rw [e]
    · rw [e1]
      dsimp only
      rw [e2]
/-- behind the first sum: the other sums, how often, the test -/
theorem x_T1 (hd : mD o ad) {q : hS → Prop} {n h : Nat} {s0 : Option pA} {out : List (Nat × Nat)} (hn : n < 12) (hh : h < 4) (hR : R0 G M p k out) (e20 : M.1 20 = 1) (z3 : ∀ j, 3 ≤ j → j < 7 → M.2.2.1 52 (10 * n + j) = 0) (h1 : ∀ r s1 s2 m t, ordT1 G h s0 (p, k) = (r, some (h, (s0, s1, s2), m, t)) → ∀ N, OF M N → R0 G N r.1 r.2 (((out ++ oR' s1 out.length) ++ oR' s2 (out ++ oR' s1 out.length).length) ++ oR' t ((out ++ oR' s1 out.length) ++ oR' s2 (out ++ oR' s1 out.length).length).length) → N.1 21 = M.1 21 → N.1 20 = 1 → (∀ j, j < 10 * n + 3 → N.2.2.1 52 j = M.2.2.1 52 j) → mkP (((out ++ oR' s1 out.length) ++ oR' s2 (out ++ oR' s1 out.length).length) ++ oR' t ((out ++ oR' s1 out.length) ++ oR' s2 (out ++ oR' s1 out.length).length).length) N (10 * n + 3) s1 → mkP (((out ++ oR' s1 out.length) ++ oR' s2 (out ++ oR' s1 out.length).length) ++ oR' t ((out ++ oR' s1 out.length) ++ oR' s2 (out ++ oR' s1 out.length).length).length) N (10 * n + 5) s2 → mkP (((out ++ oR' s1 out.length) ++ oR' s2 (out ++ oR' s1 out.length).length) ++ oR' t ((out ++ oR' s1 out.length) ++ oR' s2 (out ++ oR' s1 out.length).length).length) N (10 * n + 7) t → N.2.2.1 52 (10 * n + 9) = nI m → q (ov S o ad N)) (h0 : ∀ r, ordT1 G h s0 (p, k) = (r, none) → ∀ N, OF M N → RBo G N r.1 → q (ov S o ad N)) : w_X12_readOrder_b125 q (ov S o ad M) o (nI h) (nI (10 * n)) := by
  have eh0 : (nI h = 0) ↔ h = 0 := by rw [show (0 : Int32) = nI 0 from rfl, nI_eq (by omega) (by omega)]
  have eh1 : (nI h = 1) ↔ h = 1 := by rw [show (1 : Int32) = nI 1 from rfl, nI_eq (by omega) (by omega)]
  have en : ∀ (l : List (Nat × Nat)) (m : Nat), l ++ oR' none m = l := fun l _ => List.append_nil _
  have e3 : nI (10 * n) + 3 = nI (10 * n + 3) := nIadd _ _
  have e5 : nI (10 * n) + 5 = nI (10 * n + 5) := nIadd _ _
  have z33 : M.2.2.1 52 (10 * n + 3) = nI 0 := z3 3 (by omega) (by omega)
  have z34 : M.2.2.1 52 (10 * n + 3 + 1) = nI 0 := z3 4 (by omega) (by omega)
  have z35 : M.2.2.1 52 (10 * n + 5) = nI 0 := z3 5 (by omega) (by omega)
  have z36 : M.2.2.1 52 (10 * n + 5 + 1) = nI 0 := z3 6 (by omega) (by omega)
  unfold w_X12_readOrder_b125
  rw [eh0]
  refine ⟨fun c0 => ?_, fun c0 => ⟨ov_oK, ?_⟩⟩
  · unfold w_X12_readOrder_b139
    rw [eh1]
    refine ⟨fun c1 => ?_, fun c1 => ⟨ov_oK, ?_⟩⟩
    · -- no other sums
      have et : ordT1 G h s0 (p, k) = ordT3 G h (s0, none, none) (p, k) := by
        unfold ordT1 ordT2
        rw [if_neg c0, if_neg c1]
        dsimp only
        rw [if_neg c1]
      rw [et] at h1 h0
      refine x_T3 hd hn hR e20 (fun r m t e N hL hN a b c d f => ?_) h0
      have hN' : R0 G N r.1 r.2 (((out ++ oR' none out.length) ++ oR' none (out ++ oR' none out.length).length) ++ oR' t ((out ++ oR' none out.length) ++ oR' none (out ++ oR' none out.length).length).length) := by simp only [en]; exact hN
      refine h1 r none none m t e N hL hN' a b (fun j hj => c j (by omega)) ?_ ?_ ?_ f
      · exact mkP.non (b := 0) ((c _ (by omega)).trans z33) ((c _ (by omega)).trans z34) (Nat.zero_le _)
      · exact mkP.non (b := 0) ((c _ (by omega)).trans z35) ((c _ (by omega)).trans z36) (Nat.zero_le _)
      · simp only [en]; exact d
    · -- two sums
      have et : ordT1 G h s0 (p, k) = (match prNx G [116, 111] p k with
        | (q, none) => (q, none)
        | (q, some s1) => ordT2 G h s0 s1 q) := by
        unfold ordT1
        rw [if_neg c0, if_pos c1]
      rw [e3, e5]
      refine x_behind hd (by omega) (by decide) wL_to hR e20 (fun r1 s1 f1 N1 hL1 hN1 a1 b1 c1' => ⟨ov_oK, ?_⟩) (fun r1 f1 N1 hL1 hB1 => ⟨ov_oK, x_behindB hd (by omega) hB1 (fun N2 hL2 hB2 => x_b164b hd hn hB2 (fun N3 hL3 hB3 => h0 r1 (by rw [et, f1]) N3 (OF.tr (OF.tr hL1 hL2) hL3) hB3))⟩)
      rw [f1] at et
      have et2 : ordT1 G h s0 (p, k) = (match prNx G [111, 102] r1.1 r1.2 with
        | (q, none) => (q, none)
        | (q, some s2) => ordT3 G h (s0, s1, s2) q) := by
        rw [et]
        dsimp only
        unfold ordT2
        rw [if_pos c1]
      refine x_behind hd (by omega) (by decide) wL_of hN1 b1 (fun r2 s2 f2 N2 hL2 hN2 a2 b2 c2' => ?_) (fun r2 f2 N2 hL2 hB2 => x_b164b hd hn hB2 (fun N3 hL3 hB3 => h0 r2 (by rw [et2, f2]) N3 (OF.tr (OF.tr hL1 hL2) hL3) hB3))
      rw [f2] at et2
      refine x_T3 hd (h := h) (s := (s0, s1, s2)) hn hN2 b2 (fun r m t e N hL hN a b c d f => ?_) (fun r e N hL hB => h0 r (by rw [et2]; exact e) N (OF.tr (OF.tr hL1 hL2) hL) hB)
      have m1 : mkP (out ++ oR' s1 out.length) N1 (10 * n + 3) s1 := by
        have := mkP.new (out := out) (l := []) (M := N1) (i := 10 * n + 3) (a := s1) (by rw [c1', upd_ne _ _ (by omega), upd_self]) (by rw [c1', upd_self])
        rw [List.append_nil] at this
        exact this
      have m2 : mkP ((out ++ oR' s1 out.length) ++ oR' s2 (out ++ oR' s1 out.length).length) N2 (10 * n + 5) s2 := by
        have := mkP.new (out := out ++ oR' s1 out.length) (l := []) (M := N2) (i := 10 * n + 5) (a := s2) (by rw [c2', upd_ne _ _ (by omega), upd_self]) (by rw [c2', upd_self])
        rw [List.append_nil] at this
        exact this
      refine h1 r s1 s2 m t (by rw [et2]; exact e) N (OF.tr (OF.tr hL1 hL2) hL) hN (a.trans (a2.trans a1)) b (fun j hj => ?_) ?_ ?_ d f
      · rw [c j (by omega), c2', upd_ne _ _ (by omega), upd_ne _ _ (by omega), c1', upd_ne _ _ (by omega), upd_ne _ _ (by omega)]
      · exact (m1.to (N := N2) (l := oR' s2 (out ++ oR' s1 out.length).length) (by rw [c2', upd_ne _ _ (by omega), upd_ne _ _ (by omega)]) (by rw [c2', upd_ne _ _ (by omega), upd_ne _ _ (by omega)])).to (c _ (by omega)) (c _ (by omega))
      · exact m2.to (c _ (by omega)) (c _ (by omega))
  · -- one sum behind "at"
    subst c0
    have et : ordT1 G 0 s0 (p, k) = (match prNx G [97, 116] p k with
      | (q, none) => (q, none)
      | (q, some s1) => ordT2 G 0 s0 s1 q) := by
      unfold ordT1
      rw [if_pos rfl]
    rw [e3]
    refine x_behind hd (by omega) (by decide) wL_at hR e20 (fun r1 s1 f1 N1 hL1 hN1 a1 b1 c1' => ?_) (fun r1 f1 N1 hL1 hB1 => x_b139b hd hn hB1 (fun N3 hL3 hB3 => h0 r1 (by rw [et, f1]) N3 (OF.tr hL1 hL3) hB3))
    rw [f1] at et
    have et2 : ordT1 G 0 s0 (p, k) = ordT3 G 0 (s0, s1, none) r1 := by
      rw [et]
      dsimp only
      unfold ordT2
      rw [if_neg (by decide)]
    unfold w_X12_readOrder_b139
    refine ⟨fun _ => x_T3 hd (h := 0) (s := (s0, s1, none)) hn hN1 b1 (fun r m t e N hL hN a b c d f => ?_) (fun r e N hL hB => h0 r (by rw [et2]; exact e) N (OF.tr hL1 hL) hB), fun z => absurd z (by decide)⟩
    have m1 : mkP (out ++ oR' s1 out.length) N1 (10 * n + 3) s1 := by
      have := mkP.new (out := out) (l := []) (M := N1) (i := 10 * n + 3) (a := s1) (by rw [c1', upd_ne _ _ (by omega), upd_self]) (by rw [c1', upd_self])
      rw [List.append_nil] at this
      exact this
    have hN' : R0 G N r.1 r.2 (((out ++ oR' s1 out.length) ++ oR' none (out ++ oR' s1 out.length).length) ++ oR' t ((out ++ oR' s1 out.length) ++ oR' none (out ++ oR' s1 out.length).length).length) := by simp only [en]; exact hN
    refine h1 r s1 none m t (by rw [et2]; exact e) N (OF.tr hL1 hL) hN' (a.trans a1) b (fun j hj => ?_) ?_ ?_ ?_ f
    · rw [c j (by omega), c1', upd_ne _ _ (by omega), upd_ne _ _ (by omega)]
    · simp only [en]
      exact m1.to (c _ (by omega)) (c _ (by omega))
    · exact mkP.non (b := 0) ((c _ (by omega)).trans (by rw [c1', upd_ne _ _ (by omega), upd_ne _ _ (by omega)]; exact z35)) ((c _ (by omega)).trans (by rw [c1', upd_ne _ _ (by omega), upd_ne _ _ (by omega)]; exact z36)) (Nat.zero_le _)
    · simp only [en]; exact d
end RS2
