/-! WHAT IS READ, ON PAPER: it runs as it means, it stays on the tape -/
def okW (W : List (List Nat × Nat × Nat × Option Nat)) (wl : Nat) : Prop := ∀ w ∈ W, w.2.2.1 < 20 ∧ (w.2.2.2 = none → w.2.1 < wl) ∧ ∀ mx, w.2.2.2 = some mx → w.2.1 + mx < wl
theorem okW_law : okW lwW 9 := by
  intro w hw
  simp only [lwW, List.mem_cons, List.not_mem_nil, or_false] at hw
  rcases hw with rfl | rfl | rfl | rfl | rfl | rfl | rfl | rfl | rfl <;> exact ⟨by decide, fun _ => by decide, fun mx h => by cases h⟩
theorem okW_ord : okW orW 26 := by
  intro w hw
  simp only [orW, List.mem_cons, List.not_mem_nil, or_false] at hw
  rcases hw with rfl | rfl | rfl | rfl | rfl | rfl | rfl <;> refine ⟨by decide, fun h => ?_, fun mx h => ?_⟩ <;> first | (cases h; done) | (cases h; decide) | decide
/-- a reading: it goes on along the tape, counts parts up to 50; what it made runs -/
def gdR (G : pG) (W : List (List Nat × Nat × Nat × Option Nat)) (wl p k : Nat) (r : pR) : Prop := p ≤ r.1.1 ∧ (p ≤ G.2 → r.1.1 ≤ G.2) ∧ k ≤ r.1.2 ∧ (k ≤ 50 → r.1.2 ≤ 50) ∧ ∀ a, r.2 = some a → (k < r.1.2 ∧ p < r.1.1) ∧ cOk wl (r.1.2 - k) a ∧ rOk W a ∧ ∀ n, p + (a.1 n).length ≤ r.1.1 ∧ p + (a.2.1 n).length ≤ r.1.1
section GD
variable {G : pG} {W : List (List Nat × Nat × Nat × Option Nat)} {wl : Nat}
theorem gd_no {p k p' k' : Nat} (h1 : p ≤ p') (h2 : p ≤ G.2 → p' ≤ G.2) (h3 : k ≤ k') (h4 : k ≤ 50 → k' ≤ 50) : gdR G W wl p k ((p', k'), none) := ⟨h1, h2, h3, h4, fun a h => by cases h⟩
/-- how a combination keeps what is good -/
def cbOk (W : List (List Nat × Nat × Nat × Option Nat)) (wl : Nat) (cb : Nat → pA → pA → pA) (o : Nat) : Prop := ∀ a b l l', 1 ≤ l → cOk wl l a → cOk wl l' b → rOk W a → rOk W b → cOk wl (l + l') (cb o a b) ∧ rOk W (cb o a b) ∧ ∀ n, (∃ n', ((cb o a b).1 n).length = (a.1 n).length + 1 + (b.1 n').length) ∧ ∃ n', ((cb o a b).2.1 n).length = (a.2.1 n).length + 1 + (b.2.1 n').length
theorem cbOk_a2 {o : Nat} (ho : 2 ≤ o ∧ o < 10) : cbOk W wl pTwo o := fun a b l l' hl h1 h2 h3 h4 => ⟨cOk_two ho h1 h2 hl, rOk_two ho h3 h4, fun n => ⟨⟨n + (a.1 n).length, by simp [pTwo]; omega⟩, ⟨n + (a.2.1 n).length, by simp [pTwo]; omega⟩⟩⟩
theorem cbOk_aJ {s : Nat} (hs : s < 2) : cbOk W wl pJmp s := fun a b l l' _ h1 h2 h3 h4 => ⟨cOk_jmp hs h1 h2, rOk_jmp hs h3 h4, fun n => ⟨⟨n + (a.1 n).length + 1, by simp [pJmp]; omega⟩, ⟨n + (a.2.1 n).length + 1, by simp [pJmp]; omega⟩⟩⟩
theorem gd_rowL {op : Nat → Option Nat} {sub : Nat → Nat → pR} {cb : Nat → pA → pA → pA} (hs : ∀ p k, gdR G W wl p k (sub p k)) (hop : ∀ p o, op p = some o → tK G p ≠ 0 ∧ cbOk W wl cb o) {p0 k0 : Nat} : ∀ (n p k : Nat) (a : pA), gdR G W wl p0 k0 ((p, k), some a) → gdR G W wl p0 k0 (rowL G op sub cb n p k a)
  | 0, p, k, a, h => h
  | n + 1, p, k, a, h => by
    rw [rowL]
    cases ho : op p with
    | none => exact h
    | some o =>
      dsimp only
      obtain ⟨hk, hcb⟩ := hop p o ho
      have g1 := hs (tE G p) k
      have t1 := tE_gt hk
      have t2 := tS_ge G p
      have t3 : p ≤ G.2 → tE G p ≤ G.2 := tE_le
      cases hr : sub (tE G p) k with
      | mk q r =>
        rw [hr] at g1
        obtain ⟨b1, b2, b3, b4, b5⟩ := g1
        obtain ⟨a1, a2, a3, a4, a5⟩ := h
        dsimp only at a1 a2 a3 a4 a5 b1 b2 b3 b4 b5
        cases r with
        | none => exact gd_no (p' := q.1) (k' := q.2) (by omega) (fun z => b2 (t3 (a2 z))) (by omega) (fun z => b4 (a4 z))
        | some b =>
          dsimp only
          refine gd_rowL hs hop n q.1 q.2 (cb o a b) ⟨by dsimp only; omega, fun z => b2 (t3 (a2 z)), by dsimp only; omega, fun z => b4 (a4 z), fun a' ha' => ?_⟩
          cases ha'
          obtain ⟨c1, c2, c3, c4⟩ := a5 a rfl
          obtain ⟨d1, d2, d3, d4⟩ := b5 b rfl
          obtain ⟨e1, e2, e3⟩ := hcb a b (k - k0) (q.2 - k) (by omega) c2 d2 c3 d3
          refine ⟨by dsimp only; omega, ?_, e2, fun m => ?_⟩
          · dsimp only
            rw [show q.2 - k0 = k - k0 + (q.2 - k) by omega]
            exact e1
          · obtain ⟨⟨n1, x1⟩, ⟨n2, x2⟩⟩ := e3 m
            have y1 := (c4 m).1
            have y2 := (c4 m).2
            have y3 := (d4 n1).1
            have y4 := (d4 n2).2
            dsimp only
            rw [x1, x2]
            omega
theorem gd_rowP {op : Nat → Option Nat} {sub : Nat → Nat → pR} {cb : Nat → pA → pA → pA} (hs : ∀ p k, gdR G W wl p k (sub p k)) (hop : ∀ p o, op p = some o → tK G p ≠ 0 ∧ cbOk W wl cb o) (p k : Nat) : gdR G W wl p k (rowP G op sub cb p k) := by
  have g1 := hs p k
  unfold rowP
  cases hr : sub p k with
  | mk q r =>
    rw [hr] at g1
    cases r with
    | none => exact g1
    | some a => exact gd_rowL hs hop 400 q.1 q.2 a g1
theorem isSg_k {p c : Nat} (h : isSg G p c = true) : tK G p = 3 ∧ G.1 (tS G p) = c := by
  unfold isSg at h
  simpa using h
theorem isWd_k {p : Nat} {s : List Nat} (h : isWd G p s = true) : tK G p = 1 := by
  unfold isWd at h
  have := of_decide_eq_true h
  exact this.1
theorem isNm_k {p lo hi : Nat} (h : isNm G p lo hi = true) : tK G p = 2 ∧ lo ≤ nV G p ∧ nV G p ≤ hi := by
  unfold isNm at h
  exact of_decide_eq_true h
theorem addOp_k {p o : Nat} (h : addOp G p = some o) : tK G p ≠ 0 ∧ (o = 2 ∨ o = 3) := by
  unfold addOp at h
  split at h
  · rename_i c
    cases h
    exact ⟨by rw [(isSg_k c).1]; omega, Or.inl rfl⟩
  · split at h
    · rename_i c
      cases h
      exact ⟨by rw [(isSg_k c).1]; omega, Or.inr rfl⟩
    · cases h
theorem mulOp_k {p o : Nat} (h : mulOp G p = some o) : tK G p ≠ 0 ∧ (o = 4 ∨ o = 5 ∨ o = 6) := by
  unfold mulOp at h
  split at h
  · rename_i c
    cases h
    exact ⟨by rw [(isSg_k c).1]; omega, Or.inl rfl⟩
  · split at h
    · rename_i c
      cases h
      exact ⟨by rw [(isSg_k c).1]; omega, Or.inr (Or.inl rfl)⟩
    · split at h
      · rename_i c
        cases h
        exact ⟨by rw [(isSg_k c).1]; omega, Or.inr (Or.inr rfl)⟩
      · cases h
theorem cmpOp_k {p o : Nat} (h : cmpOp G p = some o) : tK G p ≠ 0 ∧ (o = 7 ∨ o = 8 ∨ o = 9) := by
  unfold cmpOp at h
  split at h
  · rename_i c
    cases h
    exact ⟨by rw [(isSg_k c).1]; omega, Or.inl rfl⟩
  · split at h
    · rename_i c
      cases h
      exact ⟨by rw [(isSg_k c).1]; omega, Or.inr (Or.inl rfl)⟩
    · split at h
      · rename_i c
        cases h
        exact ⟨by rw [(isSg_k c).1]; omega, Or.inr (Or.inr rfl)⟩
      · cases h
theorem andOp_k {p o : Nat} (h : andOp G p = some o) : tK G p ≠ 0 ∧ o = 0 := by
  unfold andOp at h
  split at h
  · rename_i c
    cases h
    exact ⟨by rw [isWd_k c]; omega, rfl⟩
  · cases h
theorem orOp_k {p o : Nat} (h : orOp G p = some o) : tK G p ≠ 0 ∧ o = 1 := by
  unfold orOp at h
  split at h
  · rename_i c
    cases h
    exact ⟨by rw [isWd_k c]; omega, rfl⟩
  · cases h
theorem fndW_in {p : Nat} {w : List Nat × Nat × Nat × Option Nat} (h : fndW G W p = some w) : w ∈ W ∧ tK G p = 1 := by
  unfold fndW at h
  exact ⟨List.mem_of_find?_eq_some h, by have z := List.find?_some h; exact isWd_k z⟩
theorem gd_prF (hW : okW W wl) {inner : Option (Nat → Nat → pR)} (hi : ∀ s, inner = some s → ∀ p k, gdR G W wl p k (s p k)) (p k : Nat) : gdR G W wl p k (prF G W inner p k) := by
  have tle : ∀ {p}, p ≤ G.2 → tE G p ≤ G.2 := tE_le
  unfold prF
  split
  · rename_i c
    have hk : tK G p ≠ 0 := by rw [(isSg_k c).1]; omega
    have t1 := tE_gt hk
    have t2 := tS_ge G p
    cases inner with
    | none => exact gd_no (Nat.le_refl _) id (Nat.le_refl _) id
    | some s =>
      dsimp only
      have g1 := hi s rfl (tE G p) k
      cases hr : s (tE G p) k with
      | mk q r =>
        rw [hr] at g1
        obtain ⟨b1, b2, b3, b4, b5⟩ := g1
        dsimp only at b1 b2 b3 b4 b5
        cases r with
        | none => exact gd_no (p' := q.1) (k' := q.2) (by omega) (fun z => b2 (tle z)) b3 b4
        | some a =>
          dsimp only
          split
          · rename_i c2
            have hk2 : tK G q.1 ≠ 0 := by rw [(isSg_k c2).1]; omega
            have t3 := tE_gt hk2
            have t4 := tS_ge G q.1
            refine ⟨by dsimp only; omega, fun z => tle (b2 (tle z)), b3, b4, fun a' ha' => ?_⟩
            cases ha'
            obtain ⟨d1, d2, d3, d4⟩ := b5 a rfl
            refine ⟨by dsimp only; omega, d2, d3, fun n => ?_⟩
            have := d4 n
            dsimp only
            omega
          · exact gd_no (p' := q.1) (k' := q.2) (by omega) (fun z => b2 (tle z)) b3 b4
  · split
    · exact gd_no (Nat.le_refl _) id (Nat.le_refl _) id
    · rename_i ck
      have t2 := tS_ge G p
      split
      · rename_i c
        have hk : tK G p ≠ 0 := by rw [(isNm_k c).1]; omega
        have t1 := tE_gt hk
        refine ⟨by dsimp only; omega, tle, by dsimp only; omega, fun _ => by dsimp only; omega, fun a' ha' => ?_⟩
        cases ha'
        refine ⟨by dsimp only; omega, ?_, rOk_num, fun n => ⟨by show p + 1 ≤ tE G p; omega, by show p + 1 ≤ tE G p; omega⟩⟩
        dsimp only
        rw [show k + 1 - k = 1 by omega]
        exact cOk_num
      · cases hw : fndW G W p with
        | none => exact gd_no (p' := p) (k' := k + 1) (Nat.le_refl _) id (by omega) (fun _ => by omega)
        | some w =>
          obtain ⟨hin, hk1⟩ := fndW_in hw
          obtain ⟨w1, w2, w3⟩ := hW w hin
          have hk : tK G p ≠ 0 := by rw [hk1]; omega
          have t1 := tE_gt hk
          dsimp only
          cases hm : w.2.2.2 with
          | none =>
            dsimp only
            refine ⟨by dsimp only; omega, tle, by dsimp only; omega, fun _ => by dsimp only; omega, fun a' ha' => ?_⟩
            cases ha'
            refine ⟨by dsimp only; omega, ?_, rOk_wd w1 (fun e eR hl => (hl.2 w hin).2 hm), fun n => ⟨by show p + 1 ≤ tE G p; omega, by show p + 1 ≤ tE G p; omega⟩⟩
            dsimp only
            rw [show k + 1 - k = 1 by omega]
            exact cOk_wd (w2 hm)
          | some mx =>
            dsimp only
            split
            · rename_i c
              obtain ⟨n1, n2, n3⟩ := isNm_k c
              have hk2 : tK G (tE G p) ≠ 0 := by rw [n1]; omega
              have t3 := tE_gt hk2
              have t4 := tS_ge G (tE G p)
              refine ⟨by dsimp only; omega, fun z => tle (tle z), by dsimp only; omega, fun _ => by dsimp only; omega, fun a' ha' => ?_⟩
              cases ha'
              refine ⟨by dsimp only; omega, ?_, rOk_wd w1 (fun e eR hl => (hl.2 w hin).1 mx hm _ n3), fun n => ⟨by show p + 1 ≤ tE G (tE G p); omega, by show p + 1 ≤ tE G (tE G p); omega⟩⟩
              dsimp only
              rw [show k + 1 - k = 1 by omega]
              exact cOk_wd (by have := w3 mx hm; omega)
            · exact gd_no (p' := tE G p) (k' := k + 1) (by omega) tle (by omega) (fun _ => by omega)
theorem gd_prSum {fac : Nat → Nat → pR} (hf : ∀ p k, gdR G W wl p k (fac p k)) (p k : Nat) : gdR G W wl p k (prSum G fac p k) :=
  gd_rowP (gd_rowP hf (fun p o h => ⟨(mulOp_k h).1, cbOk_a2 (by have := (mulOp_k h).2; omega)⟩)) (fun p o h => ⟨(addOp_k h).1, cbOk_a2 (by have := (addOp_k h).2; omega)⟩) p k
theorem gd_prS (hW : okW W wl) : ∀ (e p k : Nat), gdR G W wl p k (prS G W e p k)
  | 0, p, k => gd_prSum (gd_prF hW (fun s h => by cases h)) p k
  | e + 1, p, k => gd_prSum (gd_prF hW (fun s h => by cases h; exact gd_prS hW e)) p k
theorem nots_ok : ∀ (n p c : Nat), p ≤ (nots G n p c).1 ∧ (p ≤ G.2 → (nots G n p c).1 ≤ G.2) ∧ c ≤ (nots G n p c).2 ∧ p + (nots G n p c).2 ≤ (nots G n p c).1 + c
  | 0, p, c => ⟨Nat.le_refl _, id, Nat.le_refl _, Nat.le_refl _⟩
  | n + 1, p, c => by
    rw [nots]
    split
    · rename_i h
      have hk : tK G p ≠ 0 := by rw [isWd_k h]; omega
      have t1 := tE_gt hk
      have t2 := tS_ge G p
      obtain ⟨a1, a2, a3, a4⟩ := nots_ok n (tE G p) (c + 1)
      exact ⟨by omega, fun z => a2 (tE_le z), by omega, by omega⟩
    · exact ⟨Nat.le_refl _, id, Nat.le_refl _, Nat.le_refl _⟩
theorem gd_prCmp {sum : Nat → Nat → pR} (hs : ∀ p k, gdR G W wl p k (sum p k)) (p k : Nat) : gdR G W wl p k (prCmp G sum p k) := by
  have g1 := hs p k
  unfold prCmp
  cases hr : sum p k with
  | mk q r =>
    rw [hr] at g1
    cases r with
    | none => exact g1
    | some a =>
      dsimp only
      cases ho : cmpOp G q.1 with
      | none => exact gd_no (p' := q.1) (k' := q.2) g1.1 g1.2.1 g1.2.2.1 g1.2.2.2.1
      | some o =>
        dsimp only
        obtain ⟨hk, ho2⟩ := cmpOp_k ho
        have g2 := hs (tE G q.1) q.2
        have t1 := tE_gt hk
        have t2 := tS_ge G q.1
        have t3 : q.1 ≤ G.2 → tE G q.1 ≤ G.2 := tE_le
        cases hr2 : sum (tE G q.1) q.2 with
        | mk q2 r2 =>
          rw [hr2] at g2
          obtain ⟨b1, b2, b3, b4, b5⟩ := g2
          obtain ⟨a1, a2', a3, a4, a5⟩ := g1
          dsimp only at a1 a2' a3 a4 a5 b1 b2 b3 b4 b5
          cases r2 with
          | none => exact gd_no (p' := q2.1) (k' := q2.2) (by omega) (fun z => b2 (t3 (a2' z))) (by omega) (fun z => b4 (a4 z))
          | some b =>
            dsimp only
            refine ⟨by dsimp only; omega, fun z => b2 (t3 (a2' z)), by dsimp only; omega, fun z => b4 (a4 z), fun a' ha' => ?_⟩
            cases ha'
            obtain ⟨c1, c2, c3, c4⟩ := a5 a rfl
            obtain ⟨d1, d2, d3, d4⟩ := b5 b rfl
            obtain ⟨e1, e2, e3⟩ := cbOk_a2 (W := W) (wl := wl) (o := o) (by omega) a b (q.2 - k) (q2.2 - q.2) (by omega) c2 d2 c3 d3
            refine ⟨by dsimp only; omega, ?_, e2, fun m => ?_⟩
            · dsimp only
              rw [show q2.2 - k = q.2 - k + (q2.2 - q.2) by omega]
              exact e1
            · obtain ⟨⟨n1, x1⟩, ⟨n2, x2⟩⟩ := e3 m
              have y1 := (c4 m).1
              have y2 := (c4 m).2
              have y3 := (d4 n1).1
              have y4 := (d4 n2).2
              dsimp only
              rw [x1, x2]
              omega
theorem gd_prPn {tst : Option (Nat → Nat → pR)} {sum : Nat → Nat → pR} (ht : ∀ t, tst = some t → ∀ p k, gdR G W wl p k (t p k)) (hs : ∀ p k, gdR G W wl p k (sum p k)) (p k : Nat) : gdR G W wl p k (prPn G tst sum p k) := by
  have tle : ∀ {p}, p ≤ G.2 → tE G p ≤ G.2 := tE_le
  unfold prPn
  split
  · rename_i c
    have hk : tK G p ≠ 0 := by rw [(isSg_k c).1]; omega
    have t1 := tE_gt hk
    have t2 := tS_ge G p
    cases tst with
    | none => exact gd_no (Nat.le_refl _) id (Nat.le_refl _) id
    | some t =>
      dsimp only
      have g1 := ht t rfl (tE G p) k
      cases hr : t (tE G p) k with
      | mk q r =>
        rw [hr] at g1
        obtain ⟨b1, b2, b3, b4, b5⟩ := g1
        dsimp only at b1 b2 b3 b4 b5
        cases r with
        | none => exact gd_no (p' := q.1) (k' := q.2) (by omega) (fun z => b2 (tle z)) b3 b4
        | some a =>
          dsimp only
          split
          · rename_i c2
            have hk2 : tK G q.1 ≠ 0 := by rw [(isSg_k c2).1]; omega
            have t3 := tE_gt hk2
            have t4 := tS_ge G q.1
            refine ⟨by dsimp only; omega, fun z => tle (b2 (tle z)), b3, b4, fun a' ha' => ?_⟩
            cases ha'
            obtain ⟨d1, d2, d3, d4⟩ := b5 a rfl
            refine ⟨by dsimp only; omega, d2, d3, fun n => ?_⟩
            have := d4 n
            dsimp only
            omega
          · exact gd_no (p' := q.1) (k' := q.2) (by omega) (fun z => b2 (tle z)) b3 b4
  · exact gd_prCmp hs _ k
theorem gd_prPl {tst : Option (Nat → Nat → pR)} {sum : Nat → Nat → pR} (ht : ∀ t, tst = some t → ∀ p k, gdR G W wl p k (t p k)) (hs : ∀ p k, gdR G W wl p k (sum p k)) (p k : Nat) : gdR G W wl p k (prPl G tst sum p k) := by
  obtain ⟨n1, n2, n3, n4⟩ := nots_ok (G := G) 400 p 0
  have body := gd_prPn ht hs (nots G 400 p 0).1 k
  unfold prPl
  cases hr : prPn G tst sum (nots G 400 p 0).1 k with
  | mk q r =>
    rw [hr] at body
    obtain ⟨b1, b2, b3, b4, b5⟩ := body
    dsimp only at b1 b2 b3 b4 b5
    cases r with
    | none => exact gd_no (p' := q.1) (k' := q.2) (by omega) (fun z => b2 (n2 z)) b3 b4
    | some a =>
      dsimp only
      refine ⟨by dsimp only; omega, fun z => b2 (n2 z), b3, b4, fun a' ha' => ?_⟩
      cases ha'
      obtain ⟨d1, d2, d3, d4⟩ := b5 a rfl
      refine ⟨by dsimp only; omega, cOk_not d2, rOk_not d3, fun n => ?_⟩
      have := d4 n
      have l1 : ((pNot (nots G 400 p 0).2 a).1 n).length ≤ (a.1 n).length + (nots G 400 p 0).2 := by
        show (if (nots G 400 p 0).2 % 2 = 1 then a.1 n ++ [(10, 0)] else a.1 n).length ≤ _
        split
        · rw [List.length_append, List.length_singleton]; omega
        · omega
      have l2 : ((pNot (nots G 400 p 0).2 a).2.1 n).length = (a.2.1 n).length + (nots G 400 p 0).2 := by
        show (a.2.1 n ++ List.replicate (nots G 400 p 0).2 (28, 0)).length = _
        rw [List.length_append, List.length_replicate]
      dsimp only
      omega
theorem gd_prTst {pl : Nat → Nat → pR} (hf : ∀ p k, gdR G W wl p k (pl p k)) (p k : Nat) : gdR G W wl p k (prTst G pl p k) :=
  gd_rowP (gd_rowP hf (fun p o h => ⟨(andOp_k h).1, cbOk_aJ (by have := (andOp_k h).2; omega)⟩)) (fun p o h => ⟨(orOp_k h).1, cbOk_aJ (by have := (orOp_k h).2; omega)⟩) p k
theorem gd_prT (hW : okW W wl) : ∀ (e p k : Nat), gdR G W wl p k (prT G W e p k)
  | 0, p, k => gd_prTst (gd_prPl (fun s h => by cases h) (gd_prS hW 0)) p k
  | e + 1, p, k => gd_prTst (gd_prPl (fun s h => by cases h; exact gd_prT hW e) (gd_prS hW (e + 1))) p k
end GD
