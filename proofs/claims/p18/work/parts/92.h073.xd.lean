/-! THE CLASS'S DEEDS AS CALLS -/
def spTell (code : Int) (T : aS) : Int32 × aS := if code < 0 then spRef (-code).toNat T else spAcc (wI code) T
def spDeed (act : Nat) (a b c : Int) (T : aS) : Int32 × aS := spTell (deedD (csF T.1.1 T.1.2) act T.1.1 a b c).1 (((deedD (csF T.1.1 T.1.2) act T.1.1 a b c).2, T.1.2), T.2.1, usD T.2.2.1 act T.1.1 (deedD (csF T.1.1 T.1.2) act T.1.1 a b c).1, T.2.2.2)
def spUndo (T : aS) : Int32 × aS := match T.2.2.1.getLast? with
  | none => spRef 3 T
  | some y => spAcc (nI y.1) ((undF T.1.1 y.2, T.1.2), T.2.1, T.2.2.1.dropLast, T.2.2.2)
def d0N : List Nat := [11, 1216] ++ deNm 0
theorem usD_rB {us : uL} {kd : Nat} {f : Nat → Int32} {code : Int} (hB : rB f) (h : ∀ y ∈ us, rB y.2) : ∀ y ∈ usD us kd f code, rB y.2 := by
  intro y hy
  unfold usD pushU at hy
  split at hy
  · exact h y hy
  · rcases List.mem_append.mp hy with z | z
    · split at z
      · exact h y (List.mem_of_mem_tail z)
      · exact h y z
    · rw [List.mem_singleton] at z
      rw [z]
      exact hB
theorem rB_und {f g : Nat → Int32} (hf : rB f) (hg : rB g) : rB (undF f g) := by
  obtain ⟨h1, h2, h3, h4, h5, h6⟩ := hf
  obtain ⟨g1, g2, g3, g4, g5, g6⟩ := hg
  have ou : ∀ i, ¬ (i = 5 ∨ (8 ≤ i ∧ i < 126)) → undF f g i = f i := fun i hi => if_neg hi
  have inn : ∀ i, (i = 5 ∨ (8 ≤ i ∧ i < 126)) → undF f g i = g i := fun i hi => if_pos hi
  refine ⟨fun j hj => ?_, ?_, fun k hk => ?_, fun q hq => ?_, fun j hj => ?_, fun q hq => ?_⟩
  · by_cases c : j = 5 ∨ (8 ≤ j ∧ j < 126)
    · rw [iR_ge (inn j c)]; exact g1 j hj
    · rw [iR_ge (ou j c)]; exact h1 j hj
  · rw [iR_ge (ou 4 (by omega)), iR_ge (ou 3 (by omega))]; exact h2
  · rw [iR_ge (ou _ (by omega))]; exact h3 k hk
  · rw [iR_ge (ou _ (by omega))]; exact h4 q hq
  · rw [iR_ge (inn _ (by omega)), iR_ge (inn _ (by omega))]; exact g5 j hj
  · rw [ou _ (by omega)]; exact h6 q hq
section XD
variable {Γ Γ' : kG} {Φ : kF} {S S' : hS} {x b i rs : Nat} {ρ ρg β : Nat → Nat} {A : List Nat} {T : aS} {t : sW}
theorem cx_tell {q : Int32 → hS → Prop} {v : Int32} {code : Int} (h : CR Γ S x ρ rs T) (hs : St Γ Φ S) (hf : fre Γ Φ [11, 1216]) (ev : v.toInt = code) (hc : -6 ≤ code) (k : ∀ S', St Γ Φ S' → CR Γ S' x ρ rs (spTell code T).2 → q (spTell code T).1 S') : oK S x 11 ∧ w_X11_tell q S x v := by
  have ve : v = wI code := wI_of ev
  refine T_oK_11 hs h.1 ?_
  unfold w_X11_tell
  rw [Int32.le_iff_toInt_le, z0I, ev]
  unfold spTell at k
  refine ⟨fun z => ?_, fun z => ?_⟩
  · rw [if_neg (by omega)] at k
    rw [ve]
    exact T_oK_11 hs h.1 (cx_accept h hs (hf.sub (by simp)) (fun S' h' _ c' => k S' h' c'))
  · rw [if_pos (by omega)] at k
    refine T_oK_11 hs h.1 (cx_refuse h hs hf (n := (-code).toNat) ?_ (by omega) (fun S' h' _ c' => k S' h' c'))
    rw [ve]
    congr 1
    omega
/-- behind a deed -/
theorem CR.deed {f' : Nat → Int32} {us' : uL} (h : CR Γ S x ρ rs T) (hs : St Γ Φ S) (hg : gro Γ Φ Γ') (hm : sam Γ (deNm 0) S S') (ev : sV S' (ρ 0) (bk 0 ρ) = f') (hB : rB f') (hfr : ∀ i, ¬ inLe i → f' i = T.1.1 i) (hl : lgS Γ' S' (ρ 3) (bk 3 ρ) us') (hu : ∀ y ∈ us', rB y.2) : CR Γ' S' x ρ rs ((f', T.1.2), T.2.1, us', T.2.2.2) := by
  obtain ⟨hx, h1, h2, h3, h4, h5, h6, h7, h8⟩ := h
  obtain ⟨t1, t2, t3, t4, t5⟩ := h1
  have e3 : iR f' 3 = iR T.1.1 3 := iR_ge (hfr 3 (by unfold inLe; omega))
  refine ⟨hg.1 _ _ hx, ⟨hg.1 _ _ t1, ev, hB, ?_, ?_⟩, h2.sm hs hx hg hm (by decide), hl, h4.sm hs (P_11_4 hs hx).2 hm (by decide), h5.sm hs hx hm (by decide), h6.sm hs hx hm (by decide), h7.sm hs hx hm (by decide), h8.1, hu⟩
  · show lwsS Γ' S' (bk 0 ρ) T.1.2 (iR f' 3)
    rw [e3]
    exact (t4.sm hs t1 hm (by decide)).gr hg
  · intro j hj
    exact t5 j (by rw [← e3]; exact hj)
theorem lgI_1 (h : CR Γ S x ρ rs T) (hs : St Γ Φ S) (hf : fre Γ Φ (deNm 0)) : lgI (bk 3 ρ) Γ Φ S 1 (some (ρ 3)) T.2.2.1 := fun g hg => by
  cases hg
  refine ⟨(P_11_3 hs h.1).2, ?_, lg_fre (hf.sub (fun x hx => lgNm_sub hx)), h.2.2.2.1⟩
  unfold lgF
  split <;> omega
theorem cx_deed {q : Int32 → hS → Prop} {act : Nat} {a b c : Int} (h : CR Γ S x ρ rs T) (hs : St Γ Φ S) (hf : fre Γ Φ d0N) (k : ∀ Γ' S', gro Γ Φ Γ' → St Γ' Φ S' → CR Γ' S' x ρ rs (spDeed act a b c T).2 → q (spDeed act a b c T).1 S') : ∀ (r : Int32) Γ' S', r.toInt = (deedD (csF T.1.1 T.1.2) act T.1.1 a b c).1 → gro Γ Φ Γ' → St Γ' Φ S' → sV S' (ρ 0) (bk 0 ρ) = (deedD (csF T.1.1 T.1.2) act T.1.1 a b c).2 → lgQ (bk 3 ρ) Γ' S S' (some (ρ 3)) T.2.2.1 act T.1.1 (deedD (csF T.1.1 T.1.2) act T.1.1 a b c).1 → sam Γ (deNm 0) S S' → oK S' x 11 ∧ w_X11_tell (fun x18 S => q x18 S) S' x r := by
  intro r Γ' S' er hg h' ev hq hm
  obtain ⟨o1, o2, o3, o4, o5⟩ := deedD_ok (cs := csF T.1.1 T.1.2) (a := a) (b := b) (c := c) (act := act) h.2.1.2.2.1
  exact cx_tell (h.deed hs hg hm ev o1 o2 (hq (ρ 3) rfl).2 (usD_rB h.2.1.2.2.1 h.2.2.2.2.2.2.2.2.2)) h' ((hf.sub (by simp [d0N])).gr hg) er (by omega) (fun S2 h2 c2 => k Γ' S2 hg h2 c2)
theorem dbf {Γ : kG} {Φ : kF} (hf : fre Γ Φ d0N) : fre Γ Φ (dbNm 0) := hf.sub (fun _ hx => List.mem_append.mpr (Or.inr (dbNm_sub hx)))
theorem def' {Γ : kG} {Φ : kF} (hf : fre Γ Φ d0N) : fre Γ Φ (deNm 0) := hf.sub (fun _ hx => List.mem_append.mpr (Or.inr hx))
theorem cx_ring {q : Int32 → hS → Prop} {a b : Int32} (h : CR Γ S x ρ rs T) (hs : St Γ Φ S) (hf : fre Γ Φ d0N) (k : ∀ Γ' S', gro Γ Φ Γ' → St Γ' Φ S' → CR Γ' S' x ρ rs (spDeed 0 a.toInt b.toInt 0 T).2 → q (spDeed 0 a.toInt b.toInt 0 T).1 S') : w_X11_ring q S x a b := by
  have hx := h.1
  have hA := h.2.1.ask (P_1_0 hs (P_11_7 hs hx).2).2
  have key := cx_deed h hs hf k
  unfold w_X11_ring
  refine E_gP_11_7 hs hx (fun k7 => E_gP_11_0 hs hx (fun _ => E_gP_11_3 hs hx (fun _ => T_oK_1 hs k7 (kz_ring hs (dbf hf) k7 (by omega) hA (lgI_1 h hs (def' hf)) (fun r Γ' S' er g' h' ev hq hm => key r Γ' S' ?_ g' h' ?_ ?_ hm)))))
  · rw [deedD_0, er, h.2.1.2.1]
  · rw [deedD_0, ev, h.2.1.2.1]
  · rw [deedD_0]
    rw [h.2.1.2.1] at hq
    exact hq
theorem cx_sell {q : Int32 → hS → Prop} {a b c : Int32} (h : CR Γ S x ρ rs T) (hs : St Γ Φ S) (hf : fre Γ Φ d0N) (k : ∀ Γ' S', gro Γ Φ Γ' → St Γ' Φ S' → CR Γ' S' x ρ rs (spDeed 1 a.toInt b.toInt c.toInt T).2 → q (spDeed 1 a.toInt b.toInt c.toInt T).1 S') : w_X11_sell q S x a b c := by
  have hx := h.1
  have hA := h.2.1.ask (P_1_0 hs (P_11_7 hs hx).2).2
  have key := cx_deed h hs hf k
  unfold w_X11_sell
  refine E_gP_11_7 hs hx (fun k7 => E_gP_11_0 hs hx (fun _ => E_gP_11_3 hs hx (fun _ => T_oK_1 hs k7 (kz_sell hs (dbf hf) k7 (by omega) hA (lgI_1 h hs (def' hf)) (fun r Γ' S' er g' h' ev hq hm => key r Γ' S' ?_ g' h' ?_ ?_ hm)))))
  · rw [deedD_1, er, h.2.1.2.1]
  · rw [deedD_1, ev, h.2.1.2.1]
  · rw [deedD_1]
    rw [h.2.1.2.1] at hq
    exact hq
theorem cx_die {q : Int32 → hS → Prop} {a : Int32} (h : CR Γ S x ρ rs T) (hs : St Γ Φ S) (hf : fre Γ Φ d0N) (k : ∀ Γ' S', gro Γ Φ Γ' → St Γ' Φ S' → CR Γ' S' x ρ rs (spDeed 2 a.toInt 0 0 T).2 → q (spDeed 2 a.toInt 0 0 T).1 S') : w_X11_die q S x a := by
  have hx := h.1
  have key := cx_deed h hs hf k
  unfold w_X11_die
  refine E_gP_11_7 hs hx (fun k7 => E_gP_11_0 hs hx (fun _ => E_gP_11_3 hs hx (fun _ => T_oK_1 hs k7 (kz_die hs (dbf hf) (by omega) h.2.1.1 (by rw [h.2.1.2.1]; exact h.2.1.2.2.1) (lgI_1 h hs (def' hf)) (fun r Γ' S' er g' h' ev hq hm => key r Γ' S' ?_ g' h' ?_ ?_ hm)))))
  · rw [deedD_2, er, h.2.1.2.1]
  · rw [deedD_2, ev, h.2.1.2.1]
  · rw [deedD_2]
    rw [h.2.1.2.1] at hq
    exact hq
theorem cx_pass {q : Int32 → hS → Prop} (h : CR Γ S x ρ rs T) (hs : St Γ Φ S) (hf : fre Γ Φ d0N) (k : ∀ Γ' S', gro Γ Φ Γ' → St Γ' Φ S' → CR Γ' S' x ρ rs (spDeed 3 0 0 0 T).2 → q (spDeed 3 0 0 0 T).1 S') : w_X11_pass q S x := by
  have hx := h.1
  have key := cx_deed h hs hf k
  unfold w_X11_pass
  refine E_gP_11_7 hs hx (fun k7 => E_gP_11_0 hs hx (fun _ => E_gP_11_3 hs hx (fun _ => T_oK_1 hs k7 (kz_pass hs (dbf hf) (by omega) h.2.1.1 (by rw [h.2.1.2.1]; exact h.2.1.2.2.1) (lgI_1 h hs (def' hf)) (fun r Γ' S' er g' h' ev hq hm => key r Γ' S' ?_ g' h' ?_ ?_ hm)))))
  · rw [deedD_3, er, h.2.1.2.1]
  · rw [deedD_3, ev, h.2.1.2.1]
  · rw [deedD_3]
    rw [h.2.1.2.1] at hq
    exact hq
theorem cx_undo {q : Int32 → hS → Prop} (h : CR Γ S x ρ rs T) (hs : St Γ Φ S) (hf : fre Γ Φ d0N) (k : ∀ S', St Γ Φ S' → CR Γ S' x ρ rs (spUndo T).2 → q (spUndo T).1 S') : w_X11_undo q S x := by
  have hx := h.1
  unfold w_X11_undo
  refine E_gP_11_3 hs hx (fun k3 => E_gP_11_0 hs hx (fun k0 => E_gP_8_0 hs k0 (fun _ => T_oK_3 hs k3 (kx_takeBack hs k3 k0 (by omega) (hf.sub (fun y hy => ?_)) h.2.2.2.1 (fun z => ⟨fun y => absurd rfl y, fun _ => ?_⟩) (fun vs y S' hus h' l' m' ev y3 => ⟨fun _ => ?_, fun z => ?_⟩)))))
  · simp only [leN, List.mem_cons, List.not_mem_nil, or_false] at hy
    rcases hy with rfl | rfl | rfl | rfl | rfl | rfl <;> decide
  · refine T_oK_11 hs hx (cx_refuse h hs (hf.sub (by simp [d0N])) (n := 3) rfl (by omega) (fun S' h' _ c' => ?_))
    have e : spUndo T = spRef 3 T := by unfold spUndo; rw [z]; rfl
    rw [e] at k
    exact k S' h' c'
  · have e : spUndo T = spAcc (nI y.1) ((undF T.1.1 y.2, T.1.2), T.2.1, vs, T.2.2.2) := by
      unfold spUndo
      rw [hus, List.getLast?_concat, List.dropLast_concat]
    rw [e] at k
    rw [h.2.1.2.1] at ev
    have hu := h.2.2.2.2.2.2.2.2.2
    rw [hus] at hu
    have hm' : sam Γ (deNm 0) S S' := m'.le (fun w hw => by
      simp only [leN, List.mem_cons, List.not_mem_nil, or_false] at hw
      rcases hw with rfl | rfl | rfl | rfl | rfl | rfl <;> decide)
    have c1 : CR Γ S' x ρ rs ((undF T.1.1 y.2, T.1.2), T.2.1, vs, T.2.2.2) := h.deed hs gro_rf hm' ev (rB_und h.2.1.2.2.1 (hu y (List.mem_append.mpr (Or.inr (List.mem_singleton.mpr rfl))))) (fun i hi => if_neg hi) l' (fun w hw => hu w (List.mem_append.mpr (Or.inl hw)))
    exact T_oK_11 h' hx (cx_accept c1 h' (hf.sub (by simp [d0N])) (fun S2 h2 _ c2 => k S2 h2 c2))
  · exfalso
    have := congrArg Int32.toInt z
    rw [nI_toInt (by omega), show Int32.toInt (-1) = -1 by decide] at this
    omega
end XD
