/-! from the law's wp to the claim: what holds at the start -/
def st_flat : List Cond := flatC (Jvm.Cond.and given_1 narrow_1)
/-- what the Statement says of a text -/
def st_tm (r : String × Nat × String × List Nat) : Term := .string r.1 r.2.1
def st_val (r : String × Nat × String × List Nat) : Term := .field (st_tm r) "java/lang/String" "value" "[B"
def st_cs (r : String × Nat × String × List Nat) : List Cond := [.exactly (st_tm r) "java/lang/String", .eq (.field (st_tm r) "java/lang/String" "coder" "B") (.int 0), .arrayOf (st_val r) .byte, .eq (.length (st_val r)) (.int (Int32.ofNat r.2.2.2.length))] ++ (List.range r.2.2.2.length).map (fun j => .eq (.elem (st_val r) (.int (Int32.ofNat j))) (.int (nI (r.2.2.2.getD j 0))))
theorem st_sub (ws : List Cond) (ps : List Nat) (h : ws = ps.filterMap (fun i => st_flat[i]?)) : ∀ w ∈ ws, w ∈ st_flat := by
  intro w hw
  rw [h] at hw
  obtain ⟨i, -, hi⟩ := List.mem_filterMap.mp hw
  exact List.mem_of_getElem? hi
theorem st_c0 : st_cs ("BellHeirs$Reader", 73, "tires", [116, 105, 114, 101, 115]) = [60, 61, 62, 63, 64, 65, 66, 67, 68].filterMap (fun i => st_flat[i]?) := by decide +kernel
theorem st_c1 : st_cs ("BellHeirs$Reader", 79, "costs", [99, 111, 115, 116, 115]) = [69, 70, 71, 72, 73, 74, 75, 76, 77].filterMap (fun i => st_flat[i]?) := by decide +kernel
theorem st_c2 : st_cs ("BellHeirs$Reader", 81, "worth", [119, 111, 114, 116, 104]) = [78, 79, 80, 81, 82, 83, 84, 85, 86].filterMap (fun i => st_flat[i]?) := by decide +kernel
theorem st_c3 : st_cs ("BellHeirs$Reader", 83, "opens", [111, 112, 101, 110, 115]) = [87, 88, 89, 90, 91, 92, 93, 94, 95].filterMap (fun i => st_flat[i]?) := by decide +kernel
theorem st_c4 : st_cs ("BellHeirs$Reader", 85, "bars", [98, 97, 114, 115]) = [96, 97, 98, 99, 100, 101, 102, 103].filterMap (fun i => st_flat[i]?) := by decide +kernel
theorem st_c5 : st_cs ("BellHeirs$Reader", 180, "person", [112, 101, 114, 115, 111, 110]) = [104, 105, 106, 107, 108, 109, 110, 111, 112, 113].filterMap (fun i => st_flat[i]?) := by decide +kernel
theorem st_c6 : st_cs ("BellHeirs$Reader", 182, "age", [97, 103, 101]) = [114, 115, 116, 117, 118, 119, 120].filterMap (fun i => st_flat[i]?) := by decide +kernel
theorem st_c7 : st_cs ("BellHeirs$Reader", 184, "purse", [112, 117, 114, 115, 101]) = [121, 122, 123, 124, 125, 126, 127, 128, 129].filterMap (fun i => st_flat[i]?) := by decide +kernel
theorem st_c8 : st_cs ("BellHeirs$Reader", 186, "house", [104, 111, 117, 115, 101]) = [130, 131, 132, 133, 134, 135, 136, 137, 138].filterMap (fun i => st_flat[i]?) := by decide +kernel
theorem st_c9 : st_cs ("BellHeirs$Reader", 188, "weary", [119, 101, 97, 114, 121]) = [139, 140, 141, 142, 143, 144, 145, 146, 147].filterMap (fun i => st_flat[i]?) := by decide +kernel
theorem st_c10 : st_cs ("BellHeirs$Reader", 190, "left", [108, 101, 102, 116]) = [148, 149, 150, 151, 152, 153, 154, 155].filterMap (fun i => st_flat[i]?) := by decide +kernel
theorem st_c11 : st_cs ("BellHeirs$Reader", 192, "year", [121, 101, 97, 114]) = [156, 157, 158, 159, 160, 161, 162, 163].filterMap (fun i => st_flat[i]?) := by decide +kernel
theorem st_c12 : st_cs ("BellHeirs$Reader", 103, "to", [116, 111]) = [164, 165, 166, 167, 168, 169].filterMap (fun i => st_flat[i]?) := by decide +kernel
theorem st_c13 : st_cs ("BellHeirs$Reader", 194, "mood", [109, 111, 111, 100]) = [170, 171, 172, 173, 174, 175, 176, 177].filterMap (fun i => st_flat[i]?) := by decide +kernel
theorem st_c14 : st_cs ("BellHeirs$Reader", 196, "done", [100, 111, 110, 101]) = [178, 179, 180, 181, 182, 183, 184, 185].filterMap (fun i => st_flat[i]?) := by decide +kernel
theorem st_c15 : st_cs ("BellHeirs$Reader", 198, "latest", [108, 97, 116, 101, 115, 116]) = [186, 187, 188, 189, 190, 191, 192, 193, 194, 195].filterMap (fun i => st_flat[i]?) := by decide +kernel
theorem st_c16 : st_cs ("BellHeirs$Reader", 200, "living", [108, 105, 118, 105, 110, 103]) = [196, 197, 198, 199, 200, 201, 202, 203, 204, 205].filterMap (fun i => st_flat[i]?) := by decide +kernel
theorem st_c17 : st_cs ("BellHeirs$Reader", 126, "if", [105, 102]) = [206, 207, 208, 209, 210, 211].filterMap (fun i => st_flat[i]?) := by decide +kernel
theorem st_c18 : st_cs ("BellHeirs$Reader", 148, "not", [110, 111, 116]) = [212, 213, 214, 215, 216, 217, 218].filterMap (fun i => st_flat[i]?) := by decide +kernel
theorem st_c19 : st_cs ("BellHeirs$Reader", 146, "and", [97, 110, 100]) = [219, 220, 221, 222, 223, 224, 225].filterMap (fun i => st_flat[i]?) := by decide +kernel
theorem st_c20 : st_cs ("BellHeirs$Reader", 134, "or", [111, 114]) = [226, 227, 228, 229, 230, 231].filterMap (fun i => st_flat[i]?) := by decide +kernel
theorem st_c21 : st_cs ("BellHeirs$Reader", 87, "ring", [114, 105, 110, 103]) = [232, 233, 234, 235, 236, 237, 238, 239].filterMap (fun i => st_flat[i]?) := by decide +kernel
theorem st_c22 : st_cs ("BellHeirs$Reader", 92, "at", [97, 116]) = [240, 241, 242, 243, 244, 245].filterMap (fun i => st_flat[i]?) := by decide +kernel
theorem st_c23 : st_cs ("BellHeirs$Reader", 114, "times", [116, 105, 109, 101, 115]) = [246, 247, 248, 249, 250, 251, 252, 253, 254].filterMap (fun i => st_flat[i]?) := by decide +kernel
theorem st_c24 : st_cs ("BellHeirs$Reader", 101, "sell", [115, 101, 108, 108]) = [255, 256, 257, 258, 259, 260, 261, 262].filterMap (fun i => st_flat[i]?) := by decide +kernel
theorem st_c25 : st_cs ("BellHeirs$Reader", 105, "of", [111, 102]) = [263, 264, 265, 266, 267, 268].filterMap (fun i => st_flat[i]?) := by decide +kernel
theorem st_c26 : st_cs ("BellHeirs$Reader", 107, "die", [100, 105, 101]) = [269, 270, 271, 272, 273, 274, 275].filterMap (fun i => st_flat[i]?) := by decide +kernel
theorem st_c27 : st_cs ("BellHeirs$Reader", 109, "pass", [112, 97, 115, 115]) = [276, 277, 278, 279, 280, 281, 282, 283].filterMap (fun i => st_flat[i]?) := by decide +kernel
theorem st_cs_in : ∀ r ∈ hTxs, ∀ w ∈ st_cs r, w ∈ st_flat := by
  intro r hr
  simp only [hTxs, List.mem_cons, List.not_mem_nil, or_false] at hr
  rcases hr with rfl | rfl | rfl | rfl | rfl | rfl | rfl | rfl | rfl | rfl | rfl | rfl | rfl | rfl | rfl | rfl | rfl | rfl | rfl | rfl | rfl | rfl | rfl | rfl | rfl | rfl | rfl | rfl
  · exact st_sub _ _ st_c0
  · exact st_sub _ _ st_c1
  · exact st_sub _ _ st_c2
  · exact st_sub _ _ st_c3
  · exact st_sub _ _ st_c4
  · exact st_sub _ _ st_c5
  · exact st_sub _ _ st_c6
  · exact st_sub _ _ st_c7
  · exact st_sub _ _ st_c8
  · exact st_sub _ _ st_c9
  · exact st_sub _ _ st_c10
  · exact st_sub _ _ st_c11
  · exact st_sub _ _ st_c12
  · exact st_sub _ _ st_c13
  · exact st_sub _ _ st_c14
  · exact st_sub _ _ st_c15
  · exact st_sub _ _ st_c16
  · exact st_sub _ _ st_c17
  · exact st_sub _ _ st_c18
  · exact st_sub _ _ st_c19
  · exact st_sub _ _ st_c20
  · exact st_sub _ _ st_c21
  · exact st_sub _ _ st_c22
  · exact st_sub _ _ st_c23
  · exact st_sub _ _ st_c24
  · exact st_sub _ _ st_c25
  · exact st_sub _ _ st_c26
  · exact st_sub _ _ st_c27
theorem st_ref_in : ∀ r ∈ hTxs, Cond.stringRef r.1 r.2.1 r.2.2.1 ∈ tables_1 := by decide +kernel
theorem st_nst_in : ∀ q ∈ hNst, Cond.methodLinkNest q.1 q.2.1 q.2.2.1 q.2.2.2 ∈ tables_1 := by decide +kernel
/-- of a static row -/
def st_sv (r : String × List Nat) : Term := .static "BellHeirs$Asker" r.1 "[I"
def st_ss (r : String × List Nat) : List Cond := [.arrayOf (st_sv r) .int, .eq (.length (st_sv r)) (.int (Int32.ofNat r.2.length))] ++ (List.range r.2.length).map (fun j => .eq (.elem (st_sv r) (.int (Int32.ofNat j))) (.int (nI (r.2.getD j 0))))
theorem st_ss_in : ∀ r ∈ hSts, ∀ w ∈ st_ss r, w ∈ st_flat := by decide +kernel
theorem st_sl_in : ∀ r ∈ hSts, Cond.laysStatic "BellHeirs$Asker" r.1 "[I" ∈ tables_1 := by decide +kernel
theorem st_tb {w : Cond} (h : w ∈ tables_1) : w ∈ lw_tbl := List.mem_append_right _ h
theorem st_aw {w : Cond} (h : w ∈ aw_all) : w ∈ lw_tbl := (List.mem_filter.mp h).1
/-- a text's cells -/
theorem st_text {args : Array Value} {s : State} {A : Nat → Prop} (hs : ∀ c ∈ st_flat, c.before args s = true) (hA : ∀ a : Nat, a < s.heap.size → ¬ A a) (r : String × Nat × String × List Nat) (hr : r ∈ hTxs) :
    ∃ a t : Nat, (st_tm r).eval args s none [] s = some (.ref a) ∧ va_O "java/lang/String" a A s s.heap ∧ va_OF "java/lang/String" "coder" "B" (.int 0) a A s s.heap ∧ va_OF "java/lang/String" "value" "[B" (.ref t) a A s s.heap ∧ va_T .byte t r.2.2.2.length (fun j => .int (nI (r.2.2.2.getD j 0))) A s s.heap := by
  have hin := fun w hw => hs w (st_cs_in r hr w hw)
  have h1 := hin (.exactly (st_tm r) "java/lang/String") (by simp [st_cs])
  have h2 := hin (.eq (.field (st_tm r) "java/lang/String" "coder" "B") (.int 0)) (by simp [st_cs])
  have h3 := hin (.arrayOf (st_val r) .byte) (by simp [st_cs])
  have h4 := hin (.eq (.length (st_val r)) (.int (Int32.ofNat r.2.2.2.length))) (by simp [st_cs])
  have h5 : ∀ j, j < r.2.2.2.length → (Cond.eq (.elem (st_val r) (.int (Int32.ofNat j))) (.int (nI (r.2.2.2.getD j 0)))).before args s = true := fun j hj => hin _ (List.mem_append_right _ (List.mem_map.mpr ⟨j, List.mem_range.mpr hj, rfl⟩))
  have hlen : r.2.2.2.length < 2 ^ 31 := by
    obtain ⟨i, hi⟩ := List.getElem?_of_mem hr
    have := (tx_small i r hi).1
    omega
  obtain ⟨a, c, cA, kA, q1, q2, q3, q4, q5, q6, -⟩ := Cond.exactly_spec (args := args) (first := s) (o := none) (s := s) (idx := []) (t := st_tm r) (cls := "java/lang/String") h1
  obtain ⟨t, ht, hT⟩ := va_Tof (f := fun j => .int (nI (r.2.2.2.getD j 0))) (A := A) hlen h3 (va_eqt h4) (fun j hj => va_eqt (h5 j hj)) hA
  exact ⟨a, t, q1, ⟨cA, q3, q5, by rw [q6]; exact q2, hA a (Array.getElem?_eq_some_iff.mp q3).1⟩, vk_OFof q1 (va_eqt h2) hA, vk_OFof q1 ht hA, hT⟩
theorem st_static {args : Array Value} {s : State} {A : Nat → Prop} (hts : ∀ w ∈ lw_tbl, w.before args s = true) (hs : ∀ c ∈ st_flat, c.before args s = true) (hA : ∀ a : Nat, a < s.heap.size → ¬ A a) (r : String × List Nat) (hr : r ∈ hSts) :
    ∃ t : Nat, va_Z "BellHeirs$Asker" r.1 "[I" (.ref t) A s s.heap ∧ va_T .int t r.2.length (fun j => .int (nI (r.2.getD j 0))) A s s.heap := by
  have hin := fun w hw => hs w (st_ss_in r hr w hw)
  have h3 := hin (.arrayOf (st_sv r) .int) (by simp [st_ss])
  have h4 := hin (.eq (.length (st_sv r)) (.int (Int32.ofNat r.2.length))) (by simp [st_ss])
  have h5 : ∀ j, j < r.2.length → (Cond.eq (.elem (st_sv r) (.int (Int32.ofNat j))) (.int (nI (r.2.getD j 0)))).before args s = true := fun j hj => hin _ (List.mem_append_right _ (List.mem_map.mpr ⟨j, List.mem_range.mpr hj, rfl⟩))
  have hlen : r.2.length < 2 ^ 31 := by
    have : ∀ r ∈ hSts, r.2.length < 4 := by decide +kernel
    have := this r hr
    omega
  obtain ⟨t, ht, hT⟩ := va_Tof (f := fun j => .int (nI (r.2.getD j 0))) (A := A) hlen h3 (va_eqt h4) (fun j hj => va_eqt (h5 j hj)) hA
  exact ⟨t, va_Zof (hts _ (st_tb (st_sl_in r hr))) (hts _ (st_tb (by decide +kernel))) ht hA, hT⟩
/-- the classes of arrays -/
theorem st_prim {args : Array Value} {s : State} (ty : FieldType) (hp : ∀ C, ty ≠ .object C) (h : (Cond.arrayClass ty).before args s = true) : ∃ cA : ClassId, ArrOfT s cA ty ∧ va_RA s cA ty := by
  obtain ⟨cA, kA, comp, h1, h2, h3⟩ := Cond.arrayClass_spec h
  refine ⟨cA, fun n z => ⟨fun k h => (by cases h), kA, h2, comp, h3⟩, ?_⟩
  cases ty with
  | object C => exact absurd rfl (hp C)
  | _ => exact h1
theorem st_obj {args : Array Value} {s : State} (C : String) (h : (Cond.arrayOver (.object C)).before args s = true) : ∃ cA : ClassId, ArrOfT s cA (.object C) ∧ va_RA s cA (.object C) := by
  obtain ⟨comp, cA, kA, h1, -, h3, h4, h5⟩ := Cond.arrayOver_spec h
  exact ⟨cA, fun n z => ⟨fun k h => (by cases h), kA, h3, comp, h4⟩, kA, comp, h3, h4, h1, h5⟩
theorem st_class {args : Array Value} {s : State} (hts : ∀ w ∈ lw_tbl, w.before args s = true) {ci N : Nat} {C : String} {T : u_T} {ty : Nat → FieldType} (F : hF ci C T N ty) (hi : (Cond.instantiable C N).before args s = true) : ∃ (cC : ClassId) (iS : Nat → Nat), u_Kn s C T N cC iS :=
  u_known hts (fun w hw => st_aw (F.2.1 w hw)) hi
set_option maxRecDepth 20000 in
theorem st_amb {b : Nat} {s : State} (hts : ∀ w ∈ lw_tbl, w.before #[Value.ref b] s = true) (hgv : (Jvm.Cond.and given_1 narrow_1).before #[Value.ref b] s = true) : ∃ G : hG, hAmb G s.heap.size s := by
  have hs : ∀ c ∈ st_flat, c.before #[Value.ref b] s = true := flat_of_before _ hgv
  have hA : ∀ a : Nat, a < s.heap.size → ¬ (fun q => s.heap.size ≤ q) a := fun a h => Nat.not_le.mpr h
  have hcl : ∀ k : Nat, ∃ x : ClassId × (Nat → Nat), ∀ q : vw_C, vwCl[k]? = some q → u_Kn s q.1 q.2.1 q.2.2 x.1 x.2 := by
    intro k
    have go : ∀ {ci N : Nat} {C : String} {T : u_T} {ty : Nat → FieldType}, hF ci C T N ty → (Cond.instantiable C N) ∈ aw_all → k = ci → ∃ x : ClassId × (Nat → Nat), ∀ q : vw_C, vwCl[k]? = some q → u_Kn s q.1 q.2.1 q.2.2 x.1 x.2 := by
      intro ci N C T ty F hi hk
      obtain ⟨cC, iS, h⟩ := st_class hts F (hts _ (st_aw hi))
      refine ⟨(cC, iS), fun q hq => ?_⟩
      subst hk
      cases hq.symm.trans F.1
      exact h
    match k with
    | 0 => exact go FX0 lk_393 rfl
    | 1 => exact go FX1 lk_416 rfl
    | 2 => exact go FX2 lk_156 rfl
    | 3 => exact go FX3 lk_284 rfl
    | 4 => exact go FX4 lk_444 rfl
    | 5 => exact go FX5 lk_336 rfl
    | 6 => exact go FX6 lk_399 rfl
    | 7 => exact go FX7 lk_490 rfl
    | 8 => exact go FX8 lk_150 rfl
    | 9 => exact go FX9 lk_306 rfl
    | 10 => exact go FX10 lk_342 rfl
    | 11 => exact go FX11 lk_142 rfl
    | 12 => exact go FX12 lk_1329 rfl
    | n + 13 => exact ⟨(0, fun _ => 0), fun q hq => by simp [vwCl] at hq⟩
  obtain ⟨D, hD⟩ := Classical.axiomOfChoice hcl
  obtain ⟨c0, hc0⟩ := st_prim .int (fun C h => by cases h) (hts (.arrayClass .int) (st_tb (by decide +kernel)))
  obtain ⟨c1, hc1⟩ := st_prim .long (fun C h => by cases h) (hts (.arrayClass .long) (st_tb (by decide +kernel)))
  obtain ⟨c2, hc2⟩ := st_prim .boolean (fun C h => by cases h) (hts (.arrayClass .boolean) (st_tb (by decide +kernel)))
  have a3 := hts (.arrayOver (.object RX2)) (st_tb (by decide +kernel))
  have a4 := hts (.arrayOver (.object RX8)) (st_tb (by decide +kernel))
  have a5 := hts (.arrayOver (.object RX10)) (st_tb (by decide +kernel))
  obtain ⟨c3, hc3⟩ := st_obj RX2 a3
  obtain ⟨c4, hc4⟩ := st_obj RX8 a4
  obtain ⟨c5, hc5⟩ := st_obj RX10 a5
  have htx : ∀ i : Nat, ∃ x : Nat × Nat, ∀ r, hTxs[i]? = some r → (st_tm r).eval #[Value.ref b] s none [] s = some (.ref x.1) ∧ va_O "java/lang/String" x.1 (fun q => s.heap.size ≤ q) s s.heap ∧ va_OF "java/lang/String" "coder" "B" (.int 0) x.1 (fun q => s.heap.size ≤ q) s s.heap ∧ va_OF "java/lang/String" "value" "[B" (.ref x.2) x.1 (fun q => s.heap.size ≤ q) s s.heap ∧ va_T .byte x.2 r.2.2.2.length (fun j => .int (nI (r.2.2.2.getD j 0))) (fun q => s.heap.size ≤ q) s s.heap := by
    intro i
    cases hi : hTxs[i]? with
    | none => exact ⟨(0, 0), fun r h => by cases h⟩
    | some r =>
      obtain ⟨a, t, h⟩ := st_text hs hA r (List.mem_of_getElem? hi)
      exact ⟨(a, t), fun r' h' => by cases h'; exact h⟩
  obtain ⟨X, hX⟩ := Classical.axiomOfChoice htx
  have hst : ∀ i : Nat, ∃ t : Nat, ∀ r, hSts[i]? = some r → va_Z "BellHeirs$Asker" r.1 "[I" (.ref t) (fun q => s.heap.size ≤ q) s s.heap ∧ va_T .int t r.2.length (fun j => .int (nI (r.2.getD j 0))) (fun q => s.heap.size ≤ q) s s.heap := by
    intro i
    cases hi : hSts[i]? with
    | none => exact ⟨0, fun r h => by cases h⟩
    | some r =>
      obtain ⟨t, h⟩ := st_static hts hs hA r (List.mem_of_getElem? hi)
      exact ⟨t, fun r' h' => by cases h'; exact h⟩
  obtain ⟨Y, hY⟩ := Classical.axiomOfChoice hst
  refine ⟨((fun k => (D k).1, fun k => (D k).2), fun k => match k with | 0 => c0 | 1 => c1 | 2 => c2 | 3 => c3 | 4 => c4 | _ => c5, fun i => (X i).1, fun i => if i < 10 then Y i else (X (i - 10)).2), ⟨fun c q hq => hD c q hq, fun k q hq => ?_⟩, Nat.le_refl _, fun q hq => va_Nw.of rfl (hts _ (st_tb (st_nst_in q hq))), ⟨va_AO.of a3, va_AO.of a4, va_AO.of a5⟩, fun i r hr => ?_, ?_, fun i r hr => ?_, ?_⟩
  · match k, hq with
    | 0, hq => cases hq; exact hc0
    | 1, hq => cases hq; exact hc1
    | 2, hq => cases hq; exact hc2
    | 3, hq => cases hq; exact hc3
    | 4, hq => cases hq; exact hc4
    | 5, hq => cases hq; exact hc5
    | n + 6, hq => simp [htys] at hq
  · obtain ⟨g1, g2, g3, g4, g5⟩ := hX i r hr
    refine ⟨vk_R.of (hts _ (st_tb (st_ref_in r (List.mem_of_getElem? hr)))) g1, g2, g3, ?_, ?_⟩
    · show va_OF "java/lang/String" "value" "[B" (.ref (if i + 10 < 10 then Y (i + 10) else (X (i + 10 - 10)).2)) (X i).1 (fun q => s.heap.size ≤ q) s s.heap
      rw [if_neg (by omega), Nat.add_sub_cancel]
      exact g4
    · show va_T .byte (if i + 10 < 10 then Y (i + 10) else (X (i + 10 - 10)).2) r.2.2.2.length (fun j => .int (nI (r.2.2.2.getD j 0))) (fun q => s.heap.size ≤ q) s s.heap
      rw [if_neg (by omega), Nat.add_sub_cancel]
      exact g5
  · exact va_Zof (hts _ (st_tb (by decide +kernel))) (hts _ (st_tb (by decide +kernel))) (va_eqi (hs _ (by decide +kernel))) hA
  · have hi : i < 10 := by
      have := (List.getElem?_eq_some_iff.mp hr).1
      simp [hSts] at this
      omega
    obtain ⟨g1, g2⟩ := hY i r hr
    refine ⟨?_, ?_⟩
    · show va_Z "BellHeirs$Asker" r.1 "[I" (.ref (if i < 10 then Y i else (X (i - 10)).2)) (fun q => s.heap.size ≤ q) s s.heap
      rw [if_pos hi]
      exact g1
    · show va_T .int (if i < 10 then Y i else (X (i - 10)).2) r.2.length (fun j => .int (nI (r.2.getD j 0))) (fun q => s.heap.size ≤ q) s s.heap
      rw [if_pos hi]
      exact g2
  · rcases va_Zqof (C := "jdk/internal/util/Preconditions") (n := "SIOOBE_FORMATTER") (d := "Ljava/util/function/BiFunction;") (hts _ (st_tb (by decide +kernel))) (hts _ (st_tb (by decide +kernel))) (hs _ (by decide +kernel)) hA with h | ⟨t, h⟩
    · exact ⟨none, h⟩
    · exact ⟨some t, h⟩
/-- THE LAW, from its entry, out of its wp -/
theorem start_of (hlaw : ∀ (tx : Nat → Nat) (L : Nat) (xs : Nat → Int32), L ≤ 3072 → w_L_law tx L xs () (fun _ => none) 512) {p : Program} {e : Env} {s : State} {m : MethodId} {below : List Frame} {meth : Method} {c : Code} (l : Launch) {b L : Nat} {xs : Nat → Int32} (hL : L ≤ 3072) (C0 : lw_At p s m meth c b L xs) : W p l e room_1 s m #[Value.ref b] below meth c s.heap [] 0 0 (lw_Z below #[Value.ref b] s) (entryFrame m ([Value.ref b] : List Value).toArray 4) := by
  obtain ⟨hx, hb, hr, hml, hown, hts, hX, hbl, hlocks, hgv⟩ := id C0
  obtain ⟨G, hG⟩ := st_amb hts hgv
  have hC : zC p room_1 s m #[Value.ref b] c cL_law 4 RL G s.heap.size 600000 7302250 76 1794 := ⟨hx, hb, hml, hown, fun w hw => hts w (st_aw hw), hG, Nat.le_refl _, Nat.le_refl _, Nat.le_of_ble_eq_true rfl, Nat.le_of_ble_eq_true rfl⟩
  have Z0 := t_L_law (l := l) (e := e) (below := below) hC hr hlocks hX hbl rfl (Nat.le_refl _) (Nat.le_refl _) (hlaw G.2.2.1 L xs hL)
  have hl := lv_entry ([.ref b] : List Value) (n := 4) (Nat.le_of_ble_eq_true rfl)
  rw [lg_entry_eq]
  exact Z0 s.heap [] _ 0 0 ⟨[], fun k q h => by simp at h, ⟨fun i j p q h => by simp at h, fun k q h => by simp at h⟩, fun a e h => by cases h⟩ va_S.rf hl (Nat.le_of_ble_eq_true rfl) (Nat.le_of_ble_eq_true rfl)
