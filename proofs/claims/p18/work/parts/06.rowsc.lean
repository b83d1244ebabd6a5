/-- a contract's start: the map, what is given, and what its walk asks for; its end: the answer, the map then -/
def hPc (G : hG) (B : Nat) (S : hS) (av : List Value) (φ : Prop) : Array Value → State → Prop := va_Pc av (fun U => Hold G B S U.heap ∧ hAmb G B U ∧ φ)
def hQ (G : hG) (B : Nat) (post : Option Value → hS → Prop) : Array Value → State → Outcome → State → Prop := fun _ st oc t => ∃ (r : Option Value) (S' : hS), oc = .returned r ∧ post r S' ∧ Hold G B S' t.heap ∧ va_F (fun q => B ≤ q) st t
def iP (q : Int32 → hS → Prop) : Option Value → hS → Prop := fun r S => ∃ x : Int32, r = some (.int x) ∧ q x S
def jP (q : Int64 → hS → Prop) : Option Value → hS → Prop := fun r S => ∃ x : Int64, r = some (.long x) ∧ q x S
def rP (q : Option Nat → hS → Prop) : Option Value → hS → Prop := fun r S => ∃ x : Option Nat, r = some (va_rf x) ∧ q x S
def vP (q : hS → Prop) : Option Value → hS → Prop := fun r S => r = none ∧ q S
theorem hPc.blind {G : hG} {B : Nat} {S : hS} {av : List Value} {φ : Prop} : FrameBlind (hPc G B S av φ) := fun _ _ _ _ h => ⟨h.1, h.2.1, hAmb.blind rfl rfl h.2.2.1, h.2.2.2⟩
abbrev hws (y : MethodName) (bytes : ByteArray) (maxL : Nat) (ret : Option FieldType) : List Cond := Cond.code y bytes maxL ret :: aw_all
theorem hws_good {y : MethodName} {bytes : ByteArray} {maxL : Nat} {ret : Option FieldType} (h : Cond.code y bytes maxL ret ∈ aw_all) : GoodIn aw_all (hws y bytes maxL ret) := by
  intro w hw
  have hm : w ∈ aw_all := by
    rcases List.mem_cons.mp hw with e | e
    · rw [e]; exact h
    · exact e
  exact ⟨hm, good_of_word (aw_good w hm)⟩
section ZT
variable {p : Program} {l : Launch} {e : Env} {R : Room} {s : State} {m : MethodId} {args : Array Value} {below : List Frame} {meth : Method} {c : Code} {Q : State → Prop} {G : hG} {B mc ms nL fr lo : Nat} {cc : ByteArray} {own : String} {S : hS} {ku kv pc : Nat} {lv : hL} {st : List Value}
theorem z_new (hC : zC p R s m args c cc nL own G B mc ms fr lo) {ci N : Nat} {C : String} {T : u_T} {ty : Nat → FieldType} (F : hF ci C T N ty) {index : Nat} {fs : List Value} {ku' kv' : Nat} (hcl : Cond.classLink own index C ∈ aw_all) (hinst : Cond.instantiable C N ∈ aw_all) (hini : Cond.initialized C ∈ aw_all) (hfs : ∀ j, j < N → defaultValue (ty j) = vp_V fs j) (d : decode cc pc = .ok (.new index, 3)) (hu : ku' + 1 ≤ ku) (hv : kv' + N ≤ kv) (kk : ∀ q : Nat, S q = none → Z p l e R s m args below meth c Q G B mc ms nL (hset S q (.inr (ci, fs))) ku' kv' (pc + 3) lv (.ref q :: st)) : Z p l e R s m args below meth c Q G B mc ms nL S ku kv pc lv st := by
  intro H locs ls cells slots h1 h2 h3 h4 h5
  obtain ⟨ws, hP, hD, hE⟩ := id h1
  have r1 := hC.rc
  have r2 := hC.rs
  refine va_new hC.x hC.b hC.w F.2.1 ty F.2.2.1 hC.o (hC.w _ hcl) (hC.w _ hinst) (hC.w _ hini) hC.a.1 hP hD h2 (fun q hq => Nat.le_trans hC.a.2.1 hq) F.1 hfs (by omega) (by omega) d (fun q H1 hP1 hD1 hS1 => ?_)
  have hN : S q = none := by
    cases hs : S q with
    | none => rfl
    | some e0 =>
      obtain ⟨k, hk⟩ := hE q e0 hs
      have hk2 : (ws ++ [(q, Sum.inr (ci, fs))])[k]? = some (q, hcv G e0) := by rw [List.getElem?_append_left (List.getElem?_eq_some_iff.mp hk).1]; exact hk
      have hl2 : (ws ++ [(q, Sum.inr (ci, fs))])[ws.length]? = some (q, Sum.inr (ci, fs)) := by simp
      have := hD1.1 k ws.length _ _ hk2 hl2 rfl
      have := (List.getElem?_eq_some_iff.mp hk).1
      omega
  exact kk q hN H1 locs ls (cells + 1) (slots + N) (Hold.new (e1 := .inr (ci, fs)) hE hP1 hD1 hN) hS1 h3 (by omega) (by omega)
theorem z_newa (hC : zC p R s m args c cc nL own G B mc ms fr lo) {atype : ArrayType} {ty : FieldType} {kd : Nat} {n : Int32} {a0 : vp_A} {ku' kv' : Nat} (harr : Cond.arrayClass (newarray.typeOf atype) ∈ aw_all) (hty : newarray.typeOf atype = ty) (hkd : (htys G)[kd]? = some (G.2.1 kd, ty)) (hprim : ∀ C, ty ≠ .object C) (ha : ∀ cA : ClassId, vp_cell cA a0 = arrV cA n.toNatClampNeg (fun _ => defaultValue ty)) (hn : ¬ n < 0) (hbytes : n.toNatClampNeg * componentBytes ty ≤ 536870912) (d : decode cc pc = .ok (.newarray atype, 2)) (hu : ku' + 1 ≤ ku) (hv : kv' + n.toNatClampNeg ≤ kv) (kk : ∀ q : Nat, S q = none → Z p l e R s m args below meth c Q G B mc ms nL (hset S q (.inl (kd, a0))) ku' kv' (pc + 2) lv (.ref q :: st)) : Z p l e R s m args below meth c Q G B mc ms nL S ku kv pc lv (.int n :: st) := by
  intro H locs ls cells slots h1 h2 h3 h4 h5
  obtain ⟨ws, hP, hD, hE⟩ := id h1
  have r1 := hC.rc
  have r2 := hC.rs
  refine va_newa hC.x hC.b (hC.w _ harr) hty hC.a.1 hP hD h2 (fun q hq => Nat.le_trans hC.a.2.1 hq) ha hn rfl hbytes (by omega) (by omega) d (fun q cA H1 hK1 hP1 hD1 hS1 => ?_)
  have hcA : cA = G.2.1 kd := by
    have g1 := (hK1.2 (htys G).length (cA, ty) (by simp)).2
    have g2 := (hC.a.1.2 kd _ hkd).2
    cases ty with
    | object C => exact absurd rfl (hprim C)
    | _ => exact Option.some.inj (g1.symm.trans g2)
  subst hcA
  have hN : S q = none := by
    cases hs : S q with
    | none => rfl
    | some e0 =>
      obtain ⟨k, hk⟩ := hE q e0 hs
      have hk2 : (ws ++ [(q, Sum.inl (G.2.1 kd, a0))])[k]? = some (q, hcv G e0) := by rw [List.getElem?_append_left (List.getElem?_eq_some_iff.mp hk).1]; exact hk
      have hl2 : (ws ++ [(q, Sum.inl (G.2.1 kd, a0))])[ws.length]? = some (q, Sum.inl (G.2.1 kd, a0)) := by simp
      have := hD1.1 k ws.length _ _ hk2 hl2 rfl
      have := (List.getElem?_eq_some_iff.mp hk).1
      omega
  exact kk q hN H1 locs ls (cells + 1) (slots + n.toNatClampNeg) (Hold.new (e1 := .inl (kd, a0)) hE hP1 hD1 hN) hS1 h3 (by omega) (by omega)
theorem z_newq (hC : zC p R s m args c cc nL own G B mc ms fr lo) {kd index : Nat} {C : String} {n : Int32} {ku' kv' : Nat} (hcl : Cond.classLink own index C ∈ aw_all) (hover : va_AO C s) (hkd : (htys G)[kd]? = some (G.2.1 kd, .object C)) (hn : ¬ n < 0) (hbytes : n.toNatClampNeg * 4 ≤ 536870912) (d : decode cc pc = .ok (.anewarray index, 3)) (hu : ku' + 1 ≤ ku) (hv : kv' + n.toNatClampNeg ≤ kv) (kk : ∀ q : Nat, S q = none → Z p l e R s m args below meth c Q G B mc ms nL (hset S q (.inl (kd, n.toNatClampNeg, .inr (.inr (.inr (.inr (fun _ => none))))))) ku' kv' (pc + 3) lv (.ref q :: st)) : Z p l e R s m args below meth c Q G B mc ms nL S ku kv pc lv (.int n :: st) := by
  intro H locs ls cells slots h1 h2 h3 h4 h5
  obtain ⟨ws, hP, hD, hE⟩ := id h1
  have r1 := hC.rc
  have r2 := hC.rs
  refine va_newq hC.x hC.b hC.o (hC.w _ hcl) hover hC.a.1 hP hD h2 (fun q hq => Nat.le_trans hC.a.2.1 hq) hn rfl hbytes (by omega) (by omega) d (fun q cA H1 hK1 hP1 hD1 hS1 => ?_)
  have hcA : cA = G.2.1 kd := by
    obtain ⟨kA, comp, -, -, -, g1⟩ := (hK1.2 (htys G).length (cA, .object C) (by simp)).2
    obtain ⟨kA2, comp2, -, -, -, g2⟩ := (hC.a.1.2 kd _ hkd).2
    exact Option.some.inj (g1.symm.trans g2)
  subst hcA
  have hN : S q = none := by
    cases hs : S q with
    | none => rfl
    | some e0 =>
      obtain ⟨k, hk⟩ := hE q e0 hs
      have hk2 := (List.getElem?_append_left (l₂ := [(q, (Sum.inl (G.2.1 kd, n.toNatClampNeg, Sum.inr (Sum.inr (Sum.inr (Sum.inr (fun _ => none))))) : va_E))]) (List.getElem?_eq_some_iff.mp hk).1).trans hk
      have hl2 : (ws ++ [(q, (Sum.inl (G.2.1 kd, n.toNatClampNeg, Sum.inr (Sum.inr (Sum.inr (Sum.inr (fun _ => none))))) : va_E))])[ws.length]? = some (q, (Sum.inl (G.2.1 kd, n.toNatClampNeg, Sum.inr (Sum.inr (Sum.inr (Sum.inr (fun _ => none))))) : va_E)) := by simp
      have := hD1.1 k ws.length _ _ hk2 hl2 rfl
      have := (List.getElem?_eq_some_iff.mp hk).1
      omega
  exact kk q hN H1 locs ls (cells + 1) (slots + n.toNatClampNeg) (Hold.new (e1 := .inl (kd, n.toNatClampNeg, .inr (.inr (.inr (.inr (fun _ => none)))))) hE hP1 hD1 hN) hS1 h3 (by omega) (by omega)
theorem z_obj (hC : zC p R s m args c cc nL own G B mc ms fr lo) {idx a : Nat} (hl : Cond.methodLink own idx Lib.objectInit ∈ aw_all) (hi : Cond.instanceMethod Lib.objectInit ∈ aw_all) (hcd : Cond.code Lib.objectInit ⟨#[0xb1]⟩ 1 none ∈ aw_all) (d : decode cc pc = .ok (.invokespecial idx, 3)) (hf : 1 ≤ fr) (hlo : (st.map fun v => v.category).sum + 12 ≤ lo) (k : Z p l e R s m args below meth c Q G B mc ms nL S ku kv (pc + 3) lv st) : Z p l e R s m args below meth c Q G B mc ms nL S ku kv pc lv (.ref a :: st) := by
  intro H locs ls cells slots h1 h2 h3 h4 h5
  have r1 := hC.rf
  have r2 := hC.rl
  exact W.objInit hC.x hC.b hC.o (hC.w _ hl) (hC.w _ hi) (hC.w _ hcd) rfl (h3.1.trans hC.n.symm) rfl d (by omega) (by show 2 * 0 + _ + 12 ≤ _; omega) (k H locs ls cells slots h1 h2 h3 h4 h5)
theorem z_iret {post : Option Value → hS → Prop} (hC : zC p R s m args c cc nL own G B mc ms fr lo) (hr : meth.sig.returnType = some .int) (hlk : meth.locks = false) {x : Int32} (d : decode cc pc = .ok (.ireturn, 1)) (hw : post (some (.int x)) S) : Z p l e R s m args below meth c (MQ below (hQ G B post) args s mc ms (fun q => B ≤ q)) G B mc ms nL S ku kv pc lv [.int x] := by
  intro H locs ls cells slots h1 h2 h3 h4 h5
  refine W.widen (k := mc) (n := ms) (by omega) (by omega) ?_
  exact W.iret hC.x hC.b hr (fun t ht hW => ⟨_, S, rfl, hw, by rw [ht]; exact h1, h2.F ht⟩) h2.2.2 d hlk
theorem z_zret {post : Option Value → hS → Prop} (hC : zC p R s m args c cc nL own G B mc ms fr lo) (hr : meth.sig.returnType = some .boolean) (hlk : meth.locks = false) {x : Int32} (hn : narrow .boolean (.int x) = .int x) (d : decode cc pc = .ok (.ireturn, 1)) (hw : post (some (.int x)) S) : Z p l e R s m args below meth c (MQ below (hQ G B post) args s mc ms (fun q => B ≤ q)) G B mc ms nL S ku kv pc lv [.int x] := by
  intro H locs ls cells slots h1 h2 h3 h4 h5
  refine W.widen (k := mc) (n := ms) (by omega) (by omega) ?_
  exact W.zret hC.x hC.b hr hn (fun t ht hW => ⟨_, S, rfl, hw, by rw [ht]; exact h1, h2.F ht⟩) h2.2.2 d hlk
theorem z_lret {post : Option Value → hS → Prop} (hC : zC p R s m args c cc nL own G B mc ms fr lo) (hr : meth.sig.returnType = some .long) (hlk : meth.locks = false) {x : Int64} (d : decode cc pc = .ok (.lreturn, 1)) (hw : post (some (.long x)) S) : Z p l e R s m args below meth c (MQ below (hQ G B post) args s mc ms (fun q => B ≤ q)) G B mc ms nL S ku kv pc lv [.long x] := by
  intro H locs ls cells slots h1 h2 h3 h4 h5
  refine W.widen (k := mc) (n := ms) (by omega) (by omega) ?_
  exact W.lret hC.x hC.b hr (fun t ht hW => ⟨_, S, rfl, hw, by rw [ht]; exact h1, h2.F ht⟩) h2.2.2 d hlk
theorem z_vret {post : Option Value → hS → Prop} (hC : zC p R s m args c cc nL own G B mc ms fr lo) (hr : meth.sig.returnType = none) (hlk : meth.locks = false) (d : decode cc pc = .ok (.return_, 1)) (hw : post none S) : Z p l e R s m args below meth c (MQ below (hQ G B post) args s mc ms (fun q => B ≤ q)) G B mc ms nL S ku kv pc lv [] := by
  intro H locs ls cells slots h1 h2 h3 h4 h5
  refine W.widen (k := mc) (n := ms) (by omega) (by omega) ?_
  exact W.vret hC.x hC.b hr (fun t ht hW => ⟨_, S, rfl, hw, by rw [ht]; exact h1, h2.F ht⟩) h2.2.2 d hlk
theorem z_aret {post : Option Value → hS → Prop} (hC : zC p R s m args c cc nL own G B mc ms fr lo) {rt : FieldType} (hr : meth.sig.returnType = some rt) (hrt : (∃ n, rt = .object n) ∨ ∃ t, rt = .array t) (hlk : meth.locks = false) {x : Option Nat} (d : decode cc pc = .ok (.areturn, 1)) (hw : post (some (va_rf x)) S) : Z p l e R s m args below meth c (MQ below (hQ G B post) args s mc ms (fun q => B ≤ q)) G B mc ms nL S ku kv pc lv [va_rf x] := by
  intro H locs ls cells slots h1 h2 h3 h4 h5
  refine W.widen (k := mc) (n := ms) (by omega) (by omega) ?_
  exact W.aret hC.x hC.b hr hrt (by cases x with
    | none => exact Or.inl rfl
    | some b => exact Or.inr ⟨b, rfl⟩) (fun t ht hW => ⟨_, S, rfl, hw, by rw [ht]; exact h1, h2.F ht⟩) h2.2.2 d hlk
theorem z_run {post : Option Value → hS → Prop} {a : Array Value} {mc' ms' ku' kv' : Nat} {st0 : List Value} (hu : ku' + mc' ≤ ku) (hv : kv' + ms' ≤ kv)
    (hr : ∀ (H : Heap) (locs : List Loc) (ls : Array Slot) (cells slots : Nat), Hold G B S H → va_S (fun q => B ≤ q) s.heap H locs → hlv ls nL lv → cells + ku ≤ mc → slots + kv ≤ ms → va_Run p l e R s m args below meth c H locs cells slots mc' ms' (F0 m pc ls st0) st (hQ G B post a) (fun q => B ≤ q))
    (kk : ∀ (r : Option Value) (S : hS), post r S → Z p l e R s m args below meth c Q G B mc ms nL S ku' kv' (pc + 3) lv (r.toList ++ st)) : Z p l e R s m args below meth c Q G B mc ms nL S ku kv pc lv st0 := by
  intro H locs ls cells slots h1 h2 h3 h4 h5 T hT X
  obtain ⟨v, st₀, t, T', L, h0, X', hL, e1, e2, ⟨r, S', hv', hp, hH, hz, hk⟩, stp⟩ := hr H locs ls cells slots h1 h2 h3 h4 h5 T hT X
  cases hv'
  rw [h0] at hz hk
  obtain ⟨t2, a1, b1⟩ := kk v S' hp T'.heap (locs ++ L) ls (cells + mc') (slots + ms') (by rw [e1]; exact hH)
    ⟨Nat.le_trans h2.1 (by rw [e1]; exact hz), fun q g1 g2 => by rw [e1, hk q (Nat.lt_of_lt_of_le g1 h2.1) g2]; exact h2.2.1 q g1 g2, fun q hq => by
      rcases List.mem_append.mp hq with h | h
      · exact h2.2.2 q h
      · exact hL q h⟩ h3 (by omega) (by omega) T' rfl X'
  exact ⟨t2, stp t2 a1, b1⟩
theorem z_callV (hC : zC p R s m args c cc nL own G B mc ms fr lo) {y : MethodName} {bytes : ByteArray} {maxL n index mc' ms' ku' kv' : Nat} {ret : Option FieldType} {rm : Room} {post : Option Value → hS → Prop} {φ : Prop} {As : List Value} {b ci : Nat} {C : String} {T : u_T} {N : Nat} (hM : Met l y (hws y bytes maxL ret) rm (hPc G B S (.ref b :: As) φ) (hQ G B post) mc' ms' (fun q => B ≤ q)) (hφ : φ) (hb : ∃ fs, S b = some (.inr (ci, fs))) (hc : vwCl[ci]? = some (C, T, N)) (w1 : Cond.methodLink own index y ∈ aw_all) (w2 : Cond.instanceMethod y ∈ aw_all) (w3 : Cond.selects C y y ∈ aw_all) (w4 : Cond.initialized C ∈ aw_all) (w5 : Cond.code y bytes maxL ret ∈ aw_all) (hd : y.cls = C ∧ y.cls ≠ "java/lang/invoke/MethodHandle" ∧ y.cls ≠ "java/lang/invoke/VarHandle" ∧ (parseMethodDescriptor y.desc).map (fun d => d.parameters.length) = some n) (hrc : rm.cells = mc') (hrs : rm.slots = ms') (hf : rm.frames + 1 ≤ fr) (hlo : 8 + (maxL + 11) + rm.locals ≤ lo) (hn : As.length = n) (hst : (st.map fun v => v.category).sum ≤ 8) (d : decode cc pc = .ok (.invokevirtual index, 3)) (hu : ku' + mc' ≤ ku) (hv : kv' + ms' ≤ kv) (kk : ∀ (r : Option Value) (S : hS), post r S → Z p l e R s m args below meth c Q G B mc ms nL S ku' kv' (pc + 3) lv (r.toList ++ st)) : Z p l e R s m args below meth c Q G B mc ms nL S ku kv pc lv (As.reverse ++ .ref b :: st) := by
  refine z_run (a := (Value.ref b :: As).toArray) hu hv (fun H locs ls cells slots h1 h2 h3 h4 h5 => ?_) kk
  have r1 := hC.rf
  have r2 := hC.rl
  have r3 := hC.rc
  have r4 := hC.rs
  obtain ⟨ws, hP, hD, hE⟩ := id h1
  obtain ⟨fs, hs⟩ := hb
  obtain ⟨q0, hq⟩ := hE b _ hs
  refine va_runV (As := As) (C := C) (bytes := bytes) (maxL := maxL) (ret := ret) (n := n) ⟨hC.x, hC.b, hC.n, hC.o, hC.w⟩ hM (cwV n hC.w ?_ rfl hrc hrs hd ⟨by omega, by omega⟩) ⟨hPc.blind, va_recv hC.a.1 hP hc hq, (fun U hU hW => ⟨rfl, by rw [hU]; exact h1, hC.a.move hW (by rw [hU]; exact h2), hφ⟩)⟩ rfl hn h3.1 rfl (lv_room hst) d ⟨by omega, by omega⟩
  intro w hw
  rcases List.mem_append.mp hw with h | h
  · simp only [List.mem_cons, List.not_mem_nil, or_false] at h
    rcases h with rfl | rfl | rfl | rfl
    · exact ⟨w1, good_of_word (aw_good _ w1)⟩
    · exact ⟨w2, good_of_word (aw_good _ w2)⟩
    · exact ⟨w3, good_of_word (aw_good _ w3)⟩
    · exact ⟨w4, good_of_word (aw_good _ w4)⟩
  · exact hws_good w5 w h
theorem z_callS (hC : zC p R s m args c cc nL own G B mc ms fr lo) {y : MethodName} {bytes : ByteArray} {maxL n index mc' ms' ku' kv' : Nat} {ret : Option FieldType} {rm : Room} {post : Option Value → hS → Prop} {φ : Prop} {As : List Value} (hM : Met l y (hws y bytes maxL ret) rm (hPc G B S (As) φ) (hQ G B post) mc' ms' (fun q => B ≤ q)) (hφ : φ) (w1 : Cond.methodLink own index y ∈ aw_all) (w2 : Cond.static y ∈ aw_all) (w4 : Cond.initialized own ∈ aw_all) (w5 : Cond.code y bytes maxL ret ∈ aw_all) (hd : y.cls = own ∧ y.cls ≠ "java/lang/invoke/MethodHandle" ∧ y.cls ≠ "java/lang/invoke/VarHandle" ∧ (parseMethodDescriptor y.desc).map (fun d => d.parameters.length) = some n) (hrc : rm.cells = mc') (hrs : rm.slots = ms') (hf : rm.frames + 1 ≤ fr) (hlo : 8 + (maxL + 11) + rm.locals ≤ lo) (hn : As.length = n) (hst : (st.map fun v => v.category).sum ≤ 8) (d : decode cc pc = .ok (.invokestatic index, 3)) (hu : ku' + mc' ≤ ku) (hv : kv' + ms' ≤ kv) (kk : ∀ (r : Option Value) (S : hS), post r S → Z p l e R s m args below meth c Q G B mc ms nL S ku' kv' (pc + 3) lv (r.toList ++ st)) : Z p l e R s m args below meth c Q G B mc ms nL S ku kv pc lv (As.reverse ++ st) := by
  refine z_run (a := As.toArray) hu hv (fun H locs ls cells slots h1 h2 h3 h4 h5 => ?_) kk
  have r1 := hC.rf
  have r2 := hC.rl
  have r3 := hC.rc
  have r4 := hC.rs
  refine va_runS (As := As) (bytes := bytes) (maxL := maxL) (ret := ret) (n := n) ⟨hC.x, hC.b, hC.n, hC.o, hC.w⟩ hM (cwS n hC.w ?_ rfl hrc hrs hd ⟨by omega, by omega⟩) ⟨hPc.blind, (fun U hU hW => ⟨rfl, by rw [hU]; exact h1, hC.a.move hW (by rw [hU]; exact h2), hφ⟩)⟩ rfl hn h3.1 rfl (lv_room hst) d ⟨by omega, by omega⟩
  intro w hw
  rcases List.mem_append.mp hw with h | h
  · simp only [List.mem_cons, List.not_mem_nil, or_false] at h
    rcases h with rfl | rfl | rfl
    · exact ⟨w1, good_of_word (aw_good _ w1)⟩
    · exact ⟨w2, good_of_word (aw_good _ w2)⟩
    · exact ⟨w4, good_of_word (aw_good _ w4)⟩
  · exact hws_good w5 w h
theorem z_callSO (hC : zC p R s m args c cc nL own G B mc ms fr lo) {y : MethodName} {bytes : ByteArray} {maxL n index mc' ms' ku' kv' : Nat} {ret : Option FieldType} {rm : Room} {post : Option Value → hS → Prop} {φ : Prop} {As : List Value} (hM : Met l y (hws y bytes maxL ret) rm (hPc G B S (As) φ) (hQ G B post) mc' ms' (fun q => B ≤ q)) (hφ : φ) (w1 : Cond.methodLink own index y ∈ aw_all) (w2 : Cond.static y ∈ aw_all) (w4 : Cond.initialized y.cls ∈ aw_all) (w5 : Cond.code y bytes maxL ret ∈ aw_all) (hd : y.cls ≠ "java/lang/invoke/MethodHandle" ∧ y.cls ≠ "java/lang/invoke/VarHandle" ∧ (parseMethodDescriptor y.desc).map (fun d => d.parameters.length) = some n) (hrc : rm.cells = mc') (hrs : rm.slots = ms') (hf : rm.frames + 1 ≤ fr) (hlo : 8 + (maxL + 11) + rm.locals ≤ lo) (hn : As.length = n) (hst : (st.map fun v => v.category).sum ≤ 8) (d : decode cc pc = .ok (.invokestatic index, 3)) (hu : ku' + mc' ≤ ku) (hv : kv' + ms' ≤ kv) (kk : ∀ (r : Option Value) (S : hS), post r S → Z p l e R s m args below meth c Q G B mc ms nL S ku' kv' (pc + 3) lv (r.toList ++ st)) : Z p l e R s m args below meth c Q G B mc ms nL S ku kv pc lv (As.reverse ++ st) := by
  refine z_run (a := As.toArray) hu hv (fun H locs ls cells slots h1 h2 h3 h4 h5 => ?_) kk
  have r1 := hC.rf
  have r2 := hC.rl
  have r3 := hC.rc
  have r4 := hC.rs
  refine va_runS (As := As) (bytes := bytes) (maxL := maxL) (ret := ret) (n := n) ⟨hC.x, hC.b, hC.n, hC.o, hC.w⟩ hM (va_cwS n hC.w ?_ rfl hrc hrs hd ⟨by omega, by omega⟩) ⟨hPc.blind, (fun U hU hW => ⟨rfl, by rw [hU]; exact h1, hC.a.move hW (by rw [hU]; exact h2), hφ⟩)⟩ rfl hn h3.1 rfl (lv_room hst) d ⟨by omega, by omega⟩
  intro w hw
  rcases List.mem_append.mp hw with h | h
  · simp only [List.mem_cons, List.not_mem_nil, or_false] at h
    rcases h with rfl | rfl | rfl
    · exact ⟨w1, good_of_word (aw_good _ w1)⟩
    · exact ⟨w2, good_of_word (aw_good _ w2)⟩
    · exact ⟨w4, good_of_word (aw_good _ w4)⟩
  · exact hws_good w5 w h
theorem z_callSN (hC : zC p R s m args c cc nL own G B mc ms fr lo) {y : MethodName} {bytes : ByteArray} {maxL n index mc' ms' ku' kv' : Nat} {ret : Option FieldType} {rm : Room} {post : Option Value → hS → Prop} {φ : Prop} {As : List Value} {host : String} (hM : Met l y (hws y bytes maxL ret) rm (hPc G B S (As) φ) (hQ G B post) mc' ms' (fun q => B ≤ q)) (hφ : φ) (w1 : (own, index, y, host) ∈ hNst) (w2 : Cond.static y ∈ aw_all) (w4 : Cond.initialized y.cls ∈ aw_all) (w5 : Cond.code y bytes maxL ret ∈ aw_all) (hd : y.cls ≠ "java/lang/invoke/MethodHandle" ∧ y.cls ≠ "java/lang/invoke/VarHandle" ∧ (parseMethodDescriptor y.desc).map (fun d => d.parameters.length) = some n) (hrc : rm.cells = mc') (hrs : rm.slots = ms') (hf : rm.frames + 1 ≤ fr) (hlo : 8 + (maxL + 11) + rm.locals ≤ lo) (hn : As.length = n) (hst : (st.map fun v => v.category).sum ≤ 8) (d : decode cc pc = .ok (.invokestatic index, 3)) (hu : ku' + mc' ≤ ku) (hv : kv' + ms' ≤ kv) (kk : ∀ (r : Option Value) (S : hS), post r S → Z p l e R s m args below meth c Q G B mc ms nL S ku' kv' (pc + 3) lv (r.toList ++ st)) : Z p l e R s m args below meth c Q G B mc ms nL S ku kv pc lv (As.reverse ++ st) := by
  refine z_run (a := As.toArray) hu hv (fun H locs ls cells slots h1 h2 h3 h4 h5 => ?_) kk
  have r1 := hC.rf
  have r2 := hC.rl
  have r3 := hC.rc
  have r4 := hC.rs
  exact va_runSN (As := As) (bytes := bytes) (maxL := maxL) (ret := ret) (n := n) (host := host) ⟨hC.x, hC.b, hC.n, hC.o, hC.w⟩ hM ⟨va_cnB n hC.w (hws_good w5) rfl hrc hrs (hC.a.2.2.1 _ w1) (hC.w _ w4) hd ⟨by omega, by omega⟩, hC.w _ w2, trivial⟩ ⟨hPc.blind, (fun U hU hW => ⟨rfl, by rw [hU]; exact h1, hC.a.move hW (by rw [hU]; exact h2), hφ⟩)⟩ rfl hn h3.1 rfl (lv_room hst) d ⟨by omega, by omega⟩
theorem z_callI (hC : zC p R s m args c cc nL own G B mc ms fr lo) {y : MethodName} {bytes : ByteArray} {maxL n index mc' ms' ku' kv' : Nat} {ret : Option FieldType} {rm : Room} {post : Option Value → hS → Prop} {φ : Prop} {As : List Value} {b : Nat} (hret : ret = none) (hM : Met l y (hws y bytes maxL ret) rm (hPc G B S (.ref b :: As) φ) (hQ G B post) mc' ms' (fun q => B ≤ q)) (hφ : φ) (w1 : Cond.methodLink own index y ∈ aw_all) (w2 : Cond.instanceMethod y ∈ aw_all) (w4 : Cond.initialized y.cls ∈ aw_all) (w5 : Cond.code y bytes maxL ret ∈ aw_all) (hy : y.name = "<init>") (hd : y.cls ≠ "java/lang/invoke/MethodHandle" ∧ y.cls ≠ "java/lang/invoke/VarHandle" ∧ (parseMethodDescriptor y.desc).map (fun d => d.parameters.length) = some n) (hrc : rm.cells = mc') (hrs : rm.slots = ms') (hf : rm.frames + 1 ≤ fr) (hlo : 8 + (maxL + 11) + rm.locals ≤ lo) (hn : As.length = n) (hst : (st.map fun v => v.category).sum ≤ 8) (d : decode cc pc = .ok (.invokespecial index, 3)) (hu : ku' + mc' ≤ ku) (hv : kv' + ms' ≤ kv) (kk : ∀ (r : Option Value) (S : hS), post r S → Z p l e R s m args below meth c Q G B mc ms nL S ku' kv' (pc + 3) lv (r.toList ++ st)) : Z p l e R s m args below meth c Q G B mc ms nL S ku kv pc lv (As.reverse ++ .ref b :: st) := by
  subst hret
  refine z_run (a := (Value.ref b :: As).toArray) hu hv (fun H locs ls cells slots h1 h2 h3 h4 h5 => ?_) kk
  have r1 := hC.rf
  have r2 := hC.rl
  have r3 := hC.rc
  have r4 := hC.rs
  exact va_runI (As := As) (bytes := bytes) (maxL := maxL) (n := n) ⟨hC.x, hC.b, hC.n, hC.o, hC.w⟩ hM (cwI n hC.w (hws_good w5) rfl hrc hrs (hC.w _ w4) (hC.w _ w1) (hC.w _ w2) hy hd ⟨by omega, by omega⟩) ⟨hPc.blind, (fun U hU hW => ⟨rfl, by rw [hU]; exact h1, hC.a.move hW (by rw [hU]; exact h2), hφ⟩)⟩ rfl hn h3.1 rfl (lv_room hst) d ⟨by omega, by omega⟩
theorem z_callIN (hC : zC p R s m args c cc nL own G B mc ms fr lo) {y : MethodName} {bytes : ByteArray} {maxL n index mc' ms' ku' kv' : Nat} {ret : Option FieldType} {rm : Room} {post : Option Value → hS → Prop} {φ : Prop} {As : List Value} {b : Nat} {host : String} (hret : ret = none) (hM : Met l y (hws y bytes maxL ret) rm (hPc G B S (.ref b :: As) φ) (hQ G B post) mc' ms' (fun q => B ≤ q)) (hφ : φ) (w1 : (own, index, y, host) ∈ hNst) (w2 : Cond.instanceMethod y ∈ aw_all) (w4 : Cond.initialized y.cls ∈ aw_all) (w5 : Cond.code y bytes maxL ret ∈ aw_all) (hy : y.name = "<init>") (hd : y.cls ≠ "java/lang/invoke/MethodHandle" ∧ y.cls ≠ "java/lang/invoke/VarHandle" ∧ (parseMethodDescriptor y.desc).map (fun d => d.parameters.length) = some n) (hrc : rm.cells = mc') (hrs : rm.slots = ms') (hf : rm.frames + 1 ≤ fr) (hlo : 8 + (maxL + 11) + rm.locals ≤ lo) (hn : As.length = n) (hst : (st.map fun v => v.category).sum ≤ 8) (d : decode cc pc = .ok (.invokespecial index, 3)) (hu : ku' + mc' ≤ ku) (hv : kv' + ms' ≤ kv) (kk : ∀ (r : Option Value) (S : hS), post r S → Z p l e R s m args below meth c Q G B mc ms nL S ku' kv' (pc + 3) lv (r.toList ++ st)) : Z p l e R s m args below meth c Q G B mc ms nL S ku kv pc lv (As.reverse ++ .ref b :: st) := by
  subst hret
  refine z_run (a := (Value.ref b :: As).toArray) hu hv (fun H locs ls cells slots h1 h2 h3 h4 h5 => ?_) kk
  have r1 := hC.rf
  have r2 := hC.rl
  have r3 := hC.rc
  have r4 := hC.rs
  exact va_runIN (As := As) (bytes := bytes) (maxL := maxL) (n := n) (host := host) ⟨hC.x, hC.b, hC.n, hC.o, hC.w⟩ hM ⟨va_cnB n hC.w (hws_good w5) rfl hrc hrs (hC.a.2.2.1 _ w1) (hC.w _ w4) hd ⟨by omega, by omega⟩, hy, hC.w _ w2⟩ ⟨hPc.blind, (fun U hU hW => ⟨rfl, by rw [hU]; exact h1, hC.a.move hW (by rw [hU]; exact h2), hφ⟩)⟩ rfl hn h3.1 rfl (lv_room hst) d ⟨by omega, by omega⟩
theorem z_tabOut (hC : zC p R s m args c cc nL own G B mc ms fr lo) {dflt a b : Int} {offs : Array Int} {len : Nat} {x : Int32} {tgt : Nat} (d : decode cc pc = .ok (.tableswitch dflt a b offs, len)) (h : x.toInt < a ∨ b < x.toInt) (ht : (pc : Int) + dflt = (tgt : Int)) (k : Z p l e R s m args below meth c Q G B mc ms nL S ku kv tgt lv st) : Z p l e R s m args below meth c Q G B mc ms nL S ku kv pc lv (.int x :: st) := fun H locs ls cells slots h1 h2 h3 h4 h5 => lv_tableOut hC.x hC.b d h ht (k H locs ls cells slots h1 h2 h3 h4 h5)
theorem z_tabIn (hC : zC p R s m args c cc nL own G B mc ms fr lo) {dflt a b off : Int} {offs : Array Int} {len : Nat} {x : Int32} {tgt : Nat} (j : Int) (d : decode cc pc = .ok (.tableswitch dflt a b offs, len)) (hj : x.toInt = j) (hab : a ≤ j ∧ j ≤ b) (ho : offs[(j - a).toNat]? = some off) (ht : (pc : Int) + off = (tgt : Int)) (k : Z p l e R s m args below meth c Q G B mc ms nL S ku kv tgt lv st) : Z p l e R s m args below meth c Q G B mc ms nL S ku kv pc lv (.int x :: st) := fun H locs ls cells slots h1 h2 h3 h4 h5 => lv_tableIn hC.x hC.b d (by omega) (by omega) (by rw [hj]; exact ho) ht (k H locs ls cells slots h1 h2 h3 h4 h5)
theorem z_mmax (hC : zC p R s m args c cc nL own G B mc ms fr lo) {index : Nat} {x y : Int32} (w1 : Cond.methodLink own index Lib.Math.max.name ∈ aw_all) (w2 : Cond.static Lib.Math.max.name ∈ aw_all) (w3 : Cond.initialized "java/lang/Math" ∈ aw_all) (w4 : Cond.code Lib.Math.max.name Lib.Math.max.code 2 (some .int) ∈ aw_all) (d : decode cc pc = .ok (.invokestatic index, 3)) (hf : 1 ≤ fr) (hlo : (st.map fun v => v.category).sum + 13 ≤ lo) (k : Z p l e R s m args below meth c Q G B mc ms nL S ku kv (pc + 3) lv (.int (if x < y then y else x) :: st)) : Z p l e R s m args below meth c Q G B mc ms nL S ku kv pc lv (.int y :: .int x :: st) := by
  intro H locs ls cells slots h1 h2 h3 h4 h5
  have r1 := hC.rf
  have r2 := hC.rl
  have r3 := hC.rc
  have r4 := hC.rs
  exact va_mmax hC.x hC.b (hC.n.trans h3.1.symm) hC.o (hC.w _ w1) (hC.w _ w2) (hC.w _ w3) (hC.w _ w4) (by omega) (by omega) (by omega) (by omega) d (k H locs ls cells slots h1 h2 h3 h4 h5)
theorem z_mmin (hC : zC p R s m args c cc nL own G B mc ms fr lo) {index : Nat} {x y : Int32} (w1 : Cond.methodLink own index Lib.Math.min.name ∈ aw_all) (w2 : Cond.static Lib.Math.min.name ∈ aw_all) (w3 : Cond.initialized "java/lang/Math" ∈ aw_all) (w4 : Cond.code Lib.Math.min.name Lib.Math.min.code 2 (some .int) ∈ aw_all) (d : decode cc pc = .ok (.invokestatic index, 3)) (hf : 1 ≤ fr) (hlo : (st.map fun v => v.category).sum + 13 ≤ lo) (k : Z p l e R s m args below meth c Q G B mc ms nL S ku kv (pc + 3) lv (.int (if y < x then y else x) :: st)) : Z p l e R s m args below meth c Q G B mc ms nL S ku kv pc lv (.int y :: .int x :: st) := by
  intro H locs ls cells slots h1 h2 h3 h4 h5
  have r1 := hC.rf
  have r2 := hC.rl
  have r3 := hC.rc
  have r4 := hC.rs
  exact va_mmin hC.x hC.b (hC.n.trans h3.1.symm) hC.o (hC.w _ w1) (hC.w _ w2) (hC.w _ w3) (hC.w _ w4) (by omega) (by omega) (by omega) (by omega) d (k H locs ls cells slots h1 h2 h3 h4 h5)
theorem z_mabs (hC : zC p R s m args c cc nL own G B mc ms fr lo) {index : Nat} {x : Int32} (w1 : Cond.methodLink own index Lib.Math.abs.name ∈ aw_all) (w2 : Cond.static Lib.Math.abs.name ∈ aw_all) (w3 : Cond.initialized "java/lang/Math" ∈ aw_all) (w4 : Cond.code Lib.Math.abs.name Lib.Math.abs.code 1 (some .int) ∈ aw_all) (d : decode cc pc = .ok (.invokestatic index, 3)) (hf : 1 ≤ fr) (hlo : (st.map fun v => v.category).sum + 13 ≤ lo) (k : Z p l e R s m args below meth c Q G B mc ms nL S ku kv (pc + 3) lv (.int (if 0 ≤ x then x else 0 - x) :: st)) : Z p l e R s m args below meth c Q G B mc ms nL S ku kv pc lv (.int x :: st) := by
  intro H locs ls cells slots h1 h2 h3 h4 h5
  have r1 := hC.rf
  have r2 := hC.rl
  have r3 := hC.rc
  have r4 := hC.rs
  exact va_mabs hC.x hC.b (hC.n.trans h3.1.symm) hC.o (hC.w _ w1) (hC.w _ w2) (hC.w _ w3) (hC.w _ w4) (by omega) (by omega) (by omega) (by omega) d (k H locs ls cells slots h1 h2 h3 h4 h5)
def cI (S : hS) (a : Nat) (sp : Int32) (b : Nat) (dp n : Int32) (P : hS → Prop) : Prop := ∃ (n0 n1 : Nat) (f g : Nat → Int32), S a = some (.inl (0, n0, .inl f)) ∧ S b = some (.inl (0, n1, .inl g)) ∧ (¬ sp < 0 ∧ ¬ dp < 0 ∧ ¬ n < 0) ∧ sp.toNatClampNeg + n.toNatClampNeg ≤ n0 ∧ dp.toNatClampNeg + n.toNatClampNeg ≤ n1 ∧ P (hset S b (.inl (0, n1, .inl (va_cpy f g sp.toNatClampNeg dp.toNatClampNeg n.toNatClampNeg))))
theorem z_copyI (hC : zC p R s m args c cc nL own G B mc ms fr lo) {index a b : Nat} {sp dp n : Int32} (w1 : Cond.methodLink own index arraycopyName ∈ aw_all) (w2 : Cond.native arraycopyName ∈ aw_all) (w3 : Cond.static arraycopyName ∈ aw_all) (w4 : Cond.initialized "java/lang/System" ∈ aw_all) (d : decode cc pc = .ok (.invokestatic index, 3)) (hf : 1 ≤ fr) (hlo : (st.map fun v => v.category).sum + (nativeFrameWords "java/lang/System" "arraycopy" 5 + 11) ≤ lo) {P : hS → Prop} (hw : cI S a sp b dp n P) (kk : ∀ S : hS, P S → Z p l e R s m args below meth c Q G B mc ms nL S ku kv (pc + 3) lv st) : Z p l e R s m args below meth c Q G B mc ms nL S ku kv pc lv (.int n :: .int dp :: .ref b :: .int sp :: .ref a :: st) := by
  intro H locs ls cells slots h1 h2 h3 h4 h5
  have r1 := hC.rf
  have r2 := hC.rl
  have r3 := hC.rc
  have r4 := hC.rs
  obtain ⟨n0, n1, f, g, g1, g2, ⟨g3, g4, g5⟩, g6, g7, g8⟩ := hw
  obtain ⟨ws, hP, hD, hE⟩ := id h1
  obtain ⟨q0, hq0⟩ := hE a _ g1
  obtain ⟨q1, hq1⟩ := hE b _ g2
  exact va_copyi hC.x hC.b (hC.n.trans h3.1.symm) hC.o (hC.w _ w1) (hC.w _ w2) (hC.w _ w3) (hC.w _ w4) hC.a.1 hP hD h2 q0 q1 0 0 hq0 hq1 rfl rfl rfl g3 g4 g5 g6 g7 (fun i _ => rfl) (by omega) (by omega) d (fun H1 locs1 hP1 hD1 hS1 => kk _ g8 H1 locs1 ls cells slots (Hold.upd (e1 := .inl (0, n1, .inl (va_cpy f g sp.toNatClampNeg dp.toNatClampNeg n.toNatClampNeg))) hE hq1 hP1 hD1) hS1 h3 h4 h5)
end ZT
