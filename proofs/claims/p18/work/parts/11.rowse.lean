def nO (S : hS) (ci : Nat) (fs : List Value) (P : hS → Nat → Prop) : Prop := ∀ q : Nat, S q = none → P (hset S q (.inr (ci, fs))) q
def mkI (S : hS) (n : Int32) (cap : Nat) (P : hS → Nat → Prop) : Prop := ¬ n < 0 ∧ n.toNatClampNeg ≤ cap ∧ ∀ q : Nat, S q = none → P (hset S q (.inl (0, n.toNatClampNeg, .inl (fun _ => 0)))) q
def mkJ (S : hS) (n : Int32) (cap : Nat) (P : hS → Nat → Prop) : Prop := ¬ n < 0 ∧ n.toNatClampNeg ≤ cap ∧ ∀ q : Nat, S q = none → P (hset S q (.inl (1, n.toNatClampNeg, .inr (.inl (fun _ => 0))))) q
def mkZ (S : hS) (n : Int32) (cap : Nat) (P : hS → Nat → Prop) : Prop := ¬ n < 0 ∧ n.toNatClampNeg ≤ cap ∧ ∀ q : Nat, S q = none → P (hset S q (.inl (2, n.toNatClampNeg, .inl (fun _ => 0)))) q
def mkR (S : hS) (kd : Nat) (n : Int32) (cap : Nat) (P : hS → Nat → Prop) : Prop := ¬ n < 0 ∧ n.toNatClampNeg ≤ cap ∧ ∀ q : Nat, S q = none → P (hset S q (.inl (kd, n.toNatClampNeg, .inr (.inr (.inr (.inr (fun _ => none))))))) q
def stR (S : hS) (kd a : Nat) (i : Int32) (x : Option Nat) (ci : Nat) (P : hS → Prop) : Prop := (∀ v, x = some v → oK S v ci) ∧ sR S kd a i x P
/-- a text's length and bytes; a static row's number -/
def sLen (tx : Nat → Nat) (w : Nat) (q : Int32 → hS → Prop) (S : hS) : Prop := ∃ (i : Nat) (r : String × Nat × String × List Nat), hTxs[i]? = some r ∧ w = tx i ∧ q (nI r.2.2.2.length) S
def sChr (tx : Nat → Nat) (w : Nat) (k : Int32) (q : Int32 → hS → Prop) (S : hS) : Prop := ∃ (i : Nat) (r : String × Nat × String × List Nat), hTxs[i]? = some r ∧ w = tx i ∧ vp_in k r.2.2.2.length ∧ q (nI (r.2.2.2.getD k.toNatClampNeg 0)) S
def tSt (l : List Nat) (k : Int32) (P : Int32 → Prop) : Prop := vp_in k l.length ∧ P (nI (l.getD k.toNatClampNeg 0))
section ZV
variable {p : Program} {l : Launch} {e : Env} {R : Room} {s : State} {m : MethodId} {args : Array Value} {below : List Frame} {meth : Method} {c : Code} {Q : State → Prop} {G : hG} {B mc ms nL fr lo : Nat} {cc : ByteArray} {own : String} {S : hS} {ku kv pc : Nat} {lv : hL} {st : List Value}
theorem z_qstore_n (hC : zC p R s m args c cc nL own G B mc ms fr lo) {n : Fin 4} {i : Nat} (hi : (n : Nat) = i) {x : Option Nat} {lv' : hL} (d : decode cc pc = .ok (.astore_n n, 1)) (hn : i < nL) (ho : hok1 lv i) (hl : lv.set i (some (va_rf x)) = lv') (k : Z p l e R s m args below meth c Q G B mc ms nL S ku kv (pc + 1) lv' st) : Z p l e R s m args below meth c Q G B mc ms nL S ku kv pc lv (va_rf x :: st) := by
  cases x with
  | some b => exact z_astore_n hC hi d hn ho hl k
  | none =>
    subst hi
    intro H locs ls cells slots h1 h2 h3 h4 h5
    obtain ⟨ls', e', h'⟩ := h3.st1 (v := .null) hn rfl ho
    intro T hT X
    obtain ⟨t, a, b⟩ := k H locs ls' cells slots h1 h2 (hl ▸ h') h4 h5 T hT X
    refine ⟨t, ?_, b⟩
    have hx := hC.x
    have hb := hC.b
    have hb := hC.b
    show Steps _ _ _ (T.setTop (F0 m pc ls (.null :: st))) _
    jvm_step X.here [X.here.top, ↓top_set X.here.top, hx, hb, d, e', Value.isRef]
    exact a
theorem z_qstore (hC : zC p R s m args c cc nL own G B mc ms fr lo) {i : Nat} {x : Option Nat} {lv' : hL} (d : decode cc pc = .ok (.astore i, 2)) (hn : i < nL) (ho : hok1 lv i) (hl : lv.set i (some (va_rf x)) = lv') (k : Z p l e R s m args below meth c Q G B mc ms nL S ku kv (pc + 2) lv' st) : Z p l e R s m args below meth c Q G B mc ms nL S ku kv pc lv (va_rf x :: st) := by
  cases x with
  | some b => exact z_astore hC d hn ho hl k
  | none =>
    skip
    intro H locs ls cells slots h1 h2 h3 h4 h5
    obtain ⟨ls', e', h'⟩ := h3.st1 (v := .null) hn rfl ho
    intro T hT X
    obtain ⟨t, a, b⟩ := k H locs ls' cells slots h1 h2 (hl ▸ h') h4 h5 T hT X
    refine ⟨t, ?_, b⟩
    have hx := hC.x
    have hb := hC.b
    have hb := hC.b
    show Steps _ _ _ (T.setTop (F0 m pc ls (.null :: st))) _
    jvm_step X.here [X.here.top, ↓top_set X.here.top, hx, hb, d, e', Value.isRef]
    exact a
theorem z_nO (hC : zC p R s m args c cc nL own G B mc ms fr lo) {ci N : Nat} {C : String} {T : u_T} {ty : Nat → FieldType} (F : hF ci C T N ty) {index : Nat} {fs : List Value} {ku' kv' : Nat} (hcl : Cond.classLink own index C ∈ aw_all) (hinst : Cond.instantiable C N ∈ aw_all) (hini : Cond.initialized C ∈ aw_all) (hfs : ∀ j, j < N → defaultValue (ty j) = vp_V fs j) (d : decode cc pc = .ok (.new index, 3)) (hu : ku' + 1 ≤ ku) (hv : kv' + N ≤ kv) {P : hS → Nat → Prop} (hw : nO S ci fs P) (kk : ∀ (S : hS) (q : Nat), P S q → Z p l e R s m args below meth c Q G B mc ms nL S ku' kv' (pc + 3) lv (.ref q :: st)) : Z p l e R s m args below meth c Q G B mc ms nL S ku kv pc lv st := z_new hC F hcl hinst hini hfs d hu hv (fun q hq => kk _ q (hw q hq))
theorem z_mkI (hC : zC p R s m args c cc nL own G B mc ms fr lo) {n : Int32} {cap ku' kv' : Nat} (harr : Cond.arrayClass (newarray.typeOf .int) ∈ aw_all) (d : decode cc pc = .ok (.newarray .int, 2)) (hcap : cap ≤ 60000000) (hu : ku' + 1 ≤ ku) (hv : kv' + cap ≤ kv) {P : hS → Nat → Prop} (hw : mkI S n cap P) (kk : ∀ (S : hS) (q : Nat), P S q → Z p l e R s m args below meth c Q G B mc ms nL S ku' kv' (pc + 2) lv (.ref q :: st)) : Z p l e R s m args below meth c Q G B mc ms nL S ku kv pc lv (.int n :: st) := by
  obtain ⟨h1, h2, h3⟩ := hw
  refine z_newa (ty := .int) (kd := 0) (ku' := ku') (kv' := kv') hC harr rfl rfl (fun C h => by cases h) (fun cA => rfl) h1 ?_ d hu (by omega) (fun q hq => kk _ q (h3 q hq))
  have e : componentBytes .int = 4 := rfl
  rw [e]
  omega
theorem z_mkJ (hC : zC p R s m args c cc nL own G B mc ms fr lo) {n : Int32} {cap ku' kv' : Nat} (harr : Cond.arrayClass (newarray.typeOf .long) ∈ aw_all) (d : decode cc pc = .ok (.newarray .long, 2)) (hcap : cap ≤ 60000000) (hu : ku' + 1 ≤ ku) (hv : kv' + cap ≤ kv) {P : hS → Nat → Prop} (hw : mkJ S n cap P) (kk : ∀ (S : hS) (q : Nat), P S q → Z p l e R s m args below meth c Q G B mc ms nL S ku' kv' (pc + 2) lv (.ref q :: st)) : Z p l e R s m args below meth c Q G B mc ms nL S ku kv pc lv (.int n :: st) := by
  obtain ⟨h1, h2, h3⟩ := hw
  refine z_newa (ty := .long) (kd := 1) (ku' := ku') (kv' := kv') hC harr rfl rfl (fun C h => by cases h) (fun cA => rfl) h1 ?_ d hu (by omega) (fun q hq => kk _ q (h3 q hq))
  have e : componentBytes .long = 8 := rfl
  rw [e]
  omega
theorem z_mkZ (hC : zC p R s m args c cc nL own G B mc ms fr lo) {n : Int32} {cap ku' kv' : Nat} (harr : Cond.arrayClass (newarray.typeOf .boolean) ∈ aw_all) (d : decode cc pc = .ok (.newarray .boolean, 2)) (hcap : cap ≤ 60000000) (hu : ku' + 1 ≤ ku) (hv : kv' + cap ≤ kv) {P : hS → Nat → Prop} (hw : mkZ S n cap P) (kk : ∀ (S : hS) (q : Nat), P S q → Z p l e R s m args below meth c Q G B mc ms nL S ku' kv' (pc + 2) lv (.ref q :: st)) : Z p l e R s m args below meth c Q G B mc ms nL S ku kv pc lv (.int n :: st) := by
  obtain ⟨h1, h2, h3⟩ := hw
  refine z_newa (ty := .boolean) (kd := 2) (ku' := ku') (kv' := kv') hC harr rfl rfl (fun C h => by cases h) (fun cA => rfl) h1 ?_ d hu (by omega) (fun q hq => kk _ q (h3 q hq))
  have e : componentBytes .boolean = 1 := rfl
  rw [e]
  omega
theorem z_mkR (hC : zC p R s m args c cc nL own G B mc ms fr lo) {kd index : Nat} {C : String} {n : Int32} {cap ku' kv' : Nat} (hcl : Cond.classLink own index C ∈ aw_all) (hover : va_AO C s) (hkd : (htys G)[kd]? = some (G.2.1 kd, .object C)) (d : decode cc pc = .ok (.anewarray index, 3)) (hcap : cap ≤ 60000000) (hu : ku' + 1 ≤ ku) (hv : kv' + cap ≤ kv) {P : hS → Nat → Prop} (hw : mkR S kd n cap P) (kk : ∀ (S : hS) (q : Nat), P S q → Z p l e R s m args below meth c Q G B mc ms nL S ku' kv' (pc + 3) lv (.ref q :: st)) : Z p l e R s m args below meth c Q G B mc ms nL S ku kv pc lv (.int n :: st) := by
  obtain ⟨h1, h2, h3⟩ := hw
  exact z_newq (ku' := ku') (kv' := kv') hC hcl hover hkd h1 (by omega) d hu (by omega) (fun q hq => kk _ q (h3 q hq))
theorem z_stR (hC : zC p R s m args c cc nL own G B mc ms fr lo) {a kd ci : Nat} {i : Int32} {x : Option Nat} {r : vw_C} (d : decode cc pc = .ok (.aastore, 1)) {P : hS → Prop} (hw : stR S kd a i x ci P) (ht : (htys G)[kd]? = some (G.2.1 kd, .object r.1)) (hc : vwCl[ci]? = some r) (kk : ∀ S : hS, P S → Z p l e R s m args below meth c Q G B mc ms nL S ku kv (pc + 1) lv st) : Z p l e R s m args below meth c Q G B mc ms nL S ku kv pc lv (va_rf x :: .int i :: .ref a :: st) := z_astR hC d hw.2 ht hc hw.1 kk
theorem z_ldcS (hC : zC p R s m args c cc nL own G B mc ms fr lo) (i : Nat) {index : Nat} {tx : String} {bs : List Nat} (hr : hTxs[i]? = some (own, index, tx, bs)) (d : decode cc pc = .ok (.ldc index, 2)) (k : Z p l e R s m args below meth c Q G B mc ms nL S ku kv (pc + 2) lv (.ref (G.2.2.1 i) :: st)) : Z p l e R s m args below meth c Q G B mc ms nL S ku kv pc lv st := by
  intro H locs ls cells slots h1 h2 h3 h4 h5
  obtain ⟨g1, -, -⟩ := hC.a.2.2.2.2
  exact va_ldcS hC.x hC.b hC.o (g1 i _ hr).1 d (k H locs ls cells slots h1 h2 h3 h4 h5)
theorem z_gets (hC : zC p R s m args c cc nL own G B mc ms fr lo) (i : Nat) {index : Nat} {nm : String} {bs : List Nat} (hr : hSts[i]? = some (nm, bs)) (hl : Cond.fieldLink own index "BellHeirs$Asker" nm "[I" ∈ aw_all) (d : decode cc pc = .ok (.getstatic index, 3)) (k : Z p l e R s m args below meth c Q G B mc ms nL S ku kv (pc + 3) lv (.ref (G.2.2.2 i) :: st)) : Z p l e R s m args below meth c Q G B mc ms nL S ku kv pc lv st := by
  intro H locs ls cells slots h1 h2 h3 h4 h5
  obtain ⟨-, -, g1, -⟩ := hC.a.2.2.2.2
  exact va_gets hC.x hC.b (g1 i _ hr).1 h2 hC.o (hC.w _ hl) (fun _ h => h) d (k H locs ls cells slots h1 h2 h3 h4 h5)
theorem z_aldT (hC : zC p R s m args c cc nL own G B mc ms fr lo) (i : Nat) {nm : String} {bs : List Nat} {k : Int32} (hr : hSts[i]? = some (nm, bs)) (d : decode cc pc = .ok (.iaload, 1)) {P : Int32 → Prop} (hw : tSt bs k P) (kk : ∀ x : Int32, P x → Z p l e R s m args below meth c Q G B mc ms nL S ku kv (pc + 1) lv (.int x :: st)) : Z p l e R s m args below meth c Q G B mc ms nL S ku kv pc lv (.int k :: .ref (G.2.2.2 i) :: st) := by
  intro H locs ls cells slots h1 h2 h3 h4 h5
  obtain ⟨-, -, g1, -⟩ := hC.a.2.2.2.2
  exact va_ti hC.x hC.b (g1 i _ hr).2 h2 hw.1 rfl d (kk _ hw.2 H locs ls cells slots h1 h2 h3 h4 h5)
theorem z_nret {post : Option Value → hS → Prop} (hC : zC p R s m args c cc nL own G B mc ms fr lo) {ty : FieldType} (hr : meth.sig.returnType = some ty) (hlk : meth.locks = false) {x : Int32} (hn : narrow ty (.int x) = .int x) (d : decode cc pc = .ok (.ireturn, 1)) (hw : post (some (.int x)) S) : Z p l e R s m args below meth c (MQ below (hQ G B post) args s mc ms (fun q => B ≤ q)) G B mc ms nL S ku kv pc lv [.int x] := by
  intro H locs ls cells slots h1 h2 h3 h4 h5
  refine W.widen (k := mc) (n := ms) (by omega) (by omega) ?_
  exact W.zret hC.x hC.b hr hn (fun t ht hW => ⟨_, S, rfl, hw, by rw [ht]; exact h1, h2.F ht⟩) h2.2.2 d hlk
theorem z_txF (hC : zC p R s m args c cc nL own G B mc ms fr lo) {n d0 : String} {v : Value} {index q : Nat} (hE : va_OF "java/lang/String" n d0 v q (fun q => B ≤ q) s s.heap) (hl : Cond.fieldLink own index "java/lang/String" n d0 ∈ aw_all) (d : decode cc pc = .ok (.getfield index, 3)) (k : Z p l e R s m args below meth c Q G B mc ms nL S ku kv (pc + 3) lv (v :: st)) : Z p l e R s m args below meth c Q G B mc ms nL S ku kv pc lv (.ref q :: st) := fun H locs ls cells slots h1 h2 h3 h4 h5 => vk_getf hC.x hC.b hE h2 hC.o (hC.w _ hl) (fun _ h => h) d (k H locs ls cells slots h1 h2 h3 h4 h5)
theorem z_txL (hC : zC p R s m args c cc nL own G B mc ms fr lo) {t n : Nat} {f : Nat → Value} {v : Int32} (hT : va_T .byte t n f (fun q => B ≤ q) s s.heap) (hv : Int32.ofNat n = v) (d : decode cc pc = .ok (.arraylength, 1)) (k : Z p l e R s m args below meth c Q G B mc ms nL S ku kv (pc + 1) lv (.int v :: st)) : Z p l e R s m args below meth c Q G B mc ms nL S ku kv pc lv (.ref t :: st) := fun H locs ls cells slots h1 h2 h3 h4 h5 => va_tlen hC.x hC.b hT h2 hv d (k H locs ls cells slots h1 h2 h3 h4 h5)
theorem z_txB (hC : zC p R s m args c cc nL own G B mc ms fr lo) {t n : Nat} {f : Nat → Value} {i : Int32} {v : Value} (hT : va_T .byte t n f (fun q => B ≤ q) s s.heap) (hin : vp_in i n) (hv : f i.toNatClampNeg = v) (d : decode cc pc = .ok (.baload, 1)) (k : Z p l e R s m args below meth c Q G B mc ms nL S ku kv (pc + 1) lv (v :: st)) : Z p l e R s m args below meth c Q G B mc ms nL S ku kv pc lv (.int i :: .ref t :: st) := fun H locs ls cells slots h1 h2 h3 h4 h5 => va_tb hC.x hC.b hT h2 hin hv d (k H locs ls cells slots h1 h2 h3 h4 h5)
theorem z_txS (hC : zC p R s m args c cc nL own G B mc ms fr lo) {n d0 ref : String} {v : Value} {index : Nat} (hE : va_Z ref n d0 v (fun q => B ≤ q) s s.heap) (hl : Cond.fieldLink own index ref n d0 ∈ aw_all) (d : decode cc pc = .ok (.getstatic index, 3)) (k : Z p l e R s m args below meth c Q G B mc ms nL S ku kv (pc + 3) lv (v :: st)) : Z p l e R s m args below meth c Q G B mc ms nL S ku kv pc lv st := fun H locs ls cells slots h1 h2 h3 h4 h5 => va_gets hC.x hC.b hE h2 hC.o (hC.w _ hl) (fun _ h => h) d (k H locs ls cells slots h1 h2 h3 h4 h5)
theorem z_callVT (hC : zC p R s m args c cc nL own G B mc ms fr lo) {y : MethodName} {bytes : ByteArray} {maxL n index mc' ms' ku' kv' : Nat} {ret : Option FieldType} {rm : Room} {post : Option Value → hS → Prop} {φ : Prop} {As : List Value} {b : Nat} (hM : Met l y (hws y bytes maxL ret) rm (hPc G B S (.ref b :: As) φ) (hQ G B post) mc' ms' (fun q => B ≤ q)) (hφ : φ) (hb : va_O "java/lang/String" b (fun q => B ≤ q) s s.heap) (w1 : Cond.methodLink own index y ∈ aw_all) (w2 : Cond.instanceMethod y ∈ aw_all) (w3 : Cond.selects "java/lang/String" y y ∈ aw_all) (w4 : Cond.initialized "java/lang/String" ∈ aw_all) (w5 : Cond.code y bytes maxL ret ∈ aw_all) (hd : y.cls = "java/lang/String" ∧ y.cls ≠ "java/lang/invoke/MethodHandle" ∧ y.cls ≠ "java/lang/invoke/VarHandle" ∧ (parseMethodDescriptor y.desc).map (fun d => d.parameters.length) = some n) (hrc : rm.cells = mc') (hrs : rm.slots = ms') (hf : rm.frames + 1 ≤ fr) (hlo : 8 + (maxL + 11) + rm.locals ≤ lo) (hn : As.length = n) (hst : (st.map fun v => v.category).sum ≤ 8) (d : decode cc pc = .ok (.invokevirtual index, 3)) (hu : ku' + mc' ≤ ku) (hv : kv' + ms' ≤ kv) (kk : ∀ (r : Option Value) (S : hS), post r S → Z p l e R s m args below meth c Q G B mc ms nL S ku' kv' (pc + 3) lv (r.toList ++ st)) : Z p l e R s m args below meth c Q G B mc ms nL S ku kv pc lv (As.reverse ++ .ref b :: st) := by
  refine z_run (a := (Value.ref b :: As).toArray) hu hv (fun H locs ls cells slots h1 h2 h3 h4 h5 => ?_) kk
  have r1 := hC.rf
  have r2 := hC.rl
  have r3 := hC.rc
  have r4 := hC.rs
  obtain ⟨cell, b1, b2, b3, -⟩ := va_O.kept hb h2.2.1
  refine va_runV (As := As) (C := "java/lang/String") (bytes := bytes) (maxL := maxL) (ret := ret) (n := n) ⟨hC.x, hC.b, hC.n, hC.o, hC.w⟩ hM (cwV n hC.w ?_ rfl hrc hrs hd ⟨by omega, by omega⟩) ⟨hPc.blind, ⟨cell, b1, b2, b3⟩, (fun U hU hW => ⟨rfl, by rw [hU]; exact h1, hC.a.move hW (by rw [hU]; exact h2), hφ⟩)⟩ rfl hn h3.1 rfl (lv_room hst) d ⟨by omega, by omega⟩
  intro w hw
  rcases List.mem_append.mp hw with h | h
  · simp only [List.mem_cons, List.not_mem_nil, or_false] at h
    rcases h with rfl | rfl | rfl | rfl
    · exact ⟨w1, good_of_word (aw_good _ w1)⟩
    · exact ⟨w2, good_of_word (aw_good _ w2)⟩
    · exact ⟨w3, good_of_word (aw_good _ w3)⟩
    · exact ⟨w4, good_of_word (aw_good _ w4)⟩
  · exact hws_good w5 w h
end ZV
