/-! THE FUNCTIONAL HEAP: what is known of the heap as a map of cells by address; Z: the machine from a place of a method over such a map -/
/-- the words that every method is given -/
def aw_all : List Cond := lw_tbl.filter goodWord
theorem aw_in {w : Cond} (i : Nat) (h : lw_tbl[i]? = some w) (g : goodWord w = true) : w ∈ aw_all := List.mem_filter.mpr ⟨List.mem_of_getElem? h, g⟩
theorem aw_good : ∀ w ∈ aw_all, goodWord w = true := fun _ h => (List.mem_filter.mp h).2
/-- an array: the number of its kind, its length and contents; an object: the number of its class, its fields -/
abbrev hE : Type := (Nat × vp_A) ⊕ (Nat × List Value)
abbrev hS : Type := Nat → Option hE
def hset (S : hS) (a : Nat) (e : hE) : hS := fun b => if b = a then some e else S b
theorem hset_self (S : hS) (a : Nat) (e : hE) : hset S a e a = some e := if_pos rfl
theorem hset_ne (S : hS) {a b : Nat} (e : hE) (h : b ≠ a) : hset S a e b = S b := if_neg h
/-- classes and slots; the array classes by kind; the addresses of the texts; of the static rows -/
abbrev hG : Type := va_G × (Nat → ClassId) × (Nat → Nat) × (Nat → Nat)
def htys (G : hG) : List (ClassId × FieldType) := [(G.2.1 0, .int), (G.2.1 1, .long), (G.2.1 2, .boolean), (G.2.1 3, .object RX2), (G.2.1 4, .object RX8), (G.2.1 5, .object RX10)]
def hcv (G : hG) (e : hE) : va_E := match e with
  | .inl x => .inl (G.2.1 x.1, x.2)
  | .inr o => .inr o
def Hold (G : hG) (B : Nat) (S : hS) (H : Heap) : Prop := ∃ ws : va_W, va_P G.1 vwCl ws H ∧ va_D (fun q => B ≤ q) ws ∧ ∀ (a : Nat) (e : hE), S a = some e → ∃ k : Nat, ws[k]? = some (a, hcv G e)
theorem Hold.lt {G : hG} {B : Nat} {S : hS} {H : Heap} (h : Hold G B S H) {a : Nat} {e : hE} (ha : S a = some e) : a < H.size := by
  obtain ⟨ws, h1, -, h3⟩ := h
  obtain ⟨k, hk⟩ := h3 a e ha
  exact (h1 k _ hk).lt
theorem Hold.none {G : hG} {B : Nat} {S : hS} {H : Heap} (h : Hold G B S H) {q : Nat} (hq : H.size ≤ q) : S q = none := by
  cases hs : S q with
  | none => rfl
  | some e => exact absurd (h.lt hs) (by omega)
/-- one cell of the list set: the map set -/
theorem Hold.upd {G : hG} {B : Nat} {S : hS} {H1 : Heap} {ws : va_W} {a q0 : Nat} {e0 : va_E} {e1 : hE} (h3 : ∀ (a : Nat) (e : hE), S a = some e → ∃ k : Nat, ws[k]? = some (a, hcv G e)) (hq : ws[q0]? = some (a, e0)) (hP : va_P G.1 vwCl (ws.set q0 (a, hcv G e1)) H1) (hD : va_D (fun q => B ≤ q) (ws.set q0 (a, hcv G e1))) : Hold G B (hset S a e1) H1 := by
  have hl := (List.getElem?_eq_some_iff.mp hq).1
  refine ⟨_, hP, hD, fun b e hb => ?_⟩
  by_cases hba : b = a
  · subst hba
    rw [hset_self] at hb
    cases hb
    exact ⟨q0, List.getElem?_set_self hl⟩
  · rw [hset_ne _ _ hba] at hb
    obtain ⟨k, hk⟩ := h3 b e hb
    refine ⟨k, ?_⟩
    by_cases hkq : k = q0
    · subst hkq
      rw [hq] at hk
      cases hk
      exact absurd rfl hba
    · rw [List.getElem?_set_ne (Ne.symm hkq)]
      exact hk
/-- a new cell at the list's end: the map set -/
theorem Hold.new {G : hG} {B : Nat} {S : hS} {H1 : Heap} {ws : va_W} {q : Nat} {e1 : hE} (h3 : ∀ (a : Nat) (e : hE), S a = some e → ∃ k : Nat, ws[k]? = some (a, hcv G e)) (hP : va_P G.1 vwCl (ws ++ [(q, hcv G e1)]) H1) (hD : va_D (fun q => B ≤ q) (ws ++ [(q, hcv G e1)])) (hN : S q = Option.none) : Hold G B (hset S q e1) H1 := by
  refine ⟨_, hP, hD, fun b e hb => ?_⟩
  by_cases hba : b = q
  · subst hba
    rw [hset_self] at hb
    cases hb
    exact ⟨ws.length, by simp⟩
  · rw [hset_ne _ _ hba] at hb
    obtain ⟨k, hk⟩ := h3 b e hb
    exact ⟨k, by rw [List.getElem?_append_left (List.getElem?_eq_some_iff.mp hk).1]; exact hk⟩
/-- the locals, by their places -/
abbrev hL : Type := List (Option Value)
def hprs : Nat → hL → List (Nat × Value)
  | _, [] => []
  | n, none :: l => hprs (n + 1) l
  | n, some v :: l => (n, v) :: hprs (n + 1) l
theorem hprs_mem : ∀ (l : hL) (n : Nat) (q : Nat × Value), q ∈ hprs n l ↔ ∃ i, q.1 = n + i ∧ l[i]? = some (some q.2)
  | [], n, q => by simp [hprs]
  | none :: l, n, q => by
    rw [hprs, hprs_mem l (n + 1) q]
    constructor
    · rintro ⟨i, h1, h2⟩
      exact ⟨i + 1, by omega, by simpa using h2⟩
    · rintro ⟨i, h1, h2⟩
      cases i with
      | zero => simp at h2
      | succ i => exact ⟨i, by omega, by simpa using h2⟩
  | some v :: l, n, q => by
    rw [hprs, List.mem_cons, hprs_mem l (n + 1) q]
    constructor
    · rintro (rfl | ⟨i, h1, h2⟩)
      · exact ⟨0, rfl, by simp⟩
      · exact ⟨i + 1, by omega, by simpa using h2⟩
    · rintro ⟨i, h1, h2⟩
      cases i with
      | zero =>
        left
        obtain ⟨a, b⟩ := q
        simp at h2 h1
        rw [h1, h2]
      | succ i => exact Or.inr ⟨i, by omega, by simpa using h2⟩
def hlv (ls : Array Slot) (nL : Nat) (lv : hL) : Prop := lv_has ls nL (hprs 0 lv)
theorem hlv.at {ls : Array Slot} {nL : Nat} {lv : hL} (h : hlv ls nL lv) {i : Nat} {v : Value} (hi : lv[i]? = some (some v)) : ls[i]? = some (.val v) :=
  h.2.2 (i, v) ((hprs_mem lv 0 (i, v)).mpr ⟨i, by simp, hi⟩)
/-- what is dropped is dropped -/
def hmask (ms : List Bool) (lv : hL) : hL := List.zipWith (fun b v => if b then v else none) ms lv
theorem hlv.le {ls : Array Slot} {nL : Nat} {lv lv' : hL} (h : hlv ls nL lv) (hle : ∀ (i : Nat) (v : Value), lv'[i]? = some (some v) → lv[i]? = some (some v)) : hlv ls nL lv' := by
  refine ⟨h.1, h.2.1, fun q hq => ?_⟩
  obtain ⟨i, h1, h2⟩ := (hprs_mem lv' 0 q).mp hq
  exact h.2.2 q ((hprs_mem lv 0 q).mpr ⟨i, h1, hle i _ h2⟩)
theorem hmask_le (ms : List Bool) (lv : hL) (i : Nat) (v : Value) (h : (hmask ms lv)[i]? = some (some v)) : lv[i]? = some (some v) := by
  rw [hmask, List.getElem?_zipWith] at h
  cases h1 : ms[i]? with
  | none => rw [h1] at h; simp at h
  | some b =>
    cases h2 : lv[i]? with
    | none => rw [h1, h2] at h; simp at h
    | some w =>
      rw [h1, h2] at h
      cases b with
      | true => simpa using h
      | false => simp at h
/-- the place ahead holds no long -/
def hok1 (lv : hL) : Nat → Prop
  | 0 => True
  | i + 1 => ∀ w : Value, lv[i]? = some (some w) → w.category = 1
theorem hlv.st1 {ls : Array Slot} {nL : Nat} {lv : hL} {i : Nat} {v : Value} (h : hlv ls nL lv) (hi : i < nL) (hc : v.category = 1) (ho : hok1 lv i) : ∃ ls', storeLocals ls i v = some ls' ∧ hlv ls' nL (lv.set i (some v)) := by
  obtain ⟨ls', e, h'⟩ := lv_store1 (v := v) h hi hc
  refine ⟨ls', e, h'.1, h'.2.1, fun q hq => h'.2.2 q ?_⟩
  obtain ⟨j, h1, h2⟩ := (hprs_mem _ 0 q).mp hq
  have hj : q.1 = j := by omega
  by_cases hji : j = i
  · have hb : i < lv.length := by
      have := (List.getElem?_eq_some_iff.mp h2).1
      rw [List.length_set] at this
      omega
    rw [hji, List.getElem?_set_self hb] at h2
    have : q = (i, v) := by
      obtain ⟨a, b⟩ := q
      simp at h2 hj
      rw [hj, hji, h2]
    rw [this]
    exact List.mem_cons_self
  · rw [List.getElem?_set_ne (Ne.symm hji)] at h2
    refine List.mem_cons_of_mem _ (List.mem_filter.mpr ⟨(hprs_mem lv 0 q).mpr ⟨j, h1, h2⟩, ?_⟩)
    have h3 : ¬ (q.1 + 1 = i ∧ q.2.category = 2) := by
      rintro ⟨h4, h5⟩
      rw [← h4] at ho
      have := ho q.2 (by rw [hj]; exact h2)
      omega
    rw [hj] at h3 ⊢
    simp [hji]
    omega
theorem hlv.st2 {ls : Array Slot} {nL : Nat} {lv : hL} {i : Nat} {v : Value} (h : hlv ls nL lv) (hi : i + 1 < nL) (hc : v.category = 2) (ho : hok1 lv i) : ∃ ls', storeLocals ls i v = some ls' ∧ hlv ls' nL ((lv.set i (some v)).set (i + 1) none) := by
  obtain ⟨ls', e, h'⟩ := lv_store2 (v := v) h hi hc
  refine ⟨ls', e, h'.1, h'.2.1, fun q hq => h'.2.2 q ?_⟩
  obtain ⟨j, h1, h2⟩ := (hprs_mem _ 0 q).mp hq
  have hj : q.1 = j := by omega
  have hji1 : j ≠ i + 1 := by
    rintro rfl
    have hb := (List.getElem?_eq_some_iff.mp h2).1
    rw [List.length_set] at hb
    rw [List.getElem?_set_self hb] at h2
    simp at h2
  rw [List.getElem?_set_ne (Ne.symm hji1)] at h2
  by_cases hji : j = i
  · have hb : i < lv.length := by
      have := (List.getElem?_eq_some_iff.mp h2).1
      rw [List.length_set] at this
      omega
    rw [hji, List.getElem?_set_self hb] at h2
    have : q = (i, v) := by
      obtain ⟨a, b⟩ := q
      simp at h2 hj
      rw [hj, hji, h2]
    rw [this]
    exact List.mem_cons_self
  · rw [List.getElem?_set_ne (Ne.symm hji)] at h2
    refine List.mem_cons_of_mem _ (List.mem_filter.mpr ⟨(hprs_mem lv 0 q).mpr ⟨j, h1, h2⟩, ?_⟩)
    have h3 : ¬ (q.1 + 1 = i ∧ q.2.category = 2) := by
      rintro ⟨h4, h5⟩
      rw [← h4] at ho
      have := ho q.2 (by rw [hj]; exact h2)
      omega
    rw [hj] at h3 ⊢
    simp [hji, hji1]
    omega
/-- the links of nest mates -/
def hNst : List (String × Nat × MethodName × String) := [("BellHeirs", 9, ⟨"BellHeirs$Suburb", "<init>", "()V"⟩, "BellHeirs"), ("BellHeirs$Suburb", 11, ⟨"BellHeirs$Ledger", "<init>", "()V"⟩, "BellHeirs"), ("BellHeirs", 25, ⟨"BellHeirs$Log", "<init>", "()V"⟩, "BellHeirs"), ("BellHeirs", 32, ⟨"BellHeirs$Tape", "<init>", "()V"⟩, "BellHeirs"), ("BellHeirs", 48, ⟨"BellHeirs$Asker", "<init>", "()V"⟩, "BellHeirs"), ("BellHeirs$Asker", 11, ⟨"BellHeirs$Scale", "<init>", "()V"⟩, "BellHeirs"), ("BellHeirs$Deeds", 11, ⟨"BellHeirs$Scale", "<init>", "()V"⟩, "BellHeirs"), ("BellHeirs", 64, ⟨"BellHeirs$Plans", "<init>", "()V"⟩, "BellHeirs"), ("BellHeirs", 71, ⟨"BellHeirs$Shares", "<init>", "()V"⟩, "BellHeirs"), ("BellHeirs$Suburb", 87, ⟨"BellHeirs", "slot", "(II)I"⟩, "BellHeirs"), ("BellHeirs$Suburb", 104, ⟨"BellHeirs", "hasBit", "(II)Z"⟩, "BellHeirs"), ("BellHeirs$Log", 28, ⟨"BellHeirs$Ledger", "<init>", "()V"⟩, "BellHeirs"), ("BellHeirs$Deeds", 75, ⟨"BellHeirs", "slot", "(II)I"⟩, "BellHeirs"), ("BellHeirs$Plans", 71, ⟨"BellHeirs", "stepsBetween", "(II)I"⟩, "BellHeirs"), ("BellHeirs$Plans", 75, ⟨"BellHeirs", "hasBit", "(II)Z"⟩, "BellHeirs"), ("BellHeirs$Suburb", 129, ⟨"BellHeirs", "stepsBetween", "(II)I"⟩, "BellHeirs"), ("BellHeirs$Shares", 41, ⟨"BellHeirs", "hasBit", "(II)Z"⟩, "BellHeirs")]
/-- the texts: who loads them, their entry, the text, its bytes -/
def hTxs : List (String × Nat × String × List Nat) := [("BellHeirs$Reader", 73, "tires", [116, 105, 114, 101, 115]), ("BellHeirs$Reader", 79, "costs", [99, 111, 115, 116, 115]), ("BellHeirs$Reader", 81, "worth", [119, 111, 114, 116, 104]), ("BellHeirs$Reader", 83, "opens", [111, 112, 101, 110, 115]), ("BellHeirs$Reader", 85, "bars", [98, 97, 114, 115]), ("BellHeirs$Reader", 180, "person", [112, 101, 114, 115, 111, 110]), ("BellHeirs$Reader", 182, "age", [97, 103, 101]), ("BellHeirs$Reader", 184, "purse", [112, 117, 114, 115, 101]), ("BellHeirs$Reader", 186, "house", [104, 111, 117, 115, 101]), ("BellHeirs$Reader", 188, "weary", [119, 101, 97, 114, 121]), ("BellHeirs$Reader", 190, "left", [108, 101, 102, 116]), ("BellHeirs$Reader", 192, "year", [121, 101, 97, 114]), ("BellHeirs$Reader", 103, "to", [116, 111]), ("BellHeirs$Reader", 194, "mood", [109, 111, 111, 100]), ("BellHeirs$Reader", 196, "done", [100, 111, 110, 101]), ("BellHeirs$Reader", 198, "latest", [108, 97, 116, 101, 115, 116]), ("BellHeirs$Reader", 200, "living", [108, 105, 118, 105, 110, 103]), ("BellHeirs$Reader", 126, "if", [105, 102]), ("BellHeirs$Reader", 148, "not", [110, 111, 116]), ("BellHeirs$Reader", 146, "and", [97, 110, 100]), ("BellHeirs$Reader", 134, "or", [111, 114]), ("BellHeirs$Reader", 87, "ring", [114, 105, 110, 103]), ("BellHeirs$Reader", 92, "at", [97, 116]), ("BellHeirs$Reader", 114, "times", [116, 105, 109, 101, 115]), ("BellHeirs$Reader", 101, "sell", [115, 101, 108, 108]), ("BellHeirs$Reader", 105, "of", [111, 102]), ("BellHeirs$Reader", 107, "die", [100, 105, 101]), ("BellHeirs$Reader", 109, "pass", [112, 97, 115, 115])]
def hTx1 (G : hG) (B : Nat) (U : State) (H : Heap) (i : Nat) (r : String × Nat × String × List Nat) : Prop := vk_R r.1 r.2.1 r.2.2.1 (G.2.2.1 i) U ∧ va_O "java/lang/String" (G.2.2.1 i) (fun q => B ≤ q) U H ∧ va_OF "java/lang/String" "coder" "B" (.int 0) (G.2.2.1 i) (fun q => B ≤ q) U H ∧ va_OF "java/lang/String" "value" "[B" (.ref (G.2.2.2 (i + 10))) (G.2.2.1 i) (fun q => B ≤ q) U H ∧ va_T .byte (G.2.2.2 (i + 10)) r.2.2.2.length (fun j => .int (nI (r.2.2.2.getD j 0))) (fun q => B ≤ q) U H
/-- the static rows of the class -/
def hSts : List (String × List Nat) := [("WITHOUT", [1, 5, 10]), ("AT_MOST", [20, 999, 99])]
def hSt1 (G : hG) (B : Nat) (U : State) (H : Heap) (i : Nat) (r : String × List Nat) : Prop := va_Z "BellHeirs$Asker" r.1 "[I" (.ref (G.2.2.2 i)) (fun q => B ≤ q) U H ∧ va_T .int (G.2.2.2 i) r.2.length (fun j => .int (nI (r.2.getD j 0))) (fun q => B ≤ q) U H
/-- what is known of texts and static rows -/
def hTx (G : hG) (B : Nat) (U : State) : Prop := (∀ (i : Nat) (r : String × Nat × String × List Nat), hTxs[i]? = some r → hTx1 G B U U.heap i r) ∧ va_Z "java/lang/String" "COMPACT_STRINGS" "Z" (.int 1) (fun q => B ≤ q) U U.heap ∧ (∀ (i : Nat) (r : String × List Nat), hSts[i]? = some r → hSt1 G B U U.heap i r) ∧ ∃ r : Option Nat, va_Z "jdk/internal/util/Preconditions" "SIOOBE_FORMATTER" "Ljava/util/function/BiFunction;" (va_rf r) (fun q => B ≤ q) U U.heap
theorem hTx.go {G : hG} {B : Nat} {s U : State} (hR : ∀ own k tx a, vk_R own k tx a s → vk_R own k tx a U) (hvm : s.vm.Alike U.vm) (hq : ∀ a : Nat, a < s.heap.size → ¬ (fun q => B ≤ q) a → U.heap[a]? = s.heap[a]?) (h : hTx G B s) : hTx G B U := by
  obtain ⟨h1, h2, h3, r0, h4⟩ := h
  refine ⟨fun i r hr => ?_, va_Z.kept (va_Z.moved hvm h2) hq, fun i r hr => ?_, r0, va_Z.kept (va_Z.moved hvm h4) hq⟩
  · obtain ⟨g1, g2, g3, g4, g5⟩ := h1 i r hr
    exact ⟨hR _ _ _ _ g1, va_O.kept (va_O.moved hvm g2) hq, va_OF.kept (va_OF.moved hvm g3) hq, va_OF.kept (va_OF.moved hvm g4) hq, va_T.kept (va_T.moved hvm g5) hq⟩
  · obtain ⟨g1, g2⟩ := h3 i r hr
    exact ⟨va_Z.kept (va_Z.moved hvm g1) hq, va_T.kept (va_T.moved hvm g2) hq⟩
theorem hTx.move {G : hG} {B : Nat} {s U : State} {locs : List Loc} (hW : s.WarmedH U.vm) (hS : va_S (fun q => B ≤ q) s.heap U.heap locs) (h : hTx G B s) : hTx G B U := hTx.go (fun _ _ _ _ g => vk_R.warm hW g) hW.alike hS.2.1 h
theorem hTx.blind {G : hG} {B : Nat} {U V : State} (hv : V.vm = U.vm) (hh : V.heap = U.heap) (h : hTx G B U) : hTx G B V := hTx.go (fun _ _ _ _ g => vk_R.same hv g) (by rw [hv]; exact Vm.Alike.refl _) (fun a _ _ => by rw [hh]) h
/-- what a method is given beside its arguments -/
def hAmb (G : hG) (B : Nat) (U : State) : Prop := va_K G.1 vwCl (htys G) U ∧ B ≤ U.heap.size ∧ (∀ q ∈ hNst, va_Nw (.methodLinkNest q.1 q.2.1 q.2.2.1 q.2.2.2) U) ∧ (va_AO RX2 U ∧ va_AO RX8 U ∧ va_AO RX10 U) ∧ hTx G B U
theorem hAmb.move {G : hG} {B : Nat} {s U : State} {locs : List Loc} (hW : s.WarmedH U.vm) (hS : va_S (fun q => B ≤ q) s.heap U.heap locs) (h : hAmb G B s) : hAmb G B U :=
  ⟨va_K.moved hW.alike h.1, Nat.le_trans h.2.1 hS.1, fun q hq => va_Nw.warmM hW (h.2.2.1 q hq), ⟨va_AO.moved hW.alike h.2.2.2.1.1, va_AO.moved hW.alike h.2.2.2.1.2.1, va_AO.moved hW.alike h.2.2.2.1.2.2⟩, hTx.move hW hS h.2.2.2.2⟩
theorem hAmb.blind {G : hG} {B : Nat} {U V : State} (hv : V.vm = U.vm) (hh : V.heap = U.heap) (h : hAmb G B U) : hAmb G B V :=
  ⟨va_K.moved (by rw [hv]; exact Vm.Alike.refl _) h.1, by rw [hh]; exact h.2.1, fun q hq => va_Nw.same rfl hv.symm (h.2.2.1 q hq), ⟨va_AO.moved (by rw [hv]; exact Vm.Alike.refl _) h.2.2.2.1.1, va_AO.moved (by rw [hv]; exact Vm.Alike.refl _) h.2.2.2.1.2.1, va_AO.moved (by rw [hv]; exact Vm.Alike.refl _) h.2.2.2.1.2.2⟩, hTx.blind hv hh h.2.2.2.2⟩
def zC (p : Program) (R : Room) (s : State) (m : MethodId) (args : Array Value) (c : Code) (cc : ByteArray) (nL : Nat) (own : String) (G : hG) (B mc ms fr lo : Nat) : Prop :=
  p.tables.exec = Jvm.exec ∧ c.code = cc ∧ c.maxLocals = nL ∧ s.vm.findClass own = some m.cls ∧ (∀ w ∈ aw_all, w.before args s = true) ∧ hAmb G B s ∧ mc ≤ R.cells ∧ ms ≤ R.slots ∧ fr ≤ R.frames ∧ lo ≤ R.locals
section ZCA
variable {p : Program} {R : Room} {s : State} {m : MethodId} {args : Array Value} {c : Code} {cc : ByteArray} {nL : Nat} {own : String} {G : hG} {B mc ms fr lo : Nat}
theorem zC.x (h : zC p R s m args c cc nL own G B mc ms fr lo) : p.tables.exec = Jvm.exec := h.1
theorem zC.b (h : zC p R s m args c cc nL own G B mc ms fr lo) : c.code = cc := h.2.1
theorem zC.n (h : zC p R s m args c cc nL own G B mc ms fr lo) : c.maxLocals = nL := h.2.2.1
theorem zC.o (h : zC p R s m args c cc nL own G B mc ms fr lo) : s.vm.findClass own = some m.cls := h.2.2.2.1
theorem zC.w (h : zC p R s m args c cc nL own G B mc ms fr lo) : ∀ w ∈ aw_all, w.before args s = true := h.2.2.2.2.1
theorem zC.a (h : zC p R s m args c cc nL own G B mc ms fr lo) : hAmb G B s := h.2.2.2.2.2.1
theorem zC.rc (h : zC p R s m args c cc nL own G B mc ms fr lo) : mc ≤ R.cells := h.2.2.2.2.2.2.1
theorem zC.rs (h : zC p R s m args c cc nL own G B mc ms fr lo) : ms ≤ R.slots := h.2.2.2.2.2.2.2.1
theorem zC.rf (h : zC p R s m args c cc nL own G B mc ms fr lo) : fr ≤ R.frames := h.2.2.2.2.2.2.2.2.1
theorem zC.rl (h : zC p R s m args c cc nL own G B mc ms fr lo) : lo ≤ R.locals := h.2.2.2.2.2.2.2.2.2
end ZCA
/-- the machine at place pc of a method, the map S, the locals lv, the stack st, ku cells and kv slots still to be made: it comes to Q -/
def Z (p : Program) (l : Launch) (e : Env) (R : Room) (s : State) (m : MethodId) (args : Array Value) (below : List Frame) (meth : Method) (c : Code) (Q : State → Prop) (G : hG) (B mc ms nL : Nat) (S : hS) (ku kv pc : Nat) (lv : hL) (st : List Value) : Prop :=
  ∀ (H : Heap) (locs : List Loc) (ls : Array Slot) (cells slots : Nat), Hold G B S H → va_S (fun q => B ≤ q) s.heap H locs → hlv ls nL lv → cells + ku ≤ mc → slots + kv ≤ ms → W p l e R s m args below meth c H locs cells slots Q (F0 m pc ls st)
/-- a class of the table: its fields' words, types, names -/
def hF (ci : Nat) (C : String) (T : u_T) (N : Nat) (ty : Nat → FieldType) : Prop := vwCl[ci]? = some (C, T, N) ∧ (∀ w ∈ u_ws C T N, w ∈ aw_all) ∧ (∀ k, k < N → parseFieldDescriptor (T k).2.2.1 = some (ty k)) ∧ ∀ a, a < N → ∀ b, b < N → a ≠ b → (T a).2.1 ≠ (T b).2.1
