/-! the law's own rows: the script, its end -/
def scr (L : Nat) (xs : Nat → Int32) (i : Int32) (P : Int32 → Prop) : Prop := vp_in i L ∧ P (xs i.toNatClampNeg)
section ZL
variable {p : Program} {l : Launch} {e : Env} {R : Room} {s : State} {m : MethodId} {args : Array Value} {below : List Frame} {meth : Method} {c : Code} {Q : State → Prop} {G : hG} {B mc ms nL fr lo : Nat} {cc : ByteArray} {own : String} {S : hS} {ku kv pc : Nat} {lv : hL} {st : List Value}
theorem z_sld (hC : zC p R s m args c cc nL own G B mc ms fr lo) {b L : Nat} {xs : Nat → Int32} (hX : va_X b L xs s s.heap) (hbl : b < s.heap.size) (hBs : B = s.heap.size) {i : Int32} (d : decode cc pc = .ok (.iaload, 1)) {P : Int32 → Prop} (hw : scr L xs i P) (kk : ∀ x : Int32, P x → Z p l e R s m args below meth c Q G B mc ms nL S ku kv (pc + 1) lv (.int x :: st)) : Z p l e R s m args below meth c Q G B mc ms nL S ku kv pc lv (.int i :: .ref b :: st) :=
  fun H locs ls cells slots h1 h2 h3 h4 h5 => va_sld hC.x hC.b hX hbl (show ¬ B ≤ b by omega) h2 hw.1 d (kk _ hw.2 H locs ls cells slots h1 h2 h3 h4 h5)
theorem z_slen (hC : zC p R s m args c cc nL own G B mc ms fr lo) {b L : Nat} {xs : Nat → Int32} (hX : va_X b L xs s s.heap) (hbl : b < s.heap.size) (hBs : B = s.heap.size) (d : decode cc pc = .ok (.arraylength, 1)) (k : Z p l e R s m args below meth c Q G B mc ms nL S ku kv (pc + 1) lv (.int (Int32.ofNat L) :: st)) : Z p l e R s m args below meth c Q G B mc ms nL S ku kv pc lv (.ref b :: st) :=
  fun H locs ls cells slots h1 h2 h3 h4 h5 => va_slen hC.x hC.b hX hbl (show ¬ B ≤ b by omega) h2 d (k H locs ls cells slots h1 h2 h3 h4 h5)
theorem z_lawret {b : Nat} (hC : zC p room_1 s m #[Value.ref b] c cL_law nL own G B mc ms fr lo) (hr : meth.sig.returnType = ret) (hlk : meth.locks = false) (hBs : B = s.heap.size) (hmc : mc ≤ 600000) (hms : ms ≤ 7302250) {x : Int32} (d : decode cL_law pc = .ok (.ireturn, 1)) (hw : x = 1) : Z p l e room_1 s m #[Value.ref b] below meth c (lw_Z below #[Value.ref b] s) G B mc ms nL S ku kv pc lv [.int x] := by
  subst hw
  intro H locs ls cells slots h1 h2 h3 h4 h5
  refine va_forget (fun q hq => hBs ▸ h2.2.2 q hq) ?_
  refine W.widen (k := 600000) (n := 7302250) (by omega) (by omega) ?_
  exact lw_ret hC.x hC.b hr hlk d
end ZL
section
variable {p : Program} {l : Launch} {e : Env} {s : State} {m : MethodId} {below : List Frame} {meth : Method} {c : Code} {G : hG} {B mc ms : Nat} {b0 L : Nat} {xs : Nat → Int32}
def w_L_law_b1415 (tx : Nat → Nat) (L : Nat) (xs : Nat → Int32) (q : Unit) (K18 : hS → Nat → (Nat) → (Nat) → (Int32) → Prop) (S : hS) (u : Nat) (v1 : Nat) (v2 : Nat) (v3 : Int32) : Prop := ∀ y1415 : Int32, y1415 = v3 + 6 → K18 S u v1 v2 y1415
set_option maxRecDepth 100000 in
set_option maxHeartbeats 8000000 in
theorem t_L_law_b1415 (hC : zC p room_1 s m #[Value.ref b0] c cL_law 4 RL G B mc ms 76 1794) (hr : meth.sig.returnType = ret) (hlk : meth.locks = false) (hX : va_X b0 L xs s s.heap) (hbl : b0 < s.heap.size) (hBs : B = s.heap.size) (hmc : mc ≤ 600000) (hms : ms ≤ 7302250) {q : Unit} {K18 : hS → Nat → (Nat) → (Nat) → (Int32) → Prop} (hK18 : ∀ {S : hS} {u : Nat} {v1 : Nat} {v2 : Nat} {v3 : Int32}, K18 S u v1 v2 v3 → Z p l e room_1 s m #[Value.ref b0] below meth c (lw_Z below #[Value.ref b0] s) G B mc ms 4 S (80 * u) (1856 * u) 18 [some (.ref b0), some (.ref v1), some (.ref v2), some (.int v3)] []) {S : hS} {u : Nat} {v1 : Nat} {v2 : Nat} {v3 : Int32} (hw : w_L_law_b1415 G.2.2.1 L xs q K18 S u v1 v2 v3) : Z p l e room_1 s m #[Value.ref b0] below meth c (lw_Z below #[Value.ref b0] s) G B mc ms 4 S (80 * u) (1856 * u) 1415 [some (.ref b0), some (.ref v1), some (.ref v2), some (.int v3)] [] := by
  unfold w_L_law_b1415 at hw
  refine z_inc (i := 3) hC ic_6 dL_law_1415 rfl (by decide) (hok_v rfl rfl) (fun y1415 e1415 => ?_)
  have hw := hw y1415 e1415
  refine z_goto (tgt := 18) hC dL_law_1418 (by decide) ?_
  refine z_mask (lv' := [some (.ref b0), some (.ref v1), some (.ref v2), some (.int y1415)]) [true, true, true, true] rfl ?_
  exact hK18 hw
def w_L_law_b18 (tx : Nat → Nat) (L : Nat) (xs : Nat → Int32) (q : Unit) : Nat → hS → Nat → (Nat) → (Nat) → (Int32) → Prop
  | 0, _, _, _, _, _ => False
  | n + 1, S, u, v1, v2, v3 => (((Int32.ofNat L) - 6) < v3 → (1 : Int32) = 1) ∧ (¬ ((Int32.ofNat L) - 6) < v3 → scr L xs v3 (fun x29 => ∀ y33 : Int32, y33 = (x29 &&& 63) → ((y33.toInt = 0 → scr L xs (v3 + 1) (fun x217 => scr L xs (v3 + 2) (fun x222 => oK S v1 11 ∧ w_X11_house (fun x223 S => scr L xs (v3 + 1) (fun x232 => scr L xs (v3 + 2) (fun x237 => oK S v2 12 ∧ w_X12_house (fun x238 S => w_L_law_b1415 tx L xs q (fun S u v1 v2 v3 => w_L_law_b18 tx L xs q n S u v1 v2 v3) S u v1 v2 v3) S v2 x232 x237))) S v1 x217 x222))) ∧ (y33.toInt = 1 → scr L xs (v3 + 1) (fun x250 => scr L xs (v3 + 2) (fun x255 => oK S v1 11 ∧ w_X11_at (fun x256 S => scr L xs (v3 + 1) (fun x265 => scr L xs (v3 + 2) (fun x270 => oK S v2 12 ∧ w_X12_at (fun x271 S => w_L_law_b1415 tx L xs q (fun S u v1 v2 v3 => w_L_law_b18 tx L xs q n S u v1 v2 v3) S u v1 v2 v3) S v2 x265 x270))) S v1 x250 x255))) ∧ (y33.toInt = 2 → scr L xs (v3 + 1) (fun x283 => scr L xs (v3 + 2) (fun x288 => scr L xs (v3 + 3) (fun x293 => oK S v1 11 ∧ w_X11_person (fun x294 S => scr L xs (v3 + 1) (fun x303 => scr L xs (v3 + 2) (fun x308 => scr L xs (v3 + 3) (fun x313 => oK S v2 12 ∧ w_X12_person (fun x314 S => w_L_law_b1415 tx L xs q (fun S u v1 v2 v3 => w_L_law_b18 tx L xs q n S u v1 v2 v3) S u v1 v2 v3) S v2 x303 x308 x313)))) S v1 x283 x288 x293)))) ∧ (y33.toInt = 3 → scr L xs (v3 + 1) (fun x326 => scr L xs (v3 + 2) (fun x331 => oK S v1 11 ∧ w_X11_of (fun x332 S => scr L xs (v3 + 1) (fun x341 => scr L xs (v3 + 2) (fun x346 => oK S v2 12 ∧ w_X12_of (fun x347 S => w_L_law_b1415 tx L xs q (fun S u v1 v2 v3 => w_L_law_b18 tx L xs q n S u v1 v2 v3) S u v1 v2 v3) S v2 x341 x346))) S v1 x326 x331))) ∧ (y33.toInt = 4 → scr L xs (v3 + 1) (fun x359 => scr L xs (v3 + 2) (fun x364 => oK S v1 11 ∧ w_X11_want (fun x365 S => scr L xs (v3 + 1) (fun x374 => scr L xs (v3 + 2) (fun x379 => oK S v2 12 ∧ w_X12_want (fun x380 S => w_L_law_b1415 tx L xs q (fun S u v1 v2 v3 => w_L_law_b18 tx L xs q n S u v1 v2 v3) S u v1 v2 v3) S v2 x374 x379))) S v1 x359 x364))) ∧ (y33.toInt = 5 → scr L xs (v3 + 1) (fun x392 => scr L xs (v3 + 2) (fun x397 => oK S v1 11 ∧ w_X11_will (fun x398 S => scr L xs (v3 + 1) (fun x407 => scr L xs (v3 + 2) (fun x412 => oK S v2 12 ∧ w_X12_will (fun x413 S => w_L_law_b1415 tx L xs q (fun S u v1 v2 v3 => w_L_law_b18 tx L xs q n S u v1 v2 v3) S u v1 v2 v3) S v2 x407 x412))) S v1 x392 x397))) ∧ (y33.toInt = 6 → scr L xs (v3 + 1) (fun x425 => scr L xs (v3 + 2) (fun x430 => scr L xs (v3 + 3) (fun x435 => oK S v1 11 ∧ w_X11_right (fun x436 S => scr L xs (v3 + 1) (fun x445 => scr L xs (v3 + 2) (fun x450 => scr L xs (v3 + 3) (fun x455 => oK S v2 12 ∧ w_X12_right (fun x456 S => w_L_law_b1415 tx L xs q (fun S u v1 v2 v3 => w_L_law_b18 tx L xs q n S u v1 v2 v3) S u v1 v2 v3) S v2 x445 x450 x455)))) S v1 x425 x430 x435)))) ∧ (y33.toInt = 7 → scr L xs (v3 + 1) (fun x468 => scr L xs (v3 + 2) (fun x473 => scr L xs (v3 + 3) (fun x478 => oK S v1 11 ∧ w_X11_has (fun x479 S => scr L xs (v3 + 1) (fun x488 => scr L xs (v3 + 2) (fun x493 => scr L xs (v3 + 3) (fun x498 => oK S v2 12 ∧ w_X12_has (fun x499 S => w_L_law_b1415 tx L xs q (fun S u v1 v2 v3 => w_L_law_b18 tx L xs q n S u v1 v2 v3) S u v1 v2 v3) S v2 x488 x493 x498)))) S v1 x468 x473 x478)))) ∧ (y33.toInt = 8 → scr L xs (v3 + 1) (fun x511 => scr L xs (v3 + 2) (fun x516 => scr L xs (v3 + 3) (fun x521 => scr L xs (v3 + 4) (fun x526 => oK S v1 11 ∧ w_X11_asks (fun x527 S => scr L xs (v3 + 1) (fun x536 => scr L xs (v3 + 2) (fun x541 => scr L xs (v3 + 3) (fun x546 => scr L xs (v3 + 4) (fun x551 => oK S v2 12 ∧ w_X12_asks (fun x552 S => w_L_law_b1415 tx L xs q (fun S u v1 v2 v3 => w_L_law_b18 tx L xs q n S u v1 v2 v3) S u v1 v2 v3) S v2 x536 x541 x546 x551))))) S v1 x511 x516 x521 x526))))) ∧ (y33.toInt = 9 → scr L xs (v3 + 1) (fun x564 => scr L xs (v3 + 2) (fun x569 => oK S v1 11 ∧ w_X11_terms (fun x570 S => scr L xs (v3 + 1) (fun x579 => scr L xs (v3 + 2) (fun x584 => oK S v2 12 ∧ w_X12_terms (fun x585 S => w_L_law_b1415 tx L xs q (fun S u v1 v2 v3 => w_L_law_b18 tx L xs q n S u v1 v2 v3) S u v1 v2 v3) S v2 x579 x584))) S v1 x564 x569))) ∧ (y33.toInt = 10 → scr L xs (v3 + 1) (fun x597 => scr L xs (v3 + 2) (fun x602 => scr L xs (v3 + 3) (fun x607 => scr L xs (v3 + 4) (fun x612 => scr L xs (v3 + 5) (fun x617 => oK S v1 11 ∧ w_X11_feed (fun x618 S => scr L xs (v3 + 1) (fun x627 => scr L xs (v3 + 2) (fun x632 => scr L xs (v3 + 3) (fun x637 => scr L xs (v3 + 4) (fun x642 => scr L xs (v3 + 5) (fun x647 => oK S v2 12 ∧ w_X12_feed (fun x648 S => w_L_law_b1415 tx L xs q (fun S u v1 v2 v3 => w_L_law_b18 tx L xs q n S u v1 v2 v3) S u v1 v2 v3) S v2 x627 x632 x637 x642 x647)))))) S v1 x597 x602 x607 x612 x617)))))) ∧ (y33.toInt = 11 → scr L xs (v3 + 1) (fun x660 => oK S v1 11 ∧ w_X11_end (fun x661 S => scr L xs (v3 + 1) (fun x670 => oK S v2 12 ∧ w_X12_end (fun x671 S => w_L_law_b1415 tx L xs q (fun S u v1 v2 v3 => w_L_law_b18 tx L xs q n S u v1 v2 v3) S u v1 v2 v3) S v2 x670)) S v1 x660)) ∧ (y33.toInt = 12 → oK S v1 11 ∧ w_X11_row (fun x679 S => oK S v2 12 ∧ w_X12_row (fun x684 S => w_L_law_b1415 tx L xs q (fun S u v1 v2 v3 => w_L_law_b18 tx L xs q n S u v1 v2 v3) S u v1 v2 v3) S v2) S v1) ∧ (y33.toInt = 13 → oK S v1 11 ∧ w_X11_rust (fun x692 S => oK S v2 12 ∧ w_X12_rust (fun x697 S => w_L_law_b1415 tx L xs q (fun S u v1 v2 v3 => w_L_law_b18 tx L xs q n S u v1 v2 v3) S u v1 v2 v3) S v2) S v1) ∧ (y33.toInt = 14 → ∃ u705 : Nat, u = u705 + 1 ∧ oK S v1 11 ∧ w_X11_law tx (fun x705 S => oK S v2 12 ∧ w_X12_law (fun x710 S => w_L_law_b1415 tx L xs q (fun S u v1 v2 v3 => w_L_law_b18 tx L xs q n S u v1 v2 v3) S u705 v1 v2 v3) S v2) S v1) ∧ (y33.toInt = 15 → ∃ u718 : Nat, u = u718 + 1 ∧ oK S v1 11 ∧ w_X11_orders tx (fun x718 S => oK S v2 12 ∧ w_X12_orders (fun x723 S => w_L_law_b1415 tx L xs q (fun S u v1 v2 v3 => w_L_law_b18 tx L xs q n S u v1 v2 v3) S u718 v1 v2 v3) S v2) S v1) ∧ (y33.toInt = 16 → oK S v1 11 ∧ w_X11_fault (fun x731 S => oK S v2 12 ∧ w_X12_fault (fun x735 S => (x731 = x735 → w_L_law_b1415 tx L xs q (fun S u v1 v2 v3 => w_L_law_b18 tx L xs q n S u v1 v2 v3) S u v1 v2 v3) ∧ (¬ x731 = x735 → (0 : Int32) = 1)) S v2) S v1) ∧ (y33.toInt = 17 → oK S v1 11 ∧ w_X11_stopped (fun x744 S => oK S v2 12 ∧ w_X12_stopped (fun x749 S => w_L_law_b1415 tx L xs q (fun S u v1 v2 v3 => w_L_law_b18 tx L xs q n S u v1 v2 v3) S u v1 v2 v3) S v2) S v1) ∧ (y33.toInt = 18 → scr L xs (v3 + 1) (fun x761 => oK S v1 11 ∧ w_X11_force (fun x762 S => scr L xs (v3 + 1) (fun x771 => oK S v2 12 ∧ w_X12_force (fun x772 S => w_L_law_b1415 tx L xs q (fun S u v1 v2 v3 => w_L_law_b18 tx L xs q n S u v1 v2 v3) S u v1 v2 v3) S v2 x771)) S v1 x761)) ∧ (y33.toInt = 19 → scr L xs (v3 + 1) (fun x784 => scr L xs (v3 + 2) (fun x789 => ∃ u790 : Nat, u = u790 + 1 ∧ oK S v1 11 ∧ w_X11_ring (fun x790 S => scr L xs (v3 + 1) (fun x799 => scr L xs (v3 + 2) (fun x804 => oK S v2 12 ∧ w_X12_ring (fun x805 S => w_L_law_b1415 tx L xs q (fun S u v1 v2 v3 => w_L_law_b18 tx L xs q n S u v1 v2 v3) S u790 v1 v2 v3) S v2 x799 x804))) S v1 x784 x789))) ∧ (y33.toInt = 20 → scr L xs (v3 + 1) (fun x817 => scr L xs (v3 + 2) (fun x822 => scr L xs (v3 + 3) (fun x827 => ∃ u828 : Nat, u = u828 + 1 ∧ oK S v1 11 ∧ w_X11_sell (fun x828 S => scr L xs (v3 + 1) (fun x837 => scr L xs (v3 + 2) (fun x842 => scr L xs (v3 + 3) (fun x847 => oK S v2 12 ∧ w_X12_sell (fun x848 S => w_L_law_b1415 tx L xs q (fun S u v1 v2 v3 => w_L_law_b18 tx L xs q n S u v1 v2 v3) S u828 v1 v2 v3) S v2 x837 x842 x847)))) S v1 x817 x822 x827)))) ∧ (y33.toInt = 21 → scr L xs (v3 + 1) (fun x860 => ∃ u861 : Nat, u = u861 + 1 ∧ oK S v1 11 ∧ w_X11_die (fun x861 S => scr L xs (v3 + 1) (fun x870 => oK S v2 12 ∧ w_X12_die (fun x871 S => w_L_law_b1415 tx L xs q (fun S u v1 v2 v3 => w_L_law_b18 tx L xs q n S u v1 v2 v3) S u861 v1 v2 v3) S v2 x870)) S v1 x860)) ∧ (y33.toInt = 22 → ∃ u879 : Nat, u = u879 + 1 ∧ oK S v1 11 ∧ w_X11_pass (fun x879 S => oK S v2 12 ∧ w_X12_pass (fun x884 S => w_L_law_b1415 tx L xs q (fun S u v1 v2 v3 => w_L_law_b18 tx L xs q n S u v1 v2 v3) S u879 v1 v2 v3) S v2) S v1) ∧ (y33.toInt = 23 → oK S v1 11 ∧ w_X11_undo (fun x892 S => oK S v2 12 ∧ w_X12_undo (fun x897 S => w_L_law_b1415 tx L xs q (fun S u v1 v2 v3 => w_L_law_b18 tx L xs q n S u v1 v2 v3) S u v1 v2 v3) S v2) S v1) ∧ (y33.toInt = 24 → scr L xs (v3 + 1) (fun x909 => scr L xs (v3 + 2) (fun x914 => scr L xs (v3 + 3) (fun x919 => oK S v1 11 ∧ w_X11_visits (fun x920 S => scr L xs (v3 + 1) (fun x929 => scr L xs (v3 + 2) (fun x934 => scr L xs (v3 + 3) (fun x939 => oK S v2 12 ∧ w_X12_visits (fun x940 S => w_L_law_b1415 tx L xs q (fun S u v1 v2 v3 => w_L_law_b18 tx L xs q n S u v1 v2 v3) S u v1 v2 v3) S v2 x929 x934 x939)))) S v1 x909 x914 x919)))) ∧ (y33.toInt = 25 → scr L xs (v3 + 1) (fun x952 => oK S v1 11 ∧ w_X11_exchange (fun x953 S => scr L xs (v3 + 1) (fun x962 => oK S v2 12 ∧ w_X12_exchange (fun x963 S => w_L_law_b1415 tx L xs q (fun S u v1 v2 v3 => w_L_law_b18 tx L xs q n S u v1 v2 v3) S u v1 v2 v3) S v2 x962)) S v1 x952)) ∧ (y33.toInt = 26 → scr L xs (v3 + 1) (fun x975 => scr L xs (v3 + 2) (fun x980 => oK S v1 11 ∧ w_X11_clue (fun x981 S => scr L xs (v3 + 1) (fun x990 => scr L xs (v3 + 2) (fun x995 => oK S v2 12 ∧ w_X12_clue (fun x996 S => w_L_law_b1415 tx L xs q (fun S u v1 v2 v3 => w_L_law_b18 tx L xs q n S u v1 v2 v3) S u v1 v2 v3) S v2 x990 x995))) S v1 x975 x980))) ∧ (y33.toInt = 27 → oK S v1 11 ∧ w_X11_forget (fun x1004 S => oK S v2 12 ∧ w_X12_forget (fun x1009 S => w_L_law_b1415 tx L xs q (fun S u v1 v2 v3 => w_L_law_b18 tx L xs q n S u v1 v2 v3) S u v1 v2 v3) S v2) S v1) ∧ (y33.toInt = 28 → oK S v1 11 ∧ w_X11_who (fun x1017 S => oK S v2 12 ∧ w_X12_who (fun x1022 S => w_L_law_b1415 tx L xs q (fun S u v1 v2 v3 => w_L_law_b18 tx L xs q n S u v1 v2 v3) S u v1 v2 v3) S v2) S v1) ∧ (y33.toInt = 29 → scr L xs (v3 + 1) (fun x1034 => oK S v1 11 ∧ w_X11_look (fun x1035 S => scr L xs (v3 + 1) (fun x1044 => oK S v2 12 ∧ w_X12_look (fun x1045 S => w_L_law_b1415 tx L xs q (fun S u v1 v2 v3 => w_L_law_b18 tx L xs q n S u v1 v2 v3) S u v1 v2 v3) S v2 x1044)) S v1 x1034)) ∧ (y33.toInt = 30 → scr L xs (v3 + 1) (fun x1057 => scr L xs (v3 + 2) (fun x1062 => oK S v1 11 ∧ w_X11_amend (fun x1063 S => scr L xs (v3 + 1) (fun x1072 => scr L xs (v3 + 2) (fun x1077 => oK S v2 12 ∧ w_X12_amend (fun x1078 S => w_L_law_b1415 tx L xs q (fun S u v1 v2 v3 => w_L_law_b18 tx L xs q n S u v1 v2 v3) S u v1 v2 v3) S v2 x1072 x1077))) S v1 x1057 x1062))) ∧ (y33.toInt = 31 → scr L xs (v3 + 1) (fun x1090 => scr L xs (v3 + 2) (fun x1095 => scr L xs (v3 + 3) (fun x1100 => oK S v1 11 ∧ w_X11_given (fun x1101 S => scr L xs (v3 + 1) (fun x1110 => scr L xs (v3 + 2) (fun x1115 => scr L xs (v3 + 3) (fun x1120 => oK S v2 12 ∧ w_X12_given (fun x1121 S => w_L_law_b1415 tx L xs q (fun S u v1 v2 v3 => w_L_law_b18 tx L xs q n S u v1 v2 v3) S u v1 v2 v3) S v2 x1110 x1115 x1120)))) S v1 x1090 x1095 x1100)))) ∧ (y33.toInt = 32 → scr L xs (v3 + 1) (fun x1133 => scr L xs (v3 + 2) (fun x1138 => scr L xs (v3 + 3) (fun x1143 => scr L xs (v3 + 4) (fun x1148 => oK S v1 11 ∧ w_X11_keep (fun x1149 S => scr L xs (v3 + 1) (fun x1158 => scr L xs (v3 + 2) (fun x1163 => scr L xs (v3 + 3) (fun x1168 => scr L xs (v3 + 4) (fun x1173 => oK S v2 12 ∧ w_X12_keep (fun x1174 S => w_L_law_b1415 tx L xs q (fun S u v1 v2 v3 => w_L_law_b18 tx L xs q n S u v1 v2 v3) S u v1 v2 v3) S v2 x1158 x1163 x1168 x1173))))) S v1 x1133 x1138 x1143 x1148))))) ∧ (y33.toInt = 33 → scr L xs (v3 + 1) (fun x1186 => scr L xs (v3 + 2) (fun x1191 => scr L xs (v3 + 3) (fun x1196 => scr L xs (v3 + 4) (fun x1201 => oK S v1 11 ∧ w_X11_chain (fun x1202 S => scr L xs (v3 + 1) (fun x1211 => scr L xs (v3 + 2) (fun x1216 => scr L xs (v3 + 3) (fun x1221 => scr L xs (v3 + 4) (fun x1226 => oK S v2 12 ∧ w_X12_chain (fun x1227 S => w_L_law_b1415 tx L xs q (fun S u v1 v2 v3 => w_L_law_b18 tx L xs q n S u v1 v2 v3) S u v1 v2 v3) S v2 x1211 x1216 x1221 x1226))))) S v1 x1186 x1191 x1196 x1201))))) ∧ (y33.toInt = 34 → scr L xs (v3 + 1) (fun x1239 => scr L xs (v3 + 2) (fun x1244 => oK S v1 11 ∧ w_X11_likely (fun x1245 S => scr L xs (v3 + 1) (fun x1254 => scr L xs (v3 + 2) (fun x1259 => oK S v2 12 ∧ w_X12_likely (fun x1260 S => w_L_law_b1415 tx L xs q (fun S u v1 v2 v3 => w_L_law_b18 tx L xs q n S u v1 v2 v3) S u v1 v2 v3) S v2 x1254 x1259))) S v1 x1239 x1244))) ∧ (y33.toInt = 35 → scr L xs (v3 + 1) (fun x1272 => scr L xs (v3 + 2) (fun x1277 => oK S v1 11 ∧ w_X11_generations (fun x1278 S => scr L xs (v3 + 1) (fun x1287 => scr L xs (v3 + 2) (fun x1292 => oK S v2 12 ∧ w_X12_generations (fun x1293 S => w_L_law_b1415 tx L xs q (fun S u v1 v2 v3 => w_L_law_b18 tx L xs q n S u v1 v2 v3) S u v1 v2 v3) S v2 x1287 x1292))) S v1 x1272 x1277))) ∧ (y33.toInt = 36 → scr L xs (v3 + 1) (fun x1305 => scr L xs (v3 + 2) (fun x1310 => oK S v1 11 ∧ w_X11_drawn (fun x1311 S => scr L xs (v3 + 1) (fun x1320 => scr L xs (v3 + 2) (fun x1325 => oK S v2 12 ∧ w_X12_drawn (fun x1326 S => w_L_law_b1415 tx L xs q (fun S u v1 v2 v3 => w_L_law_b18 tx L xs q n S u v1 v2 v3) S u v1 v2 v3) S v2 x1320 x1325))) S v1 x1305 x1310))) ∧ (y33.toInt = 37 → scr L xs (v3 + 1) (fun x1338 => ∃ u1339 : Nat, u = u1339 + 1 ∧ oK S v1 11 ∧ w_X11_image (fun x1339 S => scr L xs (v3 + 1) (fun x1348 => oK S v2 12 ∧ w_X12_image (fun x1349 S => w_L_law_b1415 tx L xs q (fun S u v1 v2 v3 => w_L_law_b18 tx L xs q n S u v1 v2 v3) S u1339 v1 v2 v3) S v2 x1348)) S v1 x1338)) ∧ (y33.toInt = 38 → scr L xs (v3 + 1) (fun x1361 => oK S v1 11 ∧ w_X11_back (fun x1362 S => scr L xs (v3 + 1) (fun x1371 => oK S v2 12 ∧ w_X12_back (fun x1372 S => w_L_law_b1415 tx L xs q (fun S u v1 v2 v3 => w_L_law_b18 tx L xs q n S u v1 v2 v3) S u v1 v2 v3) S v2 x1371)) S v1 x1361)) ∧ (y33.toInt = 39 → scr L xs (v3 + 1) (fun x1384 => oK S v1 11 ∧ w_X11_count (fun x1385 S => scr L xs (v3 + 1) (fun x1394 => oK S v2 12 ∧ w_X12_count (fun x1395 S => w_L_law_b1415 tx L xs q (fun S u v1 v2 v3 => w_L_law_b18 tx L xs q n S u v1 v2 v3) S u v1 v2 v3) S v2 x1394)) S v1 x1384)) ∧ (y33.toInt = 40 → oK S v1 11 ∧ w_X11_status (fun x1403 S => oK S v2 12 ∧ w_X12_status (fun x1408 S => w_L_law_b1415 tx L xs q (fun S u v1 v2 v3 => w_L_law_b18 tx L xs q n S u v1 v2 v3) S u v1 v2 v3) S v2) S v1) ∧ ((y33.toInt < 0 ∨ 40 < y33.toInt) → w_L_law_b1415 tx L xs q (fun S u v1 v2 v3 => w_L_law_b18 tx L xs q n S u v1 v2 v3) S u v1 v2 v3))))
set_option maxRecDepth 100000 in
set_option maxHeartbeats 8000000 in
theorem t_L_law_b18 (hC : zC p room_1 s m #[Value.ref b0] c cL_law 4 RL G B mc ms 76 1794) (hr : meth.sig.returnType = ret) (hlk : meth.locks = false) (hX : va_X b0 L xs s s.heap) (hbl : b0 < s.heap.size) (hBs : B = s.heap.size) (hmc : mc ≤ 600000) (hms : ms ≤ 7302250) {q : Unit} (n : Nat) : ∀ {S : hS} {u : Nat} {v1 : Nat} {v2 : Nat} {v3 : Int32} (hw : w_L_law_b18 G.2.2.1 L xs q n S u v1 v2 v3), Z p l e room_1 s m #[Value.ref b0] below meth c (lw_Z below #[Value.ref b0] s) G B mc ms 4 S (80 * u) (1856 * u) 18 [some (.ref b0), some (.ref v1), some (.ref v2), some (.int v3)] [] := by
  induction n with
  | zero => intro S u v1 v2 v3 hw; exact (by rw [w_L_law_b18] at hw; exact hw.elim)
  | succ n ih =>
    intro S u v1 v2 v3 hw
    rw [w_L_law_b18] at hw
    refine z_iload_n hC dL_law_18 rfl rfl ?_
    refine z_aload_n hC dL_law_19 rfl rfl ?_
    refine z_slen hC hX hbl hBs dL_law_20 ?_
    refine z_bipush hC bi_6 dL_law_21 ?_
    refine z_isub hC dL_law_23 ?_
    refine z_icmp_gt (tgt := 1421) hC dL_law_24 (by decide) (fun c24 => ?_) (fun c24 => ?_)
    · have hw := hw.1 c24
      refine z_iconst hC ic_1 dL_law_1421 ?_
      exact z_lawret hC hr hlk hBs hmc hms dL_law_1422 hw
    · have hw := hw.2 c24
      refine z_aload_n hC dL_law_27 rfl rfl ?_
      refine z_iload_n hC dL_law_28 rfl rfl ?_
      refine z_sld hC hX hbl hBs dL_law_29 hw (fun x29 hw => ?_)
      refine z_bipush hC bi_63 dL_law_30 ?_
      refine z_iand hC dL_law_32 ?_
      refine z_nmI (fun y33 e33 => ?_)
      have hw := hw y33 e33
      by_cases q33_0 : y33.toInt = 0
      · have hw := hw.1 q33_0
        refine z_tabIn (tgt := 212) (off := 179) hC 0 dL_law_33 q33_0 (by decide) rfl (by decide) ?_
        refine z_aload_n hC dL_law_212 rfl rfl ?_
        refine z_aload_n hC dL_law_213 rfl rfl ?_
        refine z_iload_n hC dL_law_214 rfl rfl ?_
        refine z_iconst hC ic_1 dL_law_215 ?_
        refine z_iadd hC dL_law_216 ?_
        refine z_sld hC hX hbl hBs dL_law_217 hw (fun x217 hw => ?_)
        refine z_aload_n hC dL_law_218 rfl rfl ?_
        refine z_iload_n hC dL_law_219 rfl rfl ?_
        refine z_iconst hC ic_2 dL_law_220 ?_
        refine z_iadd hC dL_law_221 ?_
        refine z_sld hC hX hbl hBs dL_law_222 hw (fun x222 hw => ?_)
        refine z_callV (ku' := (80 * u)) (kv' := (1856 * u)) (n := 2) (As := [.int x217, .int x222]) (st := []) hC (c_X11_house l G B S v1 x217 x222 _) hw.2 hw.1 rfl lk_570 lk_571 lk_572 lk_121 lk_573 hd_X11_house rfl rfl (Nat.le_of_ble_eq_true rfl) (Nat.le_of_ble_eq_true rfl) rfl (Nat.le_of_ble_eq_true rfl) dL_law_223 (Nat.le_refl _) (Nat.le_refl _) (kI (fun x223 S hw => ?_))
        refine z_pop hC rfl dL_law_226 ?_
        refine z_aload_n hC dL_law_227 rfl rfl ?_
        refine z_aload_n hC dL_law_228 rfl rfl ?_
        refine z_iload_n hC dL_law_229 rfl rfl ?_
        refine z_iconst hC ic_1 dL_law_230 ?_
        refine z_iadd hC dL_law_231 ?_
        refine z_sld hC hX hbl hBs dL_law_232 hw (fun x232 hw => ?_)
        refine z_aload_n hC dL_law_233 rfl rfl ?_
        refine z_iload_n hC dL_law_234 rfl rfl ?_
        refine z_iconst hC ic_2 dL_law_235 ?_
        refine z_iadd hC dL_law_236 ?_
        refine z_sld hC hX hbl hBs dL_law_237 hw (fun x237 hw => ?_)
        refine z_callV (ku' := (80 * u)) (kv' := (1856 * u)) (n := 2) (As := [.int x232, .int x237]) (st := []) hC (c_X12_house l G B S v2 x232 x237 _) hw.2 hw.1 rfl lk_1567 lk_1568 lk_1569 lk_133 lk_1570 hd_X12_house rfl rfl (Nat.le_of_ble_eq_true rfl) (Nat.le_of_ble_eq_true rfl) rfl (Nat.le_of_ble_eq_true rfl) dL_law_238 (Nat.le_refl _) (Nat.le_refl _) (kI (fun x238 S hw => ?_))
        refine z_pop hC rfl dL_law_241 ?_
        refine z_goto (tgt := 1415) hC dL_law_242 (by decide) ?_
        refine z_mask (lv' := [some (.ref b0), some (.ref v1), some (.ref v2), some (.int v3)]) [true, true, true, true] rfl ?_
        exact t_L_law_b1415 hC hr hlk hX hbl hBs hmc hms (fun hw => ih hw) hw
      by_cases q33_1 : y33.toInt = 1
      · have hw := hw.2.1 q33_1
        refine z_tabIn (tgt := 245) (off := 212) hC 1 dL_law_33 q33_1 (by decide) rfl (by decide) ?_
        refine z_aload_n hC dL_law_245 rfl rfl ?_
        refine z_aload_n hC dL_law_246 rfl rfl ?_
        refine z_iload_n hC dL_law_247 rfl rfl ?_
        refine z_iconst hC ic_1 dL_law_248 ?_
        refine z_iadd hC dL_law_249 ?_
        refine z_sld hC hX hbl hBs dL_law_250 hw (fun x250 hw => ?_)
        refine z_aload_n hC dL_law_251 rfl rfl ?_
        refine z_iload_n hC dL_law_252 rfl rfl ?_
        refine z_iconst hC ic_2 dL_law_253 ?_
        refine z_iadd hC dL_law_254 ?_
        refine z_sld hC hX hbl hBs dL_law_255 hw (fun x255 hw => ?_)
        refine z_callV (ku' := (80 * u)) (kv' := (1856 * u)) (n := 2) (As := [.int x250, .int x255]) (st := []) hC (c_X11_at l G B S v1 x250 x255 _) hw.2 hw.1 rfl lk_596 lk_597 lk_598 lk_121 lk_599 hd_X11_at rfl rfl (Nat.le_of_ble_eq_true rfl) (Nat.le_of_ble_eq_true rfl) rfl (Nat.le_of_ble_eq_true rfl) dL_law_256 (Nat.le_refl _) (Nat.le_refl _) (kI (fun x256 S hw => ?_))
        refine z_pop hC rfl dL_law_259 ?_
        refine z_aload_n hC dL_law_260 rfl rfl ?_
        refine z_aload_n hC dL_law_261 rfl rfl ?_
        refine z_iload_n hC dL_law_262 rfl rfl ?_
        refine z_iconst hC ic_1 dL_law_263 ?_
        refine z_iadd hC dL_law_264 ?_
        refine z_sld hC hX hbl hBs dL_law_265 hw (fun x265 hw => ?_)
        refine z_aload_n hC dL_law_266 rfl rfl ?_
        refine z_iload_n hC dL_law_267 rfl rfl ?_
        refine z_iconst hC ic_2 dL_law_268 ?_
        refine z_iadd hC dL_law_269 ?_
        refine z_sld hC hX hbl hBs dL_law_270 hw (fun x270 hw => ?_)
        refine z_callV (ku' := (80 * u)) (kv' := (1856 * u)) (n := 2) (As := [.int x265, .int x270]) (st := []) hC (c_X12_at l G B S v2 x265 x270 _) hw.2 hw.1 rfl lk_1576 lk_1577 lk_1578 lk_133 lk_1579 hd_X12_at rfl rfl (Nat.le_of_ble_eq_true rfl) (Nat.le_of_ble_eq_true rfl) rfl (Nat.le_of_ble_eq_true rfl) dL_law_271 (Nat.le_refl _) (Nat.le_refl _) (kI (fun x271 S hw => ?_))
        refine z_pop hC rfl dL_law_274 ?_
        refine z_goto (tgt := 1415) hC dL_law_275 (by decide) ?_
        refine z_mask (lv' := [some (.ref b0), some (.ref v1), some (.ref v2), some (.int v3)]) [true, true, true, true] rfl ?_
        exact t_L_law_b1415 hC hr hlk hX hbl hBs hmc hms (fun hw => ih hw) hw
      by_cases q33_2 : y33.toInt = 2
      · have hw := hw.2.2.1 q33_2
        refine z_tabIn (tgt := 278) (off := 245) hC 2 dL_law_33 q33_2 (by decide) rfl (by decide) ?_
        refine z_aload_n hC dL_law_278 rfl rfl ?_
        refine z_aload_n hC dL_law_279 rfl rfl ?_
        refine z_iload_n hC dL_law_280 rfl rfl ?_
        refine z_iconst hC ic_1 dL_law_281 ?_
        refine z_iadd hC dL_law_282 ?_
        refine z_sld hC hX hbl hBs dL_law_283 hw (fun x283 hw => ?_)
        refine z_aload_n hC dL_law_284 rfl rfl ?_
        refine z_iload_n hC dL_law_285 rfl rfl ?_
        refine z_iconst hC ic_2 dL_law_286 ?_
        refine z_iadd hC dL_law_287 ?_
        refine z_sld hC hX hbl hBs dL_law_288 hw (fun x288 hw => ?_)
        refine z_aload_n hC dL_law_289 rfl rfl ?_
        refine z_iload_n hC dL_law_290 rfl rfl ?_
        refine z_iconst hC ic_3 dL_law_291 ?_
        refine z_iadd hC dL_law_292 ?_
        refine z_sld hC hX hbl hBs dL_law_293 hw (fun x293 hw => ?_)
        refine z_callV (ku' := (80 * u)) (kv' := (1856 * u)) (n := 3) (As := [.int x283, .int x288, .int x293]) (st := []) hC (c_X11_person l G B S v1 x283 x288 x293 _) hw.2 hw.1 rfl lk_662 lk_663 lk_664 lk_121 lk_665 hd_X11_person rfl rfl (Nat.le_of_ble_eq_true rfl) (Nat.le_of_ble_eq_true rfl) rfl (Nat.le_of_ble_eq_true rfl) dL_law_294 (Nat.le_refl _) (Nat.le_refl _) (kI (fun x294 S hw => ?_))
        refine z_pop hC rfl dL_law_297 ?_
        refine z_aload_n hC dL_law_298 rfl rfl ?_
        refine z_aload_n hC dL_law_299 rfl rfl ?_
        refine z_iload_n hC dL_law_300 rfl rfl ?_
        refine z_iconst hC ic_1 dL_law_301 ?_
        refine z_iadd hC dL_law_302 ?_
        refine z_sld hC hX hbl hBs dL_law_303 hw (fun x303 hw => ?_)
        refine z_aload_n hC dL_law_304 rfl rfl ?_
        refine z_iload_n hC dL_law_305 rfl rfl ?_
        refine z_iconst hC ic_2 dL_law_306 ?_
        refine z_iadd hC dL_law_307 ?_
        refine z_sld hC hX hbl hBs dL_law_308 hw (fun x308 hw => ?_)
        refine z_aload_n hC dL_law_309 rfl rfl ?_
        refine z_iload_n hC dL_law_310 rfl rfl ?_
        refine z_iconst hC ic_3 dL_law_311 ?_
        refine z_iadd hC dL_law_312 ?_
        refine z_sld hC hX hbl hBs dL_law_313 hw (fun x313 hw => ?_)
        refine z_callV (ku' := (80 * u)) (kv' := (1856 * u)) (n := 3) (As := [.int x303, .int x308, .int x313]) (st := []) hC (c_X12_person l G B S v2 x303 x308 x313 _) hw.2 hw.1 rfl lk_1631 lk_1632 lk_1633 lk_133 lk_1634 hd_X12_person rfl rfl (Nat.le_of_ble_eq_true rfl) (Nat.le_of_ble_eq_true rfl) rfl (Nat.le_of_ble_eq_true rfl) dL_law_314 (Nat.le_refl _) (Nat.le_refl _) (kI (fun x314 S hw => ?_))
        refine z_pop hC rfl dL_law_317 ?_
        refine z_goto (tgt := 1415) hC dL_law_318 (by decide) ?_
        refine z_mask (lv' := [some (.ref b0), some (.ref v1), some (.ref v2), some (.int v3)]) [true, true, true, true] rfl ?_
        exact t_L_law_b1415 hC hr hlk hX hbl hBs hmc hms (fun hw => ih hw) hw
      by_cases q33_3 : y33.toInt = 3
      · have hw := hw.2.2.2.1 q33_3
        refine z_tabIn (tgt := 321) (off := 288) hC 3 dL_law_33 q33_3 (by decide) rfl (by decide) ?_
        refine z_aload_n hC dL_law_321 rfl rfl ?_
        refine z_aload_n hC dL_law_322 rfl rfl ?_
        refine z_iload_n hC dL_law_323 rfl rfl ?_
        refine z_iconst hC ic_1 dL_law_324 ?_
        refine z_iadd hC dL_law_325 ?_
        refine z_sld hC hX hbl hBs dL_law_326 hw (fun x326 hw => ?_)
        refine z_aload_n hC dL_law_327 rfl rfl ?_
        refine z_iload_n hC dL_law_328 rfl rfl ?_
        refine z_iconst hC ic_2 dL_law_329 ?_
        refine z_iadd hC dL_law_330 ?_
        refine z_sld hC hX hbl hBs dL_law_331 hw (fun x331 hw => ?_)
        refine z_callV (ku' := (80 * u)) (kv' := (1856 * u)) (n := 2) (As := [.int x326, .int x331]) (st := []) hC (c_X11_of l G B S v1 x326 x331 _) hw.2 hw.1 rfl lk_670 lk_671 lk_672 lk_121 lk_673 hd_X11_of rfl rfl (Nat.le_of_ble_eq_true rfl) (Nat.le_of_ble_eq_true rfl) rfl (Nat.le_of_ble_eq_true rfl) dL_law_332 (Nat.le_refl _) (Nat.le_refl _) (kI (fun x332 S hw => ?_))
        refine z_pop hC rfl dL_law_335 ?_
        refine z_aload_n hC dL_law_336 rfl rfl ?_
        refine z_aload_n hC dL_law_337 rfl rfl ?_
        refine z_iload_n hC dL_law_338 rfl rfl ?_
        refine z_iconst hC ic_1 dL_law_339 ?_
        refine z_iadd hC dL_law_340 ?_
        refine z_sld hC hX hbl hBs dL_law_341 hw (fun x341 hw => ?_)
        refine z_aload_n hC dL_law_342 rfl rfl ?_
        refine z_iload_n hC dL_law_343 rfl rfl ?_
        refine z_iconst hC ic_2 dL_law_344 ?_
        refine z_iadd hC dL_law_345 ?_
        refine z_sld hC hX hbl hBs dL_law_346 hw (fun x346 hw => ?_)
        refine z_callV (ku' := (80 * u)) (kv' := (1856 * u)) (n := 2) (As := [.int x341, .int x346]) (st := []) hC (c_X12_of l G B S v2 x341 x346 _) hw.2 hw.1 rfl lk_1640 lk_1641 lk_1642 lk_133 lk_1643 hd_X12_of rfl rfl (Nat.le_of_ble_eq_true rfl) (Nat.le_of_ble_eq_true rfl) rfl (Nat.le_of_ble_eq_true rfl) dL_law_347 (Nat.le_refl _) (Nat.le_refl _) (kI (fun x347 S hw => ?_))
        refine z_pop hC rfl dL_law_350 ?_
        refine z_goto (tgt := 1415) hC dL_law_351 (by decide) ?_
        refine z_mask (lv' := [some (.ref b0), some (.ref v1), some (.ref v2), some (.int v3)]) [true, true, true, true] rfl ?_
        exact t_L_law_b1415 hC hr hlk hX hbl hBs hmc hms (fun hw => ih hw) hw
      by_cases q33_4 : y33.toInt = 4
      · have hw := hw.2.2.2.2.1 q33_4
        refine z_tabIn (tgt := 354) (off := 321) hC 4 dL_law_33 q33_4 (by decide) rfl (by decide) ?_
        refine z_aload_n hC dL_law_354 rfl rfl ?_
        refine z_aload_n hC dL_law_355 rfl rfl ?_
        refine z_iload_n hC dL_law_356 rfl rfl ?_
        refine z_iconst hC ic_1 dL_law_357 ?_
        refine z_iadd hC dL_law_358 ?_
        refine z_sld hC hX hbl hBs dL_law_359 hw (fun x359 hw => ?_)
        refine z_aload_n hC dL_law_360 rfl rfl ?_
        refine z_iload_n hC dL_law_361 rfl rfl ?_
        refine z_iconst hC ic_2 dL_law_362 ?_
        refine z_iadd hC dL_law_363 ?_
        refine z_sld hC hX hbl hBs dL_law_364 hw (fun x364 hw => ?_)
        refine z_callV (ku' := (80 * u)) (kv' := (1856 * u)) (n := 2) (As := [.int x359, .int x364]) (st := []) hC (c_X11_want l G B S v1 x359 x364 _) hw.2 hw.1 rfl lk_682 lk_683 lk_684 lk_121 lk_685 hd_X11_want rfl rfl (Nat.le_of_ble_eq_true rfl) (Nat.le_of_ble_eq_true rfl) rfl (Nat.le_of_ble_eq_true rfl) dL_law_365 (Nat.le_refl _) (Nat.le_refl _) (kI (fun x365 S hw => ?_))
        refine z_pop hC rfl dL_law_368 ?_
        refine z_aload_n hC dL_law_369 rfl rfl ?_
        refine z_aload_n hC dL_law_370 rfl rfl ?_
        refine z_iload_n hC dL_law_371 rfl rfl ?_
        refine z_iconst hC ic_1 dL_law_372 ?_
        refine z_iadd hC dL_law_373 ?_
        refine z_sld hC hX hbl hBs dL_law_374 hw (fun x374 hw => ?_)
        refine z_aload_n hC dL_law_375 rfl rfl ?_
        refine z_iload_n hC dL_law_376 rfl rfl ?_
        refine z_iconst hC ic_2 dL_law_377 ?_
        refine z_iadd hC dL_law_378 ?_
        refine z_sld hC hX hbl hBs dL_law_379 hw (fun x379 hw => ?_)
        refine z_callV (ku' := (80 * u)) (kv' := (1856 * u)) (n := 2) (As := [.int x374, .int x379]) (st := []) hC (c_X12_want l G B S v2 x374 x379 _) hw.2 hw.1 rfl lk_1648 lk_1649 lk_1650 lk_133 lk_1651 hd_X12_want rfl rfl (Nat.le_of_ble_eq_true rfl) (Nat.le_of_ble_eq_true rfl) rfl (Nat.le_of_ble_eq_true rfl) dL_law_380 (Nat.le_refl _) (Nat.le_refl _) (kI (fun x380 S hw => ?_))
        refine z_pop hC rfl dL_law_383 ?_
        refine z_goto (tgt := 1415) hC dL_law_384 (by decide) ?_
        refine z_mask (lv' := [some (.ref b0), some (.ref v1), some (.ref v2), some (.int v3)]) [true, true, true, true] rfl ?_
        exact t_L_law_b1415 hC hr hlk hX hbl hBs hmc hms (fun hw => ih hw) hw
      by_cases q33_5 : y33.toInt = 5
      · have hw := hw.2.2.2.2.2.1 q33_5
        refine z_tabIn (tgt := 387) (off := 354) hC 5 dL_law_33 q33_5 (by decide) rfl (by decide) ?_
        refine z_aload_n hC dL_law_387 rfl rfl ?_
        refine z_aload_n hC dL_law_388 rfl rfl ?_
        refine z_iload_n hC dL_law_389 rfl rfl ?_
        refine z_iconst hC ic_1 dL_law_390 ?_
        refine z_iadd hC dL_law_391 ?_
        refine z_sld hC hX hbl hBs dL_law_392 hw (fun x392 hw => ?_)
        refine z_aload_n hC dL_law_393 rfl rfl ?_
        refine z_iload_n hC dL_law_394 rfl rfl ?_
        refine z_iconst hC ic_2 dL_law_395 ?_
        refine z_iadd hC dL_law_396 ?_
        refine z_sld hC hX hbl hBs dL_law_397 hw (fun x397 hw => ?_)
        refine z_callV (ku' := (80 * u)) (kv' := (1856 * u)) (n := 2) (As := [.int x392, .int x397]) (st := []) hC (c_X11_will l G B S v1 x392 x397 _) hw.2 hw.1 rfl lk_686 lk_687 lk_688 lk_121 lk_689 hd_X11_will rfl rfl (Nat.le_of_ble_eq_true rfl) (Nat.le_of_ble_eq_true rfl) rfl (Nat.le_of_ble_eq_true rfl) dL_law_398 (Nat.le_refl _) (Nat.le_refl _) (kI (fun x398 S hw => ?_))
        refine z_pop hC rfl dL_law_401 ?_
        refine z_aload_n hC dL_law_402 rfl rfl ?_
        refine z_aload_n hC dL_law_403 rfl rfl ?_
        refine z_iload_n hC dL_law_404 rfl rfl ?_
        refine z_iconst hC ic_1 dL_law_405 ?_
        refine z_iadd hC dL_law_406 ?_
        refine z_sld hC hX hbl hBs dL_law_407 hw (fun x407 hw => ?_)
        refine z_aload_n hC dL_law_408 rfl rfl ?_
        refine z_iload_n hC dL_law_409 rfl rfl ?_
        refine z_iconst hC ic_2 dL_law_410 ?_
        refine z_iadd hC dL_law_411 ?_
        refine z_sld hC hX hbl hBs dL_law_412 hw (fun x412 hw => ?_)
        refine z_callV (ku' := (80 * u)) (kv' := (1856 * u)) (n := 2) (As := [.int x407, .int x412]) (st := []) hC (c_X12_will l G B S v2 x407 x412 _) hw.2 hw.1 rfl lk_1652 lk_1653 lk_1654 lk_133 lk_1655 hd_X12_will rfl rfl (Nat.le_of_ble_eq_true rfl) (Nat.le_of_ble_eq_true rfl) rfl (Nat.le_of_ble_eq_true rfl) dL_law_413 (Nat.le_refl _) (Nat.le_refl _) (kI (fun x413 S hw => ?_))
        refine z_pop hC rfl dL_law_416 ?_
        refine z_goto (tgt := 1415) hC dL_law_417 (by decide) ?_
        refine z_mask (lv' := [some (.ref b0), some (.ref v1), some (.ref v2), some (.int v3)]) [true, true, true, true] rfl ?_
        exact t_L_law_b1415 hC hr hlk hX hbl hBs hmc hms (fun hw => ih hw) hw
      by_cases q33_6 : y33.toInt = 6
      · have hw := hw.2.2.2.2.2.2.1 q33_6
        refine z_tabIn (tgt := 420) (off := 387) hC 6 dL_law_33 q33_6 (by decide) rfl (by decide) ?_
        refine z_aload_n hC dL_law_420 rfl rfl ?_
        refine z_aload_n hC dL_law_421 rfl rfl ?_
        refine z_iload_n hC dL_law_422 rfl rfl ?_
        refine z_iconst hC ic_1 dL_law_423 ?_
        refine z_iadd hC dL_law_424 ?_
        refine z_sld hC hX hbl hBs dL_law_425 hw (fun x425 hw => ?_)
        refine z_aload_n hC dL_law_426 rfl rfl ?_
        refine z_iload_n hC dL_law_427 rfl rfl ?_
        refine z_iconst hC ic_2 dL_law_428 ?_
        refine z_iadd hC dL_law_429 ?_
        refine z_sld hC hX hbl hBs dL_law_430 hw (fun x430 hw => ?_)
        refine z_aload_n hC dL_law_431 rfl rfl ?_
        refine z_iload_n hC dL_law_432 rfl rfl ?_
        refine z_iconst hC ic_3 dL_law_433 ?_
        refine z_iadd hC dL_law_434 ?_
        refine z_sld hC hX hbl hBs dL_law_435 hw (fun x435 hw => ?_)
        refine z_callV (ku' := (80 * u)) (kv' := (1856 * u)) (n := 3) (As := [.int x425, .int x430, .int x435]) (st := []) hC (c_X11_right l G B S v1 x425 x430 x435 _) hw.2 hw.1 rfl lk_691 lk_692 lk_693 lk_121 lk_694 hd_X11_right rfl rfl (Nat.le_of_ble_eq_true rfl) (Nat.le_of_ble_eq_true rfl) rfl (Nat.le_of_ble_eq_true rfl) dL_law_436 (Nat.le_refl _) (Nat.le_refl _) (kI (fun x436 S hw => ?_))
        refine z_pop hC rfl dL_law_439 ?_
        refine z_aload_n hC dL_law_440 rfl rfl ?_
        refine z_aload_n hC dL_law_441 rfl rfl ?_
        refine z_iload_n hC dL_law_442 rfl rfl ?_
        refine z_iconst hC ic_1 dL_law_443 ?_
        refine z_iadd hC dL_law_444 ?_
        refine z_sld hC hX hbl hBs dL_law_445 hw (fun x445 hw => ?_)
        refine z_aload_n hC dL_law_446 rfl rfl ?_
        refine z_iload_n hC dL_law_447 rfl rfl ?_
        refine z_iconst hC ic_2 dL_law_448 ?_
        refine z_iadd hC dL_law_449 ?_
        refine z_sld hC hX hbl hBs dL_law_450 hw (fun x450 hw => ?_)
        refine z_aload_n hC dL_law_451 rfl rfl ?_
        refine z_iload_n hC dL_law_452 rfl rfl ?_
        refine z_iconst hC ic_3 dL_law_453 ?_
        refine z_iadd hC dL_law_454 ?_
        refine z_sld hC hX hbl hBs dL_law_455 hw (fun x455 hw => ?_)
        refine z_callV (ku' := (80 * u)) (kv' := (1856 * u)) (n := 3) (As := [.int x445, .int x450, .int x455]) (st := []) hC (c_X12_right l G B S v2 x445 x450 x455 _) hw.2 hw.1 rfl lk_1664 lk_1665 lk_1666 lk_133 lk_1667 hd_X12_right rfl rfl (Nat.le_of_ble_eq_true rfl) (Nat.le_of_ble_eq_true rfl) rfl (Nat.le_of_ble_eq_true rfl) dL_law_456 (Nat.le_refl _) (Nat.le_refl _) (kI (fun x456 S hw => ?_))
        refine z_pop hC rfl dL_law_459 ?_
        refine z_goto (tgt := 1415) hC dL_law_460 (by decide) ?_
        refine z_mask (lv' := [some (.ref b0), some (.ref v1), some (.ref v2), some (.int v3)]) [true, true, true, true] rfl ?_
        exact t_L_law_b1415 hC hr hlk hX hbl hBs hmc hms (fun hw => ih hw) hw
      by_cases q33_7 : y33.toInt = 7
      · have hw := hw.2.2.2.2.2.2.2.1 q33_7
        refine z_tabIn (tgt := 463) (off := 430) hC 7 dL_law_33 q33_7 (by decide) rfl (by decide) ?_
        refine z_aload_n hC dL_law_463 rfl rfl ?_
        refine z_aload_n hC dL_law_464 rfl rfl ?_
        refine z_iload_n hC dL_law_465 rfl rfl ?_
        refine z_iconst hC ic_1 dL_law_466 ?_
        refine z_iadd hC dL_law_467 ?_
        refine z_sld hC hX hbl hBs dL_law_468 hw (fun x468 hw => ?_)
        refine z_aload_n hC dL_law_469 rfl rfl ?_
        refine z_iload_n hC dL_law_470 rfl rfl ?_
        refine z_iconst hC ic_2 dL_law_471 ?_
        refine z_iadd hC dL_law_472 ?_
        refine z_sld hC hX hbl hBs dL_law_473 hw (fun x473 hw => ?_)
        refine z_aload_n hC dL_law_474 rfl rfl ?_
        refine z_iload_n hC dL_law_475 rfl rfl ?_
        refine z_iconst hC ic_3 dL_law_476 ?_
        refine z_iadd hC dL_law_477 ?_
        refine z_sld hC hX hbl hBs dL_law_478 hw (fun x478 hw => ?_)
        refine z_callV (ku' := (80 * u)) (kv' := (1856 * u)) (n := 3) (As := [.int x468, .int x473, .int x478]) (st := []) hC (c_X11_has l G B S v1 x468 x473 x478 _) hw.2 hw.1 rfl lk_701 lk_702 lk_703 lk_121 lk_704 hd_X11_has rfl rfl (Nat.le_of_ble_eq_true rfl) (Nat.le_of_ble_eq_true rfl) rfl (Nat.le_of_ble_eq_true rfl) dL_law_479 (Nat.le_refl _) (Nat.le_refl _) (kI (fun x479 S hw => ?_))
        refine z_pop hC rfl dL_law_482 ?_
        refine z_aload_n hC dL_law_483 rfl rfl ?_
        refine z_aload_n hC dL_law_484 rfl rfl ?_
        refine z_iload_n hC dL_law_485 rfl rfl ?_
        refine z_iconst hC ic_1 dL_law_486 ?_
        refine z_iadd hC dL_law_487 ?_
        refine z_sld hC hX hbl hBs dL_law_488 hw (fun x488 hw => ?_)
        refine z_aload_n hC dL_law_489 rfl rfl ?_
        refine z_iload_n hC dL_law_490 rfl rfl ?_
        refine z_iconst hC ic_2 dL_law_491 ?_
        refine z_iadd hC dL_law_492 ?_
        refine z_sld hC hX hbl hBs dL_law_493 hw (fun x493 hw => ?_)
        refine z_aload_n hC dL_law_494 rfl rfl ?_
        refine z_iload_n hC dL_law_495 rfl rfl ?_
        refine z_iconst hC ic_3 dL_law_496 ?_
        refine z_iadd hC dL_law_497 ?_
        refine z_sld hC hX hbl hBs dL_law_498 hw (fun x498 hw => ?_)
        refine z_callV (ku' := (80 * u)) (kv' := (1856 * u)) (n := 3) (As := [.int x488, .int x493, .int x498]) (st := []) hC (c_X12_has l G B S v2 x488 x493 x498 _) hw.2 hw.1 rfl lk_1668 lk_1669 lk_1670 lk_133 lk_1671 hd_X12_has rfl rfl (Nat.le_of_ble_eq_true rfl) (Nat.le_of_ble_eq_true rfl) rfl (Nat.le_of_ble_eq_true rfl) dL_law_499 (Nat.le_refl _) (Nat.le_refl _) (kI (fun x499 S hw => ?_))
        refine z_pop hC rfl dL_law_502 ?_
        refine z_goto (tgt := 1415) hC dL_law_503 (by decide) ?_
        refine z_mask (lv' := [some (.ref b0), some (.ref v1), some (.ref v2), some (.int v3)]) [true, true, true, true] rfl ?_
        exact t_L_law_b1415 hC hr hlk hX hbl hBs hmc hms (fun hw => ih hw) hw
      by_cases q33_8 : y33.toInt = 8
      · have hw := hw.2.2.2.2.2.2.2.2.1 q33_8
        refine z_tabIn (tgt := 506) (off := 473) hC 8 dL_law_33 q33_8 (by decide) rfl (by decide) ?_
        refine z_aload_n hC dL_law_506 rfl rfl ?_
        refine z_aload_n hC dL_law_507 rfl rfl ?_
        refine z_iload_n hC dL_law_508 rfl rfl ?_
        refine z_iconst hC ic_1 dL_law_509 ?_
        refine z_iadd hC dL_law_510 ?_
        refine z_sld hC hX hbl hBs dL_law_511 hw (fun x511 hw => ?_)
        refine z_aload_n hC dL_law_512 rfl rfl ?_
        refine z_iload_n hC dL_law_513 rfl rfl ?_
        refine z_iconst hC ic_2 dL_law_514 ?_
        refine z_iadd hC dL_law_515 ?_
        refine z_sld hC hX hbl hBs dL_law_516 hw (fun x516 hw => ?_)
        refine z_aload_n hC dL_law_517 rfl rfl ?_
        refine z_iload_n hC dL_law_518 rfl rfl ?_
        refine z_iconst hC ic_3 dL_law_519 ?_
        refine z_iadd hC dL_law_520 ?_
        refine z_sld hC hX hbl hBs dL_law_521 hw (fun x521 hw => ?_)
        refine z_aload_n hC dL_law_522 rfl rfl ?_
        refine z_iload_n hC dL_law_523 rfl rfl ?_
        refine z_iconst hC ic_4 dL_law_524 ?_
        refine z_iadd hC dL_law_525 ?_
        refine z_sld hC hX hbl hBs dL_law_526 hw (fun x526 hw => ?_)
        refine z_callV (ku' := (80 * u)) (kv' := (1856 * u)) (n := 4) (As := [.int x511, .int x516, .int x521, .int x526]) (st := []) hC (c_X11_asks l G B S v1 x511 x516 x521 x526 _) hw.2 hw.1 rfl lk_722 lk_723 lk_724 lk_121 lk_725 hd_X11_asks rfl rfl (Nat.le_of_ble_eq_true rfl) (Nat.le_of_ble_eq_true rfl) rfl (Nat.le_of_ble_eq_true rfl) dL_law_527 (Nat.le_refl _) (Nat.le_refl _) (kI (fun x527 S hw => ?_))
        refine z_pop hC rfl dL_law_530 ?_
        refine z_aload_n hC dL_law_531 rfl rfl ?_
        refine z_aload_n hC dL_law_532 rfl rfl ?_
        refine z_iload_n hC dL_law_533 rfl rfl ?_
        refine z_iconst hC ic_1 dL_law_534 ?_
        refine z_iadd hC dL_law_535 ?_
        refine z_sld hC hX hbl hBs dL_law_536 hw (fun x536 hw => ?_)
        refine z_aload_n hC dL_law_537 rfl rfl ?_
        refine z_iload_n hC dL_law_538 rfl rfl ?_
        refine z_iconst hC ic_2 dL_law_539 ?_
        refine z_iadd hC dL_law_540 ?_
        refine z_sld hC hX hbl hBs dL_law_541 hw (fun x541 hw => ?_)
        refine z_aload_n hC dL_law_542 rfl rfl ?_
        refine z_iload_n hC dL_law_543 rfl rfl ?_
        refine z_iconst hC ic_3 dL_law_544 ?_
        refine z_iadd hC dL_law_545 ?_
        refine z_sld hC hX hbl hBs dL_law_546 hw (fun x546 hw => ?_)
        refine z_aload_n hC dL_law_547 rfl rfl ?_
        refine z_iload_n hC dL_law_548 rfl rfl ?_
        refine z_iconst hC ic_4 dL_law_549 ?_
        refine z_iadd hC dL_law_550 ?_
        refine z_sld hC hX hbl hBs dL_law_551 hw (fun x551 hw => ?_)
        refine z_callV (ku' := (80 * u)) (kv' := (1856 * u)) (n := 4) (As := [.int x536, .int x541, .int x546, .int x551]) (st := []) hC (c_X12_asks l G B S v2 x536 x541 x546 x551 _) hw.2 hw.1 rfl lk_1839 lk_1840 lk_1841 lk_133 lk_1842 hd_X12_asks rfl rfl (Nat.le_of_ble_eq_true rfl) (Nat.le_of_ble_eq_true rfl) rfl (Nat.le_of_ble_eq_true rfl) dL_law_552 (Nat.le_refl _) (Nat.le_refl _) (kI (fun x552 S hw => ?_))
        refine z_pop hC rfl dL_law_555 ?_
        refine z_goto (tgt := 1415) hC dL_law_556 (by decide) ?_
        refine z_mask (lv' := [some (.ref b0), some (.ref v1), some (.ref v2), some (.int v3)]) [true, true, true, true] rfl ?_
        exact t_L_law_b1415 hC hr hlk hX hbl hBs hmc hms (fun hw => ih hw) hw
      by_cases q33_9 : y33.toInt = 9
      · have hw := hw.2.2.2.2.2.2.2.2.2.1 q33_9
        refine z_tabIn (tgt := 559) (off := 526) hC 9 dL_law_33 q33_9 (by decide) rfl (by decide) ?_
        refine z_aload_n hC dL_law_559 rfl rfl ?_
        refine z_aload_n hC dL_law_560 rfl rfl ?_
        refine z_iload_n hC dL_law_561 rfl rfl ?_
        refine z_iconst hC ic_1 dL_law_562 ?_
        refine z_iadd hC dL_law_563 ?_
        refine z_sld hC hX hbl hBs dL_law_564 hw (fun x564 hw => ?_)
        refine z_aload_n hC dL_law_565 rfl rfl ?_
        refine z_iload_n hC dL_law_566 rfl rfl ?_
        refine z_iconst hC ic_2 dL_law_567 ?_
        refine z_iadd hC dL_law_568 ?_
        refine z_sld hC hX hbl hBs dL_law_569 hw (fun x569 hw => ?_)
        refine z_callV (ku' := (80 * u)) (kv' := (1856 * u)) (n := 2) (As := [.int x564, .int x569]) (st := []) hC (c_X11_terms l G B S v1 x564 x569 _) hw.2 hw.1 rfl lk_746 lk_747 lk_748 lk_121 lk_749 hd_X11_terms rfl rfl (Nat.le_of_ble_eq_true rfl) (Nat.le_of_ble_eq_true rfl) rfl (Nat.le_of_ble_eq_true rfl) dL_law_570 (Nat.le_refl _) (Nat.le_refl _) (kI (fun x570 S hw => ?_))
        refine z_pop hC rfl dL_law_573 ?_
        refine z_aload_n hC dL_law_574 rfl rfl ?_
        refine z_aload_n hC dL_law_575 rfl rfl ?_
        refine z_iload_n hC dL_law_576 rfl rfl ?_
        refine z_iconst hC ic_1 dL_law_577 ?_
        refine z_iadd hC dL_law_578 ?_
        refine z_sld hC hX hbl hBs dL_law_579 hw (fun x579 hw => ?_)
        refine z_aload_n hC dL_law_580 rfl rfl ?_
        refine z_iload_n hC dL_law_581 rfl rfl ?_
        refine z_iconst hC ic_2 dL_law_582 ?_
        refine z_iadd hC dL_law_583 ?_
        refine z_sld hC hX hbl hBs dL_law_584 hw (fun x584 hw => ?_)
        refine z_callV (ku' := (80 * u)) (kv' := (1856 * u)) (n := 2) (As := [.int x579, .int x584]) (st := []) hC (c_X12_terms l G B S v2 x579 x584 _) hw.2 hw.1 rfl lk_1688 lk_1689 lk_1690 lk_133 lk_1691 hd_X12_terms rfl rfl (Nat.le_of_ble_eq_true rfl) (Nat.le_of_ble_eq_true rfl) rfl (Nat.le_of_ble_eq_true rfl) dL_law_585 (Nat.le_refl _) (Nat.le_refl _) (kI (fun x585 S hw => ?_))
        refine z_pop hC rfl dL_law_588 ?_
        refine z_goto (tgt := 1415) hC dL_law_589 (by decide) ?_
        refine z_mask (lv' := [some (.ref b0), some (.ref v1), some (.ref v2), some (.int v3)]) [true, true, true, true] rfl ?_
        exact t_L_law_b1415 hC hr hlk hX hbl hBs hmc hms (fun hw => ih hw) hw
      by_cases q33_10 : y33.toInt = 10
      · have hw := hw.2.2.2.2.2.2.2.2.2.2.1 q33_10
        refine z_tabIn (tgt := 592) (off := 559) hC 10 dL_law_33 q33_10 (by decide) rfl (by decide) ?_
        refine z_aload_n hC dL_law_592 rfl rfl ?_
        refine z_aload_n hC dL_law_593 rfl rfl ?_
        refine z_iload_n hC dL_law_594 rfl rfl ?_
        refine z_iconst hC ic_1 dL_law_595 ?_
        refine z_iadd hC dL_law_596 ?_
        refine z_sld hC hX hbl hBs dL_law_597 hw (fun x597 hw => ?_)
        refine z_aload_n hC dL_law_598 rfl rfl ?_
        refine z_iload_n hC dL_law_599 rfl rfl ?_
        refine z_iconst hC ic_2 dL_law_600 ?_
        refine z_iadd hC dL_law_601 ?_
        refine z_sld hC hX hbl hBs dL_law_602 hw (fun x602 hw => ?_)
        refine z_aload_n hC dL_law_603 rfl rfl ?_
        refine z_iload_n hC dL_law_604 rfl rfl ?_
        refine z_iconst hC ic_3 dL_law_605 ?_
        refine z_iadd hC dL_law_606 ?_
        refine z_sld hC hX hbl hBs dL_law_607 hw (fun x607 hw => ?_)
        refine z_aload_n hC dL_law_608 rfl rfl ?_
        refine z_iload_n hC dL_law_609 rfl rfl ?_
        refine z_iconst hC ic_4 dL_law_610 ?_
        refine z_iadd hC dL_law_611 ?_
        refine z_sld hC hX hbl hBs dL_law_612 hw (fun x612 hw => ?_)
        refine z_aload_n hC dL_law_613 rfl rfl ?_
        refine z_iload_n hC dL_law_614 rfl rfl ?_
        refine z_iconst hC ic_5 dL_law_615 ?_
        refine z_iadd hC dL_law_616 ?_
        refine z_sld hC hX hbl hBs dL_law_617 hw (fun x617 hw => ?_)
        refine z_callV (ku' := (80 * u)) (kv' := (1856 * u)) (n := 5) (As := [.int x597, .int x602, .int x607, .int x612, .int x617]) (st := []) hC (c_X11_feed l G B S v1 x597 x602 x607 x612 x617 _) hw.2 hw.1 rfl lk_750 lk_751 lk_752 lk_121 lk_753 hd_X11_feed rfl rfl (Nat.le_of_ble_eq_true rfl) (Nat.le_of_ble_eq_true rfl) rfl (Nat.le_of_ble_eq_true rfl) dL_law_618 (Nat.le_refl _) (Nat.le_refl _) (kI (fun x618 S hw => ?_))
        refine z_pop hC rfl dL_law_621 ?_
        refine z_aload_n hC dL_law_622 rfl rfl ?_
        refine z_aload_n hC dL_law_623 rfl rfl ?_
        refine z_iload_n hC dL_law_624 rfl rfl ?_
        refine z_iconst hC ic_1 dL_law_625 ?_
        refine z_iadd hC dL_law_626 ?_
        refine z_sld hC hX hbl hBs dL_law_627 hw (fun x627 hw => ?_)
        refine z_aload_n hC dL_law_628 rfl rfl ?_
        refine z_iload_n hC dL_law_629 rfl rfl ?_
        refine z_iconst hC ic_2 dL_law_630 ?_
        refine z_iadd hC dL_law_631 ?_
        refine z_sld hC hX hbl hBs dL_law_632 hw (fun x632 hw => ?_)
        refine z_aload_n hC dL_law_633 rfl rfl ?_
        refine z_iload_n hC dL_law_634 rfl rfl ?_
        refine z_iconst hC ic_3 dL_law_635 ?_
        refine z_iadd hC dL_law_636 ?_
        refine z_sld hC hX hbl hBs dL_law_637 hw (fun x637 hw => ?_)
        refine z_aload_n hC dL_law_638 rfl rfl ?_
        refine z_iload_n hC dL_law_639 rfl rfl ?_
        refine z_iconst hC ic_4 dL_law_640 ?_
        refine z_iadd hC dL_law_641 ?_
        refine z_sld hC hX hbl hBs dL_law_642 hw (fun x642 hw => ?_)
        refine z_aload_n hC dL_law_643 rfl rfl ?_
        refine z_iload_n hC dL_law_644 rfl rfl ?_
        refine z_iconst hC ic_5 dL_law_645 ?_
        refine z_iadd hC dL_law_646 ?_
        refine z_sld hC hX hbl hBs dL_law_647 hw (fun x647 hw => ?_)
        refine z_callV (ku' := (80 * u)) (kv' := (1856 * u)) (n := 5) (As := [.int x627, .int x632, .int x637, .int x642, .int x647]) (st := []) hC (c_X12_feed l G B S v2 x627 x632 x637 x642 x647 _) hw.2 hw.1 rfl lk_1701 lk_1702 lk_1703 lk_133 lk_1704 hd_X12_feed rfl rfl (Nat.le_of_ble_eq_true rfl) (Nat.le_of_ble_eq_true rfl) rfl (Nat.le_of_ble_eq_true rfl) dL_law_648 (Nat.le_refl _) (Nat.le_refl _) (kI (fun x648 S hw => ?_))
        refine z_pop hC rfl dL_law_651 ?_
        refine z_goto (tgt := 1415) hC dL_law_652 (by decide) ?_
        refine z_mask (lv' := [some (.ref b0), some (.ref v1), some (.ref v2), some (.int v3)]) [true, true, true, true] rfl ?_
        exact t_L_law_b1415 hC hr hlk hX hbl hBs hmc hms (fun hw => ih hw) hw
      by_cases q33_11 : y33.toInt = 11
      · have hw := hw.2.2.2.2.2.2.2.2.2.2.2.1 q33_11
        refine z_tabIn (tgt := 655) (off := 622) hC 11 dL_law_33 q33_11 (by decide) rfl (by decide) ?_
        refine z_aload_n hC dL_law_655 rfl rfl ?_
        refine z_aload_n hC dL_law_656 rfl rfl ?_
        refine z_iload_n hC dL_law_657 rfl rfl ?_
        refine z_iconst hC ic_1 dL_law_658 ?_
        refine z_iadd hC dL_law_659 ?_
        refine z_sld hC hX hbl hBs dL_law_660 hw (fun x660 hw => ?_)
        refine z_callV (ku' := (80 * u)) (kv' := (1856 * u)) (n := 1) (As := [.int x660]) (st := []) hC (c_X11_end l G B S v1 x660 _) hw.2 hw.1 rfl lk_758 lk_759 lk_760 lk_121 lk_761 hd_X11_end rfl rfl (Nat.le_of_ble_eq_true rfl) (Nat.le_of_ble_eq_true rfl) rfl (Nat.le_of_ble_eq_true rfl) dL_law_661 (Nat.le_refl _) (Nat.le_refl _) (kI (fun x661 S hw => ?_))
        refine z_pop hC rfl dL_law_664 ?_
        refine z_aload_n hC dL_law_665 rfl rfl ?_
        refine z_aload_n hC dL_law_666 rfl rfl ?_
        refine z_iload_n hC dL_law_667 rfl rfl ?_
        refine z_iconst hC ic_1 dL_law_668 ?_
        refine z_iadd hC dL_law_669 ?_
        refine z_sld hC hX hbl hBs dL_law_670 hw (fun x670 hw => ?_)
        refine z_callV (ku' := (80 * u)) (kv' := (1856 * u)) (n := 1) (As := [.int x670]) (st := []) hC (c_X12_end l G B S v2 x670 _) hw.2 hw.1 rfl lk_1709 lk_1710 lk_1711 lk_133 lk_1712 hd_X12_end rfl rfl (Nat.le_of_ble_eq_true rfl) (Nat.le_of_ble_eq_true rfl) rfl (Nat.le_of_ble_eq_true rfl) dL_law_671 (Nat.le_refl _) (Nat.le_refl _) (kI (fun x671 S hw => ?_))
        refine z_pop hC rfl dL_law_674 ?_
        refine z_goto (tgt := 1415) hC dL_law_675 (by decide) ?_
        refine z_mask (lv' := [some (.ref b0), some (.ref v1), some (.ref v2), some (.int v3)]) [true, true, true, true] rfl ?_
        exact t_L_law_b1415 hC hr hlk hX hbl hBs hmc hms (fun hw => ih hw) hw
      by_cases q33_12 : y33.toInt = 12
      · have hw := hw.2.2.2.2.2.2.2.2.2.2.2.2.1 q33_12
        refine z_tabIn (tgt := 678) (off := 645) hC 12 dL_law_33 q33_12 (by decide) rfl (by decide) ?_
        refine z_aload_n hC dL_law_678 rfl rfl ?_
        refine z_callV (ku' := (80 * u)) (kv' := (1856 * u)) (n := 0) (As := []) (st := []) hC (c_X11_row l G B S v1 _) hw.2 hw.1 rfl lk_762 lk_763 lk_764 lk_121 lk_765 hd_X11_row rfl rfl (Nat.le_of_ble_eq_true rfl) (Nat.le_of_ble_eq_true rfl) rfl (Nat.le_of_ble_eq_true rfl) dL_law_679 (Nat.le_refl _) (Nat.le_refl _) (kI (fun x679 S hw => ?_))
        refine z_pop hC rfl dL_law_682 ?_
        refine z_aload_n hC dL_law_683 rfl rfl ?_
        refine z_callV (ku' := (80 * u)) (kv' := (1856 * u)) (n := 0) (As := []) (st := []) hC (c_X12_row l G B S v2 _) hw.2 hw.1 rfl lk_1693 lk_1694 lk_1695 lk_133 lk_1696 hd_X12_row rfl rfl (Nat.le_of_ble_eq_true rfl) (Nat.le_of_ble_eq_true rfl) rfl (Nat.le_of_ble_eq_true rfl) dL_law_684 (Nat.le_refl _) (Nat.le_refl _) (kI (fun x684 S hw => ?_))
        refine z_pop hC rfl dL_law_687 ?_
        refine z_goto (tgt := 1415) hC dL_law_688 (by decide) ?_
        refine z_mask (lv' := [some (.ref b0), some (.ref v1), some (.ref v2), some (.int v3)]) [true, true, true, true] rfl ?_
        exact t_L_law_b1415 hC hr hlk hX hbl hBs hmc hms (fun hw => ih hw) hw
      by_cases q33_13 : y33.toInt = 13
      · have hw := hw.2.2.2.2.2.2.2.2.2.2.2.2.2.1 q33_13
        refine z_tabIn (tgt := 691) (off := 658) hC 13 dL_law_33 q33_13 (by decide) rfl (by decide) ?_
        refine z_aload_n hC dL_law_691 rfl rfl ?_
        refine z_callV (ku' := (80 * u)) (kv' := (1856 * u)) (n := 0) (As := []) (st := []) hC (c_X11_rust l G B S v1 _) hw.2 hw.1 rfl lk_770 lk_771 lk_772 lk_121 lk_773 hd_X11_rust rfl rfl (Nat.le_of_ble_eq_true rfl) (Nat.le_of_ble_eq_true rfl) rfl (Nat.le_of_ble_eq_true rfl) dL_law_692 (Nat.le_refl _) (Nat.le_refl _) (kI (fun x692 S hw => ?_))
        refine z_pop hC rfl dL_law_695 ?_
        refine z_aload_n hC dL_law_696 rfl rfl ?_
        refine z_callV (ku' := (80 * u)) (kv' := (1856 * u)) (n := 0) (As := []) (st := []) hC (c_X12_rust l G B S v2 _) hw.2 hw.1 rfl lk_1697 lk_1698 lk_1699 lk_133 lk_1700 hd_X12_rust rfl rfl (Nat.le_of_ble_eq_true rfl) (Nat.le_of_ble_eq_true rfl) rfl (Nat.le_of_ble_eq_true rfl) dL_law_697 (Nat.le_refl _) (Nat.le_refl _) (kI (fun x697 S hw => ?_))
        refine z_pop hC rfl dL_law_700 ?_
        refine z_goto (tgt := 1415) hC dL_law_701 (by decide) ?_
        refine z_mask (lv' := [some (.ref b0), some (.ref v1), some (.ref v2), some (.int v3)]) [true, true, true, true] rfl ?_
        exact t_L_law_b1415 hC hr hlk hX hbl hBs hmc hms (fun hw => ih hw) hw
      by_cases q33_14 : y33.toInt = 14
      · have hw := hw.2.2.2.2.2.2.2.2.2.2.2.2.2.2.1 q33_14
        refine z_tabIn (tgt := 704) (off := 671) hC 14 dL_law_33 q33_14 (by decide) rfl (by decide) ?_
        refine z_aload_n hC dL_law_704 rfl rfl ?_
        obtain ⟨u705, eu705, hu705⟩ := hw
        subst eu705
        have hw := hu705
        refine z_less (ku' := 80 * u705 + 80) (kv' := 1856 * u705 + 1856) (by omega) (by omega) ?_
        refine z_callV (ku' := (80 * u705 + 75)) (kv' := (1856 * u705 + 1365)) (n := 0) (As := []) (st := []) hC (c_X11_law l G B S v1 _) hw.2 hw.1 rfl lk_774 lk_775 lk_776 lk_121 lk_777 hd_X11_law rfl rfl (Nat.le_of_ble_eq_true rfl) (Nat.le_of_ble_eq_true rfl) rfl (Nat.le_of_ble_eq_true rfl) dL_law_705 (by omega) (by omega) (kI (fun x705 S hw => ?_))
        refine z_pop hC rfl dL_law_708 ?_
        refine z_aload_n hC dL_law_709 rfl rfl ?_
        refine z_callV (ku' := (80 * u705 + 75)) (kv' := (1856 * u705 + 1365)) (n := 0) (As := []) (st := []) hC (c_X12_law l G B S v2 _) hw.2 hw.1 rfl lk_1717 lk_1718 lk_1719 lk_133 lk_1720 hd_X12_law rfl rfl (Nat.le_of_ble_eq_true rfl) (Nat.le_of_ble_eq_true rfl) rfl (Nat.le_of_ble_eq_true rfl) dL_law_710 (Nat.le_refl _) (Nat.le_refl _) (kI (fun x710 S hw => ?_))
        refine z_pop hC rfl dL_law_713 ?_
        refine z_goto (tgt := 1415) hC dL_law_714 (by decide) ?_
        refine z_mask (lv' := [some (.ref b0), some (.ref v1), some (.ref v2), some (.int v3)]) [true, true, true, true] rfl ?_
        refine z_less (ku' := 80 * u705) (kv' := 1856 * u705) (by omega) (by omega) ?_
        exact t_L_law_b1415 hC hr hlk hX hbl hBs hmc hms (fun hw => ih hw) hw
      by_cases q33_15 : y33.toInt = 15
      · have hw := hw.2.2.2.2.2.2.2.2.2.2.2.2.2.2.2.1 q33_15
        refine z_tabIn (tgt := 717) (off := 684) hC 15 dL_law_33 q33_15 (by decide) rfl (by decide) ?_
        refine z_aload_n hC dL_law_717 rfl rfl ?_
        obtain ⟨u718, eu718, hu718⟩ := hw
        subst eu718
        have hw := hu718
        refine z_less (ku' := 80 * u718 + 80) (kv' := 1856 * u718 + 1856) (by omega) (by omega) ?_
        refine z_callV (ku' := (80 * u718)) (kv' := (1856 * u718)) (n := 0) (As := []) (st := []) hC (c_X11_orders l G B S v1 _) hw.2 hw.1 rfl lk_1008 lk_1009 lk_1010 lk_121 lk_1011 hd_X11_orders rfl rfl (Nat.le_of_ble_eq_true rfl) (Nat.le_of_ble_eq_true rfl) rfl (Nat.le_of_ble_eq_true rfl) dL_law_718 (by omega) (by omega) (kI (fun x718 S hw => ?_))
        refine z_pop hC rfl dL_law_721 ?_
        refine z_aload_n hC dL_law_722 rfl rfl ?_
        refine z_callV (ku' := (80 * u718)) (kv' := (1856 * u718)) (n := 0) (As := []) (st := []) hC (c_X12_orders l G B S v2 _) hw.2 hw.1 rfl lk_2018 lk_2019 lk_2020 lk_133 lk_2021 hd_X12_orders rfl rfl (Nat.le_of_ble_eq_true rfl) (Nat.le_of_ble_eq_true rfl) rfl (Nat.le_of_ble_eq_true rfl) dL_law_723 (Nat.le_refl _) (Nat.le_refl _) (kI (fun x723 S hw => ?_))
        refine z_pop hC rfl dL_law_726 ?_
        refine z_goto (tgt := 1415) hC dL_law_727 (by decide) ?_
        refine z_mask (lv' := [some (.ref b0), some (.ref v1), some (.ref v2), some (.int v3)]) [true, true, true, true] rfl ?_
        exact t_L_law_b1415 hC hr hlk hX hbl hBs hmc hms (fun hw => ih hw) hw
      by_cases q33_16 : y33.toInt = 16
      · have hw := hw.2.2.2.2.2.2.2.2.2.2.2.2.2.2.2.2.1 q33_16
        refine z_tabIn (tgt := 730) (off := 697) hC 16 dL_law_33 q33_16 (by decide) rfl (by decide) ?_
        refine z_aload_n hC dL_law_730 rfl rfl ?_
        refine z_callV (ku' := (80 * u)) (kv' := (1856 * u)) (n := 0) (As := []) (st := []) hC (c_X11_fault l G B S v1 _) hw.2 hw.1 rfl lk_1088 lk_1089 lk_1090 lk_121 lk_1091 hd_X11_fault rfl rfl (Nat.le_of_ble_eq_true rfl) (Nat.le_of_ble_eq_true rfl) rfl (Nat.le_of_ble_eq_true rfl) dL_law_731 (Nat.le_refl _) (Nat.le_refl _) (kI (fun x731 S hw => ?_))
        refine z_aload_n hC dL_law_734 rfl rfl ?_
        refine z_callV (ku' := (80 * u)) (kv' := (1856 * u)) (n := 0) (As := []) (st := [.int x731]) hC (c_X12_fault l G B S v2 _) hw.2 hw.1 rfl lk_1713 lk_1714 lk_1715 lk_133 lk_1716 hd_X12_fault rfl rfl (Nat.le_of_ble_eq_true rfl) (Nat.le_of_ble_eq_true rfl) rfl (Nat.le_of_ble_eq_true rfl) dL_law_735 (Nat.le_refl _) (Nat.le_refl _) (kI (fun x735 S hw => ?_))
        refine z_icmp_eq (tgt := 1415) hC dL_law_738 (by decide) (fun c738 => ?_) (fun c738 => ?_)
        · have hw := hw.1 c738
          refine z_mask (lv' := [some (.ref b0), some (.ref v1), some (.ref v2), some (.int v3)]) [true, true, true, true] rfl ?_
          exact t_L_law_b1415 hC hr hlk hX hbl hBs hmc hms (fun hw => ih hw) hw
        · have hw := hw.2 c738
          refine z_iconst hC ic_0 dL_law_741 ?_
          exact z_lawret hC hr hlk hBs hmc hms dL_law_742 hw
      by_cases q33_17 : y33.toInt = 17
      · have hw := hw.2.2.2.2.2.2.2.2.2.2.2.2.2.2.2.2.2.1 q33_17
        refine z_tabIn (tgt := 743) (off := 710) hC 17 dL_law_33 q33_17 (by decide) rfl (by decide) ?_
        refine z_aload_n hC dL_law_743 rfl rfl ?_
        refine z_callV (ku' := (80 * u)) (kv' := (1856 * u)) (n := 0) (As := []) (st := []) hC (c_X11_stopped l G B S v1 _) hw.2 hw.1 rfl lk_1092 lk_1093 lk_1094 lk_121 lk_1095 hd_X11_stopped rfl rfl (Nat.le_of_ble_eq_true rfl) (Nat.le_of_ble_eq_true rfl) rfl (Nat.le_of_ble_eq_true rfl) dL_law_744 (Nat.le_refl _) (Nat.le_refl _) (kI (fun x744 S hw => ?_))
        refine z_pop hC rfl dL_law_747 ?_
        refine z_aload_n hC dL_law_748 rfl rfl ?_
        refine z_callV (ku' := (80 * u)) (kv' := (1856 * u)) (n := 0) (As := []) (st := []) hC (c_X12_stopped l G B S v2 _) hw.2 hw.1 rfl lk_2053 lk_2054 lk_2055 lk_133 lk_2056 hd_X12_stopped rfl rfl (Nat.le_of_ble_eq_true rfl) (Nat.le_of_ble_eq_true rfl) rfl (Nat.le_of_ble_eq_true rfl) dL_law_749 (Nat.le_refl _) (Nat.le_refl _) (kI (fun x749 S hw => ?_))
        refine z_pop hC rfl dL_law_752 ?_
        refine z_goto (tgt := 1415) hC dL_law_753 (by decide) ?_
        refine z_mask (lv' := [some (.ref b0), some (.ref v1), some (.ref v2), some (.int v3)]) [true, true, true, true] rfl ?_
        exact t_L_law_b1415 hC hr hlk hX hbl hBs hmc hms (fun hw => ih hw) hw
      by_cases q33_18 : y33.toInt = 18
      · have hw := hw.2.2.2.2.2.2.2.2.2.2.2.2.2.2.2.2.2.2.1 q33_18
        refine z_tabIn (tgt := 756) (off := 723) hC 18 dL_law_33 q33_18 (by decide) rfl (by decide) ?_
        refine z_aload_n hC dL_law_756 rfl rfl ?_
        refine z_aload_n hC dL_law_757 rfl rfl ?_
        refine z_iload_n hC dL_law_758 rfl rfl ?_
        refine z_iconst hC ic_1 dL_law_759 ?_
        refine z_iadd hC dL_law_760 ?_
        refine z_sld hC hX hbl hBs dL_law_761 hw (fun x761 hw => ?_)
        refine z_callV (ku' := (80 * u)) (kv' := (1856 * u)) (n := 1) (As := [.int x761]) (st := []) hC (c_X11_force l G B S v1 x761 _) hw.2 hw.1 rfl lk_1096 lk_1097 lk_1098 lk_121 lk_1099 hd_X11_force rfl rfl (Nat.le_of_ble_eq_true rfl) (Nat.le_of_ble_eq_true rfl) rfl (Nat.le_of_ble_eq_true rfl) dL_law_762 (Nat.le_refl _) (Nat.le_refl _) (kI (fun x762 S hw => ?_))
        refine z_pop hC rfl dL_law_765 ?_
        refine z_aload_n hC dL_law_766 rfl rfl ?_
        refine z_aload_n hC dL_law_767 rfl rfl ?_
        refine z_iload_n hC dL_law_768 rfl rfl ?_
        refine z_iconst hC ic_1 dL_law_769 ?_
        refine z_iadd hC dL_law_770 ?_
        refine z_sld hC hX hbl hBs dL_law_771 hw (fun x771 hw => ?_)
        refine z_callV (ku' := (80 * u)) (kv' := (1856 * u)) (n := 1) (As := [.int x771]) (st := []) hC (c_X12_force l G B S v2 x771 _) hw.2 hw.1 rfl lk_1835 lk_1836 lk_1837 lk_133 lk_1838 hd_X12_force rfl rfl (Nat.le_of_ble_eq_true rfl) (Nat.le_of_ble_eq_true rfl) rfl (Nat.le_of_ble_eq_true rfl) dL_law_772 (Nat.le_refl _) (Nat.le_refl _) (kI (fun x772 S hw => ?_))
        refine z_pop hC rfl dL_law_775 ?_
        refine z_goto (tgt := 1415) hC dL_law_776 (by decide) ?_
        refine z_mask (lv' := [some (.ref b0), some (.ref v1), some (.ref v2), some (.int v3)]) [true, true, true, true] rfl ?_
        exact t_L_law_b1415 hC hr hlk hX hbl hBs hmc hms (fun hw => ih hw) hw
      by_cases q33_19 : y33.toInt = 19
      · have hw := hw.2.2.2.2.2.2.2.2.2.2.2.2.2.2.2.2.2.2.2.1 q33_19
        refine z_tabIn (tgt := 779) (off := 746) hC 19 dL_law_33 q33_19 (by decide) rfl (by decide) ?_
        refine z_aload_n hC dL_law_779 rfl rfl ?_
        refine z_aload_n hC dL_law_780 rfl rfl ?_
        refine z_iload_n hC dL_law_781 rfl rfl ?_
        refine z_iconst hC ic_1 dL_law_782 ?_
        refine z_iadd hC dL_law_783 ?_
        refine z_sld hC hX hbl hBs dL_law_784 hw (fun x784 hw => ?_)
        refine z_aload_n hC dL_law_785 rfl rfl ?_
        refine z_iload_n hC dL_law_786 rfl rfl ?_
        refine z_iconst hC ic_2 dL_law_787 ?_
        refine z_iadd hC dL_law_788 ?_
        refine z_sld hC hX hbl hBs dL_law_789 hw (fun x789 hw => ?_)
        obtain ⟨u790, eu790, hu790⟩ := hw
        subst eu790
        have hw := hu790
        refine z_less (ku' := 80 * u790 + 80) (kv' := 1856 * u790 + 1856) (by omega) (by omega) ?_
        refine z_callV (ku' := (80 * u790 + 75)) (kv' := (1856 * u790 + 1740)) (n := 2) (As := [.int x784, .int x789]) (st := []) hC (c_X11_ring l G B S v1 x784 x789 _) hw.2 hw.1 rfl lk_1100 lk_1101 lk_1102 lk_121 lk_1103 hd_X11_ring rfl rfl (Nat.le_of_ble_eq_true rfl) (Nat.le_of_ble_eq_true rfl) rfl (Nat.le_of_ble_eq_true rfl) dL_law_790 (by omega) (by omega) (kI (fun x790 S hw => ?_))
        refine z_pop hC rfl dL_law_793 ?_
        refine z_aload_n hC dL_law_794 rfl rfl ?_
        refine z_aload_n hC dL_law_795 rfl rfl ?_
        refine z_iload_n hC dL_law_796 rfl rfl ?_
        refine z_iconst hC ic_1 dL_law_797 ?_
        refine z_iadd hC dL_law_798 ?_
        refine z_sld hC hX hbl hBs dL_law_799 hw (fun x799 hw => ?_)
        refine z_aload_n hC dL_law_800 rfl rfl ?_
        refine z_iload_n hC dL_law_801 rfl rfl ?_
        refine z_iconst hC ic_2 dL_law_802 ?_
        refine z_iadd hC dL_law_803 ?_
        refine z_sld hC hX hbl hBs dL_law_804 hw (fun x804 hw => ?_)
        refine z_callV (ku' := (80 * u790 + 75)) (kv' := (1856 * u790 + 1740)) (n := 2) (As := [.int x799, .int x804]) (st := []) hC (c_X12_ring l G B S v2 x799 x804 _) hw.2 hw.1 rfl lk_1860 lk_1861 lk_1862 lk_133 lk_1863 hd_X12_ring rfl rfl (Nat.le_of_ble_eq_true rfl) (Nat.le_of_ble_eq_true rfl) rfl (Nat.le_of_ble_eq_true rfl) dL_law_805 (Nat.le_refl _) (Nat.le_refl _) (kI (fun x805 S hw => ?_))
        refine z_pop hC rfl dL_law_808 ?_
        refine z_goto (tgt := 1415) hC dL_law_809 (by decide) ?_
        refine z_mask (lv' := [some (.ref b0), some (.ref v1), some (.ref v2), some (.int v3)]) [true, true, true, true] rfl ?_
        refine z_less (ku' := 80 * u790) (kv' := 1856 * u790) (by omega) (by omega) ?_
        exact t_L_law_b1415 hC hr hlk hX hbl hBs hmc hms (fun hw => ih hw) hw
      by_cases q33_20 : y33.toInt = 20
      · have hw := hw.2.2.2.2.2.2.2.2.2.2.2.2.2.2.2.2.2.2.2.2.1 q33_20
        refine z_tabIn (tgt := 812) (off := 779) hC 20 dL_law_33 q33_20 (by decide) rfl (by decide) ?_
        refine z_aload_n hC dL_law_812 rfl rfl ?_
        refine z_aload_n hC dL_law_813 rfl rfl ?_
        refine z_iload_n hC dL_law_814 rfl rfl ?_
        refine z_iconst hC ic_1 dL_law_815 ?_
        refine z_iadd hC dL_law_816 ?_
        refine z_sld hC hX hbl hBs dL_law_817 hw (fun x817 hw => ?_)
        refine z_aload_n hC dL_law_818 rfl rfl ?_
        refine z_iload_n hC dL_law_819 rfl rfl ?_
        refine z_iconst hC ic_2 dL_law_820 ?_
        refine z_iadd hC dL_law_821 ?_
        refine z_sld hC hX hbl hBs dL_law_822 hw (fun x822 hw => ?_)
        refine z_aload_n hC dL_law_823 rfl rfl ?_
        refine z_iload_n hC dL_law_824 rfl rfl ?_
        refine z_iconst hC ic_3 dL_law_825 ?_
        refine z_iadd hC dL_law_826 ?_
        refine z_sld hC hX hbl hBs dL_law_827 hw (fun x827 hw => ?_)
        obtain ⟨u828, eu828, hu828⟩ := hw
        subst eu828
        have hw := hu828
        refine z_less (ku' := 80 * u828 + 80) (kv' := 1856 * u828 + 1856) (by omega) (by omega) ?_
        refine z_callV (ku' := (80 * u828 + 75)) (kv' := (1856 * u828 + 1740)) (n := 3) (As := [.int x817, .int x822, .int x827]) (st := []) hC (c_X11_sell l G B S v1 x817 x822 x827 _) hw.2 hw.1 rfl lk_1109 lk_1110 lk_1111 lk_121 lk_1112 hd_X11_sell rfl rfl (Nat.le_of_ble_eq_true rfl) (Nat.le_of_ble_eq_true rfl) rfl (Nat.le_of_ble_eq_true rfl) dL_law_828 (by omega) (by omega) (kI (fun x828 S hw => ?_))
        refine z_pop hC rfl dL_law_831 ?_
        refine z_aload_n hC dL_law_832 rfl rfl ?_
        refine z_aload_n hC dL_law_833 rfl rfl ?_
        refine z_iload_n hC dL_law_834 rfl rfl ?_
        refine z_iconst hC ic_1 dL_law_835 ?_
        refine z_iadd hC dL_law_836 ?_
        refine z_sld hC hX hbl hBs dL_law_837 hw (fun x837 hw => ?_)
        refine z_aload_n hC dL_law_838 rfl rfl ?_
        refine z_iload_n hC dL_law_839 rfl rfl ?_
        refine z_iconst hC ic_2 dL_law_840 ?_
        refine z_iadd hC dL_law_841 ?_
        refine z_sld hC hX hbl hBs dL_law_842 hw (fun x842 hw => ?_)
        refine z_aload_n hC dL_law_843 rfl rfl ?_
        refine z_iload_n hC dL_law_844 rfl rfl ?_
        refine z_iconst hC ic_3 dL_law_845 ?_
        refine z_iadd hC dL_law_846 ?_
        refine z_sld hC hX hbl hBs dL_law_847 hw (fun x847 hw => ?_)
        refine z_callV (ku' := (80 * u828 + 75)) (kv' := (1856 * u828 + 1740)) (n := 3) (As := [.int x837, .int x842, .int x847]) (st := []) hC (c_X12_sell l G B S v2 x837 x842 x847 _) hw.2 hw.1 rfl lk_1884 lk_1885 lk_1886 lk_133 lk_1887 hd_X12_sell rfl rfl (Nat.le_of_ble_eq_true rfl) (Nat.le_of_ble_eq_true rfl) rfl (Nat.le_of_ble_eq_true rfl) dL_law_848 (Nat.le_refl _) (Nat.le_refl _) (kI (fun x848 S hw => ?_))
        refine z_pop hC rfl dL_law_851 ?_
        refine z_goto (tgt := 1415) hC dL_law_852 (by decide) ?_
        refine z_mask (lv' := [some (.ref b0), some (.ref v1), some (.ref v2), some (.int v3)]) [true, true, true, true] rfl ?_
        refine z_less (ku' := 80 * u828) (kv' := 1856 * u828) (by omega) (by omega) ?_
        exact t_L_law_b1415 hC hr hlk hX hbl hBs hmc hms (fun hw => ih hw) hw
      by_cases q33_21 : y33.toInt = 21
      · have hw := hw.2.2.2.2.2.2.2.2.2.2.2.2.2.2.2.2.2.2.2.2.2.1 q33_21
        refine z_tabIn (tgt := 855) (off := 822) hC 21 dL_law_33 q33_21 (by decide) rfl (by decide) ?_
        refine z_aload_n hC dL_law_855 rfl rfl ?_
        refine z_aload_n hC dL_law_856 rfl rfl ?_
        refine z_iload_n hC dL_law_857 rfl rfl ?_
        refine z_iconst hC ic_1 dL_law_858 ?_
        refine z_iadd hC dL_law_859 ?_
        refine z_sld hC hX hbl hBs dL_law_860 hw (fun x860 hw => ?_)
        obtain ⟨u861, eu861, hu861⟩ := hw
        subst eu861
        have hw := hu861
        refine z_less (ku' := 80 * u861 + 80) (kv' := 1856 * u861 + 1856) (by omega) (by omega) ?_
        refine z_callV (ku' := (80 * u861 + 75)) (kv' := (1856 * u861 + 1740)) (n := 1) (As := [.int x860]) (st := []) hC (c_X11_die l G B S v1 x860 _) hw.2 hw.1 rfl lk_1114 lk_1115 lk_1116 lk_121 lk_1117 hd_X11_die rfl rfl (Nat.le_of_ble_eq_true rfl) (Nat.le_of_ble_eq_true rfl) rfl (Nat.le_of_ble_eq_true rfl) dL_law_861 (by omega) (by omega) (kI (fun x861 S hw => ?_))
        refine z_pop hC rfl dL_law_864 ?_
        refine z_aload_n hC dL_law_865 rfl rfl ?_
        refine z_aload_n hC dL_law_866 rfl rfl ?_
        refine z_iload_n hC dL_law_867 rfl rfl ?_
        refine z_iconst hC ic_1 dL_law_868 ?_
        refine z_iadd hC dL_law_869 ?_
        refine z_sld hC hX hbl hBs dL_law_870 hw (fun x870 hw => ?_)
        refine z_callV (ku' := (80 * u861 + 75)) (kv' := (1856 * u861 + 1740)) (n := 1) (As := [.int x870]) (st := []) hC (c_X12_die l G B S v2 x870 _) hw.2 hw.1 rfl lk_1892 lk_1893 lk_1894 lk_133 lk_1895 hd_X12_die rfl rfl (Nat.le_of_ble_eq_true rfl) (Nat.le_of_ble_eq_true rfl) rfl (Nat.le_of_ble_eq_true rfl) dL_law_871 (Nat.le_refl _) (Nat.le_refl _) (kI (fun x871 S hw => ?_))
        refine z_pop hC rfl dL_law_874 ?_
        refine z_goto (tgt := 1415) hC dL_law_875 (by decide) ?_
        refine z_mask (lv' := [some (.ref b0), some (.ref v1), some (.ref v2), some (.int v3)]) [true, true, true, true] rfl ?_
        refine z_less (ku' := 80 * u861) (kv' := 1856 * u861) (by omega) (by omega) ?_
        exact t_L_law_b1415 hC hr hlk hX hbl hBs hmc hms (fun hw => ih hw) hw
      by_cases q33_22 : y33.toInt = 22
      · have hw := hw.2.2.2.2.2.2.2.2.2.2.2.2.2.2.2.2.2.2.2.2.2.2.1 q33_22
        refine z_tabIn (tgt := 878) (off := 845) hC 22 dL_law_33 q33_22 (by decide) rfl (by decide) ?_
        refine z_aload_n hC dL_law_878 rfl rfl ?_
        obtain ⟨u879, eu879, hu879⟩ := hw
        subst eu879
        have hw := hu879
        refine z_less (ku' := 80 * u879 + 80) (kv' := 1856 * u879 + 1856) (by omega) (by omega) ?_
        refine z_callV (ku' := (80 * u879 + 75)) (kv' := (1856 * u879 + 1740)) (n := 0) (As := []) (st := []) hC (c_X11_pass l G B S v1 _) hw.2 hw.1 rfl lk_1119 lk_1120 lk_1121 lk_121 lk_1122 hd_X11_pass rfl rfl (Nat.le_of_ble_eq_true rfl) (Nat.le_of_ble_eq_true rfl) rfl (Nat.le_of_ble_eq_true rfl) dL_law_879 (by omega) (by omega) (kI (fun x879 S hw => ?_))
        refine z_pop hC rfl dL_law_882 ?_
        refine z_aload_n hC dL_law_883 rfl rfl ?_
        refine z_callV (ku' := (80 * u879 + 75)) (kv' := (1856 * u879 + 1740)) (n := 0) (As := []) (st := []) hC (c_X12_pass l G B S v2 _) hw.2 hw.1 rfl lk_1911 lk_1912 lk_1913 lk_133 lk_1914 hd_X12_pass rfl rfl (Nat.le_of_ble_eq_true rfl) (Nat.le_of_ble_eq_true rfl) rfl (Nat.le_of_ble_eq_true rfl) dL_law_884 (Nat.le_refl _) (Nat.le_refl _) (kI (fun x884 S hw => ?_))
        refine z_pop hC rfl dL_law_887 ?_
        refine z_goto (tgt := 1415) hC dL_law_888 (by decide) ?_
        refine z_mask (lv' := [some (.ref b0), some (.ref v1), some (.ref v2), some (.int v3)]) [true, true, true, true] rfl ?_
        refine z_less (ku' := 80 * u879) (kv' := 1856 * u879) (by omega) (by omega) ?_
        exact t_L_law_b1415 hC hr hlk hX hbl hBs hmc hms (fun hw => ih hw) hw
      by_cases q33_23 : y33.toInt = 23
      · have hw := hw.2.2.2.2.2.2.2.2.2.2.2.2.2.2.2.2.2.2.2.2.2.2.2.1 q33_23
        refine z_tabIn (tgt := 891) (off := 858) hC 23 dL_law_33 q33_23 (by decide) rfl (by decide) ?_
        refine z_aload_n hC dL_law_891 rfl rfl ?_
        refine z_callV (ku' := (80 * u)) (kv' := (1856 * u)) (n := 0) (As := []) (st := []) hC (c_X11_undo l G B S v1 _) hw.2 hw.1 rfl lk_1124 lk_1125 lk_1126 lk_121 lk_1127 hd_X11_undo rfl rfl (Nat.le_of_ble_eq_true rfl) (Nat.le_of_ble_eq_true rfl) rfl (Nat.le_of_ble_eq_true rfl) dL_law_892 (Nat.le_refl _) (Nat.le_refl _) (kI (fun x892 S hw => ?_))
        refine z_pop hC rfl dL_law_895 ?_
        refine z_aload_n hC dL_law_896 rfl rfl ?_
        refine z_callV (ku' := (80 * u)) (kv' := (1856 * u)) (n := 0) (As := []) (st := []) hC (c_X12_undo l G B S v2 _) hw.2 hw.1 rfl lk_1540 lk_1541 lk_1542 lk_133 lk_1543 hd_X12_undo rfl rfl (Nat.le_of_ble_eq_true rfl) (Nat.le_of_ble_eq_true rfl) rfl (Nat.le_of_ble_eq_true rfl) dL_law_897 (Nat.le_refl _) (Nat.le_refl _) (kI (fun x897 S hw => ?_))
        refine z_pop hC rfl dL_law_900 ?_
        refine z_goto (tgt := 1415) hC dL_law_901 (by decide) ?_
        refine z_mask (lv' := [some (.ref b0), some (.ref v1), some (.ref v2), some (.int v3)]) [true, true, true, true] rfl ?_
        exact t_L_law_b1415 hC hr hlk hX hbl hBs hmc hms (fun hw => ih hw) hw
      by_cases q33_24 : y33.toInt = 24
      · have hw := hw.2.2.2.2.2.2.2.2.2.2.2.2.2.2.2.2.2.2.2.2.2.2.2.2.1 q33_24
        refine z_tabIn (tgt := 904) (off := 871) hC 24 dL_law_33 q33_24 (by decide) rfl (by decide) ?_
        refine z_aload_n hC dL_law_904 rfl rfl ?_
        refine z_aload_n hC dL_law_905 rfl rfl ?_
        refine z_iload_n hC dL_law_906 rfl rfl ?_
        refine z_iconst hC ic_1 dL_law_907 ?_
        refine z_iadd hC dL_law_908 ?_
        refine z_sld hC hX hbl hBs dL_law_909 hw (fun x909 hw => ?_)
        refine z_aload_n hC dL_law_910 rfl rfl ?_
        refine z_iload_n hC dL_law_911 rfl rfl ?_
        refine z_iconst hC ic_2 dL_law_912 ?_
        refine z_iadd hC dL_law_913 ?_
        refine z_sld hC hX hbl hBs dL_law_914 hw (fun x914 hw => ?_)
        refine z_aload_n hC dL_law_915 rfl rfl ?_
        refine z_iload_n hC dL_law_916 rfl rfl ?_
        refine z_iconst hC ic_3 dL_law_917 ?_
        refine z_iadd hC dL_law_918 ?_
        refine z_sld hC hX hbl hBs dL_law_919 hw (fun x919 hw => ?_)
        refine z_callV (ku' := (80 * u)) (kv' := (1856 * u)) (n := 3) (As := [.int x909, .int x914, .int x919]) (st := []) hC (c_X11_visits l G B S v1 x909 x914 x919 _) hw.2 hw.1 rfl lk_1132 lk_1133 lk_1134 lk_121 lk_1135 hd_X11_visits rfl rfl (Nat.le_of_ble_eq_true rfl) (Nat.le_of_ble_eq_true rfl) rfl (Nat.le_of_ble_eq_true rfl) dL_law_920 (Nat.le_refl _) (Nat.le_refl _) (kI (fun x920 S hw => ?_))
        refine z_pop hC rfl dL_law_923 ?_
        refine z_aload_n hC dL_law_924 rfl rfl ?_
        refine z_aload_n hC dL_law_925 rfl rfl ?_
        refine z_iload_n hC dL_law_926 rfl rfl ?_
        refine z_iconst hC ic_1 dL_law_927 ?_
        refine z_iadd hC dL_law_928 ?_
        refine z_sld hC hX hbl hBs dL_law_929 hw (fun x929 hw => ?_)
        refine z_aload_n hC dL_law_930 rfl rfl ?_
        refine z_iload_n hC dL_law_931 rfl rfl ?_
        refine z_iconst hC ic_2 dL_law_932 ?_
        refine z_iadd hC dL_law_933 ?_
        refine z_sld hC hX hbl hBs dL_law_934 hw (fun x934 hw => ?_)
        refine z_aload_n hC dL_law_935 rfl rfl ?_
        refine z_iload_n hC dL_law_936 rfl rfl ?_
        refine z_iconst hC ic_3 dL_law_937 ?_
        refine z_iadd hC dL_law_938 ?_
        refine z_sld hC hX hbl hBs dL_law_939 hw (fun x939 hw => ?_)
        refine z_callV (ku' := (80 * u)) (kv' := (1856 * u)) (n := 3) (As := [.int x929, .int x934, .int x939]) (st := []) hC (c_X12_visits l G B S v2 x929 x934 x939 _) hw.2 hw.1 rfl lk_1923 lk_1924 lk_1925 lk_133 lk_1926 hd_X12_visits rfl rfl (Nat.le_of_ble_eq_true rfl) (Nat.le_of_ble_eq_true rfl) rfl (Nat.le_of_ble_eq_true rfl) dL_law_940 (Nat.le_refl _) (Nat.le_refl _) (kI (fun x940 S hw => ?_))
        refine z_pop hC rfl dL_law_943 ?_
        refine z_goto (tgt := 1415) hC dL_law_944 (by decide) ?_
        refine z_mask (lv' := [some (.ref b0), some (.ref v1), some (.ref v2), some (.int v3)]) [true, true, true, true] rfl ?_
        exact t_L_law_b1415 hC hr hlk hX hbl hBs hmc hms (fun hw => ih hw) hw
      by_cases q33_25 : y33.toInt = 25
      · have hw := hw.2.2.2.2.2.2.2.2.2.2.2.2.2.2.2.2.2.2.2.2.2.2.2.2.2.1 q33_25
        refine z_tabIn (tgt := 947) (off := 914) hC 25 dL_law_33 q33_25 (by decide) rfl (by decide) ?_
        refine z_aload_n hC dL_law_947 rfl rfl ?_
        refine z_aload_n hC dL_law_948 rfl rfl ?_
        refine z_iload_n hC dL_law_949 rfl rfl ?_
        refine z_iconst hC ic_1 dL_law_950 ?_
        refine z_iadd hC dL_law_951 ?_
        refine z_sld hC hX hbl hBs dL_law_952 hw (fun x952 hw => ?_)
        refine z_callV (ku' := (80 * u)) (kv' := (1856 * u)) (n := 1) (As := [.int x952]) (st := []) hC (c_X11_exchange l G B S v1 x952 _) hw.2 hw.1 rfl lk_1154 lk_1155 lk_1156 lk_121 lk_1157 hd_X11_exchange rfl rfl (Nat.le_of_ble_eq_true rfl) (Nat.le_of_ble_eq_true rfl) rfl (Nat.le_of_ble_eq_true rfl) dL_law_953 (Nat.le_refl _) (Nat.le_refl _) (kI (fun x953 S hw => ?_))
        refine z_pop hC rfl dL_law_956 ?_
        refine z_aload_n hC dL_law_957 rfl rfl ?_
        refine z_aload_n hC dL_law_958 rfl rfl ?_
        refine z_iload_n hC dL_law_959 rfl rfl ?_
        refine z_iconst hC ic_1 dL_law_960 ?_
        refine z_iadd hC dL_law_961 ?_
        refine z_sld hC hX hbl hBs dL_law_962 hw (fun x962 hw => ?_)
        refine z_callV (ku' := (80 * u)) (kv' := (1856 * u)) (n := 1) (As := [.int x962]) (st := []) hC (c_X12_exchange l G B S v2 x962 _) hw.2 hw.1 rfl lk_1938 lk_1939 lk_1940 lk_133 lk_1941 hd_X12_exchange rfl rfl (Nat.le_of_ble_eq_true rfl) (Nat.le_of_ble_eq_true rfl) rfl (Nat.le_of_ble_eq_true rfl) dL_law_963 (Nat.le_refl _) (Nat.le_refl _) (kI (fun x963 S hw => ?_))
        refine z_pop hC rfl dL_law_966 ?_
        refine z_goto (tgt := 1415) hC dL_law_967 (by decide) ?_
        refine z_mask (lv' := [some (.ref b0), some (.ref v1), some (.ref v2), some (.int v3)]) [true, true, true, true] rfl ?_
        exact t_L_law_b1415 hC hr hlk hX hbl hBs hmc hms (fun hw => ih hw) hw
      by_cases q33_26 : y33.toInt = 26
      · have hw := hw.2.2.2.2.2.2.2.2.2.2.2.2.2.2.2.2.2.2.2.2.2.2.2.2.2.2.1 q33_26
        refine z_tabIn (tgt := 970) (off := 937) hC 26 dL_law_33 q33_26 (by decide) rfl (by decide) ?_
        refine z_aload_n hC dL_law_970 rfl rfl ?_
        refine z_aload_n hC dL_law_971 rfl rfl ?_
        refine z_iload_n hC dL_law_972 rfl rfl ?_
        refine z_iconst hC ic_1 dL_law_973 ?_
        refine z_iadd hC dL_law_974 ?_
        refine z_sld hC hX hbl hBs dL_law_975 hw (fun x975 hw => ?_)
        refine z_aload_n hC dL_law_976 rfl rfl ?_
        refine z_iload_n hC dL_law_977 rfl rfl ?_
        refine z_iconst hC ic_2 dL_law_978 ?_
        refine z_iadd hC dL_law_979 ?_
        refine z_sld hC hX hbl hBs dL_law_980 hw (fun x980 hw => ?_)
        refine z_callV (ku' := (80 * u)) (kv' := (1856 * u)) (n := 2) (As := [.int x975, .int x980]) (st := []) hC (c_X11_clue l G B S v1 x975 x980 _) hw.2 hw.1 rfl lk_1181 lk_1182 lk_1183 lk_121 lk_1184 hd_X11_clue rfl rfl (Nat.le_of_ble_eq_true rfl) (Nat.le_of_ble_eq_true rfl) rfl (Nat.le_of_ble_eq_true rfl) dL_law_981 (Nat.le_refl _) (Nat.le_refl _) (kI (fun x981 S hw => ?_))
        refine z_pop hC rfl dL_law_984 ?_
        refine z_aload_n hC dL_law_985 rfl rfl ?_
        refine z_aload_n hC dL_law_986 rfl rfl ?_
        refine z_iload_n hC dL_law_987 rfl rfl ?_
        refine z_iconst hC ic_1 dL_law_988 ?_
        refine z_iadd hC dL_law_989 ?_
        refine z_sld hC hX hbl hBs dL_law_990 hw (fun x990 hw => ?_)
        refine z_aload_n hC dL_law_991 rfl rfl ?_
        refine z_iload_n hC dL_law_992 rfl rfl ?_
        refine z_iconst hC ic_2 dL_law_993 ?_
        refine z_iadd hC dL_law_994 ?_
        refine z_sld hC hX hbl hBs dL_law_995 hw (fun x995 hw => ?_)
        refine z_callV (ku' := (80 * u)) (kv' := (1856 * u)) (n := 2) (As := [.int x990, .int x995]) (st := []) hC (c_X12_clue l G B S v2 x990 x995 _) hw.2 hw.1 rfl lk_1954 lk_1955 lk_1956 lk_133 lk_1957 hd_X12_clue rfl rfl (Nat.le_of_ble_eq_true rfl) (Nat.le_of_ble_eq_true rfl) rfl (Nat.le_of_ble_eq_true rfl) dL_law_996 (Nat.le_refl _) (Nat.le_refl _) (kI (fun x996 S hw => ?_))
        refine z_pop hC rfl dL_law_999 ?_
        refine z_goto (tgt := 1415) hC dL_law_1000 (by decide) ?_
        refine z_mask (lv' := [some (.ref b0), some (.ref v1), some (.ref v2), some (.int v3)]) [true, true, true, true] rfl ?_
        exact t_L_law_b1415 hC hr hlk hX hbl hBs hmc hms (fun hw => ih hw) hw
      by_cases q33_27 : y33.toInt = 27
      · have hw := hw.2.2.2.2.2.2.2.2.2.2.2.2.2.2.2.2.2.2.2.2.2.2.2.2.2.2.2.1 q33_27
        refine z_tabIn (tgt := 1003) (off := 970) hC 27 dL_law_33 q33_27 (by decide) rfl (by decide) ?_
        refine z_aload_n hC dL_law_1003 rfl rfl ?_
        refine z_callV (ku' := (80 * u)) (kv' := (1856 * u)) (n := 0) (As := []) (st := []) hC (c_X11_forget l G B S v1 _) hw.2 hw.1 rfl lk_1185 lk_1186 lk_1187 lk_121 lk_1188 hd_X11_forget rfl rfl (Nat.le_of_ble_eq_true rfl) (Nat.le_of_ble_eq_true rfl) rfl (Nat.le_of_ble_eq_true rfl) dL_law_1004 (Nat.le_refl _) (Nat.le_refl _) (kI (fun x1004 S hw => ?_))
        refine z_pop hC rfl dL_law_1007 ?_
        refine z_aload_n hC dL_law_1008 rfl rfl ?_
        refine z_callV (ku' := (80 * u)) (kv' := (1856 * u)) (n := 0) (As := []) (st := []) hC (c_X12_forget l G B S v2 _) hw.2 hw.1 rfl lk_1958 lk_1959 lk_1960 lk_133 lk_1961 hd_X12_forget rfl rfl (Nat.le_of_ble_eq_true rfl) (Nat.le_of_ble_eq_true rfl) rfl (Nat.le_of_ble_eq_true rfl) dL_law_1009 (Nat.le_refl _) (Nat.le_refl _) (kI (fun x1009 S hw => ?_))
        refine z_pop hC rfl dL_law_1012 ?_
        refine z_goto (tgt := 1415) hC dL_law_1013 (by decide) ?_
        refine z_mask (lv' := [some (.ref b0), some (.ref v1), some (.ref v2), some (.int v3)]) [true, true, true, true] rfl ?_
        exact t_L_law_b1415 hC hr hlk hX hbl hBs hmc hms (fun hw => ih hw) hw
      by_cases q33_28 : y33.toInt = 28
      · have hw := hw.2.2.2.2.2.2.2.2.2.2.2.2.2.2.2.2.2.2.2.2.2.2.2.2.2.2.2.2.1 q33_28
        refine z_tabIn (tgt := 1016) (off := 983) hC 28 dL_law_33 q33_28 (by decide) rfl (by decide) ?_
        refine z_aload_n hC dL_law_1016 rfl rfl ?_
        refine z_callV (ku' := (80 * u)) (kv' := (1856 * u)) (n := 0) (As := []) (st := []) hC (c_X11_who l G B S v1 _) hw.2 hw.1 rfl lk_1189 lk_1190 lk_1191 lk_121 lk_1192 hd_X11_who rfl rfl (Nat.le_of_ble_eq_true rfl) (Nat.le_of_ble_eq_true rfl) rfl (Nat.le_of_ble_eq_true rfl) dL_law_1017 (Nat.le_refl _) (Nat.le_refl _) (kI (fun x1017 S hw => ?_))
        refine z_pop hC rfl dL_law_1020 ?_
        refine z_aload_n hC dL_law_1021 rfl rfl ?_
        refine z_callV (ku' := (80 * u)) (kv' := (1856 * u)) (n := 0) (As := []) (st := []) hC (c_X12_who l G B S v2 _) hw.2 hw.1 rfl lk_1962 lk_1963 lk_1964 lk_133 lk_1965 hd_X12_who rfl rfl (Nat.le_of_ble_eq_true rfl) (Nat.le_of_ble_eq_true rfl) rfl (Nat.le_of_ble_eq_true rfl) dL_law_1022 (Nat.le_refl _) (Nat.le_refl _) (kI (fun x1022 S hw => ?_))
        refine z_pop hC rfl dL_law_1025 ?_
        refine z_goto (tgt := 1415) hC dL_law_1026 (by decide) ?_
        refine z_mask (lv' := [some (.ref b0), some (.ref v1), some (.ref v2), some (.int v3)]) [true, true, true, true] rfl ?_
        exact t_L_law_b1415 hC hr hlk hX hbl hBs hmc hms (fun hw => ih hw) hw
      by_cases q33_29 : y33.toInt = 29
      · have hw := hw.2.2.2.2.2.2.2.2.2.2.2.2.2.2.2.2.2.2.2.2.2.2.2.2.2.2.2.2.2.1 q33_29
        refine z_tabIn (tgt := 1029) (off := 996) hC 29 dL_law_33 q33_29 (by decide) rfl (by decide) ?_
        refine z_aload_n hC dL_law_1029 rfl rfl ?_
        refine z_aload_n hC dL_law_1030 rfl rfl ?_
        refine z_iload_n hC dL_law_1031 rfl rfl ?_
        refine z_iconst hC ic_1 dL_law_1032 ?_
        refine z_iadd hC dL_law_1033 ?_
        refine z_sld hC hX hbl hBs dL_law_1034 hw (fun x1034 hw => ?_)
        refine z_callV (ku' := (80 * u)) (kv' := (1856 * u)) (n := 1) (As := [.int x1034]) (st := []) hC (c_X11_look l G B S v1 x1034 _) hw.2 hw.1 rfl lk_1206 lk_1207 lk_1208 lk_121 lk_1209 hd_X11_look rfl rfl (Nat.le_of_ble_eq_true rfl) (Nat.le_of_ble_eq_true rfl) rfl (Nat.le_of_ble_eq_true rfl) dL_law_1035 (Nat.le_refl _) (Nat.le_refl _) (kI (fun x1035 S hw => ?_))
        refine z_pop hC rfl dL_law_1038 ?_
        refine z_aload_n hC dL_law_1039 rfl rfl ?_
        refine z_aload_n hC dL_law_1040 rfl rfl ?_
        refine z_iload_n hC dL_law_1041 rfl rfl ?_
        refine z_iconst hC ic_1 dL_law_1042 ?_
        refine z_iadd hC dL_law_1043 ?_
        refine z_sld hC hX hbl hBs dL_law_1044 hw (fun x1044 hw => ?_)
        refine z_callV (ku' := (80 * u)) (kv' := (1856 * u)) (n := 1) (As := [.int x1044]) (st := []) hC (c_X12_look l G B S v2 x1044 _) hw.2 hw.1 rfl lk_1978 lk_1979 lk_1980 lk_133 lk_1981 hd_X12_look rfl rfl (Nat.le_of_ble_eq_true rfl) (Nat.le_of_ble_eq_true rfl) rfl (Nat.le_of_ble_eq_true rfl) dL_law_1045 (Nat.le_refl _) (Nat.le_refl _) (kI (fun x1045 S hw => ?_))
        refine z_pop hC rfl dL_law_1048 ?_
        refine z_goto (tgt := 1415) hC dL_law_1049 (by decide) ?_
        refine z_mask (lv' := [some (.ref b0), some (.ref v1), some (.ref v2), some (.int v3)]) [true, true, true, true] rfl ?_
        exact t_L_law_b1415 hC hr hlk hX hbl hBs hmc hms (fun hw => ih hw) hw
      by_cases q33_30 : y33.toInt = 30
      · have hw := hw.2.2.2.2.2.2.2.2.2.2.2.2.2.2.2.2.2.2.2.2.2.2.2.2.2.2.2.2.2.2.1 q33_30
        refine z_tabIn (tgt := 1052) (off := 1019) hC 30 dL_law_33 q33_30 (by decide) rfl (by decide) ?_
        refine z_aload_n hC dL_law_1052 rfl rfl ?_
        refine z_aload_n hC dL_law_1053 rfl rfl ?_
        refine z_iload_n hC dL_law_1054 rfl rfl ?_
        refine z_iconst hC ic_1 dL_law_1055 ?_
        refine z_iadd hC dL_law_1056 ?_
        refine z_sld hC hX hbl hBs dL_law_1057 hw (fun x1057 hw => ?_)
        refine z_aload_n hC dL_law_1058 rfl rfl ?_
        refine z_iload_n hC dL_law_1059 rfl rfl ?_
        refine z_iconst hC ic_2 dL_law_1060 ?_
        refine z_iadd hC dL_law_1061 ?_
        refine z_sld hC hX hbl hBs dL_law_1062 hw (fun x1062 hw => ?_)
        refine z_callV (ku' := (80 * u)) (kv' := (1856 * u)) (n := 2) (As := [.int x1057, .int x1062]) (st := []) hC (c_X11_amend l G B S v1 x1057 x1062 _) hw.2 hw.1 rfl lk_1215 lk_1216 lk_1217 lk_121 lk_1218 hd_X11_amend rfl rfl (Nat.le_of_ble_eq_true rfl) (Nat.le_of_ble_eq_true rfl) rfl (Nat.le_of_ble_eq_true rfl) dL_law_1063 (Nat.le_refl _) (Nat.le_refl _) (kI (fun x1063 S hw => ?_))
        refine z_pop hC rfl dL_law_1066 ?_
        refine z_aload_n hC dL_law_1067 rfl rfl ?_
        refine z_aload_n hC dL_law_1068 rfl rfl ?_
        refine z_iload_n hC dL_law_1069 rfl rfl ?_
        refine z_iconst hC ic_1 dL_law_1070 ?_
        refine z_iadd hC dL_law_1071 ?_
        refine z_sld hC hX hbl hBs dL_law_1072 hw (fun x1072 hw => ?_)
        refine z_aload_n hC dL_law_1073 rfl rfl ?_
        refine z_iload_n hC dL_law_1074 rfl rfl ?_
        refine z_iconst hC ic_2 dL_law_1075 ?_
        refine z_iadd hC dL_law_1076 ?_
        refine z_sld hC hX hbl hBs dL_law_1077 hw (fun x1077 hw => ?_)
        refine z_callV (ku' := (80 * u)) (kv' := (1856 * u)) (n := 2) (As := [.int x1072, .int x1077]) (st := []) hC (c_X12_amend l G B S v2 x1072 x1077 _) hw.2 hw.1 rfl lk_1983 lk_1984 lk_1985 lk_133 lk_1986 hd_X12_amend rfl rfl (Nat.le_of_ble_eq_true rfl) (Nat.le_of_ble_eq_true rfl) rfl (Nat.le_of_ble_eq_true rfl) dL_law_1078 (Nat.le_refl _) (Nat.le_refl _) (kI (fun x1078 S hw => ?_))
        refine z_pop hC rfl dL_law_1081 ?_
        refine z_goto (tgt := 1415) hC dL_law_1082 (by decide) ?_
        refine z_mask (lv' := [some (.ref b0), some (.ref v1), some (.ref v2), some (.int v3)]) [true, true, true, true] rfl ?_
        exact t_L_law_b1415 hC hr hlk hX hbl hBs hmc hms (fun hw => ih hw) hw
      by_cases q33_31 : y33.toInt = 31
      · have hw := hw.2.2.2.2.2.2.2.2.2.2.2.2.2.2.2.2.2.2.2.2.2.2.2.2.2.2.2.2.2.2.2.1 q33_31
        refine z_tabIn (tgt := 1085) (off := 1052) hC 31 dL_law_33 q33_31 (by decide) rfl (by decide) ?_
        refine z_aload_n hC dL_law_1085 rfl rfl ?_
        refine z_aload_n hC dL_law_1086 rfl rfl ?_
        refine z_iload_n hC dL_law_1087 rfl rfl ?_
        refine z_iconst hC ic_1 dL_law_1088 ?_
        refine z_iadd hC dL_law_1089 ?_
        refine z_sld hC hX hbl hBs dL_law_1090 hw (fun x1090 hw => ?_)
        refine z_aload_n hC dL_law_1091 rfl rfl ?_
        refine z_iload_n hC dL_law_1092 rfl rfl ?_
        refine z_iconst hC ic_2 dL_law_1093 ?_
        refine z_iadd hC dL_law_1094 ?_
        refine z_sld hC hX hbl hBs dL_law_1095 hw (fun x1095 hw => ?_)
        refine z_aload_n hC dL_law_1096 rfl rfl ?_
        refine z_iload_n hC dL_law_1097 rfl rfl ?_
        refine z_iconst hC ic_3 dL_law_1098 ?_
        refine z_iadd hC dL_law_1099 ?_
        refine z_sld hC hX hbl hBs dL_law_1100 hw (fun x1100 hw => ?_)
        refine z_callV (ku' := (80 * u)) (kv' := (1856 * u)) (n := 3) (As := [.int x1090, .int x1095, .int x1100]) (st := []) hC (c_X11_given l G B S v1 x1090 x1095 x1100 _) hw.2 hw.1 rfl lk_1228 lk_1229 lk_1230 lk_121 lk_1231 hd_X11_given rfl rfl (Nat.le_of_ble_eq_true rfl) (Nat.le_of_ble_eq_true rfl) rfl (Nat.le_of_ble_eq_true rfl) dL_law_1101 (Nat.le_refl _) (Nat.le_refl _) (kI (fun x1101 S hw => ?_))
        refine z_pop hC rfl dL_law_1104 ?_
        refine z_aload_n hC dL_law_1105 rfl rfl ?_
        refine z_aload_n hC dL_law_1106 rfl rfl ?_
        refine z_iload_n hC dL_law_1107 rfl rfl ?_
        refine z_iconst hC ic_1 dL_law_1108 ?_
        refine z_iadd hC dL_law_1109 ?_
        refine z_sld hC hX hbl hBs dL_law_1110 hw (fun x1110 hw => ?_)
        refine z_aload_n hC dL_law_1111 rfl rfl ?_
        refine z_iload_n hC dL_law_1112 rfl rfl ?_
        refine z_iconst hC ic_2 dL_law_1113 ?_
        refine z_iadd hC dL_law_1114 ?_
        refine z_sld hC hX hbl hBs dL_law_1115 hw (fun x1115 hw => ?_)
        refine z_aload_n hC dL_law_1116 rfl rfl ?_
        refine z_iload_n hC dL_law_1117 rfl rfl ?_
        refine z_iconst hC ic_3 dL_law_1118 ?_
        refine z_iadd hC dL_law_1119 ?_
        refine z_sld hC hX hbl hBs dL_law_1120 hw (fun x1120 hw => ?_)
        refine z_callV (ku' := (80 * u)) (kv' := (1856 * u)) (n := 3) (As := [.int x1110, .int x1115, .int x1120]) (st := []) hC (c_X12_given l G B S v2 x1110 x1115 x1120 _) hw.2 hw.1 rfl lk_1987 lk_1988 lk_1989 lk_133 lk_1990 hd_X12_given rfl rfl (Nat.le_of_ble_eq_true rfl) (Nat.le_of_ble_eq_true rfl) rfl (Nat.le_of_ble_eq_true rfl) dL_law_1121 (Nat.le_refl _) (Nat.le_refl _) (kI (fun x1121 S hw => ?_))
        refine z_pop hC rfl dL_law_1124 ?_
        refine z_goto (tgt := 1415) hC dL_law_1125 (by decide) ?_
        refine z_mask (lv' := [some (.ref b0), some (.ref v1), some (.ref v2), some (.int v3)]) [true, true, true, true] rfl ?_
        exact t_L_law_b1415 hC hr hlk hX hbl hBs hmc hms (fun hw => ih hw) hw
      by_cases q33_32 : y33.toInt = 32
      · have hw := hw.2.2.2.2.2.2.2.2.2.2.2.2.2.2.2.2.2.2.2.2.2.2.2.2.2.2.2.2.2.2.2.2.1 q33_32
        refine z_tabIn (tgt := 1128) (off := 1095) hC 32 dL_law_33 q33_32 (by decide) rfl (by decide) ?_
        refine z_aload_n hC dL_law_1128 rfl rfl ?_
        refine z_aload_n hC dL_law_1129 rfl rfl ?_
        refine z_iload_n hC dL_law_1130 rfl rfl ?_
        refine z_iconst hC ic_1 dL_law_1131 ?_
        refine z_iadd hC dL_law_1132 ?_
        refine z_sld hC hX hbl hBs dL_law_1133 hw (fun x1133 hw => ?_)
        refine z_aload_n hC dL_law_1134 rfl rfl ?_
        refine z_iload_n hC dL_law_1135 rfl rfl ?_
        refine z_iconst hC ic_2 dL_law_1136 ?_
        refine z_iadd hC dL_law_1137 ?_
        refine z_sld hC hX hbl hBs dL_law_1138 hw (fun x1138 hw => ?_)
        refine z_aload_n hC dL_law_1139 rfl rfl ?_
        refine z_iload_n hC dL_law_1140 rfl rfl ?_
        refine z_iconst hC ic_3 dL_law_1141 ?_
        refine z_iadd hC dL_law_1142 ?_
        refine z_sld hC hX hbl hBs dL_law_1143 hw (fun x1143 hw => ?_)
        refine z_aload_n hC dL_law_1144 rfl rfl ?_
        refine z_iload_n hC dL_law_1145 rfl rfl ?_
        refine z_iconst hC ic_4 dL_law_1146 ?_
        refine z_iadd hC dL_law_1147 ?_
        refine z_sld hC hX hbl hBs dL_law_1148 hw (fun x1148 hw => ?_)
        refine z_callV (ku' := (80 * u)) (kv' := (1856 * u)) (n := 4) (As := [.int x1133, .int x1138, .int x1143, .int x1148]) (st := []) hC (c_X11_keep l G B S v1 x1133 x1138 x1143 x1148 _) hw.2 hw.1 rfl lk_1236 lk_1237 lk_1238 lk_121 lk_1239 hd_X11_keep rfl rfl (Nat.le_of_ble_eq_true rfl) (Nat.le_of_ble_eq_true rfl) rfl (Nat.le_of_ble_eq_true rfl) dL_law_1149 (Nat.le_refl _) (Nat.le_refl _) (kI (fun x1149 S hw => ?_))
        refine z_pop hC rfl dL_law_1152 ?_
        refine z_aload_n hC dL_law_1153 rfl rfl ?_
        refine z_aload_n hC dL_law_1154 rfl rfl ?_
        refine z_iload_n hC dL_law_1155 rfl rfl ?_
        refine z_iconst hC ic_1 dL_law_1156 ?_
        refine z_iadd hC dL_law_1157 ?_
        refine z_sld hC hX hbl hBs dL_law_1158 hw (fun x1158 hw => ?_)
        refine z_aload_n hC dL_law_1159 rfl rfl ?_
        refine z_iload_n hC dL_law_1160 rfl rfl ?_
        refine z_iconst hC ic_2 dL_law_1161 ?_
        refine z_iadd hC dL_law_1162 ?_
        refine z_sld hC hX hbl hBs dL_law_1163 hw (fun x1163 hw => ?_)
        refine z_aload_n hC dL_law_1164 rfl rfl ?_
        refine z_iload_n hC dL_law_1165 rfl rfl ?_
        refine z_iconst hC ic_3 dL_law_1166 ?_
        refine z_iadd hC dL_law_1167 ?_
        refine z_sld hC hX hbl hBs dL_law_1168 hw (fun x1168 hw => ?_)
        refine z_aload_n hC dL_law_1169 rfl rfl ?_
        refine z_iload_n hC dL_law_1170 rfl rfl ?_
        refine z_iconst hC ic_4 dL_law_1171 ?_
        refine z_iadd hC dL_law_1172 ?_
        refine z_sld hC hX hbl hBs dL_law_1173 hw (fun x1173 hw => ?_)
        refine z_callV (ku' := (80 * u)) (kv' := (1856 * u)) (n := 4) (As := [.int x1158, .int x1163, .int x1168, .int x1173]) (st := []) hC (c_X12_keep l G B S v2 x1158 x1163 x1168 x1173 _) hw.2 hw.1 rfl lk_1991 lk_1992 lk_1993 lk_133 lk_1994 hd_X12_keep rfl rfl (Nat.le_of_ble_eq_true rfl) (Nat.le_of_ble_eq_true rfl) rfl (Nat.le_of_ble_eq_true rfl) dL_law_1174 (Nat.le_refl _) (Nat.le_refl _) (kI (fun x1174 S hw => ?_))
        refine z_pop hC rfl dL_law_1177 ?_
        refine z_goto (tgt := 1415) hC dL_law_1178 (by decide) ?_
        refine z_mask (lv' := [some (.ref b0), some (.ref v1), some (.ref v2), some (.int v3)]) [true, true, true, true] rfl ?_
        exact t_L_law_b1415 hC hr hlk hX hbl hBs hmc hms (fun hw => ih hw) hw
      by_cases q33_33 : y33.toInt = 33
      · have hw := hw.2.2.2.2.2.2.2.2.2.2.2.2.2.2.2.2.2.2.2.2.2.2.2.2.2.2.2.2.2.2.2.2.2.1 q33_33
        refine z_tabIn (tgt := 1181) (off := 1148) hC 33 dL_law_33 q33_33 (by decide) rfl (by decide) ?_
        refine z_aload_n hC dL_law_1181 rfl rfl ?_
        refine z_aload_n hC dL_law_1182 rfl rfl ?_
        refine z_iload_n hC dL_law_1183 rfl rfl ?_
        refine z_iconst hC ic_1 dL_law_1184 ?_
        refine z_iadd hC dL_law_1185 ?_
        refine z_sld hC hX hbl hBs dL_law_1186 hw (fun x1186 hw => ?_)
        refine z_aload_n hC dL_law_1187 rfl rfl ?_
        refine z_iload_n hC dL_law_1188 rfl rfl ?_
        refine z_iconst hC ic_2 dL_law_1189 ?_
        refine z_iadd hC dL_law_1190 ?_
        refine z_sld hC hX hbl hBs dL_law_1191 hw (fun x1191 hw => ?_)
        refine z_aload_n hC dL_law_1192 rfl rfl ?_
        refine z_iload_n hC dL_law_1193 rfl rfl ?_
        refine z_iconst hC ic_3 dL_law_1194 ?_
        refine z_iadd hC dL_law_1195 ?_
        refine z_sld hC hX hbl hBs dL_law_1196 hw (fun x1196 hw => ?_)
        refine z_aload_n hC dL_law_1197 rfl rfl ?_
        refine z_iload_n hC dL_law_1198 rfl rfl ?_
        refine z_iconst hC ic_4 dL_law_1199 ?_
        refine z_iadd hC dL_law_1200 ?_
        refine z_sld hC hX hbl hBs dL_law_1201 hw (fun x1201 hw => ?_)
        refine z_callV (ku' := (80 * u)) (kv' := (1856 * u)) (n := 4) (As := [.int x1186, .int x1191, .int x1196, .int x1201]) (st := []) hC (c_X11_chain l G B S v1 x1186 x1191 x1196 x1201 _) hw.2 hw.1 rfl lk_1257 lk_1258 lk_1259 lk_121 lk_1260 hd_X11_chain rfl rfl (Nat.le_of_ble_eq_true rfl) (Nat.le_of_ble_eq_true rfl) rfl (Nat.le_of_ble_eq_true rfl) dL_law_1202 (Nat.le_refl _) (Nat.le_refl _) (kI (fun x1202 S hw => ?_))
        refine z_pop hC rfl dL_law_1205 ?_
        refine z_aload_n hC dL_law_1206 rfl rfl ?_
        refine z_aload_n hC dL_law_1207 rfl rfl ?_
        refine z_iload_n hC dL_law_1208 rfl rfl ?_
        refine z_iconst hC ic_1 dL_law_1209 ?_
        refine z_iadd hC dL_law_1210 ?_
        refine z_sld hC hX hbl hBs dL_law_1211 hw (fun x1211 hw => ?_)
        refine z_aload_n hC dL_law_1212 rfl rfl ?_
        refine z_iload_n hC dL_law_1213 rfl rfl ?_
        refine z_iconst hC ic_2 dL_law_1214 ?_
        refine z_iadd hC dL_law_1215 ?_
        refine z_sld hC hX hbl hBs dL_law_1216 hw (fun x1216 hw => ?_)
        refine z_aload_n hC dL_law_1217 rfl rfl ?_
        refine z_iload_n hC dL_law_1218 rfl rfl ?_
        refine z_iconst hC ic_3 dL_law_1219 ?_
        refine z_iadd hC dL_law_1220 ?_
        refine z_sld hC hX hbl hBs dL_law_1221 hw (fun x1221 hw => ?_)
        refine z_aload_n hC dL_law_1222 rfl rfl ?_
        refine z_iload_n hC dL_law_1223 rfl rfl ?_
        refine z_iconst hC ic_4 dL_law_1224 ?_
        refine z_iadd hC dL_law_1225 ?_
        refine z_sld hC hX hbl hBs dL_law_1226 hw (fun x1226 hw => ?_)
        refine z_callV (ku' := (80 * u)) (kv' := (1856 * u)) (n := 4) (As := [.int x1211, .int x1216, .int x1221, .int x1226]) (st := []) hC (c_X12_chain l G B S v2 x1211 x1216 x1221 x1226 _) hw.2 hw.1 rfl lk_2004 lk_2005 lk_2006 lk_133 lk_2007 hd_X12_chain rfl rfl (Nat.le_of_ble_eq_true rfl) (Nat.le_of_ble_eq_true rfl) rfl (Nat.le_of_ble_eq_true rfl) dL_law_1227 (Nat.le_refl _) (Nat.le_refl _) (kI (fun x1227 S hw => ?_))
        refine z_pop hC rfl dL_law_1230 ?_
        refine z_goto (tgt := 1415) hC dL_law_1231 (by decide) ?_
        refine z_mask (lv' := [some (.ref b0), some (.ref v1), some (.ref v2), some (.int v3)]) [true, true, true, true] rfl ?_
        exact t_L_law_b1415 hC hr hlk hX hbl hBs hmc hms (fun hw => ih hw) hw
      by_cases q33_34 : y33.toInt = 34
      · have hw := hw.2.2.2.2.2.2.2.2.2.2.2.2.2.2.2.2.2.2.2.2.2.2.2.2.2.2.2.2.2.2.2.2.2.2.1 q33_34
        refine z_tabIn (tgt := 1234) (off := 1201) hC 34 dL_law_33 q33_34 (by decide) rfl (by decide) ?_
        refine z_aload_n hC dL_law_1234 rfl rfl ?_
        refine z_aload_n hC dL_law_1235 rfl rfl ?_
        refine z_iload_n hC dL_law_1236 rfl rfl ?_
        refine z_iconst hC ic_1 dL_law_1237 ?_
        refine z_iadd hC dL_law_1238 ?_
        refine z_sld hC hX hbl hBs dL_law_1239 hw (fun x1239 hw => ?_)
        refine z_aload_n hC dL_law_1240 rfl rfl ?_
        refine z_iload_n hC dL_law_1241 rfl rfl ?_
        refine z_iconst hC ic_2 dL_law_1242 ?_
        refine z_iadd hC dL_law_1243 ?_
        refine z_sld hC hX hbl hBs dL_law_1244 hw (fun x1244 hw => ?_)
        refine z_callV (ku' := (80 * u)) (kv' := (1856 * u)) (n := 2) (As := [.int x1239, .int x1244]) (st := []) hC (c_X11_likely l G B S v1 x1239 x1244 _) hw.2 hw.1 rfl lk_1279 lk_1280 lk_1281 lk_121 lk_1282 hd_X11_likely rfl rfl (Nat.le_of_ble_eq_true rfl) (Nat.le_of_ble_eq_true rfl) rfl (Nat.le_of_ble_eq_true rfl) dL_law_1245 (Nat.le_refl _) (Nat.le_refl _) (kJ (fun x1245 S hw => ?_))
        refine z_pop2 hC rfl dL_law_1248 ?_
        refine z_aload_n hC dL_law_1249 rfl rfl ?_
        refine z_aload_n hC dL_law_1250 rfl rfl ?_
        refine z_iload_n hC dL_law_1251 rfl rfl ?_
        refine z_iconst hC ic_1 dL_law_1252 ?_
        refine z_iadd hC dL_law_1253 ?_
        refine z_sld hC hX hbl hBs dL_law_1254 hw (fun x1254 hw => ?_)
        refine z_aload_n hC dL_law_1255 rfl rfl ?_
        refine z_iload_n hC dL_law_1256 rfl rfl ?_
        refine z_iconst hC ic_2 dL_law_1257 ?_
        refine z_iadd hC dL_law_1258 ?_
        refine z_sld hC hX hbl hBs dL_law_1259 hw (fun x1259 hw => ?_)
        refine z_callV (ku' := (80 * u)) (kv' := (1856 * u)) (n := 2) (As := [.int x1254, .int x1259]) (st := []) hC (c_X12_likely l G B S v2 x1254 x1259 _) hw.2 hw.1 rfl lk_2012 lk_2013 lk_2014 lk_133 lk_2015 hd_X12_likely rfl rfl (Nat.le_of_ble_eq_true rfl) (Nat.le_of_ble_eq_true rfl) rfl (Nat.le_of_ble_eq_true rfl) dL_law_1260 (Nat.le_refl _) (Nat.le_refl _) (kJ (fun x1260 S hw => ?_))
        refine z_pop2 hC rfl dL_law_1263 ?_
        refine z_goto (tgt := 1415) hC dL_law_1264 (by decide) ?_
        refine z_mask (lv' := [some (.ref b0), some (.ref v1), some (.ref v2), some (.int v3)]) [true, true, true, true] rfl ?_
        exact t_L_law_b1415 hC hr hlk hX hbl hBs hmc hms (fun hw => ih hw) hw
      by_cases q33_35 : y33.toInt = 35
      · have hw := hw.2.2.2.2.2.2.2.2.2.2.2.2.2.2.2.2.2.2.2.2.2.2.2.2.2.2.2.2.2.2.2.2.2.2.2.1 q33_35
        refine z_tabIn (tgt := 1267) (off := 1234) hC 35 dL_law_33 q33_35 (by decide) rfl (by decide) ?_
        refine z_aload_n hC dL_law_1267 rfl rfl ?_
        refine z_aload_n hC dL_law_1268 rfl rfl ?_
        refine z_iload_n hC dL_law_1269 rfl rfl ?_
        refine z_iconst hC ic_1 dL_law_1270 ?_
        refine z_iadd hC dL_law_1271 ?_
        refine z_sld hC hX hbl hBs dL_law_1272 hw (fun x1272 hw => ?_)
        refine z_aload_n hC dL_law_1273 rfl rfl ?_
        refine z_iload_n hC dL_law_1274 rfl rfl ?_
        refine z_iconst hC ic_2 dL_law_1275 ?_
        refine z_iadd hC dL_law_1276 ?_
        refine z_sld hC hX hbl hBs dL_law_1277 hw (fun x1277 hw => ?_)
        refine z_callV (ku' := (80 * u)) (kv' := (1856 * u)) (n := 2) (As := [.int x1272, .int x1277]) (st := []) hC (c_X11_generations l G B S v1 x1272 x1277 _) hw.2 hw.1 rfl lk_1290 lk_1291 lk_1292 lk_121 lk_1293 hd_X11_generations rfl rfl (Nat.le_of_ble_eq_true rfl) (Nat.le_of_ble_eq_true rfl) rfl (Nat.le_of_ble_eq_true rfl) dL_law_1278 (Nat.le_refl _) (Nat.le_refl _) (kI (fun x1278 S hw => ?_))
        refine z_pop hC rfl dL_law_1281 ?_
        refine z_aload_n hC dL_law_1282 rfl rfl ?_
        refine z_aload_n hC dL_law_1283 rfl rfl ?_
        refine z_iload_n hC dL_law_1284 rfl rfl ?_
        refine z_iconst hC ic_1 dL_law_1285 ?_
        refine z_iadd hC dL_law_1286 ?_
        refine z_sld hC hX hbl hBs dL_law_1287 hw (fun x1287 hw => ?_)
        refine z_aload_n hC dL_law_1288 rfl rfl ?_
        refine z_iload_n hC dL_law_1289 rfl rfl ?_
        refine z_iconst hC ic_2 dL_law_1290 ?_
        refine z_iadd hC dL_law_1291 ?_
        refine z_sld hC hX hbl hBs dL_law_1292 hw (fun x1292 hw => ?_)
        refine z_callV (ku' := (80 * u)) (kv' := (1856 * u)) (n := 2) (As := [.int x1287, .int x1292]) (st := []) hC (c_X12_generations l G B S v2 x1287 x1292 _) hw.2 hw.1 rfl lk_2057 lk_2058 lk_2059 lk_133 lk_2060 hd_X12_generations rfl rfl (Nat.le_of_ble_eq_true rfl) (Nat.le_of_ble_eq_true rfl) rfl (Nat.le_of_ble_eq_true rfl) dL_law_1293 (Nat.le_refl _) (Nat.le_refl _) (kI (fun x1293 S hw => ?_))
        refine z_pop hC rfl dL_law_1296 ?_
        refine z_goto (tgt := 1415) hC dL_law_1297 (by decide) ?_
        refine z_mask (lv' := [some (.ref b0), some (.ref v1), some (.ref v2), some (.int v3)]) [true, true, true, true] rfl ?_
        exact t_L_law_b1415 hC hr hlk hX hbl hBs hmc hms (fun hw => ih hw) hw
      by_cases q33_36 : y33.toInt = 36
      · have hw := hw.2.2.2.2.2.2.2.2.2.2.2.2.2.2.2.2.2.2.2.2.2.2.2.2.2.2.2.2.2.2.2.2.2.2.2.2.1 q33_36
        refine z_tabIn (tgt := 1300) (off := 1267) hC 36 dL_law_33 q33_36 (by decide) rfl (by decide) ?_
        refine z_aload_n hC dL_law_1300 rfl rfl ?_
        refine z_aload_n hC dL_law_1301 rfl rfl ?_
        refine z_iload_n hC dL_law_1302 rfl rfl ?_
        refine z_iconst hC ic_1 dL_law_1303 ?_
        refine z_iadd hC dL_law_1304 ?_
        refine z_sld hC hX hbl hBs dL_law_1305 hw (fun x1305 hw => ?_)
        refine z_aload_n hC dL_law_1306 rfl rfl ?_
        refine z_iload_n hC dL_law_1307 rfl rfl ?_
        refine z_iconst hC ic_2 dL_law_1308 ?_
        refine z_iadd hC dL_law_1309 ?_
        refine z_sld hC hX hbl hBs dL_law_1310 hw (fun x1310 hw => ?_)
        refine z_callV (ku' := (80 * u)) (kv' := (1856 * u)) (n := 2) (As := [.int x1305, .int x1310]) (st := []) hC (c_X11_drawn l G B S v1 x1305 x1310 _) hw.2 hw.1 rfl lk_1307 lk_1308 lk_1309 lk_121 lk_1310 hd_X11_drawn rfl rfl (Nat.le_of_ble_eq_true rfl) (Nat.le_of_ble_eq_true rfl) rfl (Nat.le_of_ble_eq_true rfl) dL_law_1311 (Nat.le_refl _) (Nat.le_refl _) (kI (fun x1311 S hw => ?_))
        refine z_pop hC rfl dL_law_1314 ?_
        refine z_aload_n hC dL_law_1315 rfl rfl ?_
        refine z_aload_n hC dL_law_1316 rfl rfl ?_
        refine z_iload_n hC dL_law_1317 rfl rfl ?_
        refine z_iconst hC ic_1 dL_law_1318 ?_
        refine z_iadd hC dL_law_1319 ?_
        refine z_sld hC hX hbl hBs dL_law_1320 hw (fun x1320 hw => ?_)
        refine z_aload_n hC dL_law_1321 rfl rfl ?_
        refine z_iload_n hC dL_law_1322 rfl rfl ?_
        refine z_iconst hC ic_2 dL_law_1323 ?_
        refine z_iadd hC dL_law_1324 ?_
        refine z_sld hC hX hbl hBs dL_law_1325 hw (fun x1325 hw => ?_)
        refine z_callV (ku' := (80 * u)) (kv' := (1856 * u)) (n := 2) (As := [.int x1320, .int x1325]) (st := []) hC (c_X12_drawn l G B S v2 x1320 x1325 _) hw.2 hw.1 rfl lk_2068 lk_2069 lk_2070 lk_133 lk_2071 hd_X12_drawn rfl rfl (Nat.le_of_ble_eq_true rfl) (Nat.le_of_ble_eq_true rfl) rfl (Nat.le_of_ble_eq_true rfl) dL_law_1326 (Nat.le_refl _) (Nat.le_refl _) (kI (fun x1326 S hw => ?_))
        refine z_pop hC rfl dL_law_1329 ?_
        refine z_goto (tgt := 1415) hC dL_law_1330 (by decide) ?_
        refine z_mask (lv' := [some (.ref b0), some (.ref v1), some (.ref v2), some (.int v3)]) [true, true, true, true] rfl ?_
        exact t_L_law_b1415 hC hr hlk hX hbl hBs hmc hms (fun hw => ih hw) hw
      by_cases q33_37 : y33.toInt = 37
      · have hw := hw.2.2.2.2.2.2.2.2.2.2.2.2.2.2.2.2.2.2.2.2.2.2.2.2.2.2.2.2.2.2.2.2.2.2.2.2.2.1 q33_37
        refine z_tabIn (tgt := 1333) (off := 1300) hC 37 dL_law_33 q33_37 (by decide) rfl (by decide) ?_
        refine z_aload_n hC dL_law_1333 rfl rfl ?_
        refine z_aload_n hC dL_law_1334 rfl rfl ?_
        refine z_iload_n hC dL_law_1335 rfl rfl ?_
        refine z_iconst hC ic_1 dL_law_1336 ?_
        refine z_iadd hC dL_law_1337 ?_
        refine z_sld hC hX hbl hBs dL_law_1338 hw (fun x1338 hw => ?_)
        obtain ⟨u1339, eu1339, hu1339⟩ := hw
        subst eu1339
        have hw := hu1339
        refine z_less (ku' := 80 * u1339 + 80) (kv' := 1856 * u1339 + 1856) (by omega) (by omega) ?_
        refine z_callV (ku' := (80 * u1339 + 65)) (kv' := (1856 * u1339 + 1661)) (n := 1) (As := [.int x1338]) (st := []) hC (c_X11_image l G B S v1 x1338 _) hw.2 hw.1 rfl lk_1311 lk_1312 lk_1313 lk_121 lk_1314 hd_X11_image rfl rfl (Nat.le_of_ble_eq_true rfl) (Nat.le_of_ble_eq_true rfl) rfl (Nat.le_of_ble_eq_true rfl) dL_law_1339 (by omega) (by omega) (kI (fun x1339 S hw => ?_))
        refine z_pop hC rfl dL_law_1342 ?_
        refine z_aload_n hC dL_law_1343 rfl rfl ?_
        refine z_aload_n hC dL_law_1344 rfl rfl ?_
        refine z_iload_n hC dL_law_1345 rfl rfl ?_
        refine z_iconst hC ic_1 dL_law_1346 ?_
        refine z_iadd hC dL_law_1347 ?_
        refine z_sld hC hX hbl hBs dL_law_1348 hw (fun x1348 hw => ?_)
        refine z_callV (ku' := (80 * u1339 + 65)) (kv' := (1856 * u1339 + 1661)) (n := 1) (As := [.int x1348]) (st := []) hC (c_X12_image l G B S v2 x1348 _) hw.2 hw.1 rfl lk_1552 lk_1553 lk_1554 lk_133 lk_1555 hd_X12_image rfl rfl (Nat.le_of_ble_eq_true rfl) (Nat.le_of_ble_eq_true rfl) rfl (Nat.le_of_ble_eq_true rfl) dL_law_1349 (Nat.le_refl _) (Nat.le_refl _) (kI (fun x1349 S hw => ?_))
        refine z_pop hC rfl dL_law_1352 ?_
        refine z_goto (tgt := 1415) hC dL_law_1353 (by decide) ?_
        refine z_mask (lv' := [some (.ref b0), some (.ref v1), some (.ref v2), some (.int v3)]) [true, true, true, true] rfl ?_
        refine z_less (ku' := 80 * u1339) (kv' := 1856 * u1339) (by omega) (by omega) ?_
        exact t_L_law_b1415 hC hr hlk hX hbl hBs hmc hms (fun hw => ih hw) hw
      by_cases q33_38 : y33.toInt = 38
      · have hw := hw.2.2.2.2.2.2.2.2.2.2.2.2.2.2.2.2.2.2.2.2.2.2.2.2.2.2.2.2.2.2.2.2.2.2.2.2.2.2.1 q33_38
        refine z_tabIn (tgt := 1356) (off := 1323) hC 38 dL_law_33 q33_38 (by decide) rfl (by decide) ?_
        refine z_aload_n hC dL_law_1356 rfl rfl ?_
        refine z_aload_n hC dL_law_1357 rfl rfl ?_
        refine z_iload_n hC dL_law_1358 rfl rfl ?_
        refine z_iconst hC ic_1 dL_law_1359 ?_
        refine z_iadd hC dL_law_1360 ?_
        refine z_sld hC hX hbl hBs dL_law_1361 hw (fun x1361 hw => ?_)
        refine z_callV (ku' := (80 * u)) (kv' := (1856 * u)) (n := 1) (As := [.int x1361]) (st := []) hC (c_X11_back l G B S v1 x1361 _) hw.2 hw.1 rfl lk_1315 lk_1316 lk_1317 lk_121 lk_1318 hd_X11_back rfl rfl (Nat.le_of_ble_eq_true rfl) (Nat.le_of_ble_eq_true rfl) rfl (Nat.le_of_ble_eq_true rfl) dL_law_1362 (Nat.le_refl _) (Nat.le_refl _) (kI (fun x1362 S hw => ?_))
        refine z_pop hC rfl dL_law_1365 ?_
        refine z_aload_n hC dL_law_1366 rfl rfl ?_
        refine z_aload_n hC dL_law_1367 rfl rfl ?_
        refine z_iload_n hC dL_law_1368 rfl rfl ?_
        refine z_iconst hC ic_1 dL_law_1369 ?_
        refine z_iadd hC dL_law_1370 ?_
        refine z_sld hC hX hbl hBs dL_law_1371 hw (fun x1371 hw => ?_)
        refine z_callV (ku' := (80 * u)) (kv' := (1856 * u)) (n := 1) (As := [.int x1371]) (st := []) hC (c_X12_back l G B S v2 x1371 _) hw.2 hw.1 rfl lk_1559 lk_1560 lk_1561 lk_133 lk_1562 hd_X12_back rfl rfl (Nat.le_of_ble_eq_true rfl) (Nat.le_of_ble_eq_true rfl) rfl (Nat.le_of_ble_eq_true rfl) dL_law_1372 (Nat.le_refl _) (Nat.le_refl _) (kI (fun x1372 S hw => ?_))
        refine z_pop hC rfl dL_law_1375 ?_
        refine z_goto (tgt := 1415) hC dL_law_1376 (by decide) ?_
        refine z_mask (lv' := [some (.ref b0), some (.ref v1), some (.ref v2), some (.int v3)]) [true, true, true, true] rfl ?_
        exact t_L_law_b1415 hC hr hlk hX hbl hBs hmc hms (fun hw => ih hw) hw
      by_cases q33_39 : y33.toInt = 39
      · have hw := hw.2.2.2.2.2.2.2.2.2.2.2.2.2.2.2.2.2.2.2.2.2.2.2.2.2.2.2.2.2.2.2.2.2.2.2.2.2.2.2.1 q33_39
        refine z_tabIn (tgt := 1379) (off := 1346) hC 39 dL_law_33 q33_39 (by decide) rfl (by decide) ?_
        refine z_aload_n hC dL_law_1379 rfl rfl ?_
        refine z_aload_n hC dL_law_1380 rfl rfl ?_
        refine z_iload_n hC dL_law_1381 rfl rfl ?_
        refine z_iconst hC ic_1 dL_law_1382 ?_
        refine z_iadd hC dL_law_1383 ?_
        refine z_sld hC hX hbl hBs dL_law_1384 hw (fun x1384 hw => ?_)
        refine z_callV (ku' := (80 * u)) (kv' := (1856 * u)) (n := 1) (As := [.int x1384]) (st := []) hC (c_X11_count l G B S v1 x1384 _) hw.2 hw.1 rfl lk_1319 lk_1320 lk_1321 lk_121 lk_1322 hd_X11_count rfl rfl (Nat.le_of_ble_eq_true rfl) (Nat.le_of_ble_eq_true rfl) rfl (Nat.le_of_ble_eq_true rfl) dL_law_1385 (Nat.le_refl _) (Nat.le_refl _) (kI (fun x1385 S hw => ?_))
        refine z_pop hC rfl dL_law_1388 ?_
        refine z_aload_n hC dL_law_1389 rfl rfl ?_
        refine z_aload_n hC dL_law_1390 rfl rfl ?_
        refine z_iload_n hC dL_law_1391 rfl rfl ?_
        refine z_iconst hC ic_1 dL_law_1392 ?_
        refine z_iadd hC dL_law_1393 ?_
        refine z_sld hC hX hbl hBs dL_law_1394 hw (fun x1394 hw => ?_)
        refine z_callV (ku' := (80 * u)) (kv' := (1856 * u)) (n := 1) (As := [.int x1394]) (st := []) hC (c_X12_count l G B S v2 x1394 _) hw.2 hw.1 rfl lk_2072 lk_2073 lk_2074 lk_133 lk_2075 hd_X12_count rfl rfl (Nat.le_of_ble_eq_true rfl) (Nat.le_of_ble_eq_true rfl) rfl (Nat.le_of_ble_eq_true rfl) dL_law_1395 (Nat.le_refl _) (Nat.le_refl _) (kI (fun x1395 S hw => ?_))
        refine z_pop hC rfl dL_law_1398 ?_
        refine z_goto (tgt := 1415) hC dL_law_1399 (by decide) ?_
        refine z_mask (lv' := [some (.ref b0), some (.ref v1), some (.ref v2), some (.int v3)]) [true, true, true, true] rfl ?_
        exact t_L_law_b1415 hC hr hlk hX hbl hBs hmc hms (fun hw => ih hw) hw
      by_cases q33_40 : y33.toInt = 40
      · have hw := hw.2.2.2.2.2.2.2.2.2.2.2.2.2.2.2.2.2.2.2.2.2.2.2.2.2.2.2.2.2.2.2.2.2.2.2.2.2.2.2.2.1 q33_40
        refine z_tabIn (tgt := 1402) (off := 1369) hC 40 dL_law_33 q33_40 (by decide) rfl (by decide) ?_
        refine z_aload_n hC dL_law_1402 rfl rfl ?_
        refine z_callV (ku' := (80 * u)) (kv' := (1856 * u)) (n := 0) (As := []) (st := []) hC (c_X11_status l G B S v1 _) hw.2 hw.1 rfl lk_1324 lk_1325 lk_1326 lk_121 lk_1327 hd_X11_status rfl rfl (Nat.le_of_ble_eq_true rfl) (Nat.le_of_ble_eq_true rfl) rfl (Nat.le_of_ble_eq_true rfl) dL_law_1403 (Nat.le_refl _) (Nat.le_refl _) (kI (fun x1403 S hw => ?_))
        refine z_pop hC rfl dL_law_1406 ?_
        refine z_aload_n hC dL_law_1407 rfl rfl ?_
        refine z_callV (ku' := (80 * u)) (kv' := (1856 * u)) (n := 0) (As := []) (st := []) hC (c_X12_status l G B S v2 _) hw.2 hw.1 rfl lk_2078 lk_2079 lk_2080 lk_133 lk_2081 hd_X12_status rfl rfl (Nat.le_of_ble_eq_true rfl) (Nat.le_of_ble_eq_true rfl) rfl (Nat.le_of_ble_eq_true rfl) dL_law_1408 (Nat.le_refl _) (Nat.le_refl _) (kI (fun x1408 S hw => ?_))
        refine z_pop hC rfl dL_law_1411 ?_
        refine z_goto (tgt := 1415) hC dL_law_1412 (by decide) ?_
        refine z_mask (lv' := [some (.ref b0), some (.ref v1), some (.ref v2), some (.int v3)]) [true, true, true, true] rfl ?_
        exact t_L_law_b1415 hC hr hlk hX hbl hBs hmc hms (fun hw => ih hw) hw
      have o33 : y33.toInt < 0 ∨ 40 < y33.toInt := by omega
      have hw := hw.2.2.2.2.2.2.2.2.2.2.2.2.2.2.2.2.2.2.2.2.2.2.2.2.2.2.2.2.2.2.2.2.2.2.2.2.2.2.2.2.2 o33
      refine z_tabOut (tgt := 1415) hC dL_law_33 o33 (by decide) ?_
      refine z_mask (lv' := [some (.ref b0), some (.ref v1), some (.ref v2), some (.int v3)]) [true, true, true, true] rfl ?_
      exact t_L_law_b1415 hC hr hlk hX hbl hBs hmc hms (fun hw => ih hw) hw
def w_L_law (tx : Nat → Nat) (L : Nat) (xs : Nat → Int32) (q : Unit) (S : hS) (u : Nat) : Prop := nO S 11 FX11_0 (fun S o0 => w_X11_init (fun S => nO S 12 FX12_0 (fun S o8 => w_X12_init (fun S => (∃ n18 : Nat, w_L_law_b18 tx L xs q n18 S u o0 o8 0)) S o8)) S o0)
set_option maxRecDepth 100000 in
set_option maxHeartbeats 4000000 in
theorem t_L_law (hC : zC p room_1 s m #[Value.ref b0] c cL_law 4 RL G B mc ms 76 1794) (hr : meth.sig.returnType = ret) (hlk : meth.locks = false) (hX : va_X b0 L xs s s.heap) (hbl : b0 < s.heap.size) (hBs : B = s.heap.size) (hmc : mc ≤ 600000) (hms : ms ≤ 7302250) {q : Unit} {S : hS} {u : Nat} (hw : w_L_law G.2.2.1 L xs q S u) : Z p l e room_1 s m #[Value.ref b0] below meth c (lw_Z below #[Value.ref b0] s) G B mc ms 4 S (80 * u + 100) (1856 * u + 26107) 0 [some (.ref b0), none, none, none] [] := by
  unfold w_L_law at hw
  refine z_nO (ku' := (80 * u + 99)) (kv' := (1856 * u + 26089)) hC FX11 lk_141 lk_142 lk_121 FX11_d dL_law_0 (by omega) (by omega) hw (fun S o0 hw => ?_)
  refine z_dup hC rfl dL_law_3 ?_
  refine z_callI (ku' := (80 * u + 33)) (kv' := (1856 * u + 23950)) (n := 0) (As := []) (st := [.ref o0]) hC rfl (c_X11_init l G B S o0 _) hw lk_143 lk_144 lk_121 lk_145 rfl hd_X11_init.2 rfl rfl (Nat.le_of_ble_eq_true rfl) (Nat.le_of_ble_eq_true rfl) rfl (Nat.le_of_ble_eq_true rfl) dL_law_4 (by omega) (by omega) (kV (fun S hw => ?_))
  refine z_astore_n (i := 1) (lv' := [some (.ref b0), some (.ref o0), none, none]) hC rfl dL_law_7 (by decide) (hok_v rfl rfl) rfl ?_
  refine z_nO (ku' := (80 * u + 32)) (kv' := (1856 * u + 23889)) hC FX12 lk_1328 lk_1329 lk_133 FX12_d dL_law_8 (by omega) (by omega) hw (fun S o8 hw => ?_)
  refine z_dup hC rfl dL_law_11 ?_
  refine z_callI (ku' := (80 * u)) (kv' := (1856 * u)) (n := 0) (As := []) (st := [.ref o8]) hC rfl (c_X12_init l G B S o8 _) hw lk_1330 lk_1331 lk_133 lk_1332 rfl hd_X12_init.2 rfl rfl (Nat.le_of_ble_eq_true rfl) (Nat.le_of_ble_eq_true rfl) rfl (Nat.le_of_ble_eq_true rfl) dL_law_12 (by omega) (by omega) (kV (fun S hw => ?_))
  refine z_astore_n (i := 2) (lv' := [some (.ref b0), some (.ref o0), some (.ref o8), none]) hC rfl dL_law_15 (by decide) (hok_v rfl rfl) rfl ?_
  refine z_iconst hC ic_0 dL_law_16 ?_
  refine z_istore_n (i := 3) (lv' := [some (.ref b0), some (.ref o0), some (.ref o8), some (.int 0)]) hC rfl dL_law_17 (by decide) (hok_v rfl rfl) rfl ?_
  refine z_mask (lv' := [some (.ref b0), some (.ref o0), some (.ref o8), some (.int 0)]) [true, true, true, true] rfl ?_
  obtain ⟨n18, hw⟩ := hw
  exact t_L_law_b18 hC hr hlk hX hbl hBs hmc hms n18 hw
end
