set_option maxRecDepth 100000 in
set_option maxHeartbeats 8000000 in
theorem st_append {p : Program} {l : Launch} {e : Env} {s : State} {m : MethodId} {below : List Frame} {meth : Method} {c : Code} {b L : Nat} {xs : Nat → Int32} {dC : Nat → ClassId} {dI : Nat → Nat → Nat} {cq : Nat → ClassId} {q : Nat → Nat} {Q : State → Prop} (hfl : l.stackTraces = false) (C : LC p s m c b L xs dC dI cq q) {n : Nat} (hn : 40000000 < n) {S : CS} {M : MS} {o : Nat → Int64} (hR : Rel S M) {i : Int32} (hin : ∀ t : Nat, 1 ≤ t → t ≤ 5 → vp_in (i + nI t) L) {H : Heap} {locs : List Loc} {cells slots : Nat} (hcl : cells + 121 ≤ 601024) (hsl : slots + 906 ≤ 7293034) (hP : va_P (dC, dI) vwCl (wA cq q S M o) H) (hD : va_D (fun a => s.heap.size ≤ a) (wA cq q S M o)) (hS : va_S (fun a => s.heap.size ≤ a) s.heap H locs) {ls : Array Slot} (hl : lv_has ls 9 [(4, .int i), (3, .ref (q 33)), (2, .ref (q 22)), (1, .ref (q 0)), (0, .ref b)])
    (kk : ∀ (S' : CS) (M' : MS) (o' : Nat → Int64) (H' : Heap) (locs' : List Loc) (ls' : Array Slot), Rel S' M' → va_P (dC, dI) vwCl (wA cq q S' M' o') H' → va_D (fun a => s.heap.size ≤ a) (wA cq q S' M' o') → va_S (fun a => s.heap.size ≤ a) s.heap H' locs' → lv_has ls' 9 [(4, .int i), (3, .ref (q 33)), (2, .ref (q 22)), (1, .ref (q 0)), (0, .ref b)] → W p l e room_1 s m #[Value.ref b] below meth c H' locs' (cells + 121) (slots + 906) Q (F0 m 1536 ls' [])) :
    W p l e room_1 s m #[Value.ref b] below meth c H locs cells slots Q (F0 m 672 ls []) := by
  obtain ⟨hx, hb, hml, hown, hts, hX, hbl, hK, hEV⟩ := id C
  have F : CallFix p m c cL_law 9 s #[Value.ref b] wsL_law RL := ⟨hx, hb, hml, hown, hts⟩
  have hA : ∀ a : Nat, s.heap.size ≤ a → (fun a => s.heap.size ≤ a) a := fun _ h => h
  have hDm : ∀ a : Nat, (fun a => s.heap.size ≤ a) a → s.heap.size ≤ a := fun _ h => h
  have hbA : ¬ (fun a : Nat => s.heap.size ≤ a) b := Nat.not_le.mpr hbl
  obtain ⟨rs, ⟨b1, M1⟩, e7, e8, hst⟩ := sq_append hR (xs (i + (1 : Int32)).toNatClampNeg)
  refine lv_aload_n hx hb dL_law_672 rfl (lv_at hl 3 rfl) ?_
  refine lv_aload_n hx hb dL_law_673 rfl (lv_at hl 4 rfl) ?_
  refine lv_iload hx hb dL_law_674 (lv_at hl 0 rfl) ?_
  refine lv_iconst (v := (1 : Int32)) hx hb dL_law_676 (by decide) ?_
  refine lv_iadd hx hb dL_law_677 ?_
  refine va_sld hx hb hX hbl hbA hS (hin 1 (by decide) (by decide)) dL_law_678 ?_
  refine lv_aload_n hx hb dL_law_679 rfl (lv_at hl 1 rfl) ?_
  refine caWS_i (As := [.ref (q 0), .int (xs (i + (1 : Int32)).toNatClampNeg), .ref (q 33)]) (rest := []) (ctL_append l dC dI cq q S M o _ s.heap.size (xs (i + (1 : Int32)).toNatClampNeg) (fun (r : Int32) (u : CS) => rs = (.ok r, u)) (fun k u => rs = (.error k, u)) (fun sz => ctX7_append l dC dI cq q S M o sz s.heap.size hfl (xs (i + (1 : Int32)).toNatClampNeg) rs e7) (fun e u h => by rw [h] at hst; exact hst.1)) F (vx_cwSW 3 hts gL_law_L_append rfl rfl rfl hdL_append ⟨Nat.le_of_ble_eq_true rfl, Nat.le_of_ble_eq_true rfl⟩) hK hP hD hDm hS hA EV.blind (fun U hU hW => EV.call hEV hS hDm hU hW) rfl hl.1 rfl (Nat.le_of_ble_eq_true rfl) dL_law_680 ⟨by show cells + 2 ≤ 601024; omega, by show slots + 12 ≤ 7293034; omega⟩ (fun H locs r9 u9 h9 hP hD hS => ?_)
  obtain ⟨S1, o1⟩ := u9
  have hk := lw_fin (cd := cdL_append) (ok := (fun e => e = 1 ∨ e = 3)) (z := (b1, M1)) (o := o) (h9.imp (fun ⟨hr, v, hv, ho⟩ => ⟨hr, v, by rw [← hv]; exact hst, ho⟩) (fun ⟨k, hk, hr, ho⟩ => ⟨k, by rw [← hk]; exact hst, hr, ho⟩))
  refine W.widen (k := cells + 121) (n := slots + 906) (by omega) (by omega) ?_
  refine lv_istore (lv' := [(5, .int r9), (4, .int i), (3, .ref (q 33)), (2, .ref (q 22)), (1, .ref (q 0)), (0, .ref b)]) hx hb dL_law_683 hl (by decide) rfl (fun ls hl => ?_)
  refine lv_aload_n hx hb dL_law_685 rfl (lv_at hl 3 rfl) ?_
  refine lv_aload_n hx hb dL_law_686 rfl (lv_at hl 5 rfl) ?_
  refine lv_iload hx hb dL_law_687 (lv_at hl 1 rfl) ?_
  refine lv_iconst (v := (1 : Int32)) hx hb dL_law_689 (by decide) ?_
  refine lv_iadd hx hb dL_law_690 ?_
  refine va_sld hx hb hX hbl hbA hS (hin 1 (by decide) (by decide)) dL_law_691 ?_
  refine caVM_i (As := [.int (xs (i + (1 : Int32)).toNatClampNeg)]) (rest := []) (ctX8_append l dC dI cq q S1 M o1 _ (xs (i + (1 : Int32)).toNatClampNeg) b1 M1 e8) F (cwV 1 hts gL_law_X8_append rfl rfl rfl hdX8_append ⟨Nat.le_of_ble_eq_true rfl, Nat.le_of_ble_eq_true rfl⟩) hK hP hD (fun _ _ => trivial) hS hA (fun _ _ _ _ _ => trivial) (fun _ _ _ => trivial) (va_recv hK hP (ci := 9) (q0 := 22) rfl rfl) rfl hl.1 rfl (Nat.le_of_ble_eq_true rfl) dL_law_692 ⟨by show cells + 121 + 0 ≤ 601024; omega, by show slots + 906 + 0 ≤ 7293034; omega⟩ (fun H locs hP hD hS => ?_)
  refine lv_istore (lv' := [(6, .int b1), (5, .int r9), (4, .int i), (3, .ref (q 33)), (2, .ref (q 22)), (1, .ref (q 0)), (0, .ref b)]) hx hb dL_law_695 hl (by decide) rfl (fun ls hl => ?_)
  refine lv_aload_n hx hb dL_law_697 rfl (lv_at hl 4 rfl) ?_
  refine caVR_i (As := []) (rest := []) (ctX8_thrown l dC dI cq q S1 M1 o1 _ (M1.1 0) rfl) F (cwV 0 hts gL_law_X8_thrown rfl rfl rfl hdX8_thrown ⟨Nat.le_of_ble_eq_true rfl, Nat.le_of_ble_eq_true rfl⟩) hK hP hD (fun _ _ => trivial) hS hA (fun _ _ _ _ _ => trivial) (fun _ _ _ => trivial) (va_recv hK hP (ci := 9) (q0 := 22) rfl rfl) rfl hl.1 rfl (Nat.le_of_ble_eq_true rfl) dL_law_698 ⟨by show cells + 121 + 0 ≤ 601024; omega, by show slots + 906 + 0 ≤ 7293034; omega⟩ (fun H locs hP hD hS => ?_)
  refine lv_iload hx hb dL_law_701 (lv_at hl 1 rfl) ?_
  refine lv_icmp_eq (tgt := 708) hx hb dL_law_703 (by decide) (fun _ => ?_) (fun c9 => absurd hk.1 c9)
  refine lv_iload hx hb dL_law_708 (lv_at hl 1 rfl) ?_
  have fin : W p l e room_1 s m #[Value.ref b] below meth c H locs (cells + 121) (slots + 906) Q (F0 m 725 ls []) := lv_goto (tgt := 1536) hx hb dL_law_725 (by decide) (kk _ _ _ _ _ _ hk.2.2 hP hD hS (lv_sub hl [2, 3, 4, 5, 6] rfl))
  refine lv_if_ne (tgt := 725) hx hb dL_law_710 (by decide) (fun _ => fin) (fun c8 => ?_)
  refine lv_aload_n hx hb dL_law_713 rfl (lv_at hl 3 rfl) ?_
  refine lv_iconst (v := (0 : Int32)) hx hb dL_law_714 (by decide) ?_
  refine va_lald (D := (dC, dI)) hx hb hK hP 33 23 rfl rfl (inb_ok (i := 0) (n := 1) (by decide)) dL_law_715 ?_
  refine lv_iload hx hb dL_law_716 (lv_at hl 0 rfl) ?_
  refine lv_i2l hx hb dL_law_718 rfl ?_
  refine W.lcmp hx hb dL_law_719 ?_
  exact lv_if_eq (tgt := 725) hx hb dL_law_720 (by decide) (fun _ => fin) (fun c7 => absurd ((lg_cmp_eq _ _).mpr (hk.2.1 c8)) c7)
set_option maxRecDepth 100000 in
set_option maxHeartbeats 8000000 in
theorem st_clearBuffer {p : Program} {l : Launch} {e : Env} {s : State} {m : MethodId} {below : List Frame} {meth : Method} {c : Code} {b L : Nat} {xs : Nat → Int32} {dC : Nat → ClassId} {dI : Nat → Nat → Nat} {cq : Nat → ClassId} {q : Nat → Nat} {Q : State → Prop} (hfl : l.stackTraces = false) (C : LC p s m c b L xs dC dI cq q) {n : Nat} (hn : 40000000 < n) {S : CS} {M : MS} {o : Nat → Int64} (hR : Rel S M) {i : Int32} (hin : ∀ t : Nat, 1 ≤ t → t ≤ 5 → vp_in (i + nI t) L) {H : Heap} {locs : List Loc} {cells slots : Nat} (hcl : cells + 121 ≤ 601024) (hsl : slots + 906 ≤ 7293034) (hP : va_P (dC, dI) vwCl (wA cq q S M o) H) (hD : va_D (fun a => s.heap.size ≤ a) (wA cq q S M o)) (hS : va_S (fun a => s.heap.size ≤ a) s.heap H locs) {ls : Array Slot} (hl : lv_has ls 9 [(4, .int i), (3, .ref (q 33)), (2, .ref (q 22)), (1, .ref (q 0)), (0, .ref b)])
    (kk : ∀ (S' : CS) (M' : MS) (o' : Nat → Int64) (H' : Heap) (locs' : List Loc) (ls' : Array Slot), Rel S' M' → va_P (dC, dI) vwCl (wA cq q S' M' o') H' → va_D (fun a => s.heap.size ≤ a) (wA cq q S' M' o') → va_S (fun a => s.heap.size ≤ a) s.heap H' locs' → lv_has ls' 9 [(4, .int i), (3, .ref (q 33)), (2, .ref (q 22)), (1, .ref (q 0)), (0, .ref b)] → W p l e room_1 s m #[Value.ref b] below meth c H' locs' (cells + 121) (slots + 906) Q (F0 m 1536 ls' [])) :
    W p l e room_1 s m #[Value.ref b] below meth c H locs cells slots Q (F0 m 728 ls []) := by
  obtain ⟨hx, hb, hml, hown, hts, hX, hbl, hK, hEV⟩ := id C
  have F : CallFix p m c cL_law 9 s #[Value.ref b] wsL_law RL := ⟨hx, hb, hml, hown, hts⟩
  have hA : ∀ a : Nat, s.heap.size ≤ a → (fun a => s.heap.size ≤ a) a := fun _ h => h
  have hDm : ∀ a : Nat, (fun a => s.heap.size ≤ a) a → s.heap.size ≤ a := fun _ h => h
  have hbA : ¬ (fun a : Nat => s.heap.size ≤ a) b := Nat.not_le.mpr hbl
  obtain ⟨w, S1, M1, e7, e8, hrel⟩ := sq_clear hR 
  refine lv_aload_n hx hb dL_law_728 rfl (lv_at hl 3 rfl) ?_
  refine caVC_i (As := []) (rest := []) (ctX7_clearBuffer l dC dI cq q S M o _ s.heap.size w S1 e7) F (cwV 0 hts gL_law_X7_clearBuffer rfl rfl rfl hdX7_clearBuffer ⟨Nat.le_of_ble_eq_true rfl, Nat.le_of_ble_eq_true rfl⟩) hK hP hD hDm hS hA EV.blind (fun U hU hW => EV.call hEV hS hDm hU hW) (va_recv hK hP (ci := 8) (q0 := 0) rfl rfl) rfl hl.1 rfl (Nat.le_of_ble_eq_true rfl) dL_law_729 ⟨by show cells + 0 ≤ 601024; omega, by show slots + 0 ≤ 7293034; omega⟩ (fun H locs hP hD hS => ?_)
  refine lv_aload_n hx hb dL_law_732 rfl (lv_at hl 2 rfl) ?_
  refine caVM_i (As := []) (rest := [.int w]) (ctX8_clearBuffer l dC dI cq q S1 M o _ w M1 e8) F (cwV 0 hts gL_law_X8_clearBuffer rfl rfl rfl hdX8_clearBuffer ⟨Nat.le_of_ble_eq_true rfl, Nat.le_of_ble_eq_true rfl⟩) hK hP hD (fun _ _ => trivial) hS hA (fun _ _ _ _ _ => trivial) (fun _ _ _ => trivial) (va_recv hK hP (ci := 9) (q0 := 22) rfl rfl) rfl hl.1 rfl (Nat.le_of_ble_eq_true rfl) dL_law_733 ⟨by show cells + 0 ≤ 601024; omega, by show slots + 0 ≤ 7293034; omega⟩ (fun H locs hP hD hS => ?_)
  refine W.widen (k := cells + 121) (n := slots + 906) (by omega) (by omega) ?_
  exact lv_icmp_eq (tgt := 1536) hx hb dL_law_736 (by decide) (fun _ => kk _ _ _ _ _ _ hrel hP hD hS hl) (fun c9 => absurd rfl c9)
set_option maxRecDepth 100000 in
set_option maxHeartbeats 8000000 in
theorem st_firstError {p : Program} {l : Launch} {e : Env} {s : State} {m : MethodId} {below : List Frame} {meth : Method} {c : Code} {b L : Nat} {xs : Nat → Int32} {dC : Nat → ClassId} {dI : Nat → Nat → Nat} {cq : Nat → ClassId} {q : Nat → Nat} {Q : State → Prop} (hfl : l.stackTraces = false) (C : LC p s m c b L xs dC dI cq q) {n : Nat} (hn : 40000000 < n) {S : CS} {M : MS} {o : Nat → Int64} (hR : Rel S M) {i : Int32} (hin : ∀ t : Nat, 1 ≤ t → t ≤ 5 → vp_in (i + nI t) L) {H : Heap} {locs : List Loc} {cells slots : Nat} (hcl : cells + 121 ≤ 601024) (hsl : slots + 906 ≤ 7293034) (hP : va_P (dC, dI) vwCl (wA cq q S M o) H) (hD : va_D (fun a => s.heap.size ≤ a) (wA cq q S M o)) (hS : va_S (fun a => s.heap.size ≤ a) s.heap H locs) {ls : Array Slot} (hl : lv_has ls 9 [(4, .int i), (3, .ref (q 33)), (2, .ref (q 22)), (1, .ref (q 0)), (0, .ref b)])
    (kk : ∀ (S' : CS) (M' : MS) (o' : Nat → Int64) (H' : Heap) (locs' : List Loc) (ls' : Array Slot), Rel S' M' → va_P (dC, dI) vwCl (wA cq q S' M' o') H' → va_D (fun a => s.heap.size ≤ a) (wA cq q S' M' o') → va_S (fun a => s.heap.size ≤ a) s.heap H' locs' → lv_has ls' 9 [(4, .int i), (3, .ref (q 33)), (2, .ref (q 22)), (1, .ref (q 0)), (0, .ref b)] → W p l e room_1 s m #[Value.ref b] below meth c H' locs' (cells + 121) (slots + 906) Q (F0 m 1536 ls' [])) :
    W p l e room_1 s m #[Value.ref b] below meth c H locs cells slots Q (F0 m 741 ls []) := by
  obtain ⟨hx, hb, hml, hown, hts, hX, hbl, hK, hEV⟩ := id C
  have F : CallFix p m c cL_law 9 s #[Value.ref b] wsL_law RL := ⟨hx, hb, hml, hown, hts⟩
  have hA : ∀ a : Nat, s.heap.size ≤ a → (fun a => s.heap.size ≤ a) a := fun _ h => h
  have hDm : ∀ a : Nat, (fun a => s.heap.size ≤ a) a → s.heap.size ≤ a := fun _ h => h
  have hbA : ¬ (fun a : Nat => s.heap.size ≤ a) b := Nat.not_le.mpr hbl
  obtain ⟨w, S1, M1, e7, e8, hrel⟩ := sq_firstError hR (n := n) (by omega)
  refine lv_aload_n hx hb dL_law_741 rfl (lv_at hl 3 rfl) ?_
  refine caVC_i (As := []) (rest := []) (ctX7_firstError l dC dI cq q S M o _ s.heap.size n w S1 e7) F (cwV 0 hts gL_law_X7_firstError rfl rfl rfl hdX7_firstError ⟨Nat.le_of_ble_eq_true rfl, Nat.le_of_ble_eq_true rfl⟩) hK hP hD hDm hS hA EV.blind (fun U hU hW => EV.call hEV hS hDm hU hW) (va_recv hK hP (ci := 8) (q0 := 0) rfl rfl) rfl hl.1 rfl (Nat.le_of_ble_eq_true rfl) dL_law_742 ⟨by show cells + 0 ≤ 601024; omega, by show slots + 0 ≤ 7293034; omega⟩ (fun H locs hP hD hS => ?_)
  refine lv_aload_n hx hb dL_law_745 rfl (lv_at hl 2 rfl) ?_
  refine caVM_i (As := []) (rest := [.int w]) (ctX8_firstError l dC dI cq q S1 M o _ n w M1 e8) F (cwV 0 hts gL_law_X8_firstError rfl rfl rfl hdX8_firstError ⟨Nat.le_of_ble_eq_true rfl, Nat.le_of_ble_eq_true rfl⟩) hK hP hD (fun _ _ => trivial) hS hA (fun _ _ _ _ _ => trivial) (fun _ _ _ => trivial) (va_recv hK hP (ci := 9) (q0 := 22) rfl rfl) rfl hl.1 rfl (Nat.le_of_ble_eq_true rfl) dL_law_746 ⟨by show cells + 0 ≤ 601024; omega, by show slots + 0 ≤ 7293034; omega⟩ (fun H locs hP hD hS => ?_)
  refine W.widen (k := cells + 121) (n := slots + 906) (by omega) (by omega) ?_
  exact lv_icmp_eq (tgt := 1536) hx hb dL_law_749 (by decide) (fun _ => kk _ _ _ _ _ _ hrel hP hD hS hl) (fun c9 => absurd rfl c9)
set_option maxRecDepth 100000 in
set_option maxHeartbeats 8000000 in
theorem st_load {p : Program} {l : Launch} {e : Env} {s : State} {m : MethodId} {below : List Frame} {meth : Method} {c : Code} {b L : Nat} {xs : Nat → Int32} {dC : Nat → ClassId} {dI : Nat → Nat → Nat} {cq : Nat → ClassId} {q : Nat → Nat} {Q : State → Prop} (hfl : l.stackTraces = false) (C : LC p s m c b L xs dC dI cq q) {n : Nat} (hn : 40000000 < n) {S : CS} {M : MS} {o : Nat → Int64} (hR : Rel S M) {i : Int32} (hin : ∀ t : Nat, 1 ≤ t → t ≤ 5 → vp_in (i + nI t) L) {H : Heap} {locs : List Loc} {cells slots : Nat} (hcl : cells + 121 ≤ 601024) (hsl : slots + 906 ≤ 7293034) (hP : va_P (dC, dI) vwCl (wA cq q S M o) H) (hD : va_D (fun a => s.heap.size ≤ a) (wA cq q S M o)) (hS : va_S (fun a => s.heap.size ≤ a) s.heap H locs) {ls : Array Slot} (hl : lv_has ls 9 [(4, .int i), (3, .ref (q 33)), (2, .ref (q 22)), (1, .ref (q 0)), (0, .ref b)])
    (kk : ∀ (S' : CS) (M' : MS) (o' : Nat → Int64) (H' : Heap) (locs' : List Loc) (ls' : Array Slot), Rel S' M' → va_P (dC, dI) vwCl (wA cq q S' M' o') H' → va_D (fun a => s.heap.size ≤ a) (wA cq q S' M' o') → va_S (fun a => s.heap.size ≤ a) s.heap H' locs' → lv_has ls' 9 [(4, .int i), (3, .ref (q 33)), (2, .ref (q 22)), (1, .ref (q 0)), (0, .ref b)] → W p l e room_1 s m #[Value.ref b] below meth c H' locs' (cells + 121) (slots + 906) Q (F0 m 1536 ls' [])) :
    W p l e room_1 s m #[Value.ref b] below meth c H locs cells slots Q (F0 m 754 ls []) := by
  obtain ⟨hx, hb, hml, hown, hts, hX, hbl, hK, hEV⟩ := id C
  have F : CallFix p m c cL_law 9 s #[Value.ref b] wsL_law RL := ⟨hx, hb, hml, hown, hts⟩
  have hA : ∀ a : Nat, s.heap.size ≤ a → (fun a => s.heap.size ≤ a) a := fun _ h => h
  have hDm : ∀ a : Nat, (fun a => s.heap.size ≤ a) a → s.heap.size ≤ a := fun _ h => h
  have hbA : ¬ (fun a : Nat => s.heap.size ≤ a) b := Nat.not_le.mpr hbl
  obtain ⟨⟨b1, M1⟩, e8, e7⟩ := sq_load hR (n := n) (by omega)
  refine lv_aload_n hx hb dL_law_754 rfl (lv_at hl 3 rfl) ?_
  refine lv_aload_n hx hb dL_law_755 rfl (lv_at hl 1 rfl) ?_
  refine caWS_i (As := [.ref (q 0), .ref (q 33)]) (rest := []) (ctL_load l dC dI cq q S M o _ s.heap.size 60 (fun (r : Int32) (u : CS) => Sq7 cdL_load (fun e => e = 1 ∨ e = 3) (.ok r, u) (b1, M1)) (fun k u => Sq7 cdL_load (fun e => e = 1 ∨ e = 3) (.error k, u) (b1, M1)) (fun sz => ctX7_load l dC dI cq q S M o sz s.heap.size hfl 60 (fun rs => Sq7 cdL_load (fun e => e = 1 ∨ e = 3) rs (b1, M1)) e7) (fun e u h => h.1)) F (vx_cwSW 2 hts gL_law_L_load rfl rfl rfl hdL_load ⟨Nat.le_of_ble_eq_true rfl, Nat.le_of_ble_eq_true rfl⟩) hK hP hD hDm hS hA EV.blind (fun U hU hW => EV.call hEV hS hDm hU hW) rfl hl.1 rfl (Nat.le_of_ble_eq_true rfl) dL_law_756 ⟨by show cells + (2 * 60 + 1) ≤ 601024; omega, by show slots + (15 * 60 + 6) ≤ 7293034; omega⟩ (fun H locs r9 u9 h9 hP hD hS => ?_)
  obtain ⟨S1, o1⟩ := u9
  have hk := lw_fin (o := o) h9
  refine W.widen (k := cells + 121) (n := slots + 906) (by omega) (by omega) ?_
  refine lv_istore (lv' := [(5, .int r9), (4, .int i), (3, .ref (q 33)), (2, .ref (q 22)), (1, .ref (q 0)), (0, .ref b)]) hx hb dL_law_759 hl (by decide) rfl (fun ls hl => ?_)
  refine lv_aload_n hx hb dL_law_761 rfl (lv_at hl 3 rfl) ?_
  refine caVM_i (As := []) (rest := []) (ctX8_load l dC dI cq q S1 M o1 _ n b1 M1 e8) F (cwV 0 hts gL_law_X8_load rfl rfl rfl hdX8_load ⟨Nat.le_of_ble_eq_true rfl, Nat.le_of_ble_eq_true rfl⟩) hK hP hD (fun _ _ => trivial) hS hA (fun _ _ _ _ _ => trivial) (fun _ _ _ => trivial) (va_recv hK hP (ci := 9) (q0 := 22) rfl rfl) rfl hl.1 rfl (Nat.le_of_ble_eq_true rfl) dL_law_762 ⟨by show cells + 121 + 0 ≤ 601024; omega, by show slots + 906 + 0 ≤ 7293034; omega⟩ (fun H locs hP hD hS => ?_)
  refine lv_istore (lv' := [(6, .int b1), (5, .int r9), (4, .int i), (3, .ref (q 33)), (2, .ref (q 22)), (1, .ref (q 0)), (0, .ref b)]) hx hb dL_law_765 hl (by decide) rfl (fun ls hl => ?_)
  refine lv_aload_n hx hb dL_law_767 rfl (lv_at hl 4 rfl) ?_
  refine caVR_i (As := []) (rest := []) (ctX8_thrown l dC dI cq q S1 M1 o1 _ (M1.1 0) rfl) F (cwV 0 hts gL_law_X8_thrown rfl rfl rfl hdX8_thrown ⟨Nat.le_of_ble_eq_true rfl, Nat.le_of_ble_eq_true rfl⟩) hK hP hD (fun _ _ => trivial) hS hA (fun _ _ _ _ _ => trivial) (fun _ _ _ => trivial) (va_recv hK hP (ci := 9) (q0 := 22) rfl rfl) rfl hl.1 rfl (Nat.le_of_ble_eq_true rfl) dL_law_768 ⟨by show cells + 121 + 0 ≤ 601024; omega, by show slots + 906 + 0 ≤ 7293034; omega⟩ (fun H locs hP hD hS => ?_)
  refine lv_iload hx hb dL_law_771 (lv_at hl 1 rfl) ?_
  refine lv_icmp_eq (tgt := 778) hx hb dL_law_773 (by decide) (fun _ => ?_) (fun c9 => absurd hk.1 c9)
  refine lv_iload hx hb dL_law_778 (lv_at hl 1 rfl) ?_
  have fin : W p l e room_1 s m #[Value.ref b] below meth c H locs (cells + 121) (slots + 906) Q (F0 m 795 ls []) := lv_goto (tgt := 1536) hx hb dL_law_795 (by decide) (kk _ _ _ _ _ _ hk.2.2 hP hD hS (lv_sub hl [2, 3, 4, 5, 6] rfl))
  refine lv_if_ne (tgt := 795) hx hb dL_law_780 (by decide) (fun _ => fin) (fun c8 => ?_)
  refine lv_aload_n hx hb dL_law_783 rfl (lv_at hl 3 rfl) ?_
  refine lv_iconst (v := (0 : Int32)) hx hb dL_law_784 (by decide) ?_
  refine va_lald (D := (dC, dI)) hx hb hK hP 33 23 rfl rfl (inb_ok (i := 0) (n := 1) (by decide)) dL_law_785 ?_
  refine lv_iload hx hb dL_law_786 (lv_at hl 0 rfl) ?_
  refine lv_i2l hx hb dL_law_788 rfl ?_
  refine W.lcmp hx hb dL_law_789 ?_
  exact lv_if_eq (tgt := 795) hx hb dL_law_790 (by decide) (fun _ => fin) (fun c7 => absurd ((lg_cmp_eq _ _).mpr (hk.2.1 c8)) c7)
set_option maxRecDepth 100000 in
set_option maxHeartbeats 8000000 in
theorem st_joined {p : Program} {l : Launch} {e : Env} {s : State} {m : MethodId} {below : List Frame} {meth : Method} {c : Code} {b L : Nat} {xs : Nat → Int32} {dC : Nat → ClassId} {dI : Nat → Nat → Nat} {cq : Nat → ClassId} {q : Nat → Nat} {Q : State → Prop} (hfl : l.stackTraces = false) (C : LC p s m c b L xs dC dI cq q) {n : Nat} (hn : 40000000 < n) {S : CS} {M : MS} {o : Nat → Int64} (hR : Rel S M) {i : Int32} (hin : ∀ t : Nat, 1 ≤ t → t ≤ 5 → vp_in (i + nI t) L) {H : Heap} {locs : List Loc} {cells slots : Nat} (hcl : cells + 121 ≤ 601024) (hsl : slots + 906 ≤ 7293034) (hP : va_P (dC, dI) vwCl (wA cq q S M o) H) (hD : va_D (fun a => s.heap.size ≤ a) (wA cq q S M o)) (hS : va_S (fun a => s.heap.size ≤ a) s.heap H locs) {ls : Array Slot} (hl : lv_has ls 9 [(4, .int i), (3, .ref (q 33)), (2, .ref (q 22)), (1, .ref (q 0)), (0, .ref b)])
    (kk : ∀ (S' : CS) (M' : MS) (o' : Nat → Int64) (H' : Heap) (locs' : List Loc) (ls' : Array Slot), Rel S' M' → va_P (dC, dI) vwCl (wA cq q S' M' o') H' → va_D (fun a => s.heap.size ≤ a) (wA cq q S' M' o') → va_S (fun a => s.heap.size ≤ a) s.heap H' locs' → lv_has ls' 9 [(4, .int i), (3, .ref (q 33)), (2, .ref (q 22)), (1, .ref (q 0)), (0, .ref b)] → W p l e room_1 s m #[Value.ref b] below meth c H' locs' (cells + 121) (slots + 906) Q (F0 m 1536 ls' [])) :
    W p l e room_1 s m #[Value.ref b] below meth c H locs cells slots Q (F0 m 798 ls []) := by
  obtain ⟨hx, hb, hml, hown, hts, hX, hbl, hK, hEV⟩ := id C
  have F : CallFix p m c cL_law 9 s #[Value.ref b] wsL_law RL := ⟨hx, hb, hml, hown, hts⟩
  have hA : ∀ a : Nat, s.heap.size ≤ a → (fun a => s.heap.size ≤ a) a := fun _ h => h
  have hDm : ∀ a : Nat, (fun a => s.heap.size ≤ a) a → s.heap.size ≤ a := fun _ h => h
  have hbA : ¬ (fun a : Nat => s.heap.size ≤ a) b := Nat.not_le.mpr hbl
  obtain ⟨rs, ⟨b1, M1⟩, e7, e8, hst⟩ := sq_joined hR (n := n) (by omega) (xs (i + (1 : Int32)).toNatClampNeg) (xs (i + (2 : Int32)).toNatClampNeg) (xs (i + (3 : Int32)).toNatClampNeg)
  refine lv_aload_n hx hb dL_law_798 rfl (lv_at hl 3 rfl) ?_
  refine lv_aload_n hx hb dL_law_799 rfl (lv_at hl 4 rfl) ?_
  refine lv_iload hx hb dL_law_800 (lv_at hl 0 rfl) ?_
  refine lv_iconst (v := (1 : Int32)) hx hb dL_law_802 (by decide) ?_
  refine lv_iadd hx hb dL_law_803 ?_
  refine va_sld hx hb hX hbl hbA hS (hin 1 (by decide) (by decide)) dL_law_804 ?_
  refine lv_aload_n hx hb dL_law_805 rfl (lv_at hl 4 rfl) ?_
  refine lv_iload hx hb dL_law_806 (lv_at hl 0 rfl) ?_
  refine lv_iconst (v := (2 : Int32)) hx hb dL_law_808 (by decide) ?_
  refine lv_iadd hx hb dL_law_809 ?_
  refine va_sld hx hb hX hbl hbA hS (hin 2 (by decide) (by decide)) dL_law_810 ?_
  refine lv_aload_n hx hb dL_law_811 rfl (lv_at hl 4 rfl) ?_
  refine lv_iload hx hb dL_law_812 (lv_at hl 0 rfl) ?_
  refine lv_iconst (v := (3 : Int32)) hx hb dL_law_814 (by decide) ?_
  refine lv_iadd hx hb dL_law_815 ?_
  refine va_sld hx hb hX hbl hbA hS (hin 3 (by decide) (by decide)) dL_law_816 ?_
  refine lv_aload_n hx hb dL_law_817 rfl (lv_at hl 1 rfl) ?_
  refine caWS_i (As := [.ref (q 0), .int (xs (i + (1 : Int32)).toNatClampNeg), .int (xs (i + (2 : Int32)).toNatClampNeg), .int (xs (i + (3 : Int32)).toNatClampNeg), .ref (q 33)]) (rest := []) (ctL_joined l dC dI cq q S M o _ s.heap.size (xs (i + (1 : Int32)).toNatClampNeg) (xs (i + (2 : Int32)).toNatClampNeg) (xs (i + (3 : Int32)).toNatClampNeg) (fun (r : Int32) (u : CS) => rs = (.ok r, u)) (fun k u => rs = (.error k, u)) (fun sz => ctX7_joined l dC dI cq q S M o sz s.heap.size hfl n (xs (i + (1 : Int32)).toNatClampNeg) (xs (i + (2 : Int32)).toNatClampNeg) (xs (i + (3 : Int32)).toNatClampNeg) rs e7) (fun e u h => by rw [h] at hst; exact hst.1)) F (vx_cwSW 5 hts gL_law_L_joined rfl rfl rfl hdL_joined ⟨Nat.le_of_ble_eq_true rfl, Nat.le_of_ble_eq_true rfl⟩) hK hP hD hDm hS hA EV.blind (fun U hU hW => EV.call hEV hS hDm hU hW) rfl hl.1 rfl (Nat.le_of_ble_eq_true rfl) dL_law_818 ⟨by show cells + 3 ≤ 601024; omega, by show slots + 18 ≤ 7293034; omega⟩ (fun H locs r9 u9 h9 hP hD hS => ?_)
  obtain ⟨S1, o1⟩ := u9
  have hk := lw_fin (cd := cdL_joined) (ok := (fun e => e = 1 ∨ e = 2)) (z := (b1, M1)) (o := o) (h9.imp (fun ⟨hr, v, hv, ho⟩ => ⟨hr, v, by rw [← hv]; exact hst, ho⟩) (fun ⟨k, hk, hr, ho⟩ => ⟨k, by rw [← hk]; exact hst, hr, ho⟩))
  refine W.widen (k := cells + 121) (n := slots + 906) (by omega) (by omega) ?_
  refine lv_istore (lv' := [(5, .int r9), (4, .int i), (3, .ref (q 33)), (2, .ref (q 22)), (1, .ref (q 0)), (0, .ref b)]) hx hb dL_law_821 hl (by decide) rfl (fun ls hl => ?_)
  refine lv_aload_n hx hb dL_law_823 rfl (lv_at hl 3 rfl) ?_
  refine lv_aload_n hx hb dL_law_824 rfl (lv_at hl 5 rfl) ?_
  refine lv_iload hx hb dL_law_825 (lv_at hl 1 rfl) ?_
  refine lv_iconst (v := (1 : Int32)) hx hb dL_law_827 (by decide) ?_
  refine lv_iadd hx hb dL_law_828 ?_
  refine va_sld hx hb hX hbl hbA hS (hin 1 (by decide) (by decide)) dL_law_829 ?_
  refine lv_aload_n hx hb dL_law_830 rfl (lv_at hl 5 rfl) ?_
  refine lv_iload hx hb dL_law_831 (lv_at hl 1 rfl) ?_
  refine lv_iconst (v := (2 : Int32)) hx hb dL_law_833 (by decide) ?_
  refine lv_iadd hx hb dL_law_834 ?_
  refine va_sld hx hb hX hbl hbA hS (hin 2 (by decide) (by decide)) dL_law_835 ?_
  refine lv_aload_n hx hb dL_law_836 rfl (lv_at hl 5 rfl) ?_
  refine lv_iload hx hb dL_law_837 (lv_at hl 1 rfl) ?_
  refine lv_iconst (v := (3 : Int32)) hx hb dL_law_839 (by decide) ?_
  refine lv_iadd hx hb dL_law_840 ?_
  refine va_sld hx hb hX hbl hbA hS (hin 3 (by decide) (by decide)) dL_law_841 ?_
  refine caVM_i (As := [.int (xs (i + (1 : Int32)).toNatClampNeg), .int (xs (i + (2 : Int32)).toNatClampNeg), .int (xs (i + (3 : Int32)).toNatClampNeg)]) (rest := []) (ctX8_joined l dC dI cq q S1 M o1 _ n (xs (i + (1 : Int32)).toNatClampNeg) (xs (i + (2 : Int32)).toNatClampNeg) (xs (i + (3 : Int32)).toNatClampNeg) b1 M1 e8) F (cwV 3 hts gL_law_X8_joined rfl rfl rfl hdX8_joined ⟨Nat.le_of_ble_eq_true rfl, Nat.le_of_ble_eq_true rfl⟩) hK hP hD (fun _ _ => trivial) hS hA (fun _ _ _ _ _ => trivial) (fun _ _ _ => trivial) (va_recv hK hP (ci := 9) (q0 := 22) rfl rfl) rfl hl.1 rfl (Nat.le_of_ble_eq_true rfl) dL_law_842 ⟨by show cells + 121 + 0 ≤ 601024; omega, by show slots + 906 + 0 ≤ 7293034; omega⟩ (fun H locs hP hD hS => ?_)
  refine lv_istore (lv' := [(6, .int b1), (5, .int r9), (4, .int i), (3, .ref (q 33)), (2, .ref (q 22)), (1, .ref (q 0)), (0, .ref b)]) hx hb dL_law_845 hl (by decide) rfl (fun ls hl => ?_)
  refine lv_aload_n hx hb dL_law_847 rfl (lv_at hl 4 rfl) ?_
  refine caVR_i (As := []) (rest := []) (ctX8_thrown l dC dI cq q S1 M1 o1 _ (M1.1 0) rfl) F (cwV 0 hts gL_law_X8_thrown rfl rfl rfl hdX8_thrown ⟨Nat.le_of_ble_eq_true rfl, Nat.le_of_ble_eq_true rfl⟩) hK hP hD (fun _ _ => trivial) hS hA (fun _ _ _ _ _ => trivial) (fun _ _ _ => trivial) (va_recv hK hP (ci := 9) (q0 := 22) rfl rfl) rfl hl.1 rfl (Nat.le_of_ble_eq_true rfl) dL_law_848 ⟨by show cells + 121 + 0 ≤ 601024; omega, by show slots + 906 + 0 ≤ 7293034; omega⟩ (fun H locs hP hD hS => ?_)
  refine lv_iload hx hb dL_law_851 (lv_at hl 1 rfl) ?_
  refine lv_icmp_eq (tgt := 858) hx hb dL_law_853 (by decide) (fun _ => ?_) (fun c9 => absurd hk.1 c9)
  refine lv_iload hx hb dL_law_858 (lv_at hl 1 rfl) ?_
  have fin : W p l e room_1 s m #[Value.ref b] below meth c H locs (cells + 121) (slots + 906) Q (F0 m 875 ls []) := lv_goto (tgt := 1536) hx hb dL_law_875 (by decide) (kk _ _ _ _ _ _ hk.2.2 hP hD hS (lv_sub hl [2, 3, 4, 5, 6] rfl))
  refine lv_if_ne (tgt := 875) hx hb dL_law_860 (by decide) (fun _ => fin) (fun c8 => ?_)
  refine lv_aload_n hx hb dL_law_863 rfl (lv_at hl 3 rfl) ?_
  refine lv_iconst (v := (0 : Int32)) hx hb dL_law_864 (by decide) ?_
  refine va_lald (D := (dC, dI)) hx hb hK hP 33 23 rfl rfl (inb_ok (i := 0) (n := 1) (by decide)) dL_law_865 ?_
  refine lv_iload hx hb dL_law_866 (lv_at hl 0 rfl) ?_
  refine lv_i2l hx hb dL_law_868 rfl ?_
  refine W.lcmp hx hb dL_law_869 ?_
  exact lv_if_eq (tgt := 875) hx hb dL_law_870 (by decide) (fun _ => fin) (fun c7 => absurd ((lg_cmp_eq _ _).mpr (hk.2.1 c8)) c7)
set_option maxRecDepth 100000 in
set_option maxHeartbeats 8000000 in
theorem st_status {p : Program} {l : Launch} {e : Env} {s : State} {m : MethodId} {below : List Frame} {meth : Method} {c : Code} {b L : Nat} {xs : Nat → Int32} {dC : Nat → ClassId} {dI : Nat → Nat → Nat} {cq : Nat → ClassId} {q : Nat → Nat} {Q : State → Prop} (hfl : l.stackTraces = false) (C : LC p s m c b L xs dC dI cq q) {n : Nat} (hn : 40000000 < n) {S : CS} {M : MS} {o : Nat → Int64} (hR : Rel S M) {i : Int32} (hin : ∀ t : Nat, 1 ≤ t → t ≤ 5 → vp_in (i + nI t) L) {H : Heap} {locs : List Loc} {cells slots : Nat} (hcl : cells + 121 ≤ 601024) (hsl : slots + 906 ≤ 7293034) (hP : va_P (dC, dI) vwCl (wA cq q S M o) H) (hD : va_D (fun a => s.heap.size ≤ a) (wA cq q S M o)) (hS : va_S (fun a => s.heap.size ≤ a) s.heap H locs) {ls : Array Slot} (hl : lv_has ls 9 [(4, .int i), (3, .ref (q 33)), (2, .ref (q 22)), (1, .ref (q 0)), (0, .ref b)])
    (kk : ∀ (S' : CS) (M' : MS) (o' : Nat → Int64) (H' : Heap) (locs' : List Loc) (ls' : Array Slot), Rel S' M' → va_P (dC, dI) vwCl (wA cq q S' M' o') H' → va_D (fun a => s.heap.size ≤ a) (wA cq q S' M' o') → va_S (fun a => s.heap.size ≤ a) s.heap H' locs' → lv_has ls' 9 [(4, .int i), (3, .ref (q 33)), (2, .ref (q 22)), (1, .ref (q 0)), (0, .ref b)] → W p l e room_1 s m #[Value.ref b] below meth c H' locs' (cells + 121) (slots + 906) Q (F0 m 1536 ls' [])) :
    W p l e room_1 s m #[Value.ref b] below meth c H locs cells slots Q (F0 m 878 ls []) := by
  obtain ⟨hx, hb, hml, hown, hts, hX, hbl, hK, hEV⟩ := id C
  have F : CallFix p m c cL_law 9 s #[Value.ref b] wsL_law RL := ⟨hx, hb, hml, hown, hts⟩
  have hA : ∀ a : Nat, s.heap.size ≤ a → (fun a => s.heap.size ≤ a) a := fun _ h => h
  have hDm : ∀ a : Nat, (fun a => s.heap.size ≤ a) a → s.heap.size ≤ a := fun _ h => h
  have hbA : ¬ (fun a : Nat => s.heap.size ≤ a) b := Nat.not_le.mpr hbl
  obtain ⟨rs, ⟨b1, M1⟩, e7, e8, hst⟩ := sq_status hR (n := n) (by omega) (xs (i + (1 : Int32)).toNatClampNeg)
  refine lv_aload_n hx hb dL_law_878 rfl (lv_at hl 3 rfl) ?_
  refine lv_aload_n hx hb dL_law_879 rfl (lv_at hl 4 rfl) ?_
  refine lv_iload hx hb dL_law_880 (lv_at hl 0 rfl) ?_
  refine lv_iconst (v := (1 : Int32)) hx hb dL_law_882 (by decide) ?_
  refine lv_iadd hx hb dL_law_883 ?_
  refine va_sld hx hb hX hbl hbA hS (hin 1 (by decide) (by decide)) dL_law_884 ?_
  refine lv_aload_n hx hb dL_law_885 rfl (lv_at hl 1 rfl) ?_
  refine caWS_i (As := [.ref (q 0), .int (xs (i + (1 : Int32)).toNatClampNeg), .ref (q 33)]) (rest := []) (ctL_status l dC dI cq q S M o _ s.heap.size (xs (i + (1 : Int32)).toNatClampNeg) (fun (r : Int32) (u : CS) => rs = (.ok r, u)) (fun k u => rs = (.error k, u)) (fun sz => ctX7_status l dC dI cq q S M o sz s.heap.size hfl n (xs (i + (1 : Int32)).toNatClampNeg) rs e7) (fun e u h => by rw [h] at hst; exact hst.1)) F (vx_cwSW 3 hts gL_law_L_status rfl rfl rfl hdL_status ⟨Nat.le_of_ble_eq_true rfl, Nat.le_of_ble_eq_true rfl⟩) hK hP hD hDm hS hA EV.blind (fun U hU hW => EV.call hEV hS hDm hU hW) rfl hl.1 rfl (Nat.le_of_ble_eq_true rfl) dL_law_886 ⟨by show cells + 1 ≤ 601024; omega, by show slots + 6 ≤ 7293034; omega⟩ (fun H locs r9 u9 h9 hP hD hS => ?_)
  obtain ⟨S1, o1⟩ := u9
  have hk := lw_fin (cd := cdL_status) (ok := (fun e => e = 2)) (z := (b1, M1)) (o := o) (h9.imp (fun ⟨hr, v, hv, ho⟩ => ⟨hr, v, by rw [← hv]; exact hst, ho⟩) (fun ⟨k, hk, hr, ho⟩ => ⟨k, by rw [← hk]; exact hst, hr, ho⟩))
  refine W.widen (k := cells + 121) (n := slots + 906) (by omega) (by omega) ?_
  refine lv_istore (lv' := [(5, .int r9), (4, .int i), (3, .ref (q 33)), (2, .ref (q 22)), (1, .ref (q 0)), (0, .ref b)]) hx hb dL_law_889 hl (by decide) rfl (fun ls hl => ?_)
  refine lv_aload_n hx hb dL_law_891 rfl (lv_at hl 3 rfl) ?_
  refine lv_aload_n hx hb dL_law_892 rfl (lv_at hl 5 rfl) ?_
  refine lv_iload hx hb dL_law_893 (lv_at hl 1 rfl) ?_
  refine lv_iconst (v := (1 : Int32)) hx hb dL_law_895 (by decide) ?_
  refine lv_iadd hx hb dL_law_896 ?_
  refine va_sld hx hb hX hbl hbA hS (hin 1 (by decide) (by decide)) dL_law_897 ?_
  refine caVM_i (As := [.int (xs (i + (1 : Int32)).toNatClampNeg)]) (rest := []) (ctX8_status l dC dI cq q S1 M o1 _ n (xs (i + (1 : Int32)).toNatClampNeg) b1 M1 e8) F (cwV 1 hts gL_law_X8_status rfl rfl rfl hdX8_status ⟨Nat.le_of_ble_eq_true rfl, Nat.le_of_ble_eq_true rfl⟩) hK hP hD (fun _ _ => trivial) hS hA (fun _ _ _ _ _ => trivial) (fun _ _ _ => trivial) (va_recv hK hP (ci := 9) (q0 := 22) rfl rfl) rfl hl.1 rfl (Nat.le_of_ble_eq_true rfl) dL_law_898 ⟨by show cells + 121 + 0 ≤ 601024; omega, by show slots + 906 + 0 ≤ 7293034; omega⟩ (fun H locs hP hD hS => ?_)
  refine lv_istore (lv' := [(6, .int b1), (5, .int r9), (4, .int i), (3, .ref (q 33)), (2, .ref (q 22)), (1, .ref (q 0)), (0, .ref b)]) hx hb dL_law_901 hl (by decide) rfl (fun ls hl => ?_)
  refine lv_aload_n hx hb dL_law_903 rfl (lv_at hl 4 rfl) ?_
  refine caVR_i (As := []) (rest := []) (ctX8_thrown l dC dI cq q S1 M1 o1 _ (M1.1 0) rfl) F (cwV 0 hts gL_law_X8_thrown rfl rfl rfl hdX8_thrown ⟨Nat.le_of_ble_eq_true rfl, Nat.le_of_ble_eq_true rfl⟩) hK hP hD (fun _ _ => trivial) hS hA (fun _ _ _ _ _ => trivial) (fun _ _ _ => trivial) (va_recv hK hP (ci := 9) (q0 := 22) rfl rfl) rfl hl.1 rfl (Nat.le_of_ble_eq_true rfl) dL_law_904 ⟨by show cells + 121 + 0 ≤ 601024; omega, by show slots + 906 + 0 ≤ 7293034; omega⟩ (fun H locs hP hD hS => ?_)
  refine lv_iload hx hb dL_law_907 (lv_at hl 1 rfl) ?_
  refine lv_icmp_eq (tgt := 914) hx hb dL_law_909 (by decide) (fun _ => ?_) (fun c9 => absurd hk.1 c9)
  refine lv_iload hx hb dL_law_914 (lv_at hl 1 rfl) ?_
  have fin : W p l e room_1 s m #[Value.ref b] below meth c H locs (cells + 121) (slots + 906) Q (F0 m 931 ls []) := lv_goto (tgt := 1536) hx hb dL_law_931 (by decide) (kk _ _ _ _ _ _ hk.2.2 hP hD hS (lv_sub hl [2, 3, 4, 5, 6] rfl))
  refine lv_if_ne (tgt := 931) hx hb dL_law_916 (by decide) (fun _ => fin) (fun c8 => ?_)
  refine lv_aload_n hx hb dL_law_919 rfl (lv_at hl 3 rfl) ?_
  refine lv_iconst (v := (0 : Int32)) hx hb dL_law_920 (by decide) ?_
  refine va_lald (D := (dC, dI)) hx hb hK hP 33 23 rfl rfl (inb_ok (i := 0) (n := 1) (by decide)) dL_law_921 ?_
  refine lv_iload hx hb dL_law_922 (lv_at hl 0 rfl) ?_
  refine lv_i2l hx hb dL_law_924 rfl ?_
  refine W.lcmp hx hb dL_law_925 ?_
  exact lv_if_eq (tgt := 931) hx hb dL_law_926 (by decide) (fun _ => fin) (fun c7 => absurd ((lg_cmp_eq _ _).mpr (hk.2.1 c8)) c7)
