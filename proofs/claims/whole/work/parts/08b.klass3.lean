def mX0_lay_22 (n : Nat)   : Nat → CS → Int32 → Option (CS)
  | 0, _, _ => none
  | k + 1, S, x3 => (if (16 : Int32) ≤ x3 then (bn (mJx4a65c_clear_da8c8 S) fun S4 => (some S4)) else (if inb x3 16 then (mX0_lay_22 n k (sA S 2 x3.toNatClampNeg (x3 - x3 / (8 : Int32) * (8 : Int32))) (x3 + (1 : Int32))) else none))
def mX0_lay (n : Nat) (S : CS) (x1 : Int32) (x2 : Int32) : Option (CS) :=
  (mX0_lay_22 n n (sF (sF (sF (sF S 0 x1) 1 x2) 2 (0 : Int32)) 3 (0 : Int32)) (0 : Int32))
abbrev rmX0_lay : Room := { frames := 1, cells := 0, slots := 0, locals := 23 }
theorem hdX0_lay : yX0_lay.cls = RX0 ∧ yX0_lay.cls ≠ "java/lang/invoke/MethodHandle" ∧ yX0_lay.cls ≠ "java/lang/invoke/VarHandle" ∧ (parseMethodDescriptor yX0_lay.desc).map (fun d => d.parameters.length) = some 2 := by decide +kernel
set_option maxRecDepth 100000 in
set_option maxHeartbeats 8000000 in
theorem ctX0_lay (l : Launch) (dC : Nat → ClassId) (dI : Nat → Nat → Nat) (cq : Nat → ClassId) (q : Nat → Nat) (S : CS) (M : MS) (o : Nat → Int64) (sz : Nat) (h0 : Nat) (n : Nat) (x1 : Int32) (x2 : Int32) (SS : CS) (h : mX0_lay n S x1 x2 = some SS) : CtC_v l yX0_lay wsX0_lay rmX0_lay (fun a => h0 ≤ a) (EV h0 q) dC dI cq q S M o sz [.ref (q 1), .int x1, .int x2] SS := by
  refine enC_v (cc := cX0_lay) (maxL := 4) (by decide) rfl (Nat.le_of_ble_eq_true rfl) (fun p e s m args below meth c A Q ls F hA hP hK hD hDm hX hS hl hend => ?_)
  obtain ⟨hx, hb, hml, hown, hts⟩ := id F
  have hown : s.vm.findClass RX0 = some m.cls := hown
  have F : CallFix p m c cX0_lay 4 s args wsX0_lay RX0 := F
  have hl : lv_has ls 4 [(0, .ref (q 1)), (1, .int x1), (2, .int x2)] := hl
  have hinX0 : ∀ w ∈ u_ws RX0 TX0 7, w ∈ wsX0_lay := fun w h => List.mem_cons_of_mem _ (List.mem_append_left _ (List.mem_append_right _ h))
  have hL22 : ∀   (k : Nat) (S : CS) (x3 : Int32) (H : Heap) (locs : List Loc) (ls : Array Slot), va_P (dC, dI) vwCl (wA cq q S M o) H → va_D A (wA cq q S M o) → va_S A s.heap H locs → lv_has ls 4 [(0, .ref (q 1)), (3, .int x3)] → mX0_lay_22 n k S x3 = some SS → W p l e rmX0_lay s m args below meth c H locs 0 0 Q (F0 m 22 ls []) := by
    intro k
    induction k with
    | zero =>
      intro S x3 H locs ls hP hD hS hl h
      rw [mX0_lay_22] at h
      cases h
    | succ k ih =>
      intro S x3 H locs ls hP hD hS hl h
      rw [mX0_lay_22] at h
      refine lv_iload_n hx hb dX0_lay_22 rfl (lv_at hl 1 rfl) ?_
      refine lv_aload_n hx hb dX0_lay_23 rfl (lv_at hl 0 rfl) ?_
      refine va_get (D := (dC, dI)) (ci := 1) (v := .ref (q 2)) (C := RX0) (T := TX0) (N := 7) hx hb hts hinX0 hown hK hP 1 rfl rfl 4 (by decide) (hts (.fieldLink RX0 9 "CableTester$Cable" "wires" "[I") (mm 5 rfl)) (fun _ h9 => h9) rfl dX0_lay_24 ?_
      refine va_alen (D := (dC, dI)) hx hb hK hP 2 0 rfl rfl (v := (16 : Int32)) rfl dX0_lay_27 ?_
      refine lv_icmp_ge (tgt := 47) hx hb dX0_lay_28 (by decide) (fun c1 => ?_) (fun c1 => ?_)
      · replace h := it c1 h
        refine lv_aload_n hx hb dX0_lay_47 rfl (lv_at hl 0 rfl) ?_
        refine va_get (D := (dC, dI)) (ci := 1) (v := .ref (q 3)) (C := RX0) (T := TX0) (N := 7) hx hb hts hinX0 hown hK hP 1 rfl rfl 5 (by decide) (hts (.fieldLink RX0 18 "CableTester$Cable" "faults" "Ljava/util/ArrayList;") (mm 6 rfl)) (fun _ h9 => h9) rfl dX0_lay_48 ?_
        obtain ⟨S4, e3, h⟩ := bo h
        refine caVC_v (As := []) (rest := []) (ctJx4a65c_clear_da8c8 l dC dI cq q S M o _ _ _ e3) F (cwV 0 hts gX0_lay_Jx4a65c_clear_da8c8 rfl rfl rfl hdJx4a65c_clear_da8c8 ⟨Nat.le_of_ble_eq_true rfl, Nat.le_of_ble_eq_true rfl⟩) hK hP hD hDm hS hA EV.blind (fun U hU hW => EV.call hX hS hDm hU hW) (va_recv hK hP (ci := 0) (q0 := 3) rfl rfl) rfl hl.1 rfl (Nat.le_of_ble_eq_true rfl) dX0_lay_51 ⟨Nat.zero_le _, Nat.zero_le _⟩ (fun H locs hP hD hS => ?_)
        exact hend _ _ _ _ _ h hP hD hS dX0_lay_54
      · replace h := ie c1 h
        refine lv_aload_n hx hb dX0_lay_31 rfl (lv_at hl 0 rfl) ?_
        refine va_get (D := (dC, dI)) (ci := 1) (v := .ref (q 2)) (C := RX0) (T := TX0) (N := 7) hx hb hts hinX0 hown hK hP 1 rfl rfl 4 (by decide) (hts (.fieldLink RX0 9 "CableTester$Cable" "wires" "[I") (mm 5 rfl)) (fun _ h9 => h9) rfl dX0_lay_32 ?_
        refine lv_iload_n hx hb dX0_lay_35 rfl (lv_at hl 1 rfl) ?_
        refine lv_iload_n hx hb dX0_lay_36 rfl (lv_at hl 1 rfl) ?_
        refine lv_bipush (v := (8 : Int32)) hx hb dX0_lay_37 (by decide) ?_
        refine lv_irem hx hb dX0_lay_39 (by decide) ?_
        obtain ⟨g5, h⟩ := gd h
        refine as_2 F hK hP hD hS (inb_ok g5) dX0_lay_40 (fun H locs hP hD hS => ?_)
        refine lv_iinc (v := (x3 + (1 : Int32))) (lv' := [(3, .int (x3 + (1 : Int32))), (0, .ref (q 1))]) hx hb dX0_lay_41 hl (k := 1) rfl rfl (by decide) rfl (fun ls hl => ?_)
        refine lv_goto (tgt := 22) hx hb dX0_lay_44 (by decide) ?_
        exact ih _ _ _ _ _ hP hD hS (lv_sub hl [1, 0] rfl) h
  rw [mX0_lay] at h
  refine lv_aload_n hx hb dX0_lay_0 rfl (lv_at hl 0 rfl) ?_
  refine lv_iload_n hx hb dX0_lay_1 rfl (lv_at hl 1 rfl) ?_
  refine pt_1_0 F hinX0 (hts (.fieldLink RX0 31 "CableTester$Cable" "length" "I") (mm 1 rfl)) hK hP hD hS dX0_lay_2 (fun H locs hP hD hS => ?_)
  refine lv_aload_n hx hb dX0_lay_5 rfl (lv_at hl 0 rfl) ?_
  refine lv_iload_n hx hb dX0_lay_6 rfl (lv_at hl 2 rfl) ?_
  refine pt_1_1 F hinX0 (hts (.fieldLink RX0 35 "CableTester$Cable" "velocity" "I") (mm 2 rfl)) hK hP hD hS dX0_lay_7 (fun H locs hP hD hS => ?_)
  refine lv_aload_n hx hb dX0_lay_10 rfl (lv_at hl 0 rfl) ?_
  refine lv_iconst (v := (0 : Int32)) hx hb dX0_lay_11 (by decide) ?_
  refine pt_1_2 F hinX0 (hts (.fieldLink RX0 38 "CableTester$Cable" "unit" "I") (mm 3 rfl)) hK hP hD hS dX0_lay_12 (fun H locs hP hD hS => ?_)
  refine lv_aload_n hx hb dX0_lay_15 rfl (lv_at hl 0 rfl) ?_
  refine lv_iconst (v := (0 : Int32)) hx hb dX0_lay_16 (by decide) ?_
  refine pt_1_3 F hinX0 (hts (.fieldLink RX0 41 "CableTester$Cable" "tick" "I") (mm 4 rfl)) hK hP hD hS dX0_lay_17 (fun H locs hP hD hS => ?_)
  refine lv_iconst (v := (0 : Int32)) hx hb dX0_lay_20 (by decide) ?_
  refine lv_istore_n (lv' := [(3, .int (0 : Int32)), (0, .ref (q 1)), (1, .int x1), (2, .int x2)]) hx hb dX0_lay_21 rfl hl (by decide) rfl (fun ls hl => ?_)
  exact hL22 _ _ _ _ _ _ hP hD hS (lv_sub hl [1, 0] rfl) h
def mX7_needIndex (S : CS) (x0 : Int32) (x1 : Int32) : Option (Except Nat Unit × CS) :=
  (if x0 < (0 : Int32) then (some (.error 2, S)) else (if x0 < x1 then (some (.ok (), S)) else (some (.error 2, S))))
abbrev rmX7_needIndex : Room := { frames := 6, cells := 1, slots := 6, locals := 100 }
theorem hdX7_needIndex : yX7_needIndex.cls ≠ "java/lang/invoke/MethodHandle" ∧ yX7_needIndex.cls ≠ "java/lang/invoke/VarHandle" ∧ (parseMethodDescriptor yX7_needIndex.desc).map (fun d => d.parameters.length) = some 2 := by decide +kernel
set_option maxRecDepth 100000 in
set_option maxHeartbeats 8000000 in
theorem ctX7_needIndex (l : Launch) (dC : Nat → ClassId) (dI : Nat → Nat → Nat) (cq : Nat → ClassId) (q : Nat → Nat) (S : CS) (M : MS) (o : Nat → Int64) (sz h0 : Nat) (hfl : l.stackTraces = false) (x0 : Int32) (x1 : Int32) (rs : Except Nat Unit × CS) (h : mX7_needIndex S x0 x1 = some rs) : CtX_v l yX7_needIndex wsX7_needIndex rmX7_needIndex (fun a => h0 ≤ a) (EV h0 q) dC dI cq (wA cq q S M o) sz [.int x0, .int x1] (fun S => wA cq q S M o) (fun (u : CS) => rs = (.ok (), u)) (fun k u => rs = (.error k, u)) 1 6 := by
  refine enX_v (wf := fun S => wA cq q S M o) (cc := cX7_needIndex) (maxL := 2) (by decide) rfl (Nat.le_of_ble_eq_true rfl) (fun p e s m args below meth c A Q ls hQ htab hlocks F hA hP hK hD hDm hX hS hl hend hthr => ?_)
  obtain ⟨hx, hb, hml, hown, hts⟩ := id F
  have hown : s.vm.findClass RX7 = some m.cls := hown
  have F : CallFix p m c cX7_needIndex 2 s args wsX7_needIndex RX7 := F
  have hl : lv_has ls 2 [(0, .int x0), (1, .int x1)] := hl
  rw [mX7_needIndex] at h
  refine lv_iload_n hx hb dX7_needIndex_0 rfl (lv_at hl 0 rfl) ?_
  refine lv_if_lt (tgt := 9) hx hb dX7_needIndex_1 (by decide) (fun c1 => ?_) (fun c1 => ?_)
  · replace h := it c1 h
    rw [hQ]
    exact thrN (wf := fun S => wA cq q S M o) hfl F hX hDm hK 2 _ hP hD hS (Option.some.inj h).symm rfl (by decide) (hts (.classLink RX7 215 "java/lang/IndexOutOfBoundsException") (mm 1 rfl)) (hts (.initialized "java/lang/IndexOutOfBoundsException") (mm 2 rfl)) hX.2.2.2.2.2.2.2.2.1 (vx_hat (fun w h => hts w ((fun w h => List.mem_cons_of_mem _ (List.mem_append_right _ h)) w h)) atS_2 (vx_c (va_Nw.use rfl hX.1.2.2.2.2.2.2.2.2.2.2.2.2.2.2.2.2.2.2.2.2.2.2.1) (vx_c (va_Nw.use rfl hX.1.2.2.2.2.2.2.2.2.2.2.2.2.2.2.2.2.2.2.2.2.2.2.2.2.1) (vx_c (va_Nw.use rfl hX.1.2.2.2.2.2.2.2.2.2.2.2.2.2.2.2.2.2.2.2.2.2.2.2.2.2.1) (vx_c (va_Nw.use rfl hX.1.2.2.2.2.2.2.2.2.2.2.2.2.2.2.2.2.2.2.2.2.2.2.2.2.2.2) vx_n))))) gdS_2 hl.1 dX7_needIndex_9 dX7_needIndex_12 dX7_needIndex_13 dX7_needIndex_15 dX7_needIndex_18 htab (Nat.le_of_ble_eq_true rfl) (Nat.le_of_ble_eq_true rfl) (Nat.le_of_ble_eq_true rfl) (Nat.le_of_ble_eq_true rfl) hlocks (Nat.le_of_ble_eq_true rfl) (Nat.le_of_ble_eq_true rfl)
  · replace h := ie c1 h
    refine lv_iload_n hx hb dX7_needIndex_4 rfl (lv_at hl 0 rfl) ?_
    refine lv_iload_n hx hb dX7_needIndex_5 rfl (lv_at hl 1 rfl) ?_
    refine lv_icmp_lt (tgt := 19) hx hb dX7_needIndex_6 (by decide) (fun c2 => ?_) (fun c2 => ?_)
    · replace h := it c2 h
      exact hend _ _ _ _  _ _ _ (Option.some.inj h).symm hP hD hS dX7_needIndex_19 (Nat.le_of_ble_eq_true rfl) (Nat.le_of_ble_eq_true rfl)
    · replace h := ie c2 h
      rw [hQ]
      exact thrN (wf := fun S => wA cq q S M o) hfl F hX hDm hK 2 _ hP hD hS (Option.some.inj h).symm rfl (by decide) (hts (.classLink RX7 215 "java/lang/IndexOutOfBoundsException") (mm 1 rfl)) (hts (.initialized "java/lang/IndexOutOfBoundsException") (mm 2 rfl)) hX.2.2.2.2.2.2.2.2.1 (vx_hat (fun w h => hts w ((fun w h => List.mem_cons_of_mem _ (List.mem_append_right _ h)) w h)) atS_2 (vx_c (va_Nw.use rfl hX.1.2.2.2.2.2.2.2.2.2.2.2.2.2.2.2.2.2.2.2.2.2.2.1) (vx_c (va_Nw.use rfl hX.1.2.2.2.2.2.2.2.2.2.2.2.2.2.2.2.2.2.2.2.2.2.2.2.2.1) (vx_c (va_Nw.use rfl hX.1.2.2.2.2.2.2.2.2.2.2.2.2.2.2.2.2.2.2.2.2.2.2.2.2.2.1) (vx_c (va_Nw.use rfl hX.1.2.2.2.2.2.2.2.2.2.2.2.2.2.2.2.2.2.2.2.2.2.2.2.2.2.2) vx_n))))) gdS_2 hl.1 dX7_needIndex_9 dX7_needIndex_12 dX7_needIndex_13 dX7_needIndex_15 dX7_needIndex_18 htab (Nat.le_of_ble_eq_true rfl) (Nat.le_of_ble_eq_true rfl) (Nat.le_of_ble_eq_true rfl) (Nat.le_of_ble_eq_true rfl) hlocks (Nat.le_of_ble_eq_true rfl) (Nat.le_of_ble_eq_true rfl)
def mX7_needRange (S : CS) (x0 : Int32) (x1 : Int32) (x2 : Int32) : Option (Except Nat Unit × CS) :=
  (if x0 < x1 then (some (.error 1, S)) else (if x0 ≤ x2 then (some (.ok (), S)) else (some (.error 1, S))))
abbrev rmX7_needRange : Room := { frames := 6, cells := 1, slots := 6, locals := 100 }
theorem hdX7_needRange : yX7_needRange.cls ≠ "java/lang/invoke/MethodHandle" ∧ yX7_needRange.cls ≠ "java/lang/invoke/VarHandle" ∧ (parseMethodDescriptor yX7_needRange.desc).map (fun d => d.parameters.length) = some 3 := by decide +kernel
set_option maxRecDepth 100000 in
set_option maxHeartbeats 8000000 in
theorem ctX7_needRange (l : Launch) (dC : Nat → ClassId) (dI : Nat → Nat → Nat) (cq : Nat → ClassId) (q : Nat → Nat) (S : CS) (M : MS) (o : Nat → Int64) (sz h0 : Nat) (hfl : l.stackTraces = false) (x0 : Int32) (x1 : Int32) (x2 : Int32) (rs : Except Nat Unit × CS) (h : mX7_needRange S x0 x1 x2 = some rs) : CtX_v l yX7_needRange wsX7_needRange rmX7_needRange (fun a => h0 ≤ a) (EV h0 q) dC dI cq (wA cq q S M o) sz [.int x0, .int x1, .int x2] (fun S => wA cq q S M o) (fun (u : CS) => rs = (.ok (), u)) (fun k u => rs = (.error k, u)) 1 6 := by
  refine enX_v (wf := fun S => wA cq q S M o) (cc := cX7_needRange) (maxL := 3) (by decide) rfl (Nat.le_of_ble_eq_true rfl) (fun p e s m args below meth c A Q ls hQ htab hlocks F hA hP hK hD hDm hX hS hl hend hthr => ?_)
  obtain ⟨hx, hb, hml, hown, hts⟩ := id F
  have hown : s.vm.findClass RX7 = some m.cls := hown
  have F : CallFix p m c cX7_needRange 3 s args wsX7_needRange RX7 := F
  have hl : lv_has ls 3 [(0, .int x0), (1, .int x1), (2, .int x2)] := hl
  rw [mX7_needRange] at h
  refine lv_iload_n hx hb dX7_needRange_0 rfl (lv_at hl 0 rfl) ?_
  refine lv_iload_n hx hb dX7_needRange_1 rfl (lv_at hl 1 rfl) ?_
  refine lv_icmp_lt (tgt := 10) hx hb dX7_needRange_2 (by decide) (fun c1 => ?_) (fun c1 => ?_)
  · replace h := it c1 h
    rw [hQ]
    exact thrN (wf := fun S => wA cq q S M o) hfl F hX hDm hK 1 _ hP hD hS (Option.some.inj h).symm rfl (by decide) (hts (.classLink RX7 144 "java/lang/IllegalArgumentException") (mm 1 rfl)) (hts (.initialized "java/lang/IllegalArgumentException") (mm 2 rfl)) hX.2.2.2.2.2.2.1 (vx_hat (fun w h => hts w ((fun w h => List.mem_cons_of_mem _ (List.mem_append_right _ h)) w h)) atS_1 (vx_c (va_Nw.use rfl hX.1.2.2.2.2.2.2.2.2.2.2.2.2.2.2.2.2.2.2.2.2.2.1) (vx_c (va_Nw.use rfl hX.1.2.2.2.2.2.2.2.2.2.2.2.2.2.2.2.2.2.2.2.2.2.2.2.2.1) (vx_c (va_Nw.use rfl hX.1.2.2.2.2.2.2.2.2.2.2.2.2.2.2.2.2.2.2.2.2.2.2.2.2.2.1) (vx_c (va_Nw.use rfl hX.1.2.2.2.2.2.2.2.2.2.2.2.2.2.2.2.2.2.2.2.2.2.2.2.2.2.2) vx_n))))) gdS_1 hl.1 dX7_needRange_10 dX7_needRange_13 dX7_needRange_14 dX7_needRange_16 dX7_needRange_19 htab (Nat.le_of_ble_eq_true rfl) (Nat.le_of_ble_eq_true rfl) (Nat.le_of_ble_eq_true rfl) (Nat.le_of_ble_eq_true rfl) hlocks (Nat.le_of_ble_eq_true rfl) (Nat.le_of_ble_eq_true rfl)
  · replace h := ie c1 h
    refine lv_iload_n hx hb dX7_needRange_5 rfl (lv_at hl 0 rfl) ?_
    refine lv_iload_n hx hb dX7_needRange_6 rfl (lv_at hl 2 rfl) ?_
    refine lv_icmp_le (tgt := 20) hx hb dX7_needRange_7 (by decide) (fun c2 => ?_) (fun c2 => ?_)
    · replace h := it c2 h
      exact hend _ _ _ _  _ _ _ (Option.some.inj h).symm hP hD hS dX7_needRange_20 (Nat.le_of_ble_eq_true rfl) (Nat.le_of_ble_eq_true rfl)
    · replace h := ie c2 h
      rw [hQ]
      exact thrN (wf := fun S => wA cq q S M o) hfl F hX hDm hK 1 _ hP hD hS (Option.some.inj h).symm rfl (by decide) (hts (.classLink RX7 144 "java/lang/IllegalArgumentException") (mm 1 rfl)) (hts (.initialized "java/lang/IllegalArgumentException") (mm 2 rfl)) hX.2.2.2.2.2.2.1 (vx_hat (fun w h => hts w ((fun w h => List.mem_cons_of_mem _ (List.mem_append_right _ h)) w h)) atS_1 (vx_c (va_Nw.use rfl hX.1.2.2.2.2.2.2.2.2.2.2.2.2.2.2.2.2.2.2.2.2.2.1) (vx_c (va_Nw.use rfl hX.1.2.2.2.2.2.2.2.2.2.2.2.2.2.2.2.2.2.2.2.2.2.2.2.2.1) (vx_c (va_Nw.use rfl hX.1.2.2.2.2.2.2.2.2.2.2.2.2.2.2.2.2.2.2.2.2.2.2.2.2.2.1) (vx_c (va_Nw.use rfl hX.1.2.2.2.2.2.2.2.2.2.2.2.2.2.2.2.2.2.2.2.2.2.2.2.2.2.2) vx_n))))) gdS_1 hl.1 dX7_needRange_10 dX7_needRange_13 dX7_needRange_14 dX7_needRange_16 dX7_needRange_19 htab (Nat.le_of_ble_eq_true rfl) (Nat.le_of_ble_eq_true rfl) (Nat.le_of_ble_eq_true rfl) (Nat.le_of_ble_eq_true rfl) hlocks (Nat.le_of_ble_eq_true rfl) (Nat.le_of_ble_eq_true rfl)
def mX7_needEnd (S : CS) (x0 : Int32) : Option (Except Nat Unit × CS) :=
  (bt (mX7_needRange S x0 (0 : Int32) (1 : Int32)) fun _ S3 => (some (.ok (), S3)))
abbrev rmX7_needEnd : Room := { frames := 7, cells := 1, slots := 6, locals := 122 }
theorem hdX7_needEnd : yX7_needEnd.cls ≠ "java/lang/invoke/MethodHandle" ∧ yX7_needEnd.cls ≠ "java/lang/invoke/VarHandle" ∧ (parseMethodDescriptor yX7_needEnd.desc).map (fun d => d.parameters.length) = some 1 := by decide +kernel
set_option maxRecDepth 100000 in
set_option maxHeartbeats 8000000 in
theorem ctX7_needEnd (l : Launch) (dC : Nat → ClassId) (dI : Nat → Nat → Nat) (cq : Nat → ClassId) (q : Nat → Nat) (S : CS) (M : MS) (o : Nat → Int64) (sz h0 : Nat) (hfl : l.stackTraces = false) (x0 : Int32) (rs : Except Nat Unit × CS) (h : mX7_needEnd S x0 = some rs) : CtX_v l yX7_needEnd wsX7_needEnd rmX7_needEnd (fun a => h0 ≤ a) (EV h0 q) dC dI cq (wA cq q S M o) sz [.int x0] (fun S => wA cq q S M o) (fun (u : CS) => rs = (.ok (), u)) (fun k u => rs = (.error k, u)) 1 6 := by
  refine enX_v (wf := fun S => wA cq q S M o) (cc := cX7_needEnd) (maxL := 1) (by decide) rfl (Nat.le_of_ble_eq_true rfl) (fun p e s m args below meth c A Q ls hQ htab hlocks F hA hP hK hD hDm hX hS hl hend hthr => ?_)
  obtain ⟨hx, hb, hml, hown, hts⟩ := id F
  have hown : s.vm.findClass RX7 = some m.cls := hown
  have F : CallFix p m c cX7_needEnd 1 s args wsX7_needEnd RX7 := F
  have hl : lv_has ls 1 [(0, .int x0)] := hl
  rw [mX7_needEnd] at h
  refine lv_iload_n hx hb dX7_needEnd_0 rfl (lv_at hl 0 rfl) ?_
  refine lv_iconst (v := (0 : Int32)) hx hb dX7_needEnd_1 (by decide) ?_
  refine lv_iconst (v := (1 : Int32)) hx hb dX7_needEnd_2 (by decide) ?_
  rcases bto h with ⟨r1x, S3, e2, hrs⟩ | ⟨r1, S3, e2, h⟩
  · refine caXS_v (As := [.int x0, .int (0 : Int32), .int (1 : Int32)]) (rest := []) (ctX7_needRange l dC dI cq q S M o _ _ hfl _ _ _ _ e2) F (va_cwS 3 hts gX7_needEnd_X7_needRange rfl rfl rfl hdX7_needRange ⟨Nat.le_of_ble_eq_true rfl, Nat.le_of_ble_eq_true rfl⟩) hK hP hD hDm hS hA EV.blind (fun U hU hW => EV.call hX hS hDm hU hW) rfl hl.1 rfl (Nat.le_of_ble_eq_true rfl) dX7_needEnd_3 ⟨Nat.le_of_ble_eq_true rfl, Nat.le_of_ble_eq_true rfl⟩ (fun H locs k9 u9 E9 ce9 q9 h9 hP hD hS hce hcv hcl hE => ?_) (fun H locs u9 h9 hP hD hS => ?_)
    · cases h9; exact hthr _ _ _ _ _ _ _ _ _ _ _ _ hrs hP hD hS hce hcv hcl hE (Nat.le_of_ble_eq_true rfl) (Nat.le_of_ble_eq_true rfl)
    · cases h9
  refine caXS_v (As := [.int x0, .int (0 : Int32), .int (1 : Int32)]) (rest := []) (ctX7_needRange l dC dI cq q S M o _ _ hfl _ _ _ _ e2) F (va_cwS 3 hts gX7_needEnd_X7_needRange rfl rfl rfl hdX7_needRange ⟨Nat.le_of_ble_eq_true rfl, Nat.le_of_ble_eq_true rfl⟩) hK hP hD hDm hS hA EV.blind (fun U hU hW => EV.call hX hS hDm hU hW) rfl hl.1 rfl (Nat.le_of_ble_eq_true rfl) dX7_needEnd_3 ⟨Nat.le_of_ble_eq_true rfl, Nat.le_of_ble_eq_true rfl⟩ (fun H locs k9 u9 E9 ce9 q9 h9 hP hD hS hce hcv hcl hE => ?_) (fun H locs u9 h9 hP hD hS => ?_)
  · cases h9
  cases h9
  exact hend _ _ _ _  _ _ _ (Option.some.inj h).symm hP hD hS dX7_needEnd_6 (Nat.le_of_ble_eq_true rfl) (Nat.le_of_ble_eq_true rfl)
def mX7_needDifferent (S : CS) (x0 : Int32) (x1 : Int32) : Option (Except Nat Unit × CS) :=
  (if x0 = x1 then (some (.error 1, S)) else (some (.ok (), S)))
abbrev rmX7_needDifferent : Room := { frames := 6, cells := 1, slots := 6, locals := 100 }
theorem hdX7_needDifferent : yX7_needDifferent.cls ≠ "java/lang/invoke/MethodHandle" ∧ yX7_needDifferent.cls ≠ "java/lang/invoke/VarHandle" ∧ (parseMethodDescriptor yX7_needDifferent.desc).map (fun d => d.parameters.length) = some 2 := by decide +kernel
set_option maxRecDepth 100000 in
set_option maxHeartbeats 8000000 in
theorem ctX7_needDifferent (l : Launch) (dC : Nat → ClassId) (dI : Nat → Nat → Nat) (cq : Nat → ClassId) (q : Nat → Nat) (S : CS) (M : MS) (o : Nat → Int64) (sz h0 : Nat) (hfl : l.stackTraces = false) (x0 : Int32) (x1 : Int32) (rs : Except Nat Unit × CS) (h : mX7_needDifferent S x0 x1 = some rs) : CtX_v l yX7_needDifferent wsX7_needDifferent rmX7_needDifferent (fun a => h0 ≤ a) (EV h0 q) dC dI cq (wA cq q S M o) sz [.int x0, .int x1] (fun S => wA cq q S M o) (fun (u : CS) => rs = (.ok (), u)) (fun k u => rs = (.error k, u)) 1 6 := by
  refine enX_v (wf := fun S => wA cq q S M o) (cc := cX7_needDifferent) (maxL := 2) (by decide) rfl (Nat.le_of_ble_eq_true rfl) (fun p e s m args below meth c A Q ls hQ htab hlocks F hA hP hK hD hDm hX hS hl hend hthr => ?_)
  obtain ⟨hx, hb, hml, hown, hts⟩ := id F
  have hown : s.vm.findClass RX7 = some m.cls := hown
  have F : CallFix p m c cX7_needDifferent 2 s args wsX7_needDifferent RX7 := F
  have hl : lv_has ls 2 [(0, .int x0), (1, .int x1)] := hl
  rw [mX7_needDifferent] at h
  refine lv_iload_n hx hb dX7_needDifferent_0 rfl (lv_at hl 0 rfl) ?_
  refine lv_iload_n hx hb dX7_needDifferent_1 rfl (lv_at hl 1 rfl) ?_
  refine lv_icmp_ne (tgt := 15) hx hb dX7_needDifferent_2 (by decide) (fun c1 => ?_) (fun c1 => ?_)
  · replace h := ie c1 h
    exact hend _ _ _ _  _ _ _ (Option.some.inj h).symm hP hD hS dX7_needDifferent_15 (Nat.le_of_ble_eq_true rfl) (Nat.le_of_ble_eq_true rfl)
  · replace h := it c1 h
    rw [hQ]
    exact thrN (wf := fun S => wA cq q S M o) hfl F hX hDm hK 1 _ hP hD hS (Option.some.inj h).symm rfl (by decide) (hts (.classLink RX7 144 "java/lang/IllegalArgumentException") (mm 1 rfl)) (hts (.initialized "java/lang/IllegalArgumentException") (mm 2 rfl)) hX.2.2.2.2.2.2.2.1 (vx_hat (fun w h => hts w ((fun w h => List.mem_cons_of_mem _ (List.mem_append_right _ h)) w h)) atS_1 (vx_c (va_Nw.use rfl hX.1.2.2.2.2.2.2.2.2.2.2.2.2.2.2.2.2.2.2.2.2.2.1) (vx_c (va_Nw.use rfl hX.1.2.2.2.2.2.2.2.2.2.2.2.2.2.2.2.2.2.2.2.2.2.2.2.2.1) (vx_c (va_Nw.use rfl hX.1.2.2.2.2.2.2.2.2.2.2.2.2.2.2.2.2.2.2.2.2.2.2.2.2.2.1) (vx_c (va_Nw.use rfl hX.1.2.2.2.2.2.2.2.2.2.2.2.2.2.2.2.2.2.2.2.2.2.2.2.2.2.2) vx_n))))) gdS_1 hl.1 dX7_needDifferent_5 dX7_needDifferent_8 dX7_needDifferent_9 dX7_needDifferent_11 dX7_needDifferent_14 htab (Nat.le_of_ble_eq_true rfl) (Nat.le_of_ble_eq_true rfl) (Nat.le_of_ble_eq_true rfl) (Nat.le_of_ble_eq_true rfl) hlocks (Nat.le_of_ble_eq_true rfl) (Nat.le_of_ble_eq_true rfl)
def mX7_needFaultRanges (S : CS) (x1 : Int32) (x2 : Int32) (x3 : Int32) : Option (Except Nat Unit × CS) :=
  (bt (mX7_needRange S x1 (1 : Int32) ((S.1 0) - (1 : Int32))) fun _ S3 => (bt (mX7_needRange S3 x2 (1 : Int32) (32 : Int32)) fun _ S6 => (bt (mX7_needRange S6 x3 (1 : Int32) x2) fun _ S9 => (some (.ok (), S9)))))
abbrev rmX7_needFaultRanges : Room := { frames := 7, cells := 3, slots := 18, locals := 122 }
theorem hdX7_needFaultRanges : yX7_needFaultRanges.cls = RX7 ∧ yX7_needFaultRanges.cls ≠ "java/lang/invoke/MethodHandle" ∧ yX7_needFaultRanges.cls ≠ "java/lang/invoke/VarHandle" ∧ (parseMethodDescriptor yX7_needFaultRanges.desc).map (fun d => d.parameters.length) = some 3 := by decide +kernel
set_option maxRecDepth 100000 in
set_option maxHeartbeats 8000000 in
theorem ctX7_needFaultRanges (l : Launch) (dC : Nat → ClassId) (dI : Nat → Nat → Nat) (cq : Nat → ClassId) (q : Nat → Nat) (S : CS) (M : MS) (o : Nat → Int64) (sz h0 : Nat) (hfl : l.stackTraces = false) (x1 : Int32) (x2 : Int32) (x3 : Int32) (rs : Except Nat Unit × CS) (h : mX7_needFaultRanges S x1 x2 x3 = some rs) : CtX_v l yX7_needFaultRanges wsX7_needFaultRanges rmX7_needFaultRanges (fun a => h0 ≤ a) (EV h0 q) dC dI cq (wA cq q S M o) sz [.ref (q 0), .int x1, .int x2, .int x3] (fun S => wA cq q S M o) (fun (u : CS) => rs = (.ok (), u)) (fun k u => rs = (.error k, u)) 3 18 := by
  refine enX_v (wf := fun S => wA cq q S M o) (cc := cX7_needFaultRanges) (maxL := 4) (by decide) rfl (Nat.le_of_ble_eq_true rfl) (fun p e s m args below meth c A Q ls hQ htab hlocks F hA hP hK hD hDm hX hS hl hend hthr => ?_)
  obtain ⟨hx, hb, hml, hown, hts⟩ := id F
  have hown : s.vm.findClass RX7 = some m.cls := hown
  have F : CallFix p m c cX7_needFaultRanges 4 s args wsX7_needFaultRanges RX7 := F
  have hl : lv_has ls 4 [(0, .ref (q 0)), (1, .int x1), (2, .int x2), (3, .int x3)] := hl
  have hinX0 : ∀ w ∈ u_ws RX0 TX0 7, w ∈ wsX7_needFaultRanges := fun w h => List.mem_cons_of_mem _ (List.mem_append_left _ (List.mem_append_right _ h))
  have hinX7 : ∀ w ∈ u_ws RX7 TX7 5, w ∈ wsX7_needFaultRanges := fun w h => List.mem_cons_of_mem _ (List.mem_append_left _ (List.mem_append_left _ (List.mem_append_right _ h)))
  rw [mX7_needFaultRanges] at h
  refine lv_iload_n hx hb dX7_needFaultRanges_0 rfl (lv_at hl 1 rfl) ?_
  refine lv_iconst (v := (1 : Int32)) hx hb dX7_needFaultRanges_1 (by decide) ?_
  refine lv_aload_n hx hb dX7_needFaultRanges_2 rfl (lv_at hl 0 rfl) ?_
  refine va_get (D := (dC, dI)) (ci := 8) (v := .ref (q 1)) (C := RX7) (T := TX7) (N := 5) hx hb hts hinX7 hown hK hP 0 rfl rfl 0 (by decide) (hts (.fieldLink RX7 10 "CableTester" "cable" "LCableTester$Cable;") (mm 1 rfl)) (fun _ h9 => h9) rfl dX7_needFaultRanges_3 ?_
  refine va_getN (D := (dC, dI)) (ci := 1) (v := .int (S.1 0)) (C := RX0) (T := TX0) (N := 7) hx hb hts hinX0 hown hK hP 1 rfl rfl 0 (by decide) (va_Nw.use rfl hX.1.1) (fun _ h9 => h9) rfl dX7_needFaultRanges_6 ?_
  refine lv_iconst (v := (1 : Int32)) hx hb dX7_needFaultRanges_9 (by decide) ?_
  refine lv_isub hx hb dX7_needFaultRanges_10 ?_
  rcases bto h with ⟨r1x, S3, e2, hrs⟩ | ⟨r1, S3, e2, h⟩
  · refine caXS_v (As := [.int x1, .int (1 : Int32), .int ((S.1 0) - (1 : Int32))]) (rest := []) (ctX7_needRange l dC dI cq q S M o _ _ hfl _ _ _ _ e2) F (va_cwS 3 hts gX7_needFaultRanges_X7_needRange rfl rfl rfl hdX7_needRange ⟨Nat.le_of_ble_eq_true rfl, Nat.le_of_ble_eq_true rfl⟩) hK hP hD hDm hS hA EV.blind (fun U hU hW => EV.call hX hS hDm hU hW) rfl hl.1 rfl (Nat.le_of_ble_eq_true rfl) dX7_needFaultRanges_11 ⟨Nat.le_of_ble_eq_true rfl, Nat.le_of_ble_eq_true rfl⟩ (fun H locs k9 u9 E9 ce9 q9 h9 hP hD hS hce hcv hcl hE => ?_) (fun H locs u9 h9 hP hD hS => ?_)
    · cases h9; exact hthr _ _ _ _ _ _ _ _ _ _ _ _ hrs hP hD hS hce hcv hcl hE (Nat.le_of_ble_eq_true rfl) (Nat.le_of_ble_eq_true rfl)
    · cases h9
  refine caXS_v (As := [.int x1, .int (1 : Int32), .int ((S.1 0) - (1 : Int32))]) (rest := []) (ctX7_needRange l dC dI cq q S M o _ _ hfl _ _ _ _ e2) F (va_cwS 3 hts gX7_needFaultRanges_X7_needRange rfl rfl rfl hdX7_needRange ⟨Nat.le_of_ble_eq_true rfl, Nat.le_of_ble_eq_true rfl⟩) hK hP hD hDm hS hA EV.blind (fun U hU hW => EV.call hX hS hDm hU hW) rfl hl.1 rfl (Nat.le_of_ble_eq_true rfl) dX7_needFaultRanges_11 ⟨Nat.le_of_ble_eq_true rfl, Nat.le_of_ble_eq_true rfl⟩ (fun H locs k9 u9 E9 ce9 q9 h9 hP hD hS hce hcv hcl hE => ?_) (fun H locs u9 h9 hP hD hS => ?_)
  · cases h9
  cases h9
  refine lv_iload_n hx hb dX7_needFaultRanges_14 rfl (lv_at hl 2 rfl) ?_
  refine lv_iconst (v := (1 : Int32)) hx hb dX7_needFaultRanges_15 (by decide) ?_
  refine lv_bipush (v := (32 : Int32)) hx hb dX7_needFaultRanges_16 (by decide) ?_
  rcases bto h with ⟨r4x, S6, e5, hrs⟩ | ⟨r4, S6, e5, h⟩
  · refine caXS_v (As := [.int x2, .int (1 : Int32), .int (32 : Int32)]) (rest := []) (ctX7_needRange l dC dI cq q S3 M o _ _ hfl _ _ _ _ e5) F (va_cwS 3 hts gX7_needFaultRanges_X7_needRange rfl rfl rfl hdX7_needRange ⟨Nat.le_of_ble_eq_true rfl, Nat.le_of_ble_eq_true rfl⟩) hK hP hD hDm hS hA EV.blind (fun U hU hW => EV.call hX hS hDm hU hW) rfl hl.1 rfl (Nat.le_of_ble_eq_true rfl) dX7_needFaultRanges_18 ⟨Nat.le_of_ble_eq_true rfl, Nat.le_of_ble_eq_true rfl⟩ (fun H locs k9 u9 E9 ce9 q9 h9 hP hD hS hce hcv hcl hE => ?_) (fun H locs u9 h9 hP hD hS => ?_)
    · cases h9; exact hthr _ _ _ _ _ _ _ _ _ _ _ _ hrs hP hD hS hce hcv hcl hE (Nat.le_of_ble_eq_true rfl) (Nat.le_of_ble_eq_true rfl)
    · cases h9
  refine caXS_v (As := [.int x2, .int (1 : Int32), .int (32 : Int32)]) (rest := []) (ctX7_needRange l dC dI cq q S3 M o _ _ hfl _ _ _ _ e5) F (va_cwS 3 hts gX7_needFaultRanges_X7_needRange rfl rfl rfl hdX7_needRange ⟨Nat.le_of_ble_eq_true rfl, Nat.le_of_ble_eq_true rfl⟩) hK hP hD hDm hS hA EV.blind (fun U hU hW => EV.call hX hS hDm hU hW) rfl hl.1 rfl (Nat.le_of_ble_eq_true rfl) dX7_needFaultRanges_18 ⟨Nat.le_of_ble_eq_true rfl, Nat.le_of_ble_eq_true rfl⟩ (fun H locs k9 u9 E9 ce9 q9 h9 hP hD hS hce hcv hcl hE => ?_) (fun H locs u9 h9 hP hD hS => ?_)
  · cases h9
  cases h9
  refine lv_iload_n hx hb dX7_needFaultRanges_21 rfl (lv_at hl 3 rfl) ?_
  refine lv_iconst (v := (1 : Int32)) hx hb dX7_needFaultRanges_22 (by decide) ?_
  refine lv_iload_n hx hb dX7_needFaultRanges_23 rfl (lv_at hl 2 rfl) ?_
  rcases bto h with ⟨r7x, S9, e8, hrs⟩ | ⟨r7, S9, e8, h⟩
  · refine caXS_v (As := [.int x3, .int (1 : Int32), .int x2]) (rest := []) (ctX7_needRange l dC dI cq q S6 M o _ _ hfl _ _ _ _ e8) F (va_cwS 3 hts gX7_needFaultRanges_X7_needRange rfl rfl rfl hdX7_needRange ⟨Nat.le_of_ble_eq_true rfl, Nat.le_of_ble_eq_true rfl⟩) hK hP hD hDm hS hA EV.blind (fun U hU hW => EV.call hX hS hDm hU hW) rfl hl.1 rfl (Nat.le_of_ble_eq_true rfl) dX7_needFaultRanges_24 ⟨Nat.le_of_ble_eq_true rfl, Nat.le_of_ble_eq_true rfl⟩ (fun H locs k9 u9 E9 ce9 q9 h9 hP hD hS hce hcv hcl hE => ?_) (fun H locs u9 h9 hP hD hS => ?_)
    · cases h9; exact hthr _ _ _ _ _ _ _ _ _ _ _ _ hrs hP hD hS hce hcv hcl hE (Nat.le_of_ble_eq_true rfl) (Nat.le_of_ble_eq_true rfl)
    · cases h9
  refine caXS_v (As := [.int x3, .int (1 : Int32), .int x2]) (rest := []) (ctX7_needRange l dC dI cq q S6 M o _ _ hfl _ _ _ _ e8) F (va_cwS 3 hts gX7_needFaultRanges_X7_needRange rfl rfl rfl hdX7_needRange ⟨Nat.le_of_ble_eq_true rfl, Nat.le_of_ble_eq_true rfl⟩) hK hP hD hDm hS hA EV.blind (fun U hU hW => EV.call hX hS hDm hU hW) rfl hl.1 rfl (Nat.le_of_ble_eq_true rfl) dX7_needFaultRanges_24 ⟨Nat.le_of_ble_eq_true rfl, Nat.le_of_ble_eq_true rfl⟩ (fun H locs k9 u9 E9 ce9 q9 h9 hP hD hS hce hcv hcl hE => ?_) (fun H locs u9 h9 hP hD hS => ?_)
  · cases h9
  cases h9
  exact hend _ _ _ _  _ _ _ (Option.some.inj h).symm hP hD hS dX7_needFaultRanges_27 (Nat.le_of_ble_eq_true rfl) (Nat.le_of_ble_eq_true rfl)
def mX7_needRoomForFault (S : CS)  : Option (Except Nat Unit × CS) :=
  (bn (mJx4a65c_size_8abf5 S) fun r1 => (if r1 < (10 : Int32) then (some (.ok (), S)) else (some (.error 3, S))))
abbrev rmX7_needRoomForFault : Room := { frames := 6, cells := 1, slots := 6, locals := 100 }
theorem hdX7_needRoomForFault : yX7_needRoomForFault.cls = RX7 ∧ yX7_needRoomForFault.cls ≠ "java/lang/invoke/MethodHandle" ∧ yX7_needRoomForFault.cls ≠ "java/lang/invoke/VarHandle" ∧ (parseMethodDescriptor yX7_needRoomForFault.desc).map (fun d => d.parameters.length) = some 0 := by decide +kernel
set_option maxRecDepth 100000 in
set_option maxHeartbeats 8000000 in
theorem ctX7_needRoomForFault (l : Launch) (dC : Nat → ClassId) (dI : Nat → Nat → Nat) (cq : Nat → ClassId) (q : Nat → Nat) (S : CS) (M : MS) (o : Nat → Int64) (sz h0 : Nat) (hfl : l.stackTraces = false)  (rs : Except Nat Unit × CS) (h : mX7_needRoomForFault S = some rs) : CtX_v l yX7_needRoomForFault wsX7_needRoomForFault rmX7_needRoomForFault (fun a => h0 ≤ a) (EV h0 q) dC dI cq (wA cq q S M o) sz [.ref (q 0)] (fun S => wA cq q S M o) (fun (u : CS) => rs = (.ok (), u)) (fun k u => rs = (.error k, u)) 1 6 := by
  refine enX_v (wf := fun S => wA cq q S M o) (cc := cX7_needRoomForFault) (maxL := 1) (by decide) rfl (Nat.le_of_ble_eq_true rfl) (fun p e s m args below meth c A Q ls hQ htab hlocks F hA hP hK hD hDm hX hS hl hend hthr => ?_)
  obtain ⟨hx, hb, hml, hown, hts⟩ := id F
  have hown : s.vm.findClass RX7 = some m.cls := hown
  have F : CallFix p m c cX7_needRoomForFault 1 s args wsX7_needRoomForFault RX7 := F
  have hl : lv_has ls 1 [(0, .ref (q 0))] := hl
  have hinX0 : ∀ w ∈ u_ws RX0 TX0 7, w ∈ wsX7_needRoomForFault := fun w h => List.mem_cons_of_mem _ (List.mem_append_left _ (List.mem_append_left _ (List.mem_append_right _ h)))
  have hinX7 : ∀ w ∈ u_ws RX7 TX7 5, w ∈ wsX7_needRoomForFault := fun w h => List.mem_cons_of_mem _ (List.mem_append_left _ (List.mem_append_left _ (List.mem_append_left _ (List.mem_append_right _ h))))
  rw [mX7_needRoomForFault] at h
  refine lv_aload_n hx hb dX7_needRoomForFault_0 rfl (lv_at hl 0 rfl) ?_
  refine va_get (D := (dC, dI)) (ci := 8) (v := .ref (q 1)) (C := RX7) (T := TX7) (N := 5) hx hb hts hinX7 hown hK hP 0 rfl rfl 0 (by decide) (hts (.fieldLink RX7 10 "CableTester" "cable" "LCableTester$Cable;") (mm 3 rfl)) (fun _ h9 => h9) rfl dX7_needRoomForFault_1 ?_
  refine va_getN (D := (dC, dI)) (ci := 1) (v := .ref (q 3)) (C := RX0) (T := TX0) (N := 7) hx hb hts hinX0 hown hK hP 1 rfl rfl 5 (by decide) (va_Nw.use rfl hX.1.2.2.2.2.2.2.1) (fun _ h9 => h9) rfl dX7_needRoomForFault_4 ?_
  obtain ⟨r1, e2, h⟩ := bo h
  refine caVR_i (As := []) (rest := []) (ctJx4a65c_size_8abf5 l dC dI cq q S M o _ _ _ e2) F (cwV 0 hts gX7_needRoomForFault_Jx4a65c_size_8abf5 rfl rfl rfl hdJx4a65c_size_8abf5 ⟨Nat.le_of_ble_eq_true rfl, Nat.le_of_ble_eq_true rfl⟩) hK hP hD hDm hS hA EV.blind (fun U hU hW => EV.call hX hS hDm hU hW) (va_recv hK hP (ci := 0) (q0 := 3) rfl rfl) rfl hl.1 rfl (Nat.le_of_ble_eq_true rfl) dX7_needRoomForFault_7 ⟨Nat.le_of_ble_eq_true rfl, Nat.le_of_ble_eq_true rfl⟩ (fun H locs hP hD hS => ?_)
  refine lv_bipush (v := (10 : Int32)) hx hb dX7_needRoomForFault_10 (by decide) ?_
  refine lv_icmp_lt (tgt := 25) hx hb dX7_needRoomForFault_12 (by decide) (fun c3 => ?_) (fun c3 => ?_)
  · replace h := it c3 h
    exact hend _ _ _ _  _ _ _ (Option.some.inj h).symm hP hD hS dX7_needRoomForFault_25 (Nat.le_of_ble_eq_true rfl) (Nat.le_of_ble_eq_true rfl)
  · replace h := ie c3 h
    rw [hQ]
    exact thrN (wf := fun S => wA cq q S M o) hfl F hX hDm hK 3 _ hP hD hS (Option.some.inj h).symm rfl (by decide) (hts (.classLink RX7 112 "java/lang/IllegalStateException") (mm 1 rfl)) (hts (.initialized "java/lang/IllegalStateException") (mm 2 rfl)) hX.2.2.2.2.2.2.2.2.2.1 (vx_hat (fun w h => hts w ((fun w h => List.mem_cons_of_mem _ (List.mem_append_right _ h)) w h)) atS_3 (vx_c (va_Nw.use rfl hX.1.2.2.2.2.2.2.2.2.2.2.2.2.2.2.2.2.2.2.2.2.2.2.2.1) (vx_c (va_Nw.use rfl hX.1.2.2.2.2.2.2.2.2.2.2.2.2.2.2.2.2.2.2.2.2.2.2.2.2.1) (vx_c (va_Nw.use rfl hX.1.2.2.2.2.2.2.2.2.2.2.2.2.2.2.2.2.2.2.2.2.2.2.2.2.2.1) (vx_c (va_Nw.use rfl hX.1.2.2.2.2.2.2.2.2.2.2.2.2.2.2.2.2.2.2.2.2.2.2.2.2.2.2) vx_n))))) gdS_3 hl.1 dX7_needRoomForFault_15 dX7_needRoomForFault_18 dX7_needRoomForFault_19 dX7_needRoomForFault_21 dX7_needRoomForFault_24 htab (Nat.le_of_ble_eq_true rfl) (Nat.le_of_ble_eq_true rfl) (Nat.le_of_ble_eq_true rfl) (Nat.le_of_ble_eq_true rfl) hlocks (Nat.le_of_ble_eq_true rfl) (Nat.le_of_ble_eq_true rfl)
def mX7_begin (n : Nat) (S : CS) (x1 : Int32) (x2 : Int32) : Option (Except Nat Int32 × CS) :=
  (bt (mX7_needRange S x1 (2 : Int32) (999 : Int32)) fun _ S3 => (bt (mX7_needRange S3 x2 (50 : Int32) (99 : Int32)) fun _ S6 => (bn (mX0_lay n S6 x1 x2) fun S9 => (bn (mX4_forget n S9) fun S12 => (some (.ok (S6.1 0), S12))))))
abbrev rmX7_begin : Room := { frames := 7, cells := 2, slots := 12, locals := 122 }
theorem hdX7_begin : yX7_begin.cls = RX7 ∧ yX7_begin.cls ≠ "java/lang/invoke/MethodHandle" ∧ yX7_begin.cls ≠ "java/lang/invoke/VarHandle" ∧ (parseMethodDescriptor yX7_begin.desc).map (fun d => d.parameters.length) = some 2 := by decide +kernel
set_option maxRecDepth 100000 in
set_option maxHeartbeats 8000000 in
theorem ctX7_begin (l : Launch) (dC : Nat → ClassId) (dI : Nat → Nat → Nat) (cq : Nat → ClassId) (q : Nat → Nat) (S : CS) (M : MS) (o : Nat → Int64) (sz h0 : Nat) (hfl : l.stackTraces = false) (n : Nat) (x1 : Int32) (x2 : Int32) (rs : Except Nat Int32 × CS) (h : mX7_begin n S x1 x2 = some rs) : CtX_i l yX7_begin wsX7_begin rmX7_begin (fun a => h0 ≤ a) (EV h0 q) dC dI cq (wA cq q S M o) sz [.ref (q 0), .int x1, .int x2] (fun S => wA cq q S M o) (fun (r : Int32) (u : CS) => rs = (.ok r, u)) (fun k u => rs = (.error k, u)) 2 12 := by
  refine enX_i (wf := fun S => wA cq q S M o) (cc := cX7_begin) (maxL := 4) (by decide) rfl (Nat.le_of_ble_eq_true rfl) (fun p e s m args below meth c A Q ls hQ htab hlocks F hA hP hK hD hDm hX hS hl hend hthr => ?_)
  obtain ⟨hx, hb, hml, hown, hts⟩ := id F
  have hown : s.vm.findClass RX7 = some m.cls := hown
  have F : CallFix p m c cX7_begin 4 s args wsX7_begin RX7 := F
  have hl : lv_has ls 4 [(0, .ref (q 0)), (1, .int x1), (2, .int x2)] := hl
  have hinX0 : ∀ w ∈ u_ws RX0 TX0 7, w ∈ wsX7_begin := fun w h => List.mem_cons_of_mem _ (List.mem_append_left _ (List.mem_append_left _ (List.mem_append_left _ (List.mem_append_right _ h))))
  have hinX7 : ∀ w ∈ u_ws RX7 TX7 5, w ∈ wsX7_begin := fun w h => List.mem_cons_of_mem _ (List.mem_append_left _ (List.mem_append_left _ (List.mem_append_left _ (List.mem_append_left _ (List.mem_append_right _ h)))))
  rw [mX7_begin] at h
  refine lv_iload_n hx hb dX7_begin_0 rfl (lv_at hl 1 rfl) ?_
  refine lv_iconst (v := (2 : Int32)) hx hb dX7_begin_1 (by decide) ?_
  refine lv_sipush (v := (999 : Int32)) hx hb dX7_begin_2 (by decide) ?_
  rcases bto h with ⟨r1x, S3, e2, hrs⟩ | ⟨r1, S3, e2, h⟩
  · refine caXS_v (As := [.int x1, .int (2 : Int32), .int (999 : Int32)]) (rest := []) (ctX7_needRange l dC dI cq q S M o _ _ hfl _ _ _ _ e2) F (va_cwS 3 hts gX7_begin_X7_needRange rfl rfl rfl hdX7_needRange ⟨Nat.le_of_ble_eq_true rfl, Nat.le_of_ble_eq_true rfl⟩) hK hP hD hDm hS hA EV.blind (fun U hU hW => EV.call hX hS hDm hU hW) rfl hl.1 rfl (Nat.le_of_ble_eq_true rfl) dX7_begin_5 ⟨Nat.le_of_ble_eq_true rfl, Nat.le_of_ble_eq_true rfl⟩ (fun H locs k9 u9 E9 ce9 q9 h9 hP hD hS hce hcv hcl hE => ?_) (fun H locs u9 h9 hP hD hS => ?_)
    · cases h9; exact hthr _ _ _ _ _ _ _ _ _ _ _ _ hrs hP hD hS hce hcv hcl hE (Nat.le_of_ble_eq_true rfl) (Nat.le_of_ble_eq_true rfl)
    · cases h9
  refine caXS_v (As := [.int x1, .int (2 : Int32), .int (999 : Int32)]) (rest := []) (ctX7_needRange l dC dI cq q S M o _ _ hfl _ _ _ _ e2) F (va_cwS 3 hts gX7_begin_X7_needRange rfl rfl rfl hdX7_needRange ⟨Nat.le_of_ble_eq_true rfl, Nat.le_of_ble_eq_true rfl⟩) hK hP hD hDm hS hA EV.blind (fun U hU hW => EV.call hX hS hDm hU hW) rfl hl.1 rfl (Nat.le_of_ble_eq_true rfl) dX7_begin_5 ⟨Nat.le_of_ble_eq_true rfl, Nat.le_of_ble_eq_true rfl⟩ (fun H locs k9 u9 E9 ce9 q9 h9 hP hD hS hce hcv hcl hE => ?_) (fun H locs u9 h9 hP hD hS => ?_)
  · cases h9
  cases h9
  refine lv_iload_n hx hb dX7_begin_8 rfl (lv_at hl 2 rfl) ?_
  refine lv_bipush (v := (50 : Int32)) hx hb dX7_begin_9 (by decide) ?_
  refine lv_bipush (v := (99 : Int32)) hx hb dX7_begin_11 (by decide) ?_
  rcases bto h with ⟨r4x, S6, e5, hrs⟩ | ⟨r4, S6, e5, h⟩
  · refine caXS_v (As := [.int x2, .int (50 : Int32), .int (99 : Int32)]) (rest := []) (ctX7_needRange l dC dI cq q S3 M o _ _ hfl _ _ _ _ e5) F (va_cwS 3 hts gX7_begin_X7_needRange rfl rfl rfl hdX7_needRange ⟨Nat.le_of_ble_eq_true rfl, Nat.le_of_ble_eq_true rfl⟩) hK hP hD hDm hS hA EV.blind (fun U hU hW => EV.call hX hS hDm hU hW) rfl hl.1 rfl (Nat.le_of_ble_eq_true rfl) dX7_begin_13 ⟨Nat.le_of_ble_eq_true rfl, Nat.le_of_ble_eq_true rfl⟩ (fun H locs k9 u9 E9 ce9 q9 h9 hP hD hS hce hcv hcl hE => ?_) (fun H locs u9 h9 hP hD hS => ?_)
    · cases h9; exact hthr _ _ _ _ _ _ _ _ _ _ _ _ hrs hP hD hS hce hcv hcl hE (Nat.le_of_ble_eq_true rfl) (Nat.le_of_ble_eq_true rfl)
    · cases h9
  refine caXS_v (As := [.int x2, .int (50 : Int32), .int (99 : Int32)]) (rest := []) (ctX7_needRange l dC dI cq q S3 M o _ _ hfl _ _ _ _ e5) F (va_cwS 3 hts gX7_begin_X7_needRange rfl rfl rfl hdX7_needRange ⟨Nat.le_of_ble_eq_true rfl, Nat.le_of_ble_eq_true rfl⟩) hK hP hD hDm hS hA EV.blind (fun U hU hW => EV.call hX hS hDm hU hW) rfl hl.1 rfl (Nat.le_of_ble_eq_true rfl) dX7_begin_13 ⟨Nat.le_of_ble_eq_true rfl, Nat.le_of_ble_eq_true rfl⟩ (fun H locs k9 u9 E9 ce9 q9 h9 hP hD hS hce hcv hcl hE => ?_) (fun H locs u9 h9 hP hD hS => ?_)
  · cases h9
  cases h9
  refine lv_aload_n hx hb dX7_begin_16 rfl (lv_at hl 0 rfl) ?_
  refine va_get (D := (dC, dI)) (ci := 8) (v := .ref (q 1)) (C := RX7) (T := TX7) (N := 5) hx hb hts hinX7 hown hK hP 0 rfl rfl 0 (by decide) (hts (.fieldLink RX7 10 "CableTester" "cable" "LCableTester$Cable;") (mm 1 rfl)) (fun _ h9 => h9) rfl dX7_begin_17 ?_
  refine va_getN (D := (dC, dI)) (ci := 1) (v := .int (S6.1 0)) (C := RX0) (T := TX0) (N := 7) hx hb hts hinX0 hown hK hP 1 rfl rfl 0 (by decide) (va_Nw.use rfl hX.1.1) (fun _ h9 => h9) rfl dX7_begin_20 ?_
  refine lv_istore_n (lv' := [(3, .int (S6.1 0)), (0, .ref (q 0)), (1, .int x1), (2, .int x2)]) hx hb dX7_begin_23 rfl hl (by decide) rfl (fun ls hl => ?_)
  refine lv_aload_n hx hb dX7_begin_24 rfl (lv_at hl 1 rfl) ?_
  refine va_get (D := (dC, dI)) (ci := 8) (v := .ref (q 1)) (C := RX7) (T := TX7) (N := 5) hx hb hts hinX7 hown hK hP 0 rfl rfl 0 (by decide) (hts (.fieldLink RX7 10 "CableTester" "cable" "LCableTester$Cable;") (mm 1 rfl)) (fun _ h9 => h9) rfl dX7_begin_25 ?_
  refine lv_iload_n hx hb dX7_begin_28 rfl (lv_at hl 2 rfl) ?_
  refine lv_iload_n hx hb dX7_begin_29 rfl (lv_at hl 3 rfl) ?_
  obtain ⟨S9, e8, h⟩ := bo h
  refine caVC_v (As := [.int x1, .int x2]) (rest := []) (ctX0_lay l dC dI cq q S6 M o _ _ _ _ _ _ e8) F (cwV 2 hts gX7_begin_X0_lay rfl rfl rfl hdX0_lay ⟨Nat.le_of_ble_eq_true rfl, Nat.le_of_ble_eq_true rfl⟩) hK hP hD hDm hS hA EV.blind (fun U hU hW => EV.call hX hS hDm hU hW) (va_recv hK hP (ci := 1) (q0 := 1) rfl rfl) rfl hl.1 rfl (Nat.le_of_ble_eq_true rfl) dX7_begin_30 ⟨Nat.le_of_ble_eq_true rfl, Nat.le_of_ble_eq_true rfl⟩ (fun H locs hP hD hS => ?_)
  refine lv_aload_n hx hb dX7_begin_33 rfl (lv_at hl 1 rfl) ?_
  refine va_get (D := (dC, dI)) (ci := 8) (v := .ref (q 18)) (C := RX7) (T := TX7) (N := 5) hx hb hts hinX7 hown hK hP 0 rfl rfl 3 (by decide) (hts (.fieldLink RX7 33 "CableTester" "history" "LCableTester$History;") (mm 2 rfl)) (fun _ h9 => h9) rfl dX7_begin_34 ?_
  obtain ⟨S12, e11, h⟩ := bo h
  refine caVC_v (As := []) (rest := []) (ctX4_forget l dC dI cq q S9 M o _ _ _ _ e11) F (cwV 0 hts gX7_begin_X4_forget rfl rfl rfl hdX4_forget ⟨Nat.le_of_ble_eq_true rfl, Nat.le_of_ble_eq_true rfl⟩) hK hP hD hDm hS hA EV.blind (fun U hU hW => EV.call hX hS hDm hU hW) (va_recv hK hP (ci := 5) (q0 := 18) rfl rfl) rfl hl.1 rfl (Nat.le_of_ble_eq_true rfl) dX7_begin_37 ⟨Nat.le_of_ble_eq_true rfl, Nat.le_of_ble_eq_true rfl⟩ (fun H locs hP hD hS => ?_)
  refine lv_iload_n hx hb dX7_begin_40 rfl (lv_at hl 0 rfl) ?_
  exact hend _ _ _ _ _ _ _ _ (Option.some.inj h).symm hP hD hS dX7_begin_41 rfl (Nat.le_of_ble_eq_true rfl) (Nat.le_of_ble_eq_true rfl)
def mX7_exchange (S : CS) (x1 : Int32) (x2 : Int32) (x3 : Int32) : Option (Except Nat Int32 × CS) :=
  (bt (mX7_needEnd S x1) fun _ S3 => (bt (mX7_needDifferent S3 x2 x3) fun _ S6 => (bt (mX7_needIndex S6 x2 (8 : Int32)) fun _ S9 => (bt (mX7_needIndex S9 x3 (8 : Int32)) fun _ S12 => (bn (mX0_swapWires S12 x1 x2 x3) fun S15 => (bn (mX0_wireAt S15 x1 x2) fun r16 => (some (.ok r16, S15))))))))
abbrev rmX7_exchange : Room := { frames := 8, cells := 4, slots := 24, locals := 142 }
theorem hdX7_exchange : yX7_exchange.cls = RX7 ∧ yX7_exchange.cls ≠ "java/lang/invoke/MethodHandle" ∧ yX7_exchange.cls ≠ "java/lang/invoke/VarHandle" ∧ (parseMethodDescriptor yX7_exchange.desc).map (fun d => d.parameters.length) = some 3 := by decide +kernel
set_option maxRecDepth 100000 in
set_option maxHeartbeats 8000000 in
theorem ctX7_exchange (l : Launch) (dC : Nat → ClassId) (dI : Nat → Nat → Nat) (cq : Nat → ClassId) (q : Nat → Nat) (S : CS) (M : MS) (o : Nat → Int64) (sz h0 : Nat) (hfl : l.stackTraces = false) (x1 : Int32) (x2 : Int32) (x3 : Int32) (rs : Except Nat Int32 × CS) (h : mX7_exchange S x1 x2 x3 = some rs) : CtX_i l yX7_exchange wsX7_exchange rmX7_exchange (fun a => h0 ≤ a) (EV h0 q) dC dI cq (wA cq q S M o) sz [.ref (q 0), .int x1, .int x2, .int x3] (fun S => wA cq q S M o) (fun (r : Int32) (u : CS) => rs = (.ok r, u)) (fun k u => rs = (.error k, u)) 4 24 := by
  refine enX_i (wf := fun S => wA cq q S M o) (cc := cX7_exchange) (maxL := 4) (by decide) rfl (Nat.le_of_ble_eq_true rfl) (fun p e s m args below meth c A Q ls hQ htab hlocks F hA hP hK hD hDm hX hS hl hend hthr => ?_)
  obtain ⟨hx, hb, hml, hown, hts⟩ := id F
  have hown : s.vm.findClass RX7 = some m.cls := hown
  have F : CallFix p m c cX7_exchange 4 s args wsX7_exchange RX7 := F
  have hl : lv_has ls 4 [(0, .ref (q 0)), (1, .int x1), (2, .int x2), (3, .int x3)] := hl
  have hinX7 : ∀ w ∈ u_ws RX7 TX7 5, w ∈ wsX7_exchange := fun w h => List.mem_cons_of_mem _ (List.mem_append_left _ (List.mem_append_left _ (List.mem_append_left _ (List.mem_append_right _ h))))
  rw [mX7_exchange] at h
  refine lv_iload_n hx hb dX7_exchange_0 rfl (lv_at hl 1 rfl) ?_
  rcases bto h with ⟨r1x, S3, e2, hrs⟩ | ⟨r1, S3, e2, h⟩
  · refine caXS_v (As := [.int x1]) (rest := []) (ctX7_needEnd l dC dI cq q S M o _ _ hfl _ _ e2) F (va_cwS 1 hts gX7_exchange_X7_needEnd rfl rfl rfl hdX7_needEnd ⟨Nat.le_of_ble_eq_true rfl, Nat.le_of_ble_eq_true rfl⟩) hK hP hD hDm hS hA EV.blind (fun U hU hW => EV.call hX hS hDm hU hW) rfl hl.1 rfl (Nat.le_of_ble_eq_true rfl) dX7_exchange_1 ⟨Nat.le_of_ble_eq_true rfl, Nat.le_of_ble_eq_true rfl⟩ (fun H locs k9 u9 E9 ce9 q9 h9 hP hD hS hce hcv hcl hE => ?_) (fun H locs u9 h9 hP hD hS => ?_)
    · cases h9; exact hthr _ _ _ _ _ _ _ _ _ _ _ _ hrs hP hD hS hce hcv hcl hE (Nat.le_of_ble_eq_true rfl) (Nat.le_of_ble_eq_true rfl)
    · cases h9
  refine caXS_v (As := [.int x1]) (rest := []) (ctX7_needEnd l dC dI cq q S M o _ _ hfl _ _ e2) F (va_cwS 1 hts gX7_exchange_X7_needEnd rfl rfl rfl hdX7_needEnd ⟨Nat.le_of_ble_eq_true rfl, Nat.le_of_ble_eq_true rfl⟩) hK hP hD hDm hS hA EV.blind (fun U hU hW => EV.call hX hS hDm hU hW) rfl hl.1 rfl (Nat.le_of_ble_eq_true rfl) dX7_exchange_1 ⟨Nat.le_of_ble_eq_true rfl, Nat.le_of_ble_eq_true rfl⟩ (fun H locs k9 u9 E9 ce9 q9 h9 hP hD hS hce hcv hcl hE => ?_) (fun H locs u9 h9 hP hD hS => ?_)
  · cases h9
  cases h9
  refine lv_iload_n hx hb dX7_exchange_4 rfl (lv_at hl 2 rfl) ?_
  refine lv_iload_n hx hb dX7_exchange_5 rfl (lv_at hl 3 rfl) ?_
  rcases bto h with ⟨r4x, S6, e5, hrs⟩ | ⟨r4, S6, e5, h⟩
  · refine caXS_v (As := [.int x2, .int x3]) (rest := []) (ctX7_needDifferent l dC dI cq q S3 M o _ _ hfl _ _ _ e5) F (va_cwS 2 hts gX7_exchange_X7_needDifferent rfl rfl rfl hdX7_needDifferent ⟨Nat.le_of_ble_eq_true rfl, Nat.le_of_ble_eq_true rfl⟩) hK hP hD hDm hS hA EV.blind (fun U hU hW => EV.call hX hS hDm hU hW) rfl hl.1 rfl (Nat.le_of_ble_eq_true rfl) dX7_exchange_6 ⟨Nat.le_of_ble_eq_true rfl, Nat.le_of_ble_eq_true rfl⟩ (fun H locs k9 u9 E9 ce9 q9 h9 hP hD hS hce hcv hcl hE => ?_) (fun H locs u9 h9 hP hD hS => ?_)
    · cases h9; exact hthr _ _ _ _ _ _ _ _ _ _ _ _ hrs hP hD hS hce hcv hcl hE (Nat.le_of_ble_eq_true rfl) (Nat.le_of_ble_eq_true rfl)
    · cases h9
  refine caXS_v (As := [.int x2, .int x3]) (rest := []) (ctX7_needDifferent l dC dI cq q S3 M o _ _ hfl _ _ _ e5) F (va_cwS 2 hts gX7_exchange_X7_needDifferent rfl rfl rfl hdX7_needDifferent ⟨Nat.le_of_ble_eq_true rfl, Nat.le_of_ble_eq_true rfl⟩) hK hP hD hDm hS hA EV.blind (fun U hU hW => EV.call hX hS hDm hU hW) rfl hl.1 rfl (Nat.le_of_ble_eq_true rfl) dX7_exchange_6 ⟨Nat.le_of_ble_eq_true rfl, Nat.le_of_ble_eq_true rfl⟩ (fun H locs k9 u9 E9 ce9 q9 h9 hP hD hS hce hcv hcl hE => ?_) (fun H locs u9 h9 hP hD hS => ?_)
  · cases h9
  cases h9
  refine lv_iload_n hx hb dX7_exchange_9 rfl (lv_at hl 2 rfl) ?_
  refine lv_bipush (v := (8 : Int32)) hx hb dX7_exchange_10 (by decide) ?_
  rcases bto h with ⟨r7x, S9, e8, hrs⟩ | ⟨r7, S9, e8, h⟩
  · refine caXS_v (As := [.int x2, .int (8 : Int32)]) (rest := []) (ctX7_needIndex l dC dI cq q S6 M o _ _ hfl _ _ _ e8) F (va_cwS 2 hts gX7_exchange_X7_needIndex rfl rfl rfl hdX7_needIndex ⟨Nat.le_of_ble_eq_true rfl, Nat.le_of_ble_eq_true rfl⟩) hK hP hD hDm hS hA EV.blind (fun U hU hW => EV.call hX hS hDm hU hW) rfl hl.1 rfl (Nat.le_of_ble_eq_true rfl) dX7_exchange_12 ⟨Nat.le_of_ble_eq_true rfl, Nat.le_of_ble_eq_true rfl⟩ (fun H locs k9 u9 E9 ce9 q9 h9 hP hD hS hce hcv hcl hE => ?_) (fun H locs u9 h9 hP hD hS => ?_)
    · cases h9; exact hthr _ _ _ _ _ _ _ _ _ _ _ _ hrs hP hD hS hce hcv hcl hE (Nat.le_of_ble_eq_true rfl) (Nat.le_of_ble_eq_true rfl)
    · cases h9
  refine caXS_v (As := [.int x2, .int (8 : Int32)]) (rest := []) (ctX7_needIndex l dC dI cq q S6 M o _ _ hfl _ _ _ e8) F (va_cwS 2 hts gX7_exchange_X7_needIndex rfl rfl rfl hdX7_needIndex ⟨Nat.le_of_ble_eq_true rfl, Nat.le_of_ble_eq_true rfl⟩) hK hP hD hDm hS hA EV.blind (fun U hU hW => EV.call hX hS hDm hU hW) rfl hl.1 rfl (Nat.le_of_ble_eq_true rfl) dX7_exchange_12 ⟨Nat.le_of_ble_eq_true rfl, Nat.le_of_ble_eq_true rfl⟩ (fun H locs k9 u9 E9 ce9 q9 h9 hP hD hS hce hcv hcl hE => ?_) (fun H locs u9 h9 hP hD hS => ?_)
  · cases h9
  cases h9
  refine lv_iload_n hx hb dX7_exchange_15 rfl (lv_at hl 3 rfl) ?_
  refine lv_bipush (v := (8 : Int32)) hx hb dX7_exchange_16 (by decide) ?_
  rcases bto h with ⟨r10x, S12, e11, hrs⟩ | ⟨r10, S12, e11, h⟩
  · refine caXS_v (As := [.int x3, .int (8 : Int32)]) (rest := []) (ctX7_needIndex l dC dI cq q S9 M o _ _ hfl _ _ _ e11) F (va_cwS 2 hts gX7_exchange_X7_needIndex rfl rfl rfl hdX7_needIndex ⟨Nat.le_of_ble_eq_true rfl, Nat.le_of_ble_eq_true rfl⟩) hK hP hD hDm hS hA EV.blind (fun U hU hW => EV.call hX hS hDm hU hW) rfl hl.1 rfl (Nat.le_of_ble_eq_true rfl) dX7_exchange_18 ⟨Nat.le_of_ble_eq_true rfl, Nat.le_of_ble_eq_true rfl⟩ (fun H locs k9 u9 E9 ce9 q9 h9 hP hD hS hce hcv hcl hE => ?_) (fun H locs u9 h9 hP hD hS => ?_)
    · cases h9; exact hthr _ _ _ _ _ _ _ _ _ _ _ _ hrs hP hD hS hce hcv hcl hE (Nat.le_of_ble_eq_true rfl) (Nat.le_of_ble_eq_true rfl)
    · cases h9
  refine caXS_v (As := [.int x3, .int (8 : Int32)]) (rest := []) (ctX7_needIndex l dC dI cq q S9 M o _ _ hfl _ _ _ e11) F (va_cwS 2 hts gX7_exchange_X7_needIndex rfl rfl rfl hdX7_needIndex ⟨Nat.le_of_ble_eq_true rfl, Nat.le_of_ble_eq_true rfl⟩) hK hP hD hDm hS hA EV.blind (fun U hU hW => EV.call hX hS hDm hU hW) rfl hl.1 rfl (Nat.le_of_ble_eq_true rfl) dX7_exchange_18 ⟨Nat.le_of_ble_eq_true rfl, Nat.le_of_ble_eq_true rfl⟩ (fun H locs k9 u9 E9 ce9 q9 h9 hP hD hS hce hcv hcl hE => ?_) (fun H locs u9 h9 hP hD hS => ?_)
  · cases h9
  cases h9
  refine lv_aload_n hx hb dX7_exchange_21 rfl (lv_at hl 0 rfl) ?_
  refine va_get (D := (dC, dI)) (ci := 8) (v := .ref (q 1)) (C := RX7) (T := TX7) (N := 5) hx hb hts hinX7 hown hK hP 0 rfl rfl 0 (by decide) (hts (.fieldLink RX7 10 "CableTester" "cable" "LCableTester$Cable;") (mm 1 rfl)) (fun _ h9 => h9) rfl dX7_exchange_22 ?_
  refine lv_iload_n hx hb dX7_exchange_25 rfl (lv_at hl 1 rfl) ?_
  refine lv_iload_n hx hb dX7_exchange_26 rfl (lv_at hl 2 rfl) ?_
  refine lv_iload_n hx hb dX7_exchange_27 rfl (lv_at hl 3 rfl) ?_
  obtain ⟨S15, e14, h⟩ := bo h
  refine caVC_v (As := [.int x1, .int x2, .int x3]) (rest := []) (ctX0_swapWires l dC dI cq q S12 M o _ _ _ _ _ _ e14) F (cwV 3 hts gX7_exchange_X0_swapWires rfl rfl rfl hdX0_swapWires ⟨Nat.le_of_ble_eq_true rfl, Nat.le_of_ble_eq_true rfl⟩) hK hP hD hDm hS hA EV.blind (fun U hU hW => EV.call hX hS hDm hU hW) (va_recv hK hP (ci := 1) (q0 := 1) rfl rfl) rfl hl.1 rfl (Nat.le_of_ble_eq_true rfl) dX7_exchange_28 ⟨Nat.le_of_ble_eq_true rfl, Nat.le_of_ble_eq_true rfl⟩ (fun H locs hP hD hS => ?_)
  refine lv_aload_n hx hb dX7_exchange_31 rfl (lv_at hl 0 rfl) ?_
  refine va_get (D := (dC, dI)) (ci := 8) (v := .ref (q 1)) (C := RX7) (T := TX7) (N := 5) hx hb hts hinX7 hown hK hP 0 rfl rfl 0 (by decide) (hts (.fieldLink RX7 10 "CableTester" "cable" "LCableTester$Cable;") (mm 1 rfl)) (fun _ h9 => h9) rfl dX7_exchange_32 ?_
  refine lv_iload_n hx hb dX7_exchange_35 rfl (lv_at hl 1 rfl) ?_
  refine lv_iload_n hx hb dX7_exchange_36 rfl (lv_at hl 2 rfl) ?_
  obtain ⟨r16, e17, h⟩ := bo h
  refine caVR_i (As := [.int x1, .int x2]) (rest := []) (ctX0_wireAt l dC dI cq q S15 M o _ _ _ _ _ e17) F (cwV 2 hts gX7_exchange_X0_wireAt rfl rfl rfl hdX0_wireAt ⟨Nat.le_of_ble_eq_true rfl, Nat.le_of_ble_eq_true rfl⟩) hK hP hD hDm hS hA EV.blind (fun U hU hW => EV.call hX hS hDm hU hW) (va_recv hK hP (ci := 1) (q0 := 1) rfl rfl) rfl hl.1 rfl (Nat.le_of_ble_eq_true rfl) dX7_exchange_37 ⟨Nat.le_of_ble_eq_true rfl, Nat.le_of_ble_eq_true rfl⟩ (fun H locs hP hD hS => ?_)
  exact hend _ _ _ _ _ _ _ _ (Option.some.inj h).symm hP hD hS dX7_exchange_40 rfl (Nat.le_of_ble_eq_true rfl) (Nat.le_of_ble_eq_true rfl)
def mX7_plug (S : CS) (x1 : Int32) : Option (Except Nat Int32 × CS) :=
  (bt (mX7_needRange S x1 (0 : Int32) (99 : Int32)) fun _ S3 => (some (.ok (S3.1 2), (sF S3 2 x1))))
abbrev rmX7_plug : Room := { frames := 7, cells := 1, slots := 6, locals := 122 }
theorem hdX7_plug : yX7_plug.cls = RX7 ∧ yX7_plug.cls ≠ "java/lang/invoke/MethodHandle" ∧ yX7_plug.cls ≠ "java/lang/invoke/VarHandle" ∧ (parseMethodDescriptor yX7_plug.desc).map (fun d => d.parameters.length) = some 1 := by decide +kernel
set_option maxRecDepth 100000 in
set_option maxHeartbeats 8000000 in
theorem ctX7_plug (l : Launch) (dC : Nat → ClassId) (dI : Nat → Nat → Nat) (cq : Nat → ClassId) (q : Nat → Nat) (S : CS) (M : MS) (o : Nat → Int64) (sz h0 : Nat) (hfl : l.stackTraces = false) (x1 : Int32) (rs : Except Nat Int32 × CS) (h : mX7_plug S x1 = some rs) : CtX_i l yX7_plug wsX7_plug rmX7_plug (fun a => h0 ≤ a) (EV h0 q) dC dI cq (wA cq q S M o) sz [.ref (q 0), .int x1] (fun S => wA cq q S M o) (fun (r : Int32) (u : CS) => rs = (.ok r, u)) (fun k u => rs = (.error k, u)) 1 6 := by
  refine enX_i (wf := fun S => wA cq q S M o) (cc := cX7_plug) (maxL := 3) (by decide) rfl (Nat.le_of_ble_eq_true rfl) (fun p e s m args below meth c A Q ls hQ htab hlocks F hA hP hK hD hDm hX hS hl hend hthr => ?_)
  obtain ⟨hx, hb, hml, hown, hts⟩ := id F
  have hown : s.vm.findClass RX7 = some m.cls := hown
  have F : CallFix p m c cX7_plug 3 s args wsX7_plug RX7 := F
  have hl : lv_has ls 3 [(0, .ref (q 0)), (1, .int x1)] := hl
  have hinX0 : ∀ w ∈ u_ws RX0 TX0 7, w ∈ wsX7_plug := fun w h => List.mem_cons_of_mem _ (List.mem_append_left _ (List.mem_append_right _ h))
  have hinX7 : ∀ w ∈ u_ws RX7 TX7 5, w ∈ wsX7_plug := fun w h => List.mem_cons_of_mem _ (List.mem_append_left _ (List.mem_append_left _ (List.mem_append_right _ h)))
  rw [mX7_plug] at h
  refine lv_iload_n hx hb dX7_plug_0 rfl (lv_at hl 1 rfl) ?_
  refine lv_iconst (v := (0 : Int32)) hx hb dX7_plug_1 (by decide) ?_
  refine lv_bipush (v := (99 : Int32)) hx hb dX7_plug_2 (by decide) ?_
  rcases bto h with ⟨r1x, S3, e2, hrs⟩ | ⟨r1, S3, e2, h⟩
  · refine caXS_v (As := [.int x1, .int (0 : Int32), .int (99 : Int32)]) (rest := []) (ctX7_needRange l dC dI cq q S M o _ _ hfl _ _ _ _ e2) F (va_cwS 3 hts gX7_plug_X7_needRange rfl rfl rfl hdX7_needRange ⟨Nat.le_of_ble_eq_true rfl, Nat.le_of_ble_eq_true rfl⟩) hK hP hD hDm hS hA EV.blind (fun U hU hW => EV.call hX hS hDm hU hW) rfl hl.1 rfl (Nat.le_of_ble_eq_true rfl) dX7_plug_4 ⟨Nat.le_of_ble_eq_true rfl, Nat.le_of_ble_eq_true rfl⟩ (fun H locs k9 u9 E9 ce9 q9 h9 hP hD hS hce hcv hcl hE => ?_) (fun H locs u9 h9 hP hD hS => ?_)
    · cases h9; exact hthr _ _ _ _ _ _ _ _ _ _ _ _ hrs hP hD hS hce hcv hcl hE (Nat.le_of_ble_eq_true rfl) (Nat.le_of_ble_eq_true rfl)
    · cases h9
  refine caXS_v (As := [.int x1, .int (0 : Int32), .int (99 : Int32)]) (rest := []) (ctX7_needRange l dC dI cq q S M o _ _ hfl _ _ _ _ e2) F (va_cwS 3 hts gX7_plug_X7_needRange rfl rfl rfl hdX7_needRange ⟨Nat.le_of_ble_eq_true rfl, Nat.le_of_ble_eq_true rfl⟩) hK hP hD hDm hS hA EV.blind (fun U hU hW => EV.call hX hS hDm hU hW) rfl hl.1 rfl (Nat.le_of_ble_eq_true rfl) dX7_plug_4 ⟨Nat.le_of_ble_eq_true rfl, Nat.le_of_ble_eq_true rfl⟩ (fun H locs k9 u9 E9 ce9 q9 h9 hP hD hS hce hcv hcl hE => ?_) (fun H locs u9 h9 hP hD hS => ?_)
  · cases h9
  cases h9
  refine lv_aload_n hx hb dX7_plug_7 rfl (lv_at hl 0 rfl) ?_
  refine va_get (D := (dC, dI)) (ci := 8) (v := .ref (q 1)) (C := RX7) (T := TX7) (N := 5) hx hb hts hinX7 hown hK hP 0 rfl rfl 0 (by decide) (hts (.fieldLink RX7 10 "CableTester" "cable" "LCableTester$Cable;") (mm 1 rfl)) (fun _ h9 => h9) rfl dX7_plug_8 ?_
  refine va_getN (D := (dC, dI)) (ci := 1) (v := .int (S3.1 2)) (C := RX0) (T := TX0) (N := 7) hx hb hts hinX0 hown hK hP 1 rfl rfl 2 (by decide) (va_Nw.use rfl hX.1.2.2.2.1) (fun _ h9 => h9) rfl dX7_plug_11 ?_
  refine lv_istore_n (lv' := [(2, .int (S3.1 2)), (0, .ref (q 0)), (1, .int x1)]) hx hb dX7_plug_14 rfl hl (by decide) rfl (fun ls hl => ?_)
  refine lv_aload_n hx hb dX7_plug_15 rfl (lv_at hl 1 rfl) ?_
  refine va_get (D := (dC, dI)) (ci := 8) (v := .ref (q 1)) (C := RX7) (T := TX7) (N := 5) hx hb hts hinX7 hown hK hP 0 rfl rfl 0 (by decide) (hts (.fieldLink RX7 10 "CableTester" "cable" "LCableTester$Cable;") (mm 1 rfl)) (fun _ h9 => h9) rfl dX7_plug_16 ?_
  refine lv_iload_n hx hb dX7_plug_19 rfl (lv_at hl 2 rfl) ?_
  refine ptN_1_2 F hinX0 (va_Nw.use rfl hX.1.2.2.2.1) hK hP hD hS dX7_plug_20 (fun H locs hP hD hS => ?_)
  refine lv_iload_n hx hb dX7_plug_23 rfl (lv_at hl 0 rfl) ?_
  exact hend _ _ _ _ _ _ _ _ (Option.some.inj h).symm hP hD hS dX7_plug_24 rfl (Nat.le_of_ble_eq_true rfl) (Nat.le_of_ble_eq_true rfl)
def mX7_pass_37 (n : Nat)  (x1 : Int32) : Nat → CS → Int32 → Option (Except Nat Int32 × CS)
  | 0, _, _ => none
  | k + 1, S, x2 => (if x1 ≤ x2 then (some (.ok (S.1 3), S)) else (bn (mX7_measureOnwards n (sF S 3 ((S.1 3) + (1 : Int32))) ((sF S 3 ((S.1 3) + (1 : Int32))).1 3)) fun S11 => (bn (mX4_note n S11 (S11.1 6)) fun S14 => (mX7_pass_37 n x1 k S14 (x2 + (1 : Int32))))))
def mX7_pass (n : Nat) (S : CS) (x1 : Int32) : Option (Except Nat Int32 × CS) :=
  (bt (mX7_needRange S x1 (1 : Int32) (100 : Int32)) fun _ S3 => (if (S3.1 3) ≤ ((100000 : Int32) - x1) then (bn (mX7_measure n S3) fun S7 => (mX7_pass_37 n x1 n S7 (0 : Int32))) else (some (.error 3, S3))))
abbrev rmX7_pass : Room := { frames := 7, cells := 2, slots := 12, locals := 132 }
theorem hdX7_pass : yX7_pass.cls = RX7 ∧ yX7_pass.cls ≠ "java/lang/invoke/MethodHandle" ∧ yX7_pass.cls ≠ "java/lang/invoke/VarHandle" ∧ (parseMethodDescriptor yX7_pass.desc).map (fun d => d.parameters.length) = some 1 := by decide +kernel
set_option maxRecDepth 100000 in
set_option maxHeartbeats 8000000 in
theorem ctX7_pass (l : Launch) (dC : Nat → ClassId) (dI : Nat → Nat → Nat) (cq : Nat → ClassId) (q : Nat → Nat) (S : CS) (M : MS) (o : Nat → Int64) (sz h0 : Nat) (hfl : l.stackTraces = false) (n : Nat) (x1 : Int32) (rs : Except Nat Int32 × CS) (h : mX7_pass n S x1 = some rs) : CtX_i l yX7_pass wsX7_pass rmX7_pass (fun a => h0 ≤ a) (EV h0 q) dC dI cq (wA cq q S M o) sz [.ref (q 0), .int x1] (fun S => wA cq q S M o) (fun (r : Int32) (u : CS) => rs = (.ok r, u)) (fun k u => rs = (.error k, u)) 2 12 := by
  refine enX_i (wf := fun S => wA cq q S M o) (cc := cX7_pass) (maxL := 3) (by decide) rfl (Nat.le_of_ble_eq_true rfl) (fun p e s m args below meth c A Q ls hQ htab hlocks F hA hP hK hD hDm hX hS hl hend hthr => ?_)
  obtain ⟨hx, hb, hml, hown, hts⟩ := id F
  have hown : s.vm.findClass RX7 = some m.cls := hown
  have F : CallFix p m c cX7_pass 3 s args wsX7_pass RX7 := F
  have hl : lv_has ls 3 [(0, .ref (q 0)), (1, .int x1)] := hl
  have hinX0 : ∀ w ∈ u_ws RX0 TX0 7, w ∈ wsX7_pass := fun w h => List.mem_cons_of_mem _ (List.mem_append_left _ (List.mem_append_left _ (List.mem_append_left _ (List.mem_append_left _ (List.mem_append_left _ (List.mem_append_left _ (List.mem_append_left _ (List.mem_append_right _ h))))))))
  have hinX5 : ∀ w ∈ u_ws RX5 TX5 8, w ∈ wsX7_pass := fun w h => List.mem_cons_of_mem _ (List.mem_append_left _ (List.mem_append_left _ (List.mem_append_left _ (List.mem_append_left _ (List.mem_append_left _ (List.mem_append_left _ (List.mem_append_right _ h)))))))
  have hinX7 : ∀ w ∈ u_ws RX7 TX7 5, w ∈ wsX7_pass := fun w h => List.mem_cons_of_mem _ (List.mem_append_left _ (List.mem_append_left _ (List.mem_append_left _ (List.mem_append_left _ (List.mem_append_left _ (List.mem_append_left _ (List.mem_append_left _ (List.mem_append_left _ (List.mem_append_right _ h)))))))))
  have hL37 : ∀ (x1 : Int32)  (k : Nat) (S : CS) (x2 : Int32) (H : Heap) (locs : List Loc) (ls : Array Slot), va_P (dC, dI) vwCl (wA cq q S M o) H → va_D A (wA cq q S M o) → va_S A s.heap H locs → lv_has ls 3 [(0, .ref (q 0)), (1, .int x1), (2, .int x2)] → mX7_pass_37 n x1 k S x2 = some rs → W p l e rmX7_pass s m args below meth c H locs 2 12 Q (F0 m 37 ls []) := by
    intro x1
    intro k
    induction k with
    | zero =>
      intro S x2 H locs ls hP hD hS hl h
      rw [mX7_pass_37] at h
      cases h
    | succ k ih =>
      intro S x2 H locs ls hP hD hS hl h
      rw [mX7_pass_37] at h
      refine lv_iload_n hx hb dX7_pass_37 rfl (lv_at hl 2 rfl) ?_
      refine lv_iload_n hx hb dX7_pass_38 rfl (lv_at hl 1 rfl) ?_
      refine lv_icmp_ge (tgt := 86) hx hb dX7_pass_39 (by decide) (fun c8 => ?_) (fun c8 => ?_)
      · replace h := it c8 h
        refine lv_aload_n hx hb dX7_pass_86 rfl (lv_at hl 0 rfl) ?_
        refine va_get (D := (dC, dI)) (ci := 8) (v := .ref (q 1)) (C := RX7) (T := TX7) (N := 5) hx hb hts hinX7 hown hK hP 0 rfl rfl 0 (by decide) (hts (.fieldLink RX7 10 "CableTester" "cable" "LCableTester$Cable;") (mm 3 rfl)) (fun _ h9 => h9) rfl dX7_pass_87 ?_
        refine va_getN (D := (dC, dI)) (ci := 1) (v := .int (S.1 3)) (C := RX0) (T := TX0) (N := 7) hx hb hts hinX0 hown hK hP 1 rfl rfl 3 (by decide) (va_Nw.use rfl hX.1.2.2.2.2.1) (fun _ h9 => h9) rfl dX7_pass_90 ?_
        exact hend _ _ _ _ _ _ _ _ (Option.some.inj h).symm hP hD hS dX7_pass_93 rfl (Nat.le_of_ble_eq_true rfl) (Nat.le_of_ble_eq_true rfl)
      · replace h := ie c8 h
        refine lv_aload_n hx hb dX7_pass_42 rfl (lv_at hl 0 rfl) ?_
        refine va_get (D := (dC, dI)) (ci := 8) (v := .ref (q 1)) (C := RX7) (T := TX7) (N := 5) hx hb hts hinX7 hown hK hP 0 rfl rfl 0 (by decide) (hts (.fieldLink RX7 10 "CableTester" "cable" "LCableTester$Cable;") (mm 3 rfl)) (fun _ h9 => h9) rfl dX7_pass_43 ?_
        refine lv_dup hx hb dX7_pass_46 rfl ?_
        refine va_getN (D := (dC, dI)) (ci := 1) (v := .int (S.1 3)) (C := RX0) (T := TX0) (N := 7) hx hb hts hinX0 hown hK hP 1 rfl rfl 3 (by decide) (va_Nw.use rfl hX.1.2.2.2.2.1) (fun _ h9 => h9) rfl dX7_pass_47 ?_
        refine lv_iconst (v := (1 : Int32)) hx hb dX7_pass_50 (by decide) ?_
        refine lv_iadd hx hb dX7_pass_51 ?_
        refine ptN_1_3 F hinX0 (va_Nw.use rfl hX.1.2.2.2.2.1) hK hP hD hS dX7_pass_52 (fun H locs hP hD hS => ?_)
        refine lv_aload_n hx hb dX7_pass_55 rfl (lv_at hl 0 rfl) ?_
        refine lv_aload_n hx hb dX7_pass_56 rfl (lv_at hl 0 rfl) ?_
        refine va_get (D := (dC, dI)) (ci := 8) (v := .ref (q 1)) (C := RX7) (T := TX7) (N := 5) hx hb hts hinX7 hown hK hP 0 rfl rfl 0 (by decide) (hts (.fieldLink RX7 10 "CableTester" "cable" "LCableTester$Cable;") (mm 3 rfl)) (fun _ h9 => h9) rfl dX7_pass_57 ?_
        refine va_getN (D := (dC, dI)) (ci := 1) (v := .int ((sF S 3 ((S.1 3) + (1 : Int32))).1 3)) (C := RX0) (T := TX0) (N := 7) hx hb hts hinX0 hown hK hP 1 rfl rfl 3 (by decide) (va_Nw.use rfl hX.1.2.2.2.2.1) (fun _ h9 => h9) rfl dX7_pass_60 ?_
        obtain ⟨S11, e10, h⟩ := bo h
        refine caVC_v (As := [.int ((sF S 3 ((S.1 3) + (1 : Int32))).1 3)]) (rest := []) (ctX7_measureOnwards l dC dI cq q (sF S 3 ((S.1 3) + (1 : Int32))) M o _ _ _ _ _ e10) F (cwV 1 hts gX7_pass_X7_measureOnwards rfl rfl rfl hdX7_measureOnwards ⟨Nat.le_of_ble_eq_true rfl, Nat.le_of_ble_eq_true rfl⟩) hK hP hD hDm hS hA EV.blind (fun U hU hW => EV.call hX hS hDm hU hW) (va_recv hK hP (ci := 8) (q0 := 0) rfl rfl) rfl hl.1 rfl (Nat.le_of_ble_eq_true rfl) dX7_pass_63 ⟨Nat.le_of_ble_eq_true rfl, Nat.le_of_ble_eq_true rfl⟩ (fun H locs hP hD hS => ?_)
        refine lv_aload_n hx hb dX7_pass_66 rfl (lv_at hl 0 rfl) ?_
        refine va_get (D := (dC, dI)) (ci := 8) (v := .ref (q 18)) (C := RX7) (T := TX7) (N := 5) hx hb hts hinX7 hown hK hP 0 rfl rfl 3 (by decide) (hts (.fieldLink RX7 33 "CableTester" "history" "LCableTester$History;") (mm 5 rfl)) (fun _ h9 => h9) rfl dX7_pass_67 ?_
        refine lv_aload_n hx hb dX7_pass_70 rfl (lv_at hl 0 rfl) ?_
        refine va_get (D := (dC, dI)) (ci := 8) (v := .ref (q 6)) (C := RX7) (T := TX7) (N := 5) hx hb hts hinX7 hown hK hP 0 rfl rfl 1 (by decide) (hts (.fieldLink RX7 19 "CableTester" "nets" "LCableTester$Nets;") (mm 6 rfl)) (fun _ h9 => h9) rfl dX7_pass_71 ?_
        refine va_getN (D := (dC, dI)) (ci := 6) (v := .int (S11.1 6)) (C := RX5) (T := TX5) (N := 8) hx hb hts hinX5 hown hK hP 6 rfl rfl 1 (by decide) (va_Nw.use rfl hX.1.2.2.2.2.2.2.2.2.1) (fun _ h9 => h9) rfl dX7_pass_74 ?_
        obtain ⟨S14, e13, h⟩ := bo h
        refine caVC_v (As := [.int (S11.1 6)]) (rest := []) (ctX4_note l dC dI cq q S11 M o _ _ _ _ _ e13) F (cwV 1 hts gX7_pass_X4_note rfl rfl rfl hdX4_note ⟨Nat.le_of_ble_eq_true rfl, Nat.le_of_ble_eq_true rfl⟩) hK hP hD hDm hS hA EV.blind (fun U hU hW => EV.call hX hS hDm hU hW) (va_recv hK hP (ci := 5) (q0 := 18) rfl rfl) rfl hl.1 rfl (Nat.le_of_ble_eq_true rfl) dX7_pass_77 ⟨Nat.le_of_ble_eq_true rfl, Nat.le_of_ble_eq_true rfl⟩ (fun H locs hP hD hS => ?_)
        refine lv_iinc (v := (x2 + (1 : Int32))) (lv' := [(2, .int (x2 + (1 : Int32))), (0, .ref (q 0)), (1, .int x1)]) hx hb dX7_pass_80 hl (k := 2) rfl rfl (by decide) rfl (fun ls hl => ?_)
        refine lv_goto (tgt := 37) hx hb dX7_pass_83 (by decide) ?_
        exact ih _ _ _ _ _ hP hD hS (lv_sub hl [1, 2, 0] rfl) h
  rw [mX7_pass] at h
  refine lv_iload_n hx hb dX7_pass_0 rfl (lv_at hl 1 rfl) ?_
  refine lv_iconst (v := (1 : Int32)) hx hb dX7_pass_1 (by decide) ?_
  refine lv_bipush (v := (100 : Int32)) hx hb dX7_pass_2 (by decide) ?_
  rcases bto h with ⟨r1x, S3, e2, hrs⟩ | ⟨r1, S3, e2, h⟩
  · refine caXS_v (As := [.int x1, .int (1 : Int32), .int (100 : Int32)]) (rest := []) (ctX7_needRange l dC dI cq q S M o _ _ hfl _ _ _ _ e2) F (va_cwS 3 hts gX7_pass_X7_needRange rfl rfl rfl hdX7_needRange ⟨Nat.le_of_ble_eq_true rfl, Nat.le_of_ble_eq_true rfl⟩) hK hP hD hDm hS hA EV.blind (fun U hU hW => EV.call hX hS hDm hU hW) rfl hl.1 rfl (Nat.le_of_ble_eq_true rfl) dX7_pass_4 ⟨Nat.le_of_ble_eq_true rfl, Nat.le_of_ble_eq_true rfl⟩ (fun H locs k9 u9 E9 ce9 q9 h9 hP hD hS hce hcv hcl hE => ?_) (fun H locs u9 h9 hP hD hS => ?_)
    · cases h9; exact hthr _ _ _ _ _ _ _ _ _ _ _ _ hrs hP hD hS hce hcv hcl hE (Nat.le_of_ble_eq_true rfl) (Nat.le_of_ble_eq_true rfl)
    · cases h9
  refine caXS_v (As := [.int x1, .int (1 : Int32), .int (100 : Int32)]) (rest := []) (ctX7_needRange l dC dI cq q S M o _ _ hfl _ _ _ _ e2) F (va_cwS 3 hts gX7_pass_X7_needRange rfl rfl rfl hdX7_needRange ⟨Nat.le_of_ble_eq_true rfl, Nat.le_of_ble_eq_true rfl⟩) hK hP hD hDm hS hA EV.blind (fun U hU hW => EV.call hX hS hDm hU hW) rfl hl.1 rfl (Nat.le_of_ble_eq_true rfl) dX7_pass_4 ⟨Nat.le_of_ble_eq_true rfl, Nat.le_of_ble_eq_true rfl⟩ (fun H locs k9 u9 E9 ce9 q9 h9 hP hD hS hce hcv hcl hE => ?_) (fun H locs u9 h9 hP hD hS => ?_)
  · cases h9
  cases h9
  refine lv_aload_n hx hb dX7_pass_7 rfl (lv_at hl 0 rfl) ?_
  refine va_get (D := (dC, dI)) (ci := 8) (v := .ref (q 1)) (C := RX7) (T := TX7) (N := 5) hx hb hts hinX7 hown hK hP 0 rfl rfl 0 (by decide) (hts (.fieldLink RX7 10 "CableTester" "cable" "LCableTester$Cable;") (mm 3 rfl)) (fun _ h9 => h9) rfl dX7_pass_8 ?_
  refine va_getN (D := (dC, dI)) (ci := 1) (v := .int (S3.1 3)) (C := RX0) (T := TX0) (N := 7) hx hb hts hinX0 hown hK hP 1 rfl rfl 3 (by decide) (va_Nw.use rfl hX.1.2.2.2.2.1) (fun _ h9 => h9) rfl dX7_pass_11 ?_
  refine lv_ldc hx hb hown (hts (.constant RX7 111 (100000)) (mm 4 rfl)) dX7_pass_14 ?_
  refine lv_iload_n hx hb dX7_pass_16 rfl (lv_at hl 1 rfl) ?_
  refine lv_isub hx hb dX7_pass_17 ?_
  refine lv_icmp_le (tgt := 31) hx hb dX7_pass_18 (by decide) (fun c4 => ?_) (fun c4 => ?_)
  · replace h := it c4 h
    refine lv_aload_n hx hb dX7_pass_31 rfl (lv_at hl 0 rfl) ?_
    obtain ⟨S7, e6, h⟩ := bo h
    refine caVC_v (As := []) (rest := []) (ctX7_measure l dC dI cq q S3 M o _ _ _ _ e6) F (cwV 0 hts gX7_pass_X7_measure rfl rfl rfl hdX7_measure ⟨Nat.le_of_ble_eq_true rfl, Nat.le_of_ble_eq_true rfl⟩) hK hP hD hDm hS hA EV.blind (fun U hU hW => EV.call hX hS hDm hU hW) (va_recv hK hP (ci := 8) (q0 := 0) rfl rfl) rfl hl.1 rfl (Nat.le_of_ble_eq_true rfl) dX7_pass_32 ⟨Nat.le_of_ble_eq_true rfl, Nat.le_of_ble_eq_true rfl⟩ (fun H locs hP hD hS => ?_)
    refine lv_iconst (v := (0 : Int32)) hx hb dX7_pass_35 (by decide) ?_
    refine lv_istore_n (lv' := [(2, .int (0 : Int32)), (0, .ref (q 0)), (1, .int x1)]) hx hb dX7_pass_36 rfl hl (by decide) rfl (fun ls hl => ?_)
    refine W.widen (k := 2) (n := 12) (Nat.le_of_ble_eq_true rfl) (Nat.le_of_ble_eq_true rfl) ?_
    exact hL37 _ _ _ _ _ _ _ hP hD hS (lv_sub hl [1, 2, 0] rfl) h
  · replace h := ie c4 h
    rw [hQ]
    exact thrN (wf := fun S => wA cq q S M o) hfl F hX hDm hK 3 _ hP hD hS (Option.some.inj h).symm rfl (by decide) (hts (.classLink RX7 112 "java/lang/IllegalStateException") (mm 1 rfl)) (hts (.initialized "java/lang/IllegalStateException") (mm 2 rfl)) hX.2.2.2.2.2.2.2.2.2.2.1 (vx_hat (fun w h => hts w ((fun w h => List.mem_cons_of_mem _ (List.mem_append_left _ (List.mem_append_right _ h))) w h)) atS_3 (vx_c (va_Nw.use rfl hX.1.2.2.2.2.2.2.2.2.2.2.2.2.2.2.2.2.2.2.2.2.2.2.2.1) (vx_c (va_Nw.use rfl hX.1.2.2.2.2.2.2.2.2.2.2.2.2.2.2.2.2.2.2.2.2.2.2.2.2.1) (vx_c (va_Nw.use rfl hX.1.2.2.2.2.2.2.2.2.2.2.2.2.2.2.2.2.2.2.2.2.2.2.2.2.2.1) (vx_c (va_Nw.use rfl hX.1.2.2.2.2.2.2.2.2.2.2.2.2.2.2.2.2.2.2.2.2.2.2.2.2.2.2) vx_n))))) gdS_3 hl.1 dX7_pass_21 dX7_pass_24 dX7_pass_25 dX7_pass_27 dX7_pass_30 htab (Nat.le_of_ble_eq_true rfl) (Nat.le_of_ble_eq_true rfl) (Nat.le_of_ble_eq_true rfl) (Nat.le_of_ble_eq_true rfl) hlocks (Nat.le_of_ble_eq_true rfl) (Nat.le_of_ble_eq_true rfl)
def mX7_append (S : CS) (x1 : Int32) : Option (Except Nat Int32 × CS) :=
  (bt (mX7_needRange S x1 (33 : Int32) (126 : Int32)) fun _ S3 => (if (S3.1 10) < (50 : Int32) then (bn (mX6_add S3 x1) fun S7 => (some (.ok (S7.1 10), S7))) else (some (.error 3, S3))))
abbrev rmX7_append : Room := { frames := 7, cells := 2, slots := 12, locals := 122 }
theorem hdX7_append : yX7_append.cls = RX7 ∧ yX7_append.cls ≠ "java/lang/invoke/MethodHandle" ∧ yX7_append.cls ≠ "java/lang/invoke/VarHandle" ∧ (parseMethodDescriptor yX7_append.desc).map (fun d => d.parameters.length) = some 1 := by decide +kernel
set_option maxRecDepth 100000 in
set_option maxHeartbeats 8000000 in
theorem ctX7_append (l : Launch) (dC : Nat → ClassId) (dI : Nat → Nat → Nat) (cq : Nat → ClassId) (q : Nat → Nat) (S : CS) (M : MS) (o : Nat → Int64) (sz h0 : Nat) (hfl : l.stackTraces = false) (x1 : Int32) (rs : Except Nat Int32 × CS) (h : mX7_append S x1 = some rs) : CtX_i l yX7_append wsX7_append rmX7_append (fun a => h0 ≤ a) (EV h0 q) dC dI cq (wA cq q S M o) sz [.ref (q 0), .int x1] (fun S => wA cq q S M o) (fun (r : Int32) (u : CS) => rs = (.ok r, u)) (fun k u => rs = (.error k, u)) 2 12 := by
  refine enX_i (wf := fun S => wA cq q S M o) (cc := cX7_append) (maxL := 2) (by decide) rfl (Nat.le_of_ble_eq_true rfl) (fun p e s m args below meth c A Q ls hQ htab hlocks F hA hP hK hD hDm hX hS hl hend hthr => ?_)
  obtain ⟨hx, hb, hml, hown, hts⟩ := id F
  have hown : s.vm.findClass RX7 = some m.cls := hown
  have F : CallFix p m c cX7_append 2 s args wsX7_append RX7 := F
  have hl : lv_has ls 2 [(0, .ref (q 0)), (1, .int x1)] := hl
  have hinX6 : ∀ w ∈ u_ws RX6 TX6 10, w ∈ wsX7_append := fun w h => List.mem_cons_of_mem _ (List.mem_append_left _ (List.mem_append_left _ (List.mem_append_right _ h)))
  have hinX7 : ∀ w ∈ u_ws RX7 TX7 5, w ∈ wsX7_append := fun w h => List.mem_cons_of_mem _ (List.mem_append_left _ (List.mem_append_left _ (List.mem_append_left _ (List.mem_append_right _ h))))
  rw [mX7_append] at h
  refine lv_iload_n hx hb dX7_append_0 rfl (lv_at hl 1 rfl) ?_
  refine lv_bipush (v := (33 : Int32)) hx hb dX7_append_1 (by decide) ?_
  refine lv_bipush (v := (126 : Int32)) hx hb dX7_append_3 (by decide) ?_
  rcases bto h with ⟨r1x, S3, e2, hrs⟩ | ⟨r1, S3, e2, h⟩
  · refine caXS_v (As := [.int x1, .int (33 : Int32), .int (126 : Int32)]) (rest := []) (ctX7_needRange l dC dI cq q S M o _ _ hfl _ _ _ _ e2) F (va_cwS 3 hts gX7_append_X7_needRange rfl rfl rfl hdX7_needRange ⟨Nat.le_of_ble_eq_true rfl, Nat.le_of_ble_eq_true rfl⟩) hK hP hD hDm hS hA EV.blind (fun U hU hW => EV.call hX hS hDm hU hW) rfl hl.1 rfl (Nat.le_of_ble_eq_true rfl) dX7_append_5 ⟨Nat.le_of_ble_eq_true rfl, Nat.le_of_ble_eq_true rfl⟩ (fun H locs k9 u9 E9 ce9 q9 h9 hP hD hS hce hcv hcl hE => ?_) (fun H locs u9 h9 hP hD hS => ?_)
    · cases h9; exact hthr _ _ _ _ _ _ _ _ _ _ _ _ hrs hP hD hS hce hcv hcl hE (Nat.le_of_ble_eq_true rfl) (Nat.le_of_ble_eq_true rfl)
    · cases h9
  refine caXS_v (As := [.int x1, .int (33 : Int32), .int (126 : Int32)]) (rest := []) (ctX7_needRange l dC dI cq q S M o _ _ hfl _ _ _ _ e2) F (va_cwS 3 hts gX7_append_X7_needRange rfl rfl rfl hdX7_needRange ⟨Nat.le_of_ble_eq_true rfl, Nat.le_of_ble_eq_true rfl⟩) hK hP hD hDm hS hA EV.blind (fun U hU hW => EV.call hX hS hDm hU hW) rfl hl.1 rfl (Nat.le_of_ble_eq_true rfl) dX7_append_5 ⟨Nat.le_of_ble_eq_true rfl, Nat.le_of_ble_eq_true rfl⟩ (fun H locs k9 u9 E9 ce9 q9 h9 hP hD hS hce hcv hcl hE => ?_) (fun H locs u9 h9 hP hD hS => ?_)
  · cases h9
  cases h9
  refine lv_aload_n hx hb dX7_append_8 rfl (lv_at hl 0 rfl) ?_
  refine va_get (D := (dC, dI)) (ci := 8) (v := .ref (q 20)) (C := RX7) (T := TX7) (N := 5) hx hb hts hinX7 hown hK hP 0 rfl rfl 4 (by decide) (hts (.fieldLink RX7 40 "CableTester" "text" "LCableTester$Text;") (mm 3 rfl)) (fun _ h9 => h9) rfl dX7_append_9 ?_
  refine va_getN (D := (dC, dI)) (ci := 7) (v := .int (S3.1 10)) (C := RX6) (T := TX6) (N := 10) hx hb hts hinX6 hown hK hP 20 rfl rfl 1 (by decide) (va_Nw.use rfl hX.1.2.2.2.2.2.2.2.2.2.1) (fun _ h9 => h9) rfl dX7_append_12 ?_
  refine lv_bipush (v := (50 : Int32)) hx hb dX7_append_15 (by decide) ?_
  refine lv_icmp_lt (tgt := 30) hx hb dX7_append_17 (by decide) (fun c4 => ?_) (fun c4 => ?_)
  · replace h := it c4 h
    refine lv_aload_n hx hb dX7_append_30 rfl (lv_at hl 0 rfl) ?_
    refine va_get (D := (dC, dI)) (ci := 8) (v := .ref (q 20)) (C := RX7) (T := TX7) (N := 5) hx hb hts hinX7 hown hK hP 0 rfl rfl 4 (by decide) (hts (.fieldLink RX7 40 "CableTester" "text" "LCableTester$Text;") (mm 3 rfl)) (fun _ h9 => h9) rfl dX7_append_31 ?_
    refine lv_iload_n hx hb dX7_append_34 rfl (lv_at hl 1 rfl) ?_
    obtain ⟨S7, e6, h⟩ := bo h
    refine caVC_v (As := [.int x1]) (rest := []) (ctX6_add l dC dI cq q S3 M o _ _ _ _ e6) F (cwV 1 hts gX7_append_X6_add rfl rfl rfl hdX6_add ⟨Nat.le_of_ble_eq_true rfl, Nat.le_of_ble_eq_true rfl⟩) hK hP hD hDm hS hA EV.blind (fun U hU hW => EV.call hX hS hDm hU hW) (va_recv hK hP (ci := 7) (q0 := 20) rfl rfl) rfl hl.1 rfl (Nat.le_of_ble_eq_true rfl) dX7_append_35 ⟨Nat.le_of_ble_eq_true rfl, Nat.le_of_ble_eq_true rfl⟩ (fun H locs hP hD hS => ?_)
    refine lv_aload_n hx hb dX7_append_38 rfl (lv_at hl 0 rfl) ?_
    refine va_get (D := (dC, dI)) (ci := 8) (v := .ref (q 20)) (C := RX7) (T := TX7) (N := 5) hx hb hts hinX7 hown hK hP 0 rfl rfl 4 (by decide) (hts (.fieldLink RX7 40 "CableTester" "text" "LCableTester$Text;") (mm 3 rfl)) (fun _ h9 => h9) rfl dX7_append_39 ?_
    refine va_getN (D := (dC, dI)) (ci := 7) (v := .int (S7.1 10)) (C := RX6) (T := TX6) (N := 10) hx hb hts hinX6 hown hK hP 20 rfl rfl 1 (by decide) (va_Nw.use rfl hX.1.2.2.2.2.2.2.2.2.2.1) (fun _ h9 => h9) rfl dX7_append_42 ?_
    exact hend _ _ _ _ _ _ _ _ (Option.some.inj h).symm hP hD hS dX7_append_45 rfl (Nat.le_of_ble_eq_true rfl) (Nat.le_of_ble_eq_true rfl)
  · replace h := ie c4 h
    rw [hQ]
    exact thrN (wf := fun S => wA cq q S M o) hfl F hX hDm hK 3 _ hP hD hS (Option.some.inj h).symm rfl (by decide) (hts (.classLink RX7 112 "java/lang/IllegalStateException") (mm 1 rfl)) (hts (.initialized "java/lang/IllegalStateException") (mm 2 rfl)) hX.2.2.2.2.2.2.2.2.2.2.2.1 (vx_hat (fun w h => hts w ((fun w h => List.mem_cons_of_mem _ (List.mem_append_left _ (List.mem_append_right _ h))) w h)) atS_3 (vx_c (va_Nw.use rfl hX.1.2.2.2.2.2.2.2.2.2.2.2.2.2.2.2.2.2.2.2.2.2.2.2.1) (vx_c (va_Nw.use rfl hX.1.2.2.2.2.2.2.2.2.2.2.2.2.2.2.2.2.2.2.2.2.2.2.2.2.1) (vx_c (va_Nw.use rfl hX.1.2.2.2.2.2.2.2.2.2.2.2.2.2.2.2.2.2.2.2.2.2.2.2.2.2.1) (vx_c (va_Nw.use rfl hX.1.2.2.2.2.2.2.2.2.2.2.2.2.2.2.2.2.2.2.2.2.2.2.2.2.2.2) vx_n))))) gdS_3 hl.1 dX7_append_20 dX7_append_23 dX7_append_24 dX7_append_26 dX7_append_29 htab (Nat.le_of_ble_eq_true rfl) (Nat.le_of_ble_eq_true rfl) (Nat.le_of_ble_eq_true rfl) (Nat.le_of_ble_eq_true rfl) hlocks (Nat.le_of_ble_eq_true rfl) (Nat.le_of_ble_eq_true rfl)
def mX7_joined (n : Nat) (S : CS) (x1 : Int32) (x2 : Int32) (x3 : Int32) : Option (Except Nat Int32 × CS) :=
  (bt (mX7_needEnd S x1) fun _ S3 => (bt (mX7_needEnd S3 x3) fun _ S6 => (bt (mX7_needIndex S6 x2 (8 : Int32)) fun _ S9 => (bn (mX7_measure n S9) fun S12 => (bn (mX5_joinedPins S12 x1 x2 x3) fun r13 => (some (.ok r13, S12)))))))
abbrev rmX7_joined : Room := { frames := 8, cells := 3, slots := 18, locals := 142 }
theorem hdX7_joined : yX7_joined.cls = RX7 ∧ yX7_joined.cls ≠ "java/lang/invoke/MethodHandle" ∧ yX7_joined.cls ≠ "java/lang/invoke/VarHandle" ∧ (parseMethodDescriptor yX7_joined.desc).map (fun d => d.parameters.length) = some 3 := by decide +kernel
set_option maxRecDepth 100000 in
set_option maxHeartbeats 8000000 in
theorem ctX7_joined (l : Launch) (dC : Nat → ClassId) (dI : Nat → Nat → Nat) (cq : Nat → ClassId) (q : Nat → Nat) (S : CS) (M : MS) (o : Nat → Int64) (sz h0 : Nat) (hfl : l.stackTraces = false) (n : Nat) (x1 : Int32) (x2 : Int32) (x3 : Int32) (rs : Except Nat Int32 × CS) (h : mX7_joined n S x1 x2 x3 = some rs) : CtX_i l yX7_joined wsX7_joined rmX7_joined (fun a => h0 ≤ a) (EV h0 q) dC dI cq (wA cq q S M o) sz [.ref (q 0), .int x1, .int x2, .int x3] (fun S => wA cq q S M o) (fun (r : Int32) (u : CS) => rs = (.ok r, u)) (fun k u => rs = (.error k, u)) 3 18 := by
  refine enX_i (wf := fun S => wA cq q S M o) (cc := cX7_joined) (maxL := 4) (by decide) rfl (Nat.le_of_ble_eq_true rfl) (fun p e s m args below meth c A Q ls hQ htab hlocks F hA hP hK hD hDm hX hS hl hend hthr => ?_)
  obtain ⟨hx, hb, hml, hown, hts⟩ := id F
  have hown : s.vm.findClass RX7 = some m.cls := hown
  have F : CallFix p m c cX7_joined 4 s args wsX7_joined RX7 := F
  have hl : lv_has ls 4 [(0, .ref (q 0)), (1, .int x1), (2, .int x2), (3, .int x3)] := hl
  have hinX7 : ∀ w ∈ u_ws RX7 TX7 5, w ∈ wsX7_joined := fun w h => List.mem_cons_of_mem _ (List.mem_append_left _ (List.mem_append_left _ (List.mem_append_left _ (List.mem_append_left _ (List.mem_append_left _ (List.mem_append_left _ (List.mem_append_left _ (List.mem_append_right _ h))))))))
  rw [mX7_joined] at h
  refine lv_iload_n hx hb dX7_joined_0 rfl (lv_at hl 1 rfl) ?_
  rcases bto h with ⟨r1x, S3, e2, hrs⟩ | ⟨r1, S3, e2, h⟩
  · refine caXS_v (As := [.int x1]) (rest := []) (ctX7_needEnd l dC dI cq q S M o _ _ hfl _ _ e2) F (va_cwS 1 hts gX7_joined_X7_needEnd rfl rfl rfl hdX7_needEnd ⟨Nat.le_of_ble_eq_true rfl, Nat.le_of_ble_eq_true rfl⟩) hK hP hD hDm hS hA EV.blind (fun U hU hW => EV.call hX hS hDm hU hW) rfl hl.1 rfl (Nat.le_of_ble_eq_true rfl) dX7_joined_1 ⟨Nat.le_of_ble_eq_true rfl, Nat.le_of_ble_eq_true rfl⟩ (fun H locs k9 u9 E9 ce9 q9 h9 hP hD hS hce hcv hcl hE => ?_) (fun H locs u9 h9 hP hD hS => ?_)
    · cases h9; exact hthr _ _ _ _ _ _ _ _ _ _ _ _ hrs hP hD hS hce hcv hcl hE (Nat.le_of_ble_eq_true rfl) (Nat.le_of_ble_eq_true rfl)
    · cases h9
  refine caXS_v (As := [.int x1]) (rest := []) (ctX7_needEnd l dC dI cq q S M o _ _ hfl _ _ e2) F (va_cwS 1 hts gX7_joined_X7_needEnd rfl rfl rfl hdX7_needEnd ⟨Nat.le_of_ble_eq_true rfl, Nat.le_of_ble_eq_true rfl⟩) hK hP hD hDm hS hA EV.blind (fun U hU hW => EV.call hX hS hDm hU hW) rfl hl.1 rfl (Nat.le_of_ble_eq_true rfl) dX7_joined_1 ⟨Nat.le_of_ble_eq_true rfl, Nat.le_of_ble_eq_true rfl⟩ (fun H locs k9 u9 E9 ce9 q9 h9 hP hD hS hce hcv hcl hE => ?_) (fun H locs u9 h9 hP hD hS => ?_)
  · cases h9
  cases h9
  refine lv_iload_n hx hb dX7_joined_4 rfl (lv_at hl 3 rfl) ?_
  rcases bto h with ⟨r4x, S6, e5, hrs⟩ | ⟨r4, S6, e5, h⟩
  · refine caXS_v (As := [.int x3]) (rest := []) (ctX7_needEnd l dC dI cq q S3 M o _ _ hfl _ _ e5) F (va_cwS 1 hts gX7_joined_X7_needEnd rfl rfl rfl hdX7_needEnd ⟨Nat.le_of_ble_eq_true rfl, Nat.le_of_ble_eq_true rfl⟩) hK hP hD hDm hS hA EV.blind (fun U hU hW => EV.call hX hS hDm hU hW) rfl hl.1 rfl (Nat.le_of_ble_eq_true rfl) dX7_joined_5 ⟨Nat.le_of_ble_eq_true rfl, Nat.le_of_ble_eq_true rfl⟩ (fun H locs k9 u9 E9 ce9 q9 h9 hP hD hS hce hcv hcl hE => ?_) (fun H locs u9 h9 hP hD hS => ?_)
    · cases h9; exact hthr _ _ _ _ _ _ _ _ _ _ _ _ hrs hP hD hS hce hcv hcl hE (Nat.le_of_ble_eq_true rfl) (Nat.le_of_ble_eq_true rfl)
    · cases h9
  refine caXS_v (As := [.int x3]) (rest := []) (ctX7_needEnd l dC dI cq q S3 M o _ _ hfl _ _ e5) F (va_cwS 1 hts gX7_joined_X7_needEnd rfl rfl rfl hdX7_needEnd ⟨Nat.le_of_ble_eq_true rfl, Nat.le_of_ble_eq_true rfl⟩) hK hP hD hDm hS hA EV.blind (fun U hU hW => EV.call hX hS hDm hU hW) rfl hl.1 rfl (Nat.le_of_ble_eq_true rfl) dX7_joined_5 ⟨Nat.le_of_ble_eq_true rfl, Nat.le_of_ble_eq_true rfl⟩ (fun H locs k9 u9 E9 ce9 q9 h9 hP hD hS hce hcv hcl hE => ?_) (fun H locs u9 h9 hP hD hS => ?_)
  · cases h9
  cases h9
  refine lv_iload_n hx hb dX7_joined_8 rfl (lv_at hl 2 rfl) ?_
  refine lv_bipush (v := (8 : Int32)) hx hb dX7_joined_9 (by decide) ?_
  rcases bto h with ⟨r7x, S9, e8, hrs⟩ | ⟨r7, S9, e8, h⟩
  · refine caXS_v (As := [.int x2, .int (8 : Int32)]) (rest := []) (ctX7_needIndex l dC dI cq q S6 M o _ _ hfl _ _ _ e8) F (va_cwS 2 hts gX7_joined_X7_needIndex rfl rfl rfl hdX7_needIndex ⟨Nat.le_of_ble_eq_true rfl, Nat.le_of_ble_eq_true rfl⟩) hK hP hD hDm hS hA EV.blind (fun U hU hW => EV.call hX hS hDm hU hW) rfl hl.1 rfl (Nat.le_of_ble_eq_true rfl) dX7_joined_11 ⟨Nat.le_of_ble_eq_true rfl, Nat.le_of_ble_eq_true rfl⟩ (fun H locs k9 u9 E9 ce9 q9 h9 hP hD hS hce hcv hcl hE => ?_) (fun H locs u9 h9 hP hD hS => ?_)
    · cases h9; exact hthr _ _ _ _ _ _ _ _ _ _ _ _ hrs hP hD hS hce hcv hcl hE (Nat.le_of_ble_eq_true rfl) (Nat.le_of_ble_eq_true rfl)
    · cases h9
  refine caXS_v (As := [.int x2, .int (8 : Int32)]) (rest := []) (ctX7_needIndex l dC dI cq q S6 M o _ _ hfl _ _ _ e8) F (va_cwS 2 hts gX7_joined_X7_needIndex rfl rfl rfl hdX7_needIndex ⟨Nat.le_of_ble_eq_true rfl, Nat.le_of_ble_eq_true rfl⟩) hK hP hD hDm hS hA EV.blind (fun U hU hW => EV.call hX hS hDm hU hW) rfl hl.1 rfl (Nat.le_of_ble_eq_true rfl) dX7_joined_11 ⟨Nat.le_of_ble_eq_true rfl, Nat.le_of_ble_eq_true rfl⟩ (fun H locs k9 u9 E9 ce9 q9 h9 hP hD hS hce hcv hcl hE => ?_) (fun H locs u9 h9 hP hD hS => ?_)
  · cases h9
  cases h9
  refine lv_aload_n hx hb dX7_joined_14 rfl (lv_at hl 0 rfl) ?_
  obtain ⟨S12, e11, h⟩ := bo h
  refine caVC_v (As := []) (rest := []) (ctX7_measure l dC dI cq q S9 M o _ _ _ _ e11) F (cwV 0 hts gX7_joined_X7_measure rfl rfl rfl hdX7_measure ⟨Nat.le_of_ble_eq_true rfl, Nat.le_of_ble_eq_true rfl⟩) hK hP hD hDm hS hA EV.blind (fun U hU hW => EV.call hX hS hDm hU hW) (va_recv hK hP (ci := 8) (q0 := 0) rfl rfl) rfl hl.1 rfl (Nat.le_of_ble_eq_true rfl) dX7_joined_15 ⟨Nat.le_of_ble_eq_true rfl, Nat.le_of_ble_eq_true rfl⟩ (fun H locs hP hD hS => ?_)
  refine lv_aload_n hx hb dX7_joined_18 rfl (lv_at hl 0 rfl) ?_
  refine va_get (D := (dC, dI)) (ci := 8) (v := .ref (q 6)) (C := RX7) (T := TX7) (N := 5) hx hb hts hinX7 hown hK hP 0 rfl rfl 1 (by decide) (hts (.fieldLink RX7 19 "CableTester" "nets" "LCableTester$Nets;") (mm 1 rfl)) (fun _ h9 => h9) rfl dX7_joined_19 ?_
  refine lv_iload_n hx hb dX7_joined_22 rfl (lv_at hl 1 rfl) ?_
  refine lv_iload_n hx hb dX7_joined_23 rfl (lv_at hl 2 rfl) ?_
  refine lv_iload_n hx hb dX7_joined_24 rfl (lv_at hl 3 rfl) ?_
  obtain ⟨r13, e14, h⟩ := bo h
  refine caVR_i (As := [.int x1, .int x2, .int x3]) (rest := []) (ctX5_joinedPins l dC dI cq q S12 M o _ _ _ _ _ _ e14) F (cwV 3 hts gX7_joined_X5_joinedPins rfl rfl rfl hdX5_joinedPins ⟨Nat.le_of_ble_eq_true rfl, Nat.le_of_ble_eq_true rfl⟩) hK hP hD hDm hS hA EV.blind (fun U hU hW => EV.call hX hS hDm hU hW) (va_recv hK hP (ci := 6) (q0 := 6) rfl rfl) rfl hl.1 rfl (Nat.le_of_ble_eq_true rfl) dX7_joined_25 ⟨Nat.le_of_ble_eq_true rfl, Nat.le_of_ble_eq_true rfl⟩ (fun H locs hP hD hS => ?_)
  exact hend _ _ _ _ _ _ _ _ (Option.some.inj h).symm hP hD hS dX7_joined_28 rfl (Nat.le_of_ble_eq_true rfl) (Nat.le_of_ble_eq_true rfl)
def mX7_status (n : Nat) (S : CS) (x1 : Int32) : Option (Except Nat Int32 × CS) :=
  (bt (mX7_needIndex S x1 (8 : Int32)) fun _ S3 => (bn (mX7_measure n S3) fun S6 => (bn (mX5_statusOf S6 x1) fun r7 => (some (.ok r7, S6)))))
abbrev rmX7_status : Room := { frames := 7, cells := 1, slots := 6, locals := 130 }
theorem hdX7_status : yX7_status.cls = RX7 ∧ yX7_status.cls ≠ "java/lang/invoke/MethodHandle" ∧ yX7_status.cls ≠ "java/lang/invoke/VarHandle" ∧ (parseMethodDescriptor yX7_status.desc).map (fun d => d.parameters.length) = some 1 := by decide +kernel
set_option maxRecDepth 100000 in
set_option maxHeartbeats 8000000 in
theorem ctX7_status (l : Launch) (dC : Nat → ClassId) (dI : Nat → Nat → Nat) (cq : Nat → ClassId) (q : Nat → Nat) (S : CS) (M : MS) (o : Nat → Int64) (sz h0 : Nat) (hfl : l.stackTraces = false) (n : Nat) (x1 : Int32) (rs : Except Nat Int32 × CS) (h : mX7_status n S x1 = some rs) : CtX_i l yX7_status wsX7_status rmX7_status (fun a => h0 ≤ a) (EV h0 q) dC dI cq (wA cq q S M o) sz [.ref (q 0), .int x1] (fun S => wA cq q S M o) (fun (r : Int32) (u : CS) => rs = (.ok r, u)) (fun k u => rs = (.error k, u)) 1 6 := by
  refine enX_i (wf := fun S => wA cq q S M o) (cc := cX7_status) (maxL := 2) (by decide) rfl (Nat.le_of_ble_eq_true rfl) (fun p e s m args below meth c A Q ls hQ htab hlocks F hA hP hK hD hDm hX hS hl hend hthr => ?_)
  obtain ⟨hx, hb, hml, hown, hts⟩ := id F
  have hown : s.vm.findClass RX7 = some m.cls := hown
  have F : CallFix p m c cX7_status 2 s args wsX7_status RX7 := F
  have hl : lv_has ls 2 [(0, .ref (q 0)), (1, .int x1)] := hl
  have hinX7 : ∀ w ∈ u_ws RX7 TX7 5, w ∈ wsX7_status := fun w h => List.mem_cons_of_mem _ (List.mem_append_left _ (List.mem_append_left _ (List.mem_append_left _ (List.mem_append_left _ (List.mem_append_left _ (List.mem_append_left _ (List.mem_append_right _ h)))))))
  rw [mX7_status] at h
  refine lv_iload_n hx hb dX7_status_0 rfl (lv_at hl 1 rfl) ?_
  refine lv_bipush (v := (8 : Int32)) hx hb dX7_status_1 (by decide) ?_
  rcases bto h with ⟨r1x, S3, e2, hrs⟩ | ⟨r1, S3, e2, h⟩
  · refine caXS_v (As := [.int x1, .int (8 : Int32)]) (rest := []) (ctX7_needIndex l dC dI cq q S M o _ _ hfl _ _ _ e2) F (va_cwS 2 hts gX7_status_X7_needIndex rfl rfl rfl hdX7_needIndex ⟨Nat.le_of_ble_eq_true rfl, Nat.le_of_ble_eq_true rfl⟩) hK hP hD hDm hS hA EV.blind (fun U hU hW => EV.call hX hS hDm hU hW) rfl hl.1 rfl (Nat.le_of_ble_eq_true rfl) dX7_status_3 ⟨Nat.le_of_ble_eq_true rfl, Nat.le_of_ble_eq_true rfl⟩ (fun H locs k9 u9 E9 ce9 q9 h9 hP hD hS hce hcv hcl hE => ?_) (fun H locs u9 h9 hP hD hS => ?_)
    · cases h9; exact hthr _ _ _ _ _ _ _ _ _ _ _ _ hrs hP hD hS hce hcv hcl hE (Nat.le_of_ble_eq_true rfl) (Nat.le_of_ble_eq_true rfl)
    · cases h9
  refine caXS_v (As := [.int x1, .int (8 : Int32)]) (rest := []) (ctX7_needIndex l dC dI cq q S M o _ _ hfl _ _ _ e2) F (va_cwS 2 hts gX7_status_X7_needIndex rfl rfl rfl hdX7_needIndex ⟨Nat.le_of_ble_eq_true rfl, Nat.le_of_ble_eq_true rfl⟩) hK hP hD hDm hS hA EV.blind (fun U hU hW => EV.call hX hS hDm hU hW) rfl hl.1 rfl (Nat.le_of_ble_eq_true rfl) dX7_status_3 ⟨Nat.le_of_ble_eq_true rfl, Nat.le_of_ble_eq_true rfl⟩ (fun H locs k9 u9 E9 ce9 q9 h9 hP hD hS hce hcv hcl hE => ?_) (fun H locs u9 h9 hP hD hS => ?_)
  · cases h9
  cases h9
  refine lv_aload_n hx hb dX7_status_6 rfl (lv_at hl 0 rfl) ?_
  obtain ⟨S6, e5, h⟩ := bo h
  refine caVC_v (As := []) (rest := []) (ctX7_measure l dC dI cq q S3 M o _ _ _ _ e5) F (cwV 0 hts gX7_status_X7_measure rfl rfl rfl hdX7_measure ⟨Nat.le_of_ble_eq_true rfl, Nat.le_of_ble_eq_true rfl⟩) hK hP hD hDm hS hA EV.blind (fun U hU hW => EV.call hX hS hDm hU hW) (va_recv hK hP (ci := 8) (q0 := 0) rfl rfl) rfl hl.1 rfl (Nat.le_of_ble_eq_true rfl) dX7_status_7 ⟨Nat.le_of_ble_eq_true rfl, Nat.le_of_ble_eq_true rfl⟩ (fun H locs hP hD hS => ?_)
  refine lv_aload_n hx hb dX7_status_10 rfl (lv_at hl 0 rfl) ?_
  refine va_get (D := (dC, dI)) (ci := 8) (v := .ref (q 6)) (C := RX7) (T := TX7) (N := 5) hx hb hts hinX7 hown hK hP 0 rfl rfl 1 (by decide) (hts (.fieldLink RX7 19 "CableTester" "nets" "LCableTester$Nets;") (mm 1 rfl)) (fun _ h9 => h9) rfl dX7_status_11 ?_
  refine lv_iload_n hx hb dX7_status_14 rfl (lv_at hl 1 rfl) ?_
  obtain ⟨r7, e8, h⟩ := bo h
  refine caVR_i (As := [.int x1]) (rest := []) (ctX5_statusOf l dC dI cq q S6 M o _ _ _ _ e8) F (cwV 1 hts gX7_status_X5_statusOf rfl rfl rfl hdX5_statusOf ⟨Nat.le_of_ble_eq_true rfl, Nat.le_of_ble_eq_true rfl⟩) hK hP hD hDm hS hA EV.blind (fun U hU hW => EV.call hX hS hDm hU hW) (va_recv hK hP (ci := 6) (q0 := 6) rfl rfl) rfl hl.1 rfl (Nat.le_of_ble_eq_true rfl) dX7_status_15 ⟨Nat.le_of_ble_eq_true rfl, Nat.le_of_ble_eq_true rfl⟩ (fun H locs hP hD hS => ?_)
  exact hend _ _ _ _ _ _ _ _ (Option.some.inj h).symm hP hD hS dX7_status_18 rfl (Nat.le_of_ble_eq_true rfl) (Nat.le_of_ble_eq_true rfl)
def mX7_echo (n : Nat) (S : CS) (x1 : Int32) (x2 : Int32) : Option (Except Nat Int32 × CS) :=
  (bt (mX7_needIndex S x1 (8 : Int32)) fun _ S3 => (bt (mX7_needRange S3 x2 (0 : Int32) (3 : Int32)) fun _ S6 => (bn (mX0_echoAt n S6 x1 x2) fun r7 => (some (.ok r7, S6)))))
abbrev rmX7_echo : Room := { frames := 7, cells := 2, slots := 12, locals := 122 }
theorem hdX7_echo : yX7_echo.cls = RX7 ∧ yX7_echo.cls ≠ "java/lang/invoke/MethodHandle" ∧ yX7_echo.cls ≠ "java/lang/invoke/VarHandle" ∧ (parseMethodDescriptor yX7_echo.desc).map (fun d => d.parameters.length) = some 2 := by decide +kernel
set_option maxRecDepth 100000 in
set_option maxHeartbeats 8000000 in
theorem ctX7_echo (l : Launch) (dC : Nat → ClassId) (dI : Nat → Nat → Nat) (cq : Nat → ClassId) (q : Nat → Nat) (S : CS) (M : MS) (o : Nat → Int64) (sz h0 : Nat) (hfl : l.stackTraces = false) (n : Nat) (x1 : Int32) (x2 : Int32) (rs : Except Nat Int32 × CS) (h : mX7_echo n S x1 x2 = some rs) : CtX_i l yX7_echo wsX7_echo rmX7_echo (fun a => h0 ≤ a) (EV h0 q) dC dI cq (wA cq q S M o) sz [.ref (q 0), .int x1, .int x2] (fun S => wA cq q S M o) (fun (r : Int32) (u : CS) => rs = (.ok r, u)) (fun k u => rs = (.error k, u)) 2 12 := by
  refine enX_i (wf := fun S => wA cq q S M o) (cc := cX7_echo) (maxL := 3) (by decide) rfl (Nat.le_of_ble_eq_true rfl) (fun p e s m args below meth c A Q ls hQ htab hlocks F hA hP hK hD hDm hX hS hl hend hthr => ?_)
  obtain ⟨hx, hb, hml, hown, hts⟩ := id F
  have hown : s.vm.findClass RX7 = some m.cls := hown
  have F : CallFix p m c cX7_echo 3 s args wsX7_echo RX7 := F
  have hl : lv_has ls 3 [(0, .ref (q 0)), (1, .int x1), (2, .int x2)] := hl
  have hinX7 : ∀ w ∈ u_ws RX7 TX7 5, w ∈ wsX7_echo := fun w h => List.mem_cons_of_mem _ (List.mem_append_left _ (List.mem_append_left _ (List.mem_append_left _ (List.mem_append_left _ (List.mem_append_left _ (List.mem_append_right _ h))))))
  rw [mX7_echo] at h
  refine lv_iload_n hx hb dX7_echo_0 rfl (lv_at hl 1 rfl) ?_
  refine lv_bipush (v := (8 : Int32)) hx hb dX7_echo_1 (by decide) ?_
  rcases bto h with ⟨r1x, S3, e2, hrs⟩ | ⟨r1, S3, e2, h⟩
  · refine caXS_v (As := [.int x1, .int (8 : Int32)]) (rest := []) (ctX7_needIndex l dC dI cq q S M o _ _ hfl _ _ _ e2) F (va_cwS 2 hts gX7_echo_X7_needIndex rfl rfl rfl hdX7_needIndex ⟨Nat.le_of_ble_eq_true rfl, Nat.le_of_ble_eq_true rfl⟩) hK hP hD hDm hS hA EV.blind (fun U hU hW => EV.call hX hS hDm hU hW) rfl hl.1 rfl (Nat.le_of_ble_eq_true rfl) dX7_echo_3 ⟨Nat.le_of_ble_eq_true rfl, Nat.le_of_ble_eq_true rfl⟩ (fun H locs k9 u9 E9 ce9 q9 h9 hP hD hS hce hcv hcl hE => ?_) (fun H locs u9 h9 hP hD hS => ?_)
    · cases h9; exact hthr _ _ _ _ _ _ _ _ _ _ _ _ hrs hP hD hS hce hcv hcl hE (Nat.le_of_ble_eq_true rfl) (Nat.le_of_ble_eq_true rfl)
    · cases h9
  refine caXS_v (As := [.int x1, .int (8 : Int32)]) (rest := []) (ctX7_needIndex l dC dI cq q S M o _ _ hfl _ _ _ e2) F (va_cwS 2 hts gX7_echo_X7_needIndex rfl rfl rfl hdX7_needIndex ⟨Nat.le_of_ble_eq_true rfl, Nat.le_of_ble_eq_true rfl⟩) hK hP hD hDm hS hA EV.blind (fun U hU hW => EV.call hX hS hDm hU hW) rfl hl.1 rfl (Nat.le_of_ble_eq_true rfl) dX7_echo_3 ⟨Nat.le_of_ble_eq_true rfl, Nat.le_of_ble_eq_true rfl⟩ (fun H locs k9 u9 E9 ce9 q9 h9 hP hD hS hce hcv hcl hE => ?_) (fun H locs u9 h9 hP hD hS => ?_)
  · cases h9
  cases h9
  refine lv_iload_n hx hb dX7_echo_6 rfl (lv_at hl 2 rfl) ?_
  refine lv_iconst (v := (0 : Int32)) hx hb dX7_echo_7 (by decide) ?_
  refine lv_iconst (v := (3 : Int32)) hx hb dX7_echo_8 (by decide) ?_
  rcases bto h with ⟨r4x, S6, e5, hrs⟩ | ⟨r4, S6, e5, h⟩
  · refine caXS_v (As := [.int x2, .int (0 : Int32), .int (3 : Int32)]) (rest := []) (ctX7_needRange l dC dI cq q S3 M o _ _ hfl _ _ _ _ e5) F (va_cwS 3 hts gX7_echo_X7_needRange rfl rfl rfl hdX7_needRange ⟨Nat.le_of_ble_eq_true rfl, Nat.le_of_ble_eq_true rfl⟩) hK hP hD hDm hS hA EV.blind (fun U hU hW => EV.call hX hS hDm hU hW) rfl hl.1 rfl (Nat.le_of_ble_eq_true rfl) dX7_echo_9 ⟨Nat.le_of_ble_eq_true rfl, Nat.le_of_ble_eq_true rfl⟩ (fun H locs k9 u9 E9 ce9 q9 h9 hP hD hS hce hcv hcl hE => ?_) (fun H locs u9 h9 hP hD hS => ?_)
    · cases h9; exact hthr _ _ _ _ _ _ _ _ _ _ _ _ hrs hP hD hS hce hcv hcl hE (Nat.le_of_ble_eq_true rfl) (Nat.le_of_ble_eq_true rfl)
    · cases h9
  refine caXS_v (As := [.int x2, .int (0 : Int32), .int (3 : Int32)]) (rest := []) (ctX7_needRange l dC dI cq q S3 M o _ _ hfl _ _ _ _ e5) F (va_cwS 3 hts gX7_echo_X7_needRange rfl rfl rfl hdX7_needRange ⟨Nat.le_of_ble_eq_true rfl, Nat.le_of_ble_eq_true rfl⟩) hK hP hD hDm hS hA EV.blind (fun U hU hW => EV.call hX hS hDm hU hW) rfl hl.1 rfl (Nat.le_of_ble_eq_true rfl) dX7_echo_9 ⟨Nat.le_of_ble_eq_true rfl, Nat.le_of_ble_eq_true rfl⟩ (fun H locs k9 u9 E9 ce9 q9 h9 hP hD hS hce hcv hcl hE => ?_) (fun H locs u9 h9 hP hD hS => ?_)
  · cases h9
  cases h9
  refine lv_aload_n hx hb dX7_echo_12 rfl (lv_at hl 0 rfl) ?_
  refine va_get (D := (dC, dI)) (ci := 8) (v := .ref (q 1)) (C := RX7) (T := TX7) (N := 5) hx hb hts hinX7 hown hK hP 0 rfl rfl 0 (by decide) (hts (.fieldLink RX7 10 "CableTester" "cable" "LCableTester$Cable;") (mm 1 rfl)) (fun _ h9 => h9) rfl dX7_echo_13 ?_
  refine lv_iload_n hx hb dX7_echo_16 rfl (lv_at hl 1 rfl) ?_
  refine lv_iload_n hx hb dX7_echo_17 rfl (lv_at hl 2 rfl) ?_
  obtain ⟨r7, e8, h⟩ := bo h
  refine caVR_i (As := [.int x1, .int x2]) (rest := []) (ctX0_echoAt l dC dI cq q S6 M o _ _ _ _ _ _ e8) F (cwV 2 hts gX7_echo_X0_echoAt rfl rfl rfl hdX0_echoAt ⟨Nat.le_of_ble_eq_true rfl, Nat.le_of_ble_eq_true rfl⟩) hK hP hD hDm hS hA EV.blind (fun U hU hW => EV.call hX hS hDm hU hW) (va_recv hK hP (ci := 1) (q0 := 1) rfl rfl) rfl hl.1 rfl (Nat.le_of_ble_eq_true rfl) dX7_echo_18 ⟨Nat.le_of_ble_eq_true rfl, Nat.le_of_ble_eq_true rfl⟩ (fun H locs hP hD hS => ?_)
  exact hend _ _ _ _ _ _ _ _ (Option.some.inj h).symm hP hD hS dX7_echo_21 rfl (Nat.le_of_ble_eq_true rfl) (Nat.le_of_ble_eq_true rfl)
def mX7_crosstalk (n : Nat) (S : CS) (x1 : Int32) (x2 : Int32) : Option (Except Nat Int32 × CS) :=
  (bt (mX7_needIndex S x1 (4 : Int32)) fun _ S3 => (bt (mX7_needIndex S3 x2 (4 : Int32)) fun _ S6 => (bn (mX0_crosstalkOf n S6 x1 x2) fun r7 => (some (.ok r7, S6)))))
abbrev rmX7_crosstalk : Room := { frames := 7, cells := 2, slots := 12, locals := 121 }
theorem hdX7_crosstalk : yX7_crosstalk.cls = RX7 ∧ yX7_crosstalk.cls ≠ "java/lang/invoke/MethodHandle" ∧ yX7_crosstalk.cls ≠ "java/lang/invoke/VarHandle" ∧ (parseMethodDescriptor yX7_crosstalk.desc).map (fun d => d.parameters.length) = some 2 := by decide +kernel
set_option maxRecDepth 100000 in
set_option maxHeartbeats 8000000 in
theorem ctX7_crosstalk (l : Launch) (dC : Nat → ClassId) (dI : Nat → Nat → Nat) (cq : Nat → ClassId) (q : Nat → Nat) (S : CS) (M : MS) (o : Nat → Int64) (sz h0 : Nat) (hfl : l.stackTraces = false) (n : Nat) (x1 : Int32) (x2 : Int32) (rs : Except Nat Int32 × CS) (h : mX7_crosstalk n S x1 x2 = some rs) : CtX_i l yX7_crosstalk wsX7_crosstalk rmX7_crosstalk (fun a => h0 ≤ a) (EV h0 q) dC dI cq (wA cq q S M o) sz [.ref (q 0), .int x1, .int x2] (fun S => wA cq q S M o) (fun (r : Int32) (u : CS) => rs = (.ok r, u)) (fun k u => rs = (.error k, u)) 2 12 := by
  refine enX_i (wf := fun S => wA cq q S M o) (cc := cX7_crosstalk) (maxL := 3) (by decide) rfl (Nat.le_of_ble_eq_true rfl) (fun p e s m args below meth c A Q ls hQ htab hlocks F hA hP hK hD hDm hX hS hl hend hthr => ?_)
  obtain ⟨hx, hb, hml, hown, hts⟩ := id F
  have hown : s.vm.findClass RX7 = some m.cls := hown
  have F : CallFix p m c cX7_crosstalk 3 s args wsX7_crosstalk RX7 := F
  have hl : lv_has ls 3 [(0, .ref (q 0)), (1, .int x1), (2, .int x2)] := hl
  have hinX7 : ∀ w ∈ u_ws RX7 TX7 5, w ∈ wsX7_crosstalk := fun w h => List.mem_cons_of_mem _ (List.mem_append_left _ (List.mem_append_left _ (List.mem_append_right _ h)))
  rw [mX7_crosstalk] at h
  refine lv_iload_n hx hb dX7_crosstalk_0 rfl (lv_at hl 1 rfl) ?_
  refine lv_iconst (v := (4 : Int32)) hx hb dX7_crosstalk_1 (by decide) ?_
  rcases bto h with ⟨r1x, S3, e2, hrs⟩ | ⟨r1, S3, e2, h⟩
  · refine caXS_v (As := [.int x1, .int (4 : Int32)]) (rest := []) (ctX7_needIndex l dC dI cq q S M o _ _ hfl _ _ _ e2) F (va_cwS 2 hts gX7_crosstalk_X7_needIndex rfl rfl rfl hdX7_needIndex ⟨Nat.le_of_ble_eq_true rfl, Nat.le_of_ble_eq_true rfl⟩) hK hP hD hDm hS hA EV.blind (fun U hU hW => EV.call hX hS hDm hU hW) rfl hl.1 rfl (Nat.le_of_ble_eq_true rfl) dX7_crosstalk_2 ⟨Nat.le_of_ble_eq_true rfl, Nat.le_of_ble_eq_true rfl⟩ (fun H locs k9 u9 E9 ce9 q9 h9 hP hD hS hce hcv hcl hE => ?_) (fun H locs u9 h9 hP hD hS => ?_)
    · cases h9; exact hthr _ _ _ _ _ _ _ _ _ _ _ _ hrs hP hD hS hce hcv hcl hE (Nat.le_of_ble_eq_true rfl) (Nat.le_of_ble_eq_true rfl)
    · cases h9
  refine caXS_v (As := [.int x1, .int (4 : Int32)]) (rest := []) (ctX7_needIndex l dC dI cq q S M o _ _ hfl _ _ _ e2) F (va_cwS 2 hts gX7_crosstalk_X7_needIndex rfl rfl rfl hdX7_needIndex ⟨Nat.le_of_ble_eq_true rfl, Nat.le_of_ble_eq_true rfl⟩) hK hP hD hDm hS hA EV.blind (fun U hU hW => EV.call hX hS hDm hU hW) rfl hl.1 rfl (Nat.le_of_ble_eq_true rfl) dX7_crosstalk_2 ⟨Nat.le_of_ble_eq_true rfl, Nat.le_of_ble_eq_true rfl⟩ (fun H locs k9 u9 E9 ce9 q9 h9 hP hD hS hce hcv hcl hE => ?_) (fun H locs u9 h9 hP hD hS => ?_)
  · cases h9
  cases h9
  refine lv_iload_n hx hb dX7_crosstalk_5 rfl (lv_at hl 2 rfl) ?_
  refine lv_iconst (v := (4 : Int32)) hx hb dX7_crosstalk_6 (by decide) ?_
  rcases bto h with ⟨r4x, S6, e5, hrs⟩ | ⟨r4, S6, e5, h⟩
  · refine caXS_v (As := [.int x2, .int (4 : Int32)]) (rest := []) (ctX7_needIndex l dC dI cq q S3 M o _ _ hfl _ _ _ e5) F (va_cwS 2 hts gX7_crosstalk_X7_needIndex rfl rfl rfl hdX7_needIndex ⟨Nat.le_of_ble_eq_true rfl, Nat.le_of_ble_eq_true rfl⟩) hK hP hD hDm hS hA EV.blind (fun U hU hW => EV.call hX hS hDm hU hW) rfl hl.1 rfl (Nat.le_of_ble_eq_true rfl) dX7_crosstalk_7 ⟨Nat.le_of_ble_eq_true rfl, Nat.le_of_ble_eq_true rfl⟩ (fun H locs k9 u9 E9 ce9 q9 h9 hP hD hS hce hcv hcl hE => ?_) (fun H locs u9 h9 hP hD hS => ?_)
    · cases h9; exact hthr _ _ _ _ _ _ _ _ _ _ _ _ hrs hP hD hS hce hcv hcl hE (Nat.le_of_ble_eq_true rfl) (Nat.le_of_ble_eq_true rfl)
    · cases h9
  refine caXS_v (As := [.int x2, .int (4 : Int32)]) (rest := []) (ctX7_needIndex l dC dI cq q S3 M o _ _ hfl _ _ _ e5) F (va_cwS 2 hts gX7_crosstalk_X7_needIndex rfl rfl rfl hdX7_needIndex ⟨Nat.le_of_ble_eq_true rfl, Nat.le_of_ble_eq_true rfl⟩) hK hP hD hDm hS hA EV.blind (fun U hU hW => EV.call hX hS hDm hU hW) rfl hl.1 rfl (Nat.le_of_ble_eq_true rfl) dX7_crosstalk_7 ⟨Nat.le_of_ble_eq_true rfl, Nat.le_of_ble_eq_true rfl⟩ (fun H locs k9 u9 E9 ce9 q9 h9 hP hD hS hce hcv hcl hE => ?_) (fun H locs u9 h9 hP hD hS => ?_)
  · cases h9
  cases h9
  refine lv_aload_n hx hb dX7_crosstalk_10 rfl (lv_at hl 0 rfl) ?_
  refine va_get (D := (dC, dI)) (ci := 8) (v := .ref (q 1)) (C := RX7) (T := TX7) (N := 5) hx hb hts hinX7 hown hK hP 0 rfl rfl 0 (by decide) (hts (.fieldLink RX7 10 "CableTester" "cable" "LCableTester$Cable;") (mm 1 rfl)) (fun _ h9 => h9) rfl dX7_crosstalk_11 ?_
  refine lv_iload_n hx hb dX7_crosstalk_14 rfl (lv_at hl 1 rfl) ?_
  refine lv_iload_n hx hb dX7_crosstalk_15 rfl (lv_at hl 2 rfl) ?_
  obtain ⟨r7, e8, h⟩ := bo h
  refine caVR_i (As := [.int x1, .int x2]) (rest := []) (ctX0_crosstalkOf l dC dI cq q S6 M o _ _ _ _ _ _ e8) F (cwV 2 hts gX7_crosstalk_X0_crosstalkOf rfl rfl rfl hdX0_crosstalkOf ⟨Nat.le_of_ble_eq_true rfl, Nat.le_of_ble_eq_true rfl⟩) hK hP hD hDm hS hA EV.blind (fun U hU hW => EV.call hX hS hDm hU hW) (va_recv hK hP (ci := 1) (q0 := 1) rfl rfl) rfl hl.1 rfl (Nat.le_of_ble_eq_true rfl) dX7_crosstalk_16 ⟨Nat.le_of_ble_eq_true rfl, Nat.le_of_ble_eq_true rfl⟩ (fun H locs hP hD hS => ?_)
  exact hend _ _ _ _ _ _ _ _ (Option.some.inj h).symm hP hD hS dX7_crosstalk_19 rfl (Nat.le_of_ble_eq_true rfl) (Nat.le_of_ble_eq_true rfl)
def mX7_records (n : Nat) (S : CS) (x1 : Int32) (x2 : Int32) : Option (Except Nat Int32 × CS) :=
  (bt (mX7_needIndex S x1 (8 : Int32)) fun _ S3 => (bt (mX7_needRange S3 x2 (0 : Int32) (4 : Int32)) fun _ S6 => (bn (mX4_numberAbout n S6 x1 x2) fun r7 => (some (.ok r7, S6)))))
abbrev rmX7_records : Room := { frames := 7, cells := 2, slots := 12, locals := 122 }
theorem hdX7_records : yX7_records.cls = RX7 ∧ yX7_records.cls ≠ "java/lang/invoke/MethodHandle" ∧ yX7_records.cls ≠ "java/lang/invoke/VarHandle" ∧ (parseMethodDescriptor yX7_records.desc).map (fun d => d.parameters.length) = some 2 := by decide +kernel
set_option maxRecDepth 100000 in
set_option maxHeartbeats 8000000 in
theorem ctX7_records (l : Launch) (dC : Nat → ClassId) (dI : Nat → Nat → Nat) (cq : Nat → ClassId) (q : Nat → Nat) (S : CS) (M : MS) (o : Nat → Int64) (sz h0 : Nat) (hfl : l.stackTraces = false) (n : Nat) (x1 : Int32) (x2 : Int32) (rs : Except Nat Int32 × CS) (h : mX7_records n S x1 x2 = some rs) : CtX_i l yX7_records wsX7_records rmX7_records (fun a => h0 ≤ a) (EV h0 q) dC dI cq (wA cq q S M o) sz [.ref (q 0), .int x1, .int x2] (fun S => wA cq q S M o) (fun (r : Int32) (u : CS) => rs = (.ok r, u)) (fun k u => rs = (.error k, u)) 2 12 := by
  refine enX_i (wf := fun S => wA cq q S M o) (cc := cX7_records) (maxL := 3) (by decide) rfl (Nat.le_of_ble_eq_true rfl) (fun p e s m args below meth c A Q ls hQ htab hlocks F hA hP hK hD hDm hX hS hl hend hthr => ?_)
  obtain ⟨hx, hb, hml, hown, hts⟩ := id F
  have hown : s.vm.findClass RX7 = some m.cls := hown
  have F : CallFix p m c cX7_records 3 s args wsX7_records RX7 := F
  have hl : lv_has ls 3 [(0, .ref (q 0)), (1, .int x1), (2, .int x2)] := hl
  have hinX7 : ∀ w ∈ u_ws RX7 TX7 5, w ∈ wsX7_records := fun w h => List.mem_cons_of_mem _ (List.mem_append_left _ (List.mem_append_left _ (List.mem_append_left _ (List.mem_append_right _ h))))
  rw [mX7_records] at h
  refine lv_iload_n hx hb dX7_records_0 rfl (lv_at hl 1 rfl) ?_
  refine lv_bipush (v := (8 : Int32)) hx hb dX7_records_1 (by decide) ?_
  rcases bto h with ⟨r1x, S3, e2, hrs⟩ | ⟨r1, S3, e2, h⟩
  · refine caXS_v (As := [.int x1, .int (8 : Int32)]) (rest := []) (ctX7_needIndex l dC dI cq q S M o _ _ hfl _ _ _ e2) F (va_cwS 2 hts gX7_records_X7_needIndex rfl rfl rfl hdX7_needIndex ⟨Nat.le_of_ble_eq_true rfl, Nat.le_of_ble_eq_true rfl⟩) hK hP hD hDm hS hA EV.blind (fun U hU hW => EV.call hX hS hDm hU hW) rfl hl.1 rfl (Nat.le_of_ble_eq_true rfl) dX7_records_3 ⟨Nat.le_of_ble_eq_true rfl, Nat.le_of_ble_eq_true rfl⟩ (fun H locs k9 u9 E9 ce9 q9 h9 hP hD hS hce hcv hcl hE => ?_) (fun H locs u9 h9 hP hD hS => ?_)
    · cases h9; exact hthr _ _ _ _ _ _ _ _ _ _ _ _ hrs hP hD hS hce hcv hcl hE (Nat.le_of_ble_eq_true rfl) (Nat.le_of_ble_eq_true rfl)
    · cases h9
  refine caXS_v (As := [.int x1, .int (8 : Int32)]) (rest := []) (ctX7_needIndex l dC dI cq q S M o _ _ hfl _ _ _ e2) F (va_cwS 2 hts gX7_records_X7_needIndex rfl rfl rfl hdX7_needIndex ⟨Nat.le_of_ble_eq_true rfl, Nat.le_of_ble_eq_true rfl⟩) hK hP hD hDm hS hA EV.blind (fun U hU hW => EV.call hX hS hDm hU hW) rfl hl.1 rfl (Nat.le_of_ble_eq_true rfl) dX7_records_3 ⟨Nat.le_of_ble_eq_true rfl, Nat.le_of_ble_eq_true rfl⟩ (fun H locs k9 u9 E9 ce9 q9 h9 hP hD hS hce hcv hcl hE => ?_) (fun H locs u9 h9 hP hD hS => ?_)
  · cases h9
  cases h9
  refine lv_iload_n hx hb dX7_records_6 rfl (lv_at hl 2 rfl) ?_
  refine lv_iconst (v := (0 : Int32)) hx hb dX7_records_7 (by decide) ?_
  refine lv_iconst (v := (4 : Int32)) hx hb dX7_records_8 (by decide) ?_
  rcases bto h with ⟨r4x, S6, e5, hrs⟩ | ⟨r4, S6, e5, h⟩
  · refine caXS_v (As := [.int x2, .int (0 : Int32), .int (4 : Int32)]) (rest := []) (ctX7_needRange l dC dI cq q S3 M o _ _ hfl _ _ _ _ e5) F (va_cwS 3 hts gX7_records_X7_needRange rfl rfl rfl hdX7_needRange ⟨Nat.le_of_ble_eq_true rfl, Nat.le_of_ble_eq_true rfl⟩) hK hP hD hDm hS hA EV.blind (fun U hU hW => EV.call hX hS hDm hU hW) rfl hl.1 rfl (Nat.le_of_ble_eq_true rfl) dX7_records_9 ⟨Nat.le_of_ble_eq_true rfl, Nat.le_of_ble_eq_true rfl⟩ (fun H locs k9 u9 E9 ce9 q9 h9 hP hD hS hce hcv hcl hE => ?_) (fun H locs u9 h9 hP hD hS => ?_)
    · cases h9; exact hthr _ _ _ _ _ _ _ _ _ _ _ _ hrs hP hD hS hce hcv hcl hE (Nat.le_of_ble_eq_true rfl) (Nat.le_of_ble_eq_true rfl)
    · cases h9
  refine caXS_v (As := [.int x2, .int (0 : Int32), .int (4 : Int32)]) (rest := []) (ctX7_needRange l dC dI cq q S3 M o _ _ hfl _ _ _ _ e5) F (va_cwS 3 hts gX7_records_X7_needRange rfl rfl rfl hdX7_needRange ⟨Nat.le_of_ble_eq_true rfl, Nat.le_of_ble_eq_true rfl⟩) hK hP hD hDm hS hA EV.blind (fun U hU hW => EV.call hX hS hDm hU hW) rfl hl.1 rfl (Nat.le_of_ble_eq_true rfl) dX7_records_9 ⟨Nat.le_of_ble_eq_true rfl, Nat.le_of_ble_eq_true rfl⟩ (fun H locs k9 u9 E9 ce9 q9 h9 hP hD hS hce hcv hcl hE => ?_) (fun H locs u9 h9 hP hD hS => ?_)
  · cases h9
  cases h9
  refine lv_aload_n hx hb dX7_records_12 rfl (lv_at hl 0 rfl) ?_
  refine va_get (D := (dC, dI)) (ci := 8) (v := .ref (q 18)) (C := RX7) (T := TX7) (N := 5) hx hb hts hinX7 hown hK hP 0 rfl rfl 3 (by decide) (hts (.fieldLink RX7 33 "CableTester" "history" "LCableTester$History;") (mm 1 rfl)) (fun _ h9 => h9) rfl dX7_records_13 ?_
  refine lv_iload_n hx hb dX7_records_16 rfl (lv_at hl 1 rfl) ?_
  refine lv_iload_n hx hb dX7_records_17 rfl (lv_at hl 2 rfl) ?_
  obtain ⟨r7, e8, h⟩ := bo h
  refine caVR_i (As := [.int x1, .int x2]) (rest := []) (ctX4_numberAbout l dC dI cq q S6 M o _ _ _ _ _ _ e8) F (cwV 2 hts gX7_records_X4_numberAbout rfl rfl rfl hdX4_numberAbout ⟨Nat.le_of_ble_eq_true rfl, Nat.le_of_ble_eq_true rfl⟩) hK hP hD hDm hS hA EV.blind (fun U hU hW => EV.call hX hS hDm hU hW) (va_recv hK hP (ci := 5) (q0 := 18) rfl rfl) rfl hl.1 rfl (Nat.le_of_ble_eq_true rfl) dX7_records_18 ⟨Nat.le_of_ble_eq_true rfl, Nat.le_of_ble_eq_true rfl⟩ (fun H locs hP hD hS => ?_)
  exact hend _ _ _ _ _ _ _ _ (Option.some.inj h).symm hP hD hS dX7_records_21 rfl (Nat.le_of_ble_eq_true rfl) (Nat.le_of_ble_eq_true rfl)
def mX7_explain (n : Nat) (S : CS) (x1 : Int32) : Option (Except Nat Int32 × CS) :=
  (bt (mX7_needRange S x1 (0 : Int32) (4 : Int32)) fun _ S3 => (bn (mX7_measure n S3) fun S6 => (bn (mX1_findBest n S6) fun S9 => (bm (mX7_explanationNumber n S9 x1) fun r10 S12 => (some (.ok r10, S12))))))
abbrev rmX7_explain : Room := { frames := 13, cells := 1, slots := 6, locals := 461 }
theorem hdX7_explain : yX7_explain.cls = RX7 ∧ yX7_explain.cls ≠ "java/lang/invoke/MethodHandle" ∧ yX7_explain.cls ≠ "java/lang/invoke/VarHandle" ∧ (parseMethodDescriptor yX7_explain.desc).map (fun d => d.parameters.length) = some 1 := by decide +kernel
set_option maxRecDepth 100000 in
set_option maxHeartbeats 8000000 in
theorem ctX7_explain (l : Launch) (dC : Nat → ClassId) (dI : Nat → Nat → Nat) (cq : Nat → ClassId) (q : Nat → Nat) (S : CS) (M : MS) (o : Nat → Int64) (sz h0 : Nat) (hfl : l.stackTraces = false) (n : Nat) (x1 : Int32) (rs : Except Nat Int32 × CS) (h : mX7_explain n S x1 = some rs) : CtX_i l yX7_explain wsX7_explain rmX7_explain (fun a => h0 ≤ a) (EV h0 q) dC dI cq (wA cq q S M o) sz [.ref (q 0), .int x1] (fun S => wA cq q S M o) (fun (r : Int32) (u : CS) => rs = (.ok r, u)) (fun k u => rs = (.error k, u)) 1 6 := by
  refine enX_i (wf := fun S => wA cq q S M o) (cc := cX7_explain) (maxL := 2) (by decide) rfl (Nat.le_of_ble_eq_true rfl) (fun p e s m args below meth c A Q ls hQ htab hlocks F hA hP hK hD hDm hX hS hl hend hthr => ?_)
  obtain ⟨hx, hb, hml, hown, hts⟩ := id F
  have hown : s.vm.findClass RX7 = some m.cls := hown
  have F : CallFix p m c cX7_explain 2 s args wsX7_explain RX7 := F
  have hl : lv_has ls 2 [(0, .ref (q 0)), (1, .int x1)] := hl
  have hinX7 : ∀ w ∈ u_ws RX7 TX7 5, w ∈ wsX7_explain := fun w h => List.mem_cons_of_mem _ (List.mem_append_left _ (List.mem_append_left _ (List.mem_append_left _ (List.mem_append_left _ (List.mem_append_left _ (List.mem_append_left _ (List.mem_append_left _ (List.mem_append_right _ h))))))))
  rw [mX7_explain] at h
  refine lv_iload_n hx hb dX7_explain_0 rfl (lv_at hl 1 rfl) ?_
  refine lv_iconst (v := (0 : Int32)) hx hb dX7_explain_1 (by decide) ?_
  refine lv_iconst (v := (4 : Int32)) hx hb dX7_explain_2 (by decide) ?_
  rcases bto h with ⟨r1x, S3, e2, hrs⟩ | ⟨r1, S3, e2, h⟩
  · refine caXS_v (As := [.int x1, .int (0 : Int32), .int (4 : Int32)]) (rest := []) (ctX7_needRange l dC dI cq q S M o _ _ hfl _ _ _ _ e2) F (va_cwS 3 hts gX7_explain_X7_needRange rfl rfl rfl hdX7_needRange ⟨Nat.le_of_ble_eq_true rfl, Nat.le_of_ble_eq_true rfl⟩) hK hP hD hDm hS hA EV.blind (fun U hU hW => EV.call hX hS hDm hU hW) rfl hl.1 rfl (Nat.le_of_ble_eq_true rfl) dX7_explain_3 ⟨Nat.le_of_ble_eq_true rfl, Nat.le_of_ble_eq_true rfl⟩ (fun H locs k9 u9 E9 ce9 q9 h9 hP hD hS hce hcv hcl hE => ?_) (fun H locs u9 h9 hP hD hS => ?_)
    · cases h9; exact hthr _ _ _ _ _ _ _ _ _ _ _ _ hrs hP hD hS hce hcv hcl hE (Nat.le_of_ble_eq_true rfl) (Nat.le_of_ble_eq_true rfl)
    · cases h9
  refine caXS_v (As := [.int x1, .int (0 : Int32), .int (4 : Int32)]) (rest := []) (ctX7_needRange l dC dI cq q S M o _ _ hfl _ _ _ _ e2) F (va_cwS 3 hts gX7_explain_X7_needRange rfl rfl rfl hdX7_needRange ⟨Nat.le_of_ble_eq_true rfl, Nat.le_of_ble_eq_true rfl⟩) hK hP hD hDm hS hA EV.blind (fun U hU hW => EV.call hX hS hDm hU hW) rfl hl.1 rfl (Nat.le_of_ble_eq_true rfl) dX7_explain_3 ⟨Nat.le_of_ble_eq_true rfl, Nat.le_of_ble_eq_true rfl⟩ (fun H locs k9 u9 E9 ce9 q9 h9 hP hD hS hce hcv hcl hE => ?_) (fun H locs u9 h9 hP hD hS => ?_)
  · cases h9
  cases h9
  refine lv_aload_n hx hb dX7_explain_6 rfl (lv_at hl 0 rfl) ?_
  obtain ⟨S6, e5, h⟩ := bo h
  refine caVC_v (As := []) (rest := []) (ctX7_measure l dC dI cq q S3 M o _ _ _ _ e5) F (cwV 0 hts gX7_explain_X7_measure rfl rfl rfl hdX7_measure ⟨Nat.le_of_ble_eq_true rfl, Nat.le_of_ble_eq_true rfl⟩) hK hP hD hDm hS hA EV.blind (fun U hU hW => EV.call hX hS hDm hU hW) (va_recv hK hP (ci := 8) (q0 := 0) rfl rfl) rfl hl.1 rfl (Nat.le_of_ble_eq_true rfl) dX7_explain_7 ⟨Nat.le_of_ble_eq_true rfl, Nat.le_of_ble_eq_true rfl⟩ (fun H locs hP hD hS => ?_)
  refine lv_aload_n hx hb dX7_explain_10 rfl (lv_at hl 0 rfl) ?_
  refine va_get (D := (dC, dI)) (ci := 8) (v := .ref (q 13)) (C := RX7) (T := TX7) (N := 5) hx hb hts hinX7 hown hK hP 0 rfl rfl 2 (by decide) (hts (.fieldLink RX7 26 "CableTester" "explainer" "LCableTester$Explainer;") (mm 1 rfl)) (fun _ h9 => h9) rfl dX7_explain_11 ?_
  refine lv_aload_n hx hb dX7_explain_14 rfl (lv_at hl 0 rfl) ?_
  refine va_get (D := (dC, dI)) (ci := 8) (v := .ref (q 6)) (C := RX7) (T := TX7) (N := 5) hx hb hts hinX7 hown hK hP 0 rfl rfl 1 (by decide) (hts (.fieldLink RX7 19 "CableTester" "nets" "LCableTester$Nets;") (mm 2 rfl)) (fun _ h9 => h9) rfl dX7_explain_15 ?_
  obtain ⟨S9, e8, h⟩ := bo h
  refine caVC_v (As := [.ref (q 6)]) (rest := []) (ctX1_findBest l dC dI cq q S6 M o _ _ _ _ e8) F (cwV 1 hts gX7_explain_X1_findBest rfl rfl rfl hdX1_findBest ⟨Nat.le_of_ble_eq_true rfl, Nat.le_of_ble_eq_true rfl⟩) hK hP hD hDm hS hA EV.blind (fun U hU hW => EV.call hX hS hDm hU hW) (va_recv hK hP (ci := 2) (q0 := 13) rfl rfl) rfl hl.1 rfl (Nat.le_of_ble_eq_true rfl) dX7_explain_18 ⟨Nat.le_of_ble_eq_true rfl, Nat.le_of_ble_eq_true rfl⟩ (fun H locs hP hD hS => ?_)
  refine lv_aload_n hx hb dX7_explain_21 rfl (lv_at hl 0 rfl) ?_
  refine lv_iload_n hx hb dX7_explain_22 rfl (lv_at hl 1 rfl) ?_
  obtain ⟨r10, S12, e11, h⟩ := bp h
  refine caVC_i (As := [.int x1]) (rest := []) (ctX7_explanationNumber l dC dI cq q S9 M o _ _ _ _ _ _ e11) F (cwV 1 hts gX7_explain_X7_explanationNumber rfl rfl rfl hdX7_explanationNumber ⟨Nat.le_of_ble_eq_true rfl, Nat.le_of_ble_eq_true rfl⟩) hK hP hD hDm hS hA EV.blind (fun U hU hW => EV.call hX hS hDm hU hW) (va_recv hK hP (ci := 8) (q0 := 0) rfl rfl) rfl hl.1 rfl (Nat.le_of_ble_eq_true rfl) dX7_explain_23 ⟨Nat.le_of_ble_eq_true rfl, Nat.le_of_ble_eq_true rfl⟩ (fun H locs hP hD hS => ?_)
  exact hend _ _ _ _ _ _ _ _ (Option.some.inj h).symm hP hD hS dX7_explain_26 rfl (Nat.le_of_ble_eq_true rfl) (Nat.le_of_ble_eq_true rfl)
def mX7_explained (n : Nat) (S : CS) (x1 : Int32) : Option (Except Nat Int32 × CS) :=
  (bt (mX7_needIndex S x1 (8 : Int32)) fun _ S3 => (bn (mX7_measure n S3) fun S6 => (bn (mX1_findBest n S6) fun S9 => (bn (mX1_farPinFor S9 x1) fun r10 => (some (.ok r10, S9))))))
abbrev rmX7_explained : Room := { frames := 13, cells := 1, slots := 6, locals := 461 }
theorem hdX7_explained : yX7_explained.cls = RX7 ∧ yX7_explained.cls ≠ "java/lang/invoke/MethodHandle" ∧ yX7_explained.cls ≠ "java/lang/invoke/VarHandle" ∧ (parseMethodDescriptor yX7_explained.desc).map (fun d => d.parameters.length) = some 1 := by decide +kernel
set_option maxRecDepth 100000 in
set_option maxHeartbeats 8000000 in
theorem ctX7_explained (l : Launch) (dC : Nat → ClassId) (dI : Nat → Nat → Nat) (cq : Nat → ClassId) (q : Nat → Nat) (S : CS) (M : MS) (o : Nat → Int64) (sz h0 : Nat) (hfl : l.stackTraces = false) (n : Nat) (x1 : Int32) (rs : Except Nat Int32 × CS) (h : mX7_explained n S x1 = some rs) : CtX_i l yX7_explained wsX7_explained rmX7_explained (fun a => h0 ≤ a) (EV h0 q) dC dI cq (wA cq q S M o) sz [.ref (q 0), .int x1] (fun S => wA cq q S M o) (fun (r : Int32) (u : CS) => rs = (.ok r, u)) (fun k u => rs = (.error k, u)) 1 6 := by
  refine enX_i (wf := fun S => wA cq q S M o) (cc := cX7_explained) (maxL := 2) (by decide) rfl (Nat.le_of_ble_eq_true rfl) (fun p e s m args below meth c A Q ls hQ htab hlocks F hA hP hK hD hDm hX hS hl hend hthr => ?_)
  obtain ⟨hx, hb, hml, hown, hts⟩ := id F
  have hown : s.vm.findClass RX7 = some m.cls := hown
  have F : CallFix p m c cX7_explained 2 s args wsX7_explained RX7 := F
  have hl : lv_has ls 2 [(0, .ref (q 0)), (1, .int x1)] := hl
  have hinX7 : ∀ w ∈ u_ws RX7 TX7 5, w ∈ wsX7_explained := fun w h => List.mem_cons_of_mem _ (List.mem_append_left _ (List.mem_append_left _ (List.mem_append_left _ (List.mem_append_left _ (List.mem_append_left _ (List.mem_append_left _ (List.mem_append_left _ (List.mem_append_right _ h))))))))
  rw [mX7_explained] at h
  refine lv_iload_n hx hb dX7_explained_0 rfl (lv_at hl 1 rfl) ?_
  refine lv_bipush (v := (8 : Int32)) hx hb dX7_explained_1 (by decide) ?_
  rcases bto h with ⟨r1x, S3, e2, hrs⟩ | ⟨r1, S3, e2, h⟩
  · refine caXS_v (As := [.int x1, .int (8 : Int32)]) (rest := []) (ctX7_needIndex l dC dI cq q S M o _ _ hfl _ _ _ e2) F (va_cwS 2 hts gX7_explained_X7_needIndex rfl rfl rfl hdX7_needIndex ⟨Nat.le_of_ble_eq_true rfl, Nat.le_of_ble_eq_true rfl⟩) hK hP hD hDm hS hA EV.blind (fun U hU hW => EV.call hX hS hDm hU hW) rfl hl.1 rfl (Nat.le_of_ble_eq_true rfl) dX7_explained_3 ⟨Nat.le_of_ble_eq_true rfl, Nat.le_of_ble_eq_true rfl⟩ (fun H locs k9 u9 E9 ce9 q9 h9 hP hD hS hce hcv hcl hE => ?_) (fun H locs u9 h9 hP hD hS => ?_)
    · cases h9; exact hthr _ _ _ _ _ _ _ _ _ _ _ _ hrs hP hD hS hce hcv hcl hE (Nat.le_of_ble_eq_true rfl) (Nat.le_of_ble_eq_true rfl)
    · cases h9
  refine caXS_v (As := [.int x1, .int (8 : Int32)]) (rest := []) (ctX7_needIndex l dC dI cq q S M o _ _ hfl _ _ _ e2) F (va_cwS 2 hts gX7_explained_X7_needIndex rfl rfl rfl hdX7_needIndex ⟨Nat.le_of_ble_eq_true rfl, Nat.le_of_ble_eq_true rfl⟩) hK hP hD hDm hS hA EV.blind (fun U hU hW => EV.call hX hS hDm hU hW) rfl hl.1 rfl (Nat.le_of_ble_eq_true rfl) dX7_explained_3 ⟨Nat.le_of_ble_eq_true rfl, Nat.le_of_ble_eq_true rfl⟩ (fun H locs k9 u9 E9 ce9 q9 h9 hP hD hS hce hcv hcl hE => ?_) (fun H locs u9 h9 hP hD hS => ?_)
  · cases h9
  cases h9
  refine lv_aload_n hx hb dX7_explained_6 rfl (lv_at hl 0 rfl) ?_
  obtain ⟨S6, e5, h⟩ := bo h
  refine caVC_v (As := []) (rest := []) (ctX7_measure l dC dI cq q S3 M o _ _ _ _ e5) F (cwV 0 hts gX7_explained_X7_measure rfl rfl rfl hdX7_measure ⟨Nat.le_of_ble_eq_true rfl, Nat.le_of_ble_eq_true rfl⟩) hK hP hD hDm hS hA EV.blind (fun U hU hW => EV.call hX hS hDm hU hW) (va_recv hK hP (ci := 8) (q0 := 0) rfl rfl) rfl hl.1 rfl (Nat.le_of_ble_eq_true rfl) dX7_explained_7 ⟨Nat.le_of_ble_eq_true rfl, Nat.le_of_ble_eq_true rfl⟩ (fun H locs hP hD hS => ?_)
  refine lv_aload_n hx hb dX7_explained_10 rfl (lv_at hl 0 rfl) ?_
  refine va_get (D := (dC, dI)) (ci := 8) (v := .ref (q 13)) (C := RX7) (T := TX7) (N := 5) hx hb hts hinX7 hown hK hP 0 rfl rfl 2 (by decide) (hts (.fieldLink RX7 26 "CableTester" "explainer" "LCableTester$Explainer;") (mm 1 rfl)) (fun _ h9 => h9) rfl dX7_explained_11 ?_
  refine lv_aload_n hx hb dX7_explained_14 rfl (lv_at hl 0 rfl) ?_
  refine va_get (D := (dC, dI)) (ci := 8) (v := .ref (q 6)) (C := RX7) (T := TX7) (N := 5) hx hb hts hinX7 hown hK hP 0 rfl rfl 1 (by decide) (hts (.fieldLink RX7 19 "CableTester" "nets" "LCableTester$Nets;") (mm 2 rfl)) (fun _ h9 => h9) rfl dX7_explained_15 ?_
  obtain ⟨S9, e8, h⟩ := bo h
  refine caVC_v (As := [.ref (q 6)]) (rest := []) (ctX1_findBest l dC dI cq q S6 M o _ _ _ _ e8) F (cwV 1 hts gX7_explained_X1_findBest rfl rfl rfl hdX1_findBest ⟨Nat.le_of_ble_eq_true rfl, Nat.le_of_ble_eq_true rfl⟩) hK hP hD hDm hS hA EV.blind (fun U hU hW => EV.call hX hS hDm hU hW) (va_recv hK hP (ci := 2) (q0 := 13) rfl rfl) rfl hl.1 rfl (Nat.le_of_ble_eq_true rfl) dX7_explained_18 ⟨Nat.le_of_ble_eq_true rfl, Nat.le_of_ble_eq_true rfl⟩ (fun H locs hP hD hS => ?_)
  refine lv_aload_n hx hb dX7_explained_21 rfl (lv_at hl 0 rfl) ?_
  refine va_get (D := (dC, dI)) (ci := 8) (v := .ref (q 13)) (C := RX7) (T := TX7) (N := 5) hx hb hts hinX7 hown hK hP 0 rfl rfl 2 (by decide) (hts (.fieldLink RX7 26 "CableTester" "explainer" "LCableTester$Explainer;") (mm 1 rfl)) (fun _ h9 => h9) rfl dX7_explained_22 ?_
  refine lv_iload_n hx hb dX7_explained_25 rfl (lv_at hl 1 rfl) ?_
  obtain ⟨r10, e11, h⟩ := bo h
  refine caVR_i (As := [.int x1]) (rest := []) (ctX1_farPinFor l dC dI cq q S9 M o _ _ _ _ e11) F (cwV 1 hts gX7_explained_X1_farPinFor rfl rfl rfl hdX1_farPinFor ⟨Nat.le_of_ble_eq_true rfl, Nat.le_of_ble_eq_true rfl⟩) hK hP hD hDm hS hA EV.blind (fun U hU hW => EV.call hX hS hDm hU hW) (va_recv hK hP (ci := 2) (q0 := 13) rfl rfl) rfl hl.1 rfl (Nat.le_of_ble_eq_true rfl) dX7_explained_26 ⟨Nat.le_of_ble_eq_true rfl, Nat.le_of_ble_eq_true rfl⟩ (fun H locs hP hD hS => ?_)
  exact hend _ _ _ _ _ _ _ _ (Option.some.inj h).symm hP hD hS dX7_explained_29 rfl (Nat.le_of_ble_eq_true rfl) (Nat.le_of_ble_eq_true rfl)
def mX7_count (n : Nat) (S : CS) (x1 : Int32) : Option (Except Nat Int32 × CS) :=
  (bt (mX7_needRange S x1 (0 : Int32) (8 : Int32)) fun _ S3 => (bn (mX7_measure n S3) fun S6 => (bn (mX7_numberOf n S6 x1) fun r7 => (some (.ok r7, S6)))))
abbrev rmX7_count : Room := { frames := 7, cells := 1, slots := 6, locals := 130 }
theorem hdX7_count : yX7_count.cls = RX7 ∧ yX7_count.cls ≠ "java/lang/invoke/MethodHandle" ∧ yX7_count.cls ≠ "java/lang/invoke/VarHandle" ∧ (parseMethodDescriptor yX7_count.desc).map (fun d => d.parameters.length) = some 1 := by decide +kernel
set_option maxRecDepth 100000 in
set_option maxHeartbeats 8000000 in
theorem ctX7_count (l : Launch) (dC : Nat → ClassId) (dI : Nat → Nat → Nat) (cq : Nat → ClassId) (q : Nat → Nat) (S : CS) (M : MS) (o : Nat → Int64) (sz h0 : Nat) (hfl : l.stackTraces = false) (n : Nat) (x1 : Int32) (rs : Except Nat Int32 × CS) (h : mX7_count n S x1 = some rs) : CtX_i l yX7_count wsX7_count rmX7_count (fun a => h0 ≤ a) (EV h0 q) dC dI cq (wA cq q S M o) sz [.ref (q 0), .int x1] (fun S => wA cq q S M o) (fun (r : Int32) (u : CS) => rs = (.ok r, u)) (fun k u => rs = (.error k, u)) 1 6 := by
  refine enX_i (wf := fun S => wA cq q S M o) (cc := cX7_count) (maxL := 2) (by decide) rfl (Nat.le_of_ble_eq_true rfl) (fun p e s m args below meth c A Q ls hQ htab hlocks F hA hP hK hD hDm hX hS hl hend hthr => ?_)
  obtain ⟨hx, hb, hml, hown, hts⟩ := id F
  have hown : s.vm.findClass RX7 = some m.cls := hown
  have F : CallFix p m c cX7_count 2 s args wsX7_count RX7 := F
  have hl : lv_has ls 2 [(0, .ref (q 0)), (1, .int x1)] := hl
  rw [mX7_count] at h
  refine lv_iload_n hx hb dX7_count_0 rfl (lv_at hl 1 rfl) ?_
  refine lv_iconst (v := (0 : Int32)) hx hb dX7_count_1 (by decide) ?_
  refine lv_bipush (v := (8 : Int32)) hx hb dX7_count_2 (by decide) ?_
  rcases bto h with ⟨r1x, S3, e2, hrs⟩ | ⟨r1, S3, e2, h⟩
  · refine caXS_v (As := [.int x1, .int (0 : Int32), .int (8 : Int32)]) (rest := []) (ctX7_needRange l dC dI cq q S M o _ _ hfl _ _ _ _ e2) F (va_cwS 3 hts gX7_count_X7_needRange rfl rfl rfl hdX7_needRange ⟨Nat.le_of_ble_eq_true rfl, Nat.le_of_ble_eq_true rfl⟩) hK hP hD hDm hS hA EV.blind (fun U hU hW => EV.call hX hS hDm hU hW) rfl hl.1 rfl (Nat.le_of_ble_eq_true rfl) dX7_count_4 ⟨Nat.le_of_ble_eq_true rfl, Nat.le_of_ble_eq_true rfl⟩ (fun H locs k9 u9 E9 ce9 q9 h9 hP hD hS hce hcv hcl hE => ?_) (fun H locs u9 h9 hP hD hS => ?_)
    · cases h9; exact hthr _ _ _ _ _ _ _ _ _ _ _ _ hrs hP hD hS hce hcv hcl hE (Nat.le_of_ble_eq_true rfl) (Nat.le_of_ble_eq_true rfl)
    · cases h9
  refine caXS_v (As := [.int x1, .int (0 : Int32), .int (8 : Int32)]) (rest := []) (ctX7_needRange l dC dI cq q S M o _ _ hfl _ _ _ _ e2) F (va_cwS 3 hts gX7_count_X7_needRange rfl rfl rfl hdX7_needRange ⟨Nat.le_of_ble_eq_true rfl, Nat.le_of_ble_eq_true rfl⟩) hK hP hD hDm hS hA EV.blind (fun U hU hW => EV.call hX hS hDm hU hW) rfl hl.1 rfl (Nat.le_of_ble_eq_true rfl) dX7_count_4 ⟨Nat.le_of_ble_eq_true rfl, Nat.le_of_ble_eq_true rfl⟩ (fun H locs k9 u9 E9 ce9 q9 h9 hP hD hS hce hcv hcl hE => ?_) (fun H locs u9 h9 hP hD hS => ?_)
  · cases h9
  cases h9
  refine lv_aload_n hx hb dX7_count_7 rfl (lv_at hl 0 rfl) ?_
  obtain ⟨S6, e5, h⟩ := bo h
  refine caVC_v (As := []) (rest := []) (ctX7_measure l dC dI cq q S3 M o _ _ _ _ e5) F (cwV 0 hts gX7_count_X7_measure rfl rfl rfl hdX7_measure ⟨Nat.le_of_ble_eq_true rfl, Nat.le_of_ble_eq_true rfl⟩) hK hP hD hDm hS hA EV.blind (fun U hU hW => EV.call hX hS hDm hU hW) (va_recv hK hP (ci := 8) (q0 := 0) rfl rfl) rfl hl.1 rfl (Nat.le_of_ble_eq_true rfl) dX7_count_8 ⟨Nat.le_of_ble_eq_true rfl, Nat.le_of_ble_eq_true rfl⟩ (fun H locs hP hD hS => ?_)
  refine lv_aload_n hx hb dX7_count_11 rfl (lv_at hl 0 rfl) ?_
  refine lv_iload_n hx hb dX7_count_12 rfl (lv_at hl 1 rfl) ?_
  obtain ⟨r7, e8, h⟩ := bo h
  refine caVR_i (As := [.int x1]) (rest := []) (ctX7_numberOf l dC dI cq q S6 M o _ _ _ _ _ e8) F (cwV 1 hts gX7_count_X7_numberOf rfl rfl rfl hdX7_numberOf ⟨Nat.le_of_ble_eq_true rfl, Nat.le_of_ble_eq_true rfl⟩) hK hP hD hDm hS hA EV.blind (fun U hU hW => EV.call hX hS hDm hU hW) (va_recv hK hP (ci := 8) (q0 := 0) rfl rfl) rfl hl.1 rfl (Nat.le_of_ble_eq_true rfl) dX7_count_13 ⟨Nat.le_of_ble_eq_true rfl, Nat.le_of_ble_eq_true rfl⟩ (fun H locs hP hD hS => ?_)
  exact hend _ _ _ _ _ _ _ _ (Option.some.inj h).symm hP hD hS dX7_count_16 rfl (Nat.le_of_ble_eq_true rfl) (Nat.le_of_ble_eq_true rfl)
def mX7_fault (S : CS) (x1 : Int32) (x2 : Int32) : Option (Except Nat Int32 × CS) :=
  (bn (mJx4a65c_size_8abf5 S) fun r1 => (bt (mX7_needIndex S x1 r1) fun _ S5 => (bt (mX7_needRange S5 x2 (0 : Int32) (6 : Int32)) fun _ S8 => (bn (mJx4a65c_get_915e3 S8 x1) fun r9 => (bn (mX2_property r9 x2 (S8.1 3)) fun r13 => (some (.ok r13, S8)))))))
abbrev rmX7_fault : Room := { frames := 7, cells := 2, slots := 12, locals := 122 }
theorem hdX7_fault : yX7_fault.cls = RX7 ∧ yX7_fault.cls ≠ "java/lang/invoke/MethodHandle" ∧ yX7_fault.cls ≠ "java/lang/invoke/VarHandle" ∧ (parseMethodDescriptor yX7_fault.desc).map (fun d => d.parameters.length) = some 2 := by decide +kernel
set_option maxRecDepth 100000 in
set_option maxHeartbeats 8000000 in
theorem ctX7_fault (l : Launch) (dC : Nat → ClassId) (dI : Nat → Nat → Nat) (cq : Nat → ClassId) (q : Nat → Nat) (S : CS) (M : MS) (o : Nat → Int64) (sz h0 : Nat) (hfl : l.stackTraces = false) (x1 : Int32) (x2 : Int32) (rs : Except Nat Int32 × CS) (h : mX7_fault S x1 x2 = some rs) : CtX_i l yX7_fault wsX7_fault rmX7_fault (fun a => h0 ≤ a) (EV h0 q) dC dI cq (wA cq q S M o) sz [.ref (q 0), .int x1, .int x2] (fun S => wA cq q S M o) (fun (r : Int32) (u : CS) => rs = (.ok r, u)) (fun k u => rs = (.error k, u)) 2 12 := by
  refine enX_i (wf := fun S => wA cq q S M o) (cc := cX7_fault) (maxL := 3) (by decide) rfl (Nat.le_of_ble_eq_true rfl) (fun p e s m args below meth c A Q ls hQ htab hlocks F hA hP hK hD hDm hX hS hl hend hthr => ?_)
  obtain ⟨hx, hb, hml, hown, hts⟩ := id F
  have hown : s.vm.findClass RX7 = some m.cls := hown
  have F : CallFix p m c cX7_fault 3 s args wsX7_fault RX7 := F
  have hl : lv_has ls 3 [(0, .ref (q 0)), (1, .int x1), (2, .int x2)] := hl
  have hinX0 : ∀ w ∈ u_ws RX0 TX0 7, w ∈ wsX7_fault := fun w h => List.mem_cons_of_mem _ (List.mem_append_left _ (List.mem_append_left _ (List.mem_append_left _ (List.mem_append_left _ (List.mem_append_right _ h)))))
  have hinX7 : ∀ w ∈ u_ws RX7 TX7 5, w ∈ wsX7_fault := fun w h => List.mem_cons_of_mem _ (List.mem_append_left _ (List.mem_append_left _ (List.mem_append_left _ (List.mem_append_left _ (List.mem_append_left _ (List.mem_append_right _ h))))))
  rw [mX7_fault] at h
  refine lv_iload_n hx hb dX7_fault_0 rfl (lv_at hl 1 rfl) ?_
  refine lv_aload_n hx hb dX7_fault_1 rfl (lv_at hl 0 rfl) ?_
  refine va_get (D := (dC, dI)) (ci := 8) (v := .ref (q 1)) (C := RX7) (T := TX7) (N := 5) hx hb hts hinX7 hown hK hP 0 rfl rfl 0 (by decide) (hts (.fieldLink RX7 10 "CableTester" "cable" "LCableTester$Cable;") (mm 1 rfl)) (fun _ h9 => h9) rfl dX7_fault_2 ?_
  refine va_getN (D := (dC, dI)) (ci := 1) (v := .ref (q 3)) (C := RX0) (T := TX0) (N := 7) hx hb hts hinX0 hown hK hP 1 rfl rfl 5 (by decide) (va_Nw.use rfl hX.1.2.2.2.2.2.2.1) (fun _ h9 => h9) rfl dX7_fault_5 ?_
  obtain ⟨r1, e2, h⟩ := bo h
  refine caVR_i (As := []) (rest := [.int x1]) (ctJx4a65c_size_8abf5 l dC dI cq q S M o _ _ _ e2) F (cwV 0 hts gX7_fault_Jx4a65c_size_8abf5 rfl rfl rfl hdJx4a65c_size_8abf5 ⟨Nat.le_of_ble_eq_true rfl, Nat.le_of_ble_eq_true rfl⟩) hK hP hD hDm hS hA EV.blind (fun U hU hW => EV.call hX hS hDm hU hW) (va_recv hK hP (ci := 0) (q0 := 3) rfl rfl) rfl hl.1 rfl (Nat.le_of_ble_eq_true rfl) dX7_fault_8 ⟨Nat.le_of_ble_eq_true rfl, Nat.le_of_ble_eq_true rfl⟩ (fun H locs hP hD hS => ?_)
  rcases bto h with ⟨r3x, S5, e4, hrs⟩ | ⟨r3, S5, e4, h⟩
  · refine caXS_v (As := [.int x1, .int r1]) (rest := []) (ctX7_needIndex l dC dI cq q S M o _ _ hfl _ _ _ e4) F (va_cwS 2 hts gX7_fault_X7_needIndex rfl rfl rfl hdX7_needIndex ⟨Nat.le_of_ble_eq_true rfl, Nat.le_of_ble_eq_true rfl⟩) hK hP hD hDm hS hA EV.blind (fun U hU hW => EV.call hX hS hDm hU hW) rfl hl.1 rfl (Nat.le_of_ble_eq_true rfl) dX7_fault_11 ⟨Nat.le_of_ble_eq_true rfl, Nat.le_of_ble_eq_true rfl⟩ (fun H locs k9 u9 E9 ce9 q9 h9 hP hD hS hce hcv hcl hE => ?_) (fun H locs u9 h9 hP hD hS => ?_)
    · cases h9; exact hthr _ _ _ _ _ _ _ _ _ _ _ _ hrs hP hD hS hce hcv hcl hE (Nat.le_of_ble_eq_true rfl) (Nat.le_of_ble_eq_true rfl)
    · cases h9
  refine caXS_v (As := [.int x1, .int r1]) (rest := []) (ctX7_needIndex l dC dI cq q S M o _ _ hfl _ _ _ e4) F (va_cwS 2 hts gX7_fault_X7_needIndex rfl rfl rfl hdX7_needIndex ⟨Nat.le_of_ble_eq_true rfl, Nat.le_of_ble_eq_true rfl⟩) hK hP hD hDm hS hA EV.blind (fun U hU hW => EV.call hX hS hDm hU hW) rfl hl.1 rfl (Nat.le_of_ble_eq_true rfl) dX7_fault_11 ⟨Nat.le_of_ble_eq_true rfl, Nat.le_of_ble_eq_true rfl⟩ (fun H locs k9 u9 E9 ce9 q9 h9 hP hD hS hce hcv hcl hE => ?_) (fun H locs u9 h9 hP hD hS => ?_)
  · cases h9
  cases h9
  refine lv_iload_n hx hb dX7_fault_14 rfl (lv_at hl 2 rfl) ?_
  refine lv_iconst (v := (0 : Int32)) hx hb dX7_fault_15 (by decide) ?_
  refine lv_bipush (v := (6 : Int32)) hx hb dX7_fault_16 (by decide) ?_
  rcases bto h with ⟨r6x, S8, e7, hrs⟩ | ⟨r6, S8, e7, h⟩
  · refine caXS_v (As := [.int x2, .int (0 : Int32), .int (6 : Int32)]) (rest := []) (ctX7_needRange l dC dI cq q S5 M o _ _ hfl _ _ _ _ e7) F (va_cwS 3 hts gX7_fault_X7_needRange rfl rfl rfl hdX7_needRange ⟨Nat.le_of_ble_eq_true rfl, Nat.le_of_ble_eq_true rfl⟩) hK hP hD hDm hS hA EV.blind (fun U hU hW => EV.call hX hS hDm hU hW) rfl hl.1 rfl (Nat.le_of_ble_eq_true rfl) dX7_fault_18 ⟨Nat.le_of_ble_eq_true rfl, Nat.le_of_ble_eq_true rfl⟩ (fun H locs k9 u9 E9 ce9 q9 h9 hP hD hS hce hcv hcl hE => ?_) (fun H locs u9 h9 hP hD hS => ?_)
    · cases h9; exact hthr _ _ _ _ _ _ _ _ _ _ _ _ hrs hP hD hS hce hcv hcl hE (Nat.le_of_ble_eq_true rfl) (Nat.le_of_ble_eq_true rfl)
    · cases h9
  refine caXS_v (As := [.int x2, .int (0 : Int32), .int (6 : Int32)]) (rest := []) (ctX7_needRange l dC dI cq q S5 M o _ _ hfl _ _ _ _ e7) F (va_cwS 3 hts gX7_fault_X7_needRange rfl rfl rfl hdX7_needRange ⟨Nat.le_of_ble_eq_true rfl, Nat.le_of_ble_eq_true rfl⟩) hK hP hD hDm hS hA EV.blind (fun U hU hW => EV.call hX hS hDm hU hW) rfl hl.1 rfl (Nat.le_of_ble_eq_true rfl) dX7_fault_18 ⟨Nat.le_of_ble_eq_true rfl, Nat.le_of_ble_eq_true rfl⟩ (fun H locs k9 u9 E9 ce9 q9 h9 hP hD hS hce hcv hcl hE => ?_) (fun H locs u9 h9 hP hD hS => ?_)
  · cases h9
  cases h9
  refine lv_aload_n hx hb dX7_fault_21 rfl (lv_at hl 0 rfl) ?_
  refine va_get (D := (dC, dI)) (ci := 8) (v := .ref (q 1)) (C := RX7) (T := TX7) (N := 5) hx hb hts hinX7 hown hK hP 0 rfl rfl 0 (by decide) (hts (.fieldLink RX7 10 "CableTester" "cable" "LCableTester$Cable;") (mm 1 rfl)) (fun _ h9 => h9) rfl dX7_fault_22 ?_
  refine va_getN (D := (dC, dI)) (ci := 1) (v := .ref (q 3)) (C := RX0) (T := TX0) (N := 7) hx hb hts hinX0 hown hK hP 1 rfl rfl 5 (by decide) (va_Nw.use rfl hX.1.2.2.2.2.2.2.1) (fun _ h9 => h9) rfl dX7_fault_25 ?_
  refine lv_iload_n hx hb dX7_fault_28 rfl (lv_at hl 1 rfl) ?_
  obtain ⟨r9, e10, h⟩ := bo h
  refine caVR_r (As := [.int x1]) (rest := []) (ctJx4a65c_get_915e3 l dC dI cq q S8 M o _ _ _ _ e10) F (cwV 1 hts gX7_fault_Jx4a65c_get_915e3 rfl rfl rfl hdJx4a65c_get_915e3 ⟨Nat.le_of_ble_eq_true rfl, Nat.le_of_ble_eq_true rfl⟩) hK hP hD hDm hS hA EV.blind (fun U hU hW => EV.call hX hS hDm hU hW) (va_recv hK hP (ci := 0) (q0 := 3) rfl rfl) rfl hl.1 rfl (Nat.le_of_ble_eq_true rfl) dX7_fault_29 ⟨Nat.le_of_ble_eq_true rfl, Nat.le_of_ble_eq_true rfl⟩ (fun H locs hP hD hS => ?_)
  have hw11 := mJx4a65c_get_915e3_mem e10
  obtain ⟨kw12, hkw12⟩ := wA_w (cq := cq) (q := q) (S := S8) (M := M) (o := o) hw11
  refine va_castS (nm := RX2) hx hb hown (hts (.classLink RX7 82 "CableTester$Fault") (mm 2 rfl)) (hK.1 3 _ rfl).2 (va_recv hK hP (ci := 3) (q0 := kw12) rfl hkw12) dX7_fault_32 ?_
  refine lv_iload_n hx hb dX7_fault_35 rfl (lv_at hl 2 rfl) ?_
  refine lv_aload_n hx hb dX7_fault_36 rfl (lv_at hl 0 rfl) ?_
  refine va_get (D := (dC, dI)) (ci := 8) (v := .ref (q 1)) (C := RX7) (T := TX7) (N := 5) hx hb hts hinX7 hown hK hP 0 rfl rfl 0 (by decide) (hts (.fieldLink RX7 10 "CableTester" "cable" "LCableTester$Cable;") (mm 1 rfl)) (fun _ h9 => h9) rfl dX7_fault_37 ?_
  refine va_getN (D := (dC, dI)) (ci := 1) (v := .int (S8.1 3)) (C := RX0) (T := TX0) (N := 7) hx hb hts hinX0 hown hK hP 1 rfl rfl 3 (by decide) (va_Nw.use rfl hX.1.2.2.2.2.1) (fun _ h9 => h9) rfl dX7_fault_40 ?_
  obtain ⟨r13, e14, h⟩ := bo h
  obtain ⟨kw15, hkw15⟩ := wA_w (cq := cq) (q := q) (S := S8) (M := M) (o := o) hw11
  refine caVR_i (As := [.int x2, .int (S8.1 3)]) (rest := []) (ctX2_property l dC dI cq q S8 M o _ _ _ hw11 _ _ _ e14) F (cwV 2 hts gX7_fault_X2_property rfl rfl rfl hdX2_property ⟨Nat.le_of_ble_eq_true rfl, Nat.le_of_ble_eq_true rfl⟩) hK hP hD hDm hS hA EV.blind (fun U hU hW => EV.call hX hS hDm hU hW) (va_recv hK hP (ci := 3) (q0 := kw15) rfl hkw15) rfl hl.1 rfl (Nat.le_of_ble_eq_true rfl) dX7_fault_43 ⟨Nat.le_of_ble_eq_true rfl, Nat.le_of_ble_eq_true rfl⟩ (fun H locs hP hD hS => ?_)
  exact hend _ _ _ _ _ _ _ _ (Option.some.inj h).symm hP hD hS dX7_fault_46 rfl (Nat.le_of_ble_eq_true rfl) (Nat.le_of_ble_eq_true rfl)
def mX7_wire (S : CS) (x1 : Int32) (x2 : Int32) : Option (Except Nat Int32 × CS) :=
  (bt (mX7_needEnd S x1) fun _ S3 => (bt (mX7_needIndex S3 x2 (8 : Int32)) fun _ S6 => (bn (mX0_wireAt S6 x1 x2) fun r7 => (some (.ok r7, S6)))))
abbrev rmX7_wire : Room := { frames := 8, cells := 2, slots := 12, locals := 142 }
theorem hdX7_wire : yX7_wire.cls = RX7 ∧ yX7_wire.cls ≠ "java/lang/invoke/MethodHandle" ∧ yX7_wire.cls ≠ "java/lang/invoke/VarHandle" ∧ (parseMethodDescriptor yX7_wire.desc).map (fun d => d.parameters.length) = some 2 := by decide +kernel
set_option maxRecDepth 100000 in
set_option maxHeartbeats 8000000 in
theorem ctX7_wire (l : Launch) (dC : Nat → ClassId) (dI : Nat → Nat → Nat) (cq : Nat → ClassId) (q : Nat → Nat) (S : CS) (M : MS) (o : Nat → Int64) (sz h0 : Nat) (hfl : l.stackTraces = false) (x1 : Int32) (x2 : Int32) (rs : Except Nat Int32 × CS) (h : mX7_wire S x1 x2 = some rs) : CtX_i l yX7_wire wsX7_wire rmX7_wire (fun a => h0 ≤ a) (EV h0 q) dC dI cq (wA cq q S M o) sz [.ref (q 0), .int x1, .int x2] (fun S => wA cq q S M o) (fun (r : Int32) (u : CS) => rs = (.ok r, u)) (fun k u => rs = (.error k, u)) 2 12 := by
  refine enX_i (wf := fun S => wA cq q S M o) (cc := cX7_wire) (maxL := 3) (by decide) rfl (Nat.le_of_ble_eq_true rfl) (fun p e s m args below meth c A Q ls hQ htab hlocks F hA hP hK hD hDm hX hS hl hend hthr => ?_)
  obtain ⟨hx, hb, hml, hown, hts⟩ := id F
  have hown : s.vm.findClass RX7 = some m.cls := hown
  have F : CallFix p m c cX7_wire 3 s args wsX7_wire RX7 := F
  have hl : lv_has ls 3 [(0, .ref (q 0)), (1, .int x1), (2, .int x2)] := hl
  have hinX7 : ∀ w ∈ u_ws RX7 TX7 5, w ∈ wsX7_wire := fun w h => List.mem_cons_of_mem _ (List.mem_append_left _ (List.mem_append_left _ (List.mem_append_left _ (List.mem_append_right _ h))))
  rw [mX7_wire] at h
  refine lv_iload_n hx hb dX7_wire_0 rfl (lv_at hl 1 rfl) ?_
  rcases bto h with ⟨r1x, S3, e2, hrs⟩ | ⟨r1, S3, e2, h⟩
  · refine caXS_v (As := [.int x1]) (rest := []) (ctX7_needEnd l dC dI cq q S M o _ _ hfl _ _ e2) F (va_cwS 1 hts gX7_wire_X7_needEnd rfl rfl rfl hdX7_needEnd ⟨Nat.le_of_ble_eq_true rfl, Nat.le_of_ble_eq_true rfl⟩) hK hP hD hDm hS hA EV.blind (fun U hU hW => EV.call hX hS hDm hU hW) rfl hl.1 rfl (Nat.le_of_ble_eq_true rfl) dX7_wire_1 ⟨Nat.le_of_ble_eq_true rfl, Nat.le_of_ble_eq_true rfl⟩ (fun H locs k9 u9 E9 ce9 q9 h9 hP hD hS hce hcv hcl hE => ?_) (fun H locs u9 h9 hP hD hS => ?_)
    · cases h9; exact hthr _ _ _ _ _ _ _ _ _ _ _ _ hrs hP hD hS hce hcv hcl hE (Nat.le_of_ble_eq_true rfl) (Nat.le_of_ble_eq_true rfl)
    · cases h9
  refine caXS_v (As := [.int x1]) (rest := []) (ctX7_needEnd l dC dI cq q S M o _ _ hfl _ _ e2) F (va_cwS 1 hts gX7_wire_X7_needEnd rfl rfl rfl hdX7_needEnd ⟨Nat.le_of_ble_eq_true rfl, Nat.le_of_ble_eq_true rfl⟩) hK hP hD hDm hS hA EV.blind (fun U hU hW => EV.call hX hS hDm hU hW) rfl hl.1 rfl (Nat.le_of_ble_eq_true rfl) dX7_wire_1 ⟨Nat.le_of_ble_eq_true rfl, Nat.le_of_ble_eq_true rfl⟩ (fun H locs k9 u9 E9 ce9 q9 h9 hP hD hS hce hcv hcl hE => ?_) (fun H locs u9 h9 hP hD hS => ?_)
  · cases h9
  cases h9
  refine lv_iload_n hx hb dX7_wire_4 rfl (lv_at hl 2 rfl) ?_
  refine lv_bipush (v := (8 : Int32)) hx hb dX7_wire_5 (by decide) ?_
  rcases bto h with ⟨r4x, S6, e5, hrs⟩ | ⟨r4, S6, e5, h⟩
  · refine caXS_v (As := [.int x2, .int (8 : Int32)]) (rest := []) (ctX7_needIndex l dC dI cq q S3 M o _ _ hfl _ _ _ e5) F (va_cwS 2 hts gX7_wire_X7_needIndex rfl rfl rfl hdX7_needIndex ⟨Nat.le_of_ble_eq_true rfl, Nat.le_of_ble_eq_true rfl⟩) hK hP hD hDm hS hA EV.blind (fun U hU hW => EV.call hX hS hDm hU hW) rfl hl.1 rfl (Nat.le_of_ble_eq_true rfl) dX7_wire_7 ⟨Nat.le_of_ble_eq_true rfl, Nat.le_of_ble_eq_true rfl⟩ (fun H locs k9 u9 E9 ce9 q9 h9 hP hD hS hce hcv hcl hE => ?_) (fun H locs u9 h9 hP hD hS => ?_)
    · cases h9; exact hthr _ _ _ _ _ _ _ _ _ _ _ _ hrs hP hD hS hce hcv hcl hE (Nat.le_of_ble_eq_true rfl) (Nat.le_of_ble_eq_true rfl)
    · cases h9
  refine caXS_v (As := [.int x2, .int (8 : Int32)]) (rest := []) (ctX7_needIndex l dC dI cq q S3 M o _ _ hfl _ _ _ e5) F (va_cwS 2 hts gX7_wire_X7_needIndex rfl rfl rfl hdX7_needIndex ⟨Nat.le_of_ble_eq_true rfl, Nat.le_of_ble_eq_true rfl⟩) hK hP hD hDm hS hA EV.blind (fun U hU hW => EV.call hX hS hDm hU hW) rfl hl.1 rfl (Nat.le_of_ble_eq_true rfl) dX7_wire_7 ⟨Nat.le_of_ble_eq_true rfl, Nat.le_of_ble_eq_true rfl⟩ (fun H locs k9 u9 E9 ce9 q9 h9 hP hD hS hce hcv hcl hE => ?_) (fun H locs u9 h9 hP hD hS => ?_)
  · cases h9
  cases h9
  refine lv_aload_n hx hb dX7_wire_10 rfl (lv_at hl 0 rfl) ?_
  refine va_get (D := (dC, dI)) (ci := 8) (v := .ref (q 1)) (C := RX7) (T := TX7) (N := 5) hx hb hts hinX7 hown hK hP 0 rfl rfl 0 (by decide) (hts (.fieldLink RX7 10 "CableTester" "cable" "LCableTester$Cable;") (mm 1 rfl)) (fun _ h9 => h9) rfl dX7_wire_11 ?_
  refine lv_iload_n hx hb dX7_wire_14 rfl (lv_at hl 1 rfl) ?_
  refine lv_iload_n hx hb dX7_wire_15 rfl (lv_at hl 2 rfl) ?_
  obtain ⟨r7, e8, h⟩ := bo h
  refine caVR_i (As := [.int x1, .int x2]) (rest := []) (ctX0_wireAt l dC dI cq q S6 M o _ _ _ _ _ e8) F (cwV 2 hts gX7_wire_X0_wireAt rfl rfl rfl hdX0_wireAt ⟨Nat.le_of_ble_eq_true rfl, Nat.le_of_ble_eq_true rfl⟩) hK hP hD hDm hS hA EV.blind (fun U hU hW => EV.call hX hS hDm hU hW) (va_recv hK hP (ci := 1) (q0 := 1) rfl rfl) rfl hl.1 rfl (Nat.le_of_ble_eq_true rfl) dX7_wire_16 ⟨Nat.le_of_ble_eq_true rfl, Nat.le_of_ble_eq_true rfl⟩ (fun H locs hP hD hS => ?_)
  exact hend _ _ _ _ _ _ _ _ (Option.some.inj h).symm hP hD hS dX7_wire_19 rfl (Nat.le_of_ble_eq_true rfl) (Nat.le_of_ble_eq_true rfl)
