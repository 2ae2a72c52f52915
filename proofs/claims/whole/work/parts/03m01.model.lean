def mX8_swap (M : MS) (x1 : Int32) (x2 : Int32) (x3 : Int32) : Option (MS) :=
  (if inb (((8 : Int32) * x1) + x2) 16 then (if inb (((8 : Int32) * x1) + x3) 16 then (if inb (((8 : Int32) * x1) + x2) 16 then (if inb (((8 : Int32) * x1) + x3) 16 then (some (sB (sB M 23 (((8 : Int32) * x1) + x2).toNatClampNeg (M.2.1 23 (((8 : Int32) * x1) + x3).toNatClampNeg)) 23 (((8 : Int32) * x1) + x3).toNatClampNeg (M.2.1 23 (((8 : Int32) * x1) + x2).toNatClampNeg))) else none) else none) else none) else none)
abbrev rmX8_swap : Room := { frames := 0, cells := 0, slots := 0, locals := 0 }
theorem hdX8_swap : yX8_swap.cls = RX8 ∧ yX8_swap.cls ≠ "java/lang/invoke/MethodHandle" ∧ yX8_swap.cls ≠ "java/lang/invoke/VarHandle" ∧ (parseMethodDescriptor yX8_swap.desc).map (fun d => d.parameters.length) = some 3 := by decide +kernel
set_option maxRecDepth 100000 in
set_option maxHeartbeats 8000000 in
theorem ctX8_swap (l : Launch) (dC : Nat → ClassId) (dI : Nat → Nat → Nat) (cq : Nat → ClassId) (q : Nat → Nat) (S : CS) (M : MS) (o : Nat → Int64) (sz : Nat) (x1 : Int32) (x2 : Int32) (x3 : Int32) (MM : MS) (h : mX8_swap M x1 x2 x3 = some MM) : CtM_v l yX8_swap wsX8_swap rmX8_swap (fun _ => True) (fun _ => True) dC dI cq q S M o sz [.ref (q 22), .int x1, .int x2, .int x3] MM := by
  refine enM_v (cc := cX8_swap) (maxL := 5) (by decide) rfl (Nat.le_of_ble_eq_true rfl) (fun p e s m args below meth c A Q ls F hA hP hK hD hDm hX hS hl hend => ?_)
  obtain ⟨hx, hb, hml, hown, hts⟩ := id F
  have hown : s.vm.findClass RX8 = some m.cls := hown
  have F : CallFix p m c cX8_swap 5 s args wsX8_swap RX8 := F
  have hl : lv_has ls 5 [(0, .ref (q 22)), (1, .int x1), (2, .int x2), (3, .int x3)] := hl
  have hinX8 : ∀ w ∈ u_ws RX8 TX8 29, w ∈ wsX8_swap := fun w h => List.mem_cons_of_mem _ (List.mem_append_right _ h)
  rw [mX8_swap] at h
  refine lv_aload_n hx hb dX8_swap_0 rfl (lv_at hl 0 rfl) ?_
  refine va_get (D := (dC, dI)) (ci := 9) (v := .ref (q 23)) (C := RX8) (T := TX8) (N := 29) hx hb hts hinX8 hown hK hP 22 rfl rfl 5 (by decide) (hts (.fieldLink RX8 7 "CableTesterModel" "wires" "[I") (mm 1 rfl)) (fun _ h9 => h9) rfl dX8_swap_1 ?_
  refine lv_bipush (v := (8 : Int32)) hx hb dX8_swap_4 (by decide) ?_
  refine lv_iload_n hx hb dX8_swap_6 rfl (lv_at hl 1 rfl) ?_
  refine lv_imul hx hb dX8_swap_7 ?_
  refine lv_iload_n hx hb dX8_swap_8 rfl (lv_at hl 2 rfl) ?_
  refine lv_iadd hx hb dX8_swap_9 ?_
  obtain ⟨g1, h⟩ := gd h
  refine va_iald (D := (dC, dI)) hx hb hK hP 23 12 rfl rfl (inb_ok g1) dX8_swap_10 ?_
  refine lv_istore (lv' := [(4, .int (M.2.1 23 (((8 : Int32) * x1) + x2).toNatClampNeg)), (0, .ref (q 22)), (1, .int x1), (2, .int x2), (3, .int x3)]) hx hb dX8_swap_11 hl (by decide) rfl (fun ls hl => ?_)
  refine lv_aload_n hx hb dX8_swap_13 rfl (lv_at hl 1 rfl) ?_
  refine va_get (D := (dC, dI)) (ci := 9) (v := .ref (q 23)) (C := RX8) (T := TX8) (N := 29) hx hb hts hinX8 hown hK hP 22 rfl rfl 5 (by decide) (hts (.fieldLink RX8 7 "CableTesterModel" "wires" "[I") (mm 1 rfl)) (fun _ h9 => h9) rfl dX8_swap_14 ?_
  refine lv_bipush (v := (8 : Int32)) hx hb dX8_swap_17 (by decide) ?_
  refine lv_iload_n hx hb dX8_swap_19 rfl (lv_at hl 2 rfl) ?_
  refine lv_imul hx hb dX8_swap_20 ?_
  refine lv_iload_n hx hb dX8_swap_21 rfl (lv_at hl 3 rfl) ?_
  refine lv_iadd hx hb dX8_swap_22 ?_
  refine lv_aload_n hx hb dX8_swap_23 rfl (lv_at hl 1 rfl) ?_
  refine va_get (D := (dC, dI)) (ci := 9) (v := .ref (q 23)) (C := RX8) (T := TX8) (N := 29) hx hb hts hinX8 hown hK hP 22 rfl rfl 5 (by decide) (hts (.fieldLink RX8 7 "CableTesterModel" "wires" "[I") (mm 1 rfl)) (fun _ h9 => h9) rfl dX8_swap_24 ?_
  refine lv_bipush (v := (8 : Int32)) hx hb dX8_swap_27 (by decide) ?_
  refine lv_iload_n hx hb dX8_swap_29 rfl (lv_at hl 2 rfl) ?_
  refine lv_imul hx hb dX8_swap_30 ?_
  refine lv_iload_n hx hb dX8_swap_31 rfl (lv_at hl 4 rfl) ?_
  refine lv_iadd hx hb dX8_swap_32 ?_
  obtain ⟨g2, h⟩ := gd h
  refine va_iald (D := (dC, dI)) hx hb hK hP 23 12 rfl rfl (inb_ok g2) dX8_swap_33 ?_
  obtain ⟨g3, h⟩ := gd h
  refine as_23 F hK hP hD hS (inb_ok g3) dX8_swap_34 (fun H locs hP hD hS => ?_)
  refine lv_aload_n hx hb dX8_swap_35 rfl (lv_at hl 1 rfl) ?_
  refine va_get (D := (dC, dI)) (ci := 9) (v := .ref (q 23)) (C := RX8) (T := TX8) (N := 29) hx hb hts hinX8 hown hK hP 22 rfl rfl 5 (by decide) (hts (.fieldLink RX8 7 "CableTesterModel" "wires" "[I") (mm 1 rfl)) (fun _ h9 => h9) rfl dX8_swap_36 ?_
  refine lv_bipush (v := (8 : Int32)) hx hb dX8_swap_39 (by decide) ?_
  refine lv_iload_n hx hb dX8_swap_41 rfl (lv_at hl 2 rfl) ?_
  refine lv_imul hx hb dX8_swap_42 ?_
  refine lv_iload_n hx hb dX8_swap_43 rfl (lv_at hl 4 rfl) ?_
  refine lv_iadd hx hb dX8_swap_44 ?_
  refine lv_iload hx hb dX8_swap_45 (lv_at hl 0 rfl) ?_
  obtain ⟨g4, h⟩ := gd h
  refine as_23 F hK hP hD hS (inb_ok g4) dX8_swap_47 (fun H locs hP hD hS => ?_)
  exact hend _ _ _ _ _ h hP hD hS dX8_swap_48
def mX8_exchange_36  (M : MS) (x1 : Int32) (x2 : Int32) (x3 : Int32) (t0 : Int32) : Option (Int32 × MS) :=
  (if ((sG M 0 t0).1 0) ≤ (0 : Int32) then (bn (mX8_swap (sG M 0 t0) x1 x2 x3) fun M7 => (if inb (((8 : Int32) * x1) + x2) 16 then (some ((M7.2.1 23 (((8 : Int32) * x1) + x2).toNatClampNeg), M7)) else none)) else (some ((0 : Int32), (sG M 0 t0))))
def mX8_exchange_13  (M : MS) (x1 : Int32) (x2 : Int32) (x3 : Int32)  : Option (Int32 × MS) :=
  (mX8_exchange_36 M x1 x2 x3 (1 : Int32))
def mX8_exchange_35  (M : MS) (x1 : Int32) (x2 : Int32) (x3 : Int32)  : Option (Int32 × MS) :=
  (mX8_exchange_36 M x1 x2 x3 (2 : Int32))
def mX8_exchange (M : MS) (x1 : Int32) (x2 : Int32) (x3 : Int32) : Option (Int32 × MS) :=
  (bn (mX8_isEnd x1) fun r1 => (if r1 = (0 : Int32) then (mX8_exchange_13 M x1 x2 x3) else (if x2 = x3 then (mX8_exchange_13 M x1 x2 x3) else (bn (mX8_isWire x2) fun r10 => (if r10 = (0 : Int32) then (mX8_exchange_35 M x1 x2 x3) else (bn (mX8_isWire x3) fun r13 => (if r13 = (0 : Int32) then (mX8_exchange_35 M x1 x2 x3) else (mX8_exchange_36 M x1 x2 x3 (0 : Int32)))))))))
abbrev rmX8_exchange : Room := { frames := 2, cells := 0, slots := 0, locals := 42 }
theorem hdX8_exchange : yX8_exchange.cls = RX8 ∧ yX8_exchange.cls ≠ "java/lang/invoke/MethodHandle" ∧ yX8_exchange.cls ≠ "java/lang/invoke/VarHandle" ∧ (parseMethodDescriptor yX8_exchange.desc).map (fun d => d.parameters.length) = some 3 := by decide +kernel
set_option maxRecDepth 100000 in
set_option maxHeartbeats 8000000 in
theorem ctX8_exchange (l : Launch) (dC : Nat → ClassId) (dI : Nat → Nat → Nat) (cq : Nat → ClassId) (q : Nat → Nat) (S : CS) (M : MS) (o : Nat → Int64) (sz : Nat) (x1 : Int32) (x2 : Int32) (x3 : Int32) (rr : Int32) (MM : MS) (h : mX8_exchange M x1 x2 x3 = some (rr, MM)) : CtM_i l yX8_exchange wsX8_exchange rmX8_exchange (fun _ => True) (fun _ => True) dC dI cq q S M o sz [.ref (q 22), .int x1, .int x2, .int x3] rr MM := by
  refine enM_i (cc := cX8_exchange) (maxL := 4) (by decide) rfl (Nat.le_of_ble_eq_true rfl) (fun p e s m args below meth c A Q ls F hA hP hK hD hDm hX hS hl hend => ?_)
  obtain ⟨hx, hb, hml, hown, hts⟩ := id F
  have hown : s.vm.findClass RX8 = some m.cls := hown
  have F : CallFix p m c cX8_exchange 4 s args wsX8_exchange RX8 := F
  have hl : lv_has ls 4 [(0, .ref (q 22)), (1, .int x1), (2, .int x2), (3, .int x3)] := hl
  have hinX8 : ∀ w ∈ u_ws RX8 TX8 29, w ∈ wsX8_exchange := fun w h => List.mem_cons_of_mem _ (List.mem_append_right _ h)
  have hj36 : ∀ (M : MS) (x1 : Int32) (x2 : Int32) (x3 : Int32) (t0 : Int32)  (H : Heap) (locs : List Loc) (ls : Array Slot), va_P (dC, dI) vwCl (wA cq q S M o) H → va_D A (wA cq q S M o) → va_S A s.heap H locs → lv_has ls 4 [(0, .ref (q 22)), (1, .int x1), (2, .int x2), (3, .int x3)] → mX8_exchange_36 M x1 x2 x3 t0 = some (rr, MM) → W p l e rmX8_exchange s m args below meth c H locs 0 0 Q (F0 m 36 ls [.int t0, .ref (q 22)]) := by
    intro M x1 x2 x3 t0 H locs ls hP hD hS hl h
    rw [mX8_exchange_36] at h
    refine pt_22_0 F hinX8 (hts (.fieldLink RX8 44 "CableTesterModel" "thrown" "I") (mm 1 rfl)) hK hP hD hS dX8_exchange_36 (fun H locs hP hD hS => ?_)
    refine lv_aload_n hx hb dX8_exchange_39 rfl (lv_at hl 0 rfl) ?_
    refine va_get (D := (dC, dI)) (ci := 9) (v := .int ((sG M 0 t0).1 0)) (C := RX8) (T := TX8) (N := 29) hx hb hts hinX8 hown hK hP 22 rfl rfl 0 (by decide) (hts (.fieldLink RX8 44 "CableTesterModel" "thrown" "I") (mm 1 rfl)) (fun _ h9 => h9) rfl dX8_exchange_40 ?_
    refine lv_if_le (tgt := 48) hx hb dX8_exchange_43 (by decide) (fun c4 => ?_) (fun c4 => ?_)
    · replace h := it c4 h
      refine lv_aload_n hx hb dX8_exchange_48 rfl (lv_at hl 0 rfl) ?_
      refine lv_iload_n hx hb dX8_exchange_49 rfl (lv_at hl 1 rfl) ?_
      refine lv_iload_n hx hb dX8_exchange_50 rfl (lv_at hl 2 rfl) ?_
      refine lv_iload_n hx hb dX8_exchange_51 rfl (lv_at hl 3 rfl) ?_
      obtain ⟨M7, e6, h⟩ := bo h
      refine caVM_v (As := [.int x1, .int x2, .int x3]) (rest := []) (ctX8_swap l dC dI cq q S (sG M 0 t0) o _ _ _ _ _ e6) F (cwV 3 hts gX8_exchange_X8_swap rfl rfl rfl hdX8_swap ⟨Nat.le_of_ble_eq_true rfl, Nat.le_of_ble_eq_true rfl⟩) hK hP hD hDm hS hA (fun _ _ _ _ _ => trivial) (fun _ _ _ => trivial) (va_recv hK hP (ci := 9) (q0 := 22) rfl rfl) rfl hl.1 rfl (Nat.le_of_ble_eq_true rfl) dX8_exchange_52 ⟨Nat.zero_le _, Nat.zero_le _⟩ (fun H locs hP hD hS => ?_)
      refine lv_aload_n hx hb dX8_exchange_55 rfl (lv_at hl 0 rfl) ?_
      refine va_get (D := (dC, dI)) (ci := 9) (v := .ref (q 23)) (C := RX8) (T := TX8) (N := 29) hx hb hts hinX8 hown hK hP 22 rfl rfl 5 (by decide) (hts (.fieldLink RX8 7 "CableTesterModel" "wires" "[I") (mm 2 rfl)) (fun _ h9 => h9) rfl dX8_exchange_56 ?_
      refine lv_bipush (v := (8 : Int32)) hx hb dX8_exchange_59 (by decide) ?_
      refine lv_iload_n hx hb dX8_exchange_61 rfl (lv_at hl 1 rfl) ?_
      refine lv_imul hx hb dX8_exchange_62 ?_
      refine lv_iload_n hx hb dX8_exchange_63 rfl (lv_at hl 2 rfl) ?_
      refine lv_iadd hx hb dX8_exchange_64 ?_
      obtain ⟨g8, h⟩ := gd h
      refine va_iald (D := (dC, dI)) hx hb hK hP 23 12 rfl rfl (inb_ok g8) dX8_exchange_65 ?_
      exact hend _ _ _ _ _ _ h hP hD hS dX8_exchange_66
    · replace h := ie c4 h
      refine lv_iconst (v := (0 : Int32)) hx hb dX8_exchange_46 (by decide) ?_
      exact hend _ _ _ _ _ _ h hP hD hS dX8_exchange_47
  have hj13 : ∀ (M : MS) (x1 : Int32) (x2 : Int32) (x3 : Int32)   (H : Heap) (locs : List Loc) (ls : Array Slot), va_P (dC, dI) vwCl (wA cq q S M o) H → va_D A (wA cq q S M o) → va_S A s.heap H locs → lv_has ls 4 [(0, .ref (q 22)), (1, .int x1), (2, .int x2), (3, .int x3)] → mX8_exchange_13 M x1 x2 x3 = some (rr, MM) → W p l e rmX8_exchange s m args below meth c H locs 0 0 Q (F0 m 13 ls [.ref (q 22)]) := by
    intro M x1 x2 x3 H locs ls hP hD hS hl h
    rw [mX8_exchange_13] at h
    refine lv_iconst (v := (1 : Int32)) hx hb dX8_exchange_13 (by decide) ?_
    refine lv_goto (tgt := 36) hx hb dX8_exchange_14 (by decide) ?_
    exact hj36 _ _ _ _ _ _ _ _ hP hD hS (lv_sub hl [0, 1, 2, 3] rfl) h
  have hj35 : ∀ (M : MS) (x1 : Int32) (x2 : Int32) (x3 : Int32)   (H : Heap) (locs : List Loc) (ls : Array Slot), va_P (dC, dI) vwCl (wA cq q S M o) H → va_D A (wA cq q S M o) → va_S A s.heap H locs → lv_has ls 4 [(0, .ref (q 22)), (1, .int x1), (2, .int x2), (3, .int x3)] → mX8_exchange_35 M x1 x2 x3 = some (rr, MM) → W p l e rmX8_exchange s m args below meth c H locs 0 0 Q (F0 m 35 ls [.ref (q 22)]) := by
    intro M x1 x2 x3 H locs ls hP hD hS hl h
    rw [mX8_exchange_35] at h
    refine lv_iconst (v := (2 : Int32)) hx hb dX8_exchange_35 (by decide) ?_
    exact hj36 _ _ _ _ _ _ _ _ hP hD hS (lv_sub hl [0, 1, 2, 3] rfl) h
  rw [mX8_exchange] at h
  refine lv_aload_n hx hb dX8_exchange_0 rfl (lv_at hl 0 rfl) ?_
  refine lv_iload_n hx hb dX8_exchange_1 rfl (lv_at hl 1 rfl) ?_
  obtain ⟨r1, e2, h⟩ := bo h
  refine caSR_i (As := [.int x1]) (rest := [.ref (q 22)]) (ctX8_isEnd l dC dI cq q S M o _ _ _ e2) F (va_cwS 1 hts gX8_exchange_X8_isEnd rfl rfl rfl hdX8_isEnd ⟨Nat.le_of_ble_eq_true rfl, Nat.le_of_ble_eq_true rfl⟩) hK hP hD hDm hS hA (fun _ _ _ _ _ => trivial) (fun _ _ _ => trivial) rfl hl.1 rfl (Nat.le_of_ble_eq_true rfl) dX8_exchange_2 ⟨Nat.zero_le _, Nat.zero_le _⟩ (fun H locs hP hD hS => ?_)
  refine lv_if_eq (tgt := 13) hx hb dX8_exchange_5 (by decide) (fun c3 => ?_) (fun c3 => ?_)
  · replace h := it c3 h
    exact hj13 _ _ _ _ _ _ _ hP hD hS (lv_sub hl [0, 1, 2, 3] rfl) h
  · replace h := ie c3 h
    refine lv_iload_n hx hb dX8_exchange_8 rfl (lv_at hl 2 rfl) ?_
    refine lv_iload_n hx hb dX8_exchange_9 rfl (lv_at hl 3 rfl) ?_
    refine lv_icmp_ne (tgt := 17) hx hb dX8_exchange_10 (by decide) (fun c9 => ?_) (fun c9 => ?_)
    · replace h := ie c9 h
      refine lv_iload_n hx hb dX8_exchange_17 rfl (lv_at hl 2 rfl) ?_
      obtain ⟨r10, e11, h⟩ := bo h
      refine caSR_i (As := [.int x2]) (rest := [.ref (q 22)]) (ctX8_isWire l dC dI cq q S M o _ _ _ e11) F (va_cwS 1 hts gX8_exchange_X8_isWire rfl rfl rfl hdX8_isWire ⟨Nat.le_of_ble_eq_true rfl, Nat.le_of_ble_eq_true rfl⟩) hK hP hD hDm hS hA (fun _ _ _ _ _ => trivial) (fun _ _ _ => trivial) rfl hl.1 rfl (Nat.le_of_ble_eq_true rfl) dX8_exchange_18 ⟨Nat.zero_le _, Nat.zero_le _⟩ (fun H locs hP hD hS => ?_)
      refine lv_if_eq (tgt := 35) hx hb dX8_exchange_21 (by decide) (fun c12 => ?_) (fun c12 => ?_)
      · replace h := it c12 h
        exact hj35 _ _ _ _ _ _ _ hP hD hS (lv_sub hl [0, 1, 2, 3] rfl) h
      · replace h := ie c12 h
        refine lv_iload_n hx hb dX8_exchange_24 rfl (lv_at hl 3 rfl) ?_
        obtain ⟨r13, e14, h⟩ := bo h
        refine caSR_i (As := [.int x3]) (rest := [.ref (q 22)]) (ctX8_isWire l dC dI cq q S M o _ _ _ e14) F (va_cwS 1 hts gX8_exchange_X8_isWire rfl rfl rfl hdX8_isWire ⟨Nat.le_of_ble_eq_true rfl, Nat.le_of_ble_eq_true rfl⟩) hK hP hD hDm hS hA (fun _ _ _ _ _ => trivial) (fun _ _ _ => trivial) rfl hl.1 rfl (Nat.le_of_ble_eq_true rfl) dX8_exchange_25 ⟨Nat.zero_le _, Nat.zero_le _⟩ (fun H locs hP hD hS => ?_)
        refine lv_if_eq (tgt := 35) hx hb dX8_exchange_28 (by decide) (fun c15 => ?_) (fun c15 => ?_)
        · replace h := it c15 h
          exact hj35 _ _ _ _ _ _ _ hP hD hS (lv_sub hl [0, 1, 2, 3] rfl) h
        · replace h := ie c15 h
          refine lv_iconst (v := (0 : Int32)) hx hb dX8_exchange_31 (by decide) ?_
          refine lv_goto (tgt := 36) hx hb dX8_exchange_32 (by decide) ?_
          exact hj36 _ _ _ _ _ _ _ _ hP hD hS (lv_sub hl [0, 1, 2, 3] rfl) h
    · replace h := it c9 h
      exact hj13 _ _ _ _ _ _ _ hP hD hS (lv_sub hl [0, 1, 2, 3] rfl) h
def mX8_add (M : MS) (x1 : Int32) (x2 : Int32) (x3 : Int32) (x4 : Int32) (x5 : Int32) (x6 : Int32) : Option (Int32 × MS) :=
  (if inb ((6 : Int32) * (M.1 7)) 60 then (if inb (((6 : Int32) * (M.1 7)) + (1 : Int32)) 60 then (if inb (((6 : Int32) * (M.1 7)) + (2 : Int32)) 60 then (if inb (((6 : Int32) * (M.1 7)) + (3 : Int32)) 60 then (if inb (((6 : Int32) * (M.1 7)) + (4 : Int32)) 60 then (if inb (((6 : Int32) * (M.1 7)) + (5 : Int32)) 60 then (some ((((sG (sB (sB (sB (sB (sB (sB M 24 ((6 : Int32) * (M.1 7)).toNatClampNeg x1) 24 (((6 : Int32) * (M.1 7)) + (1 : Int32)).toNatClampNeg x2) 24 (((6 : Int32) * (M.1 7)) + (2 : Int32)).toNatClampNeg x3) 24 (((6 : Int32) * (M.1 7)) + (3 : Int32)).toNatClampNeg x4) 24 (((6 : Int32) * (M.1 7)) + (4 : Int32)).toNatClampNeg x5) 24 (((6 : Int32) * (M.1 7)) + (5 : Int32)).toNatClampNeg x6) 7 (((sB (sB (sB (sB (sB (sB M 24 ((6 : Int32) * (M.1 7)).toNatClampNeg x1) 24 (((6 : Int32) * (M.1 7)) + (1 : Int32)).toNatClampNeg x2) 24 (((6 : Int32) * (M.1 7)) + (2 : Int32)).toNatClampNeg x3) 24 (((6 : Int32) * (M.1 7)) + (3 : Int32)).toNatClampNeg x4) 24 (((6 : Int32) * (M.1 7)) + (4 : Int32)).toNatClampNeg x5) 24 (((6 : Int32) * (M.1 7)) + (5 : Int32)).toNatClampNeg x6).1 7) + (1 : Int32))).1 7) - (1 : Int32)), (sG (sB (sB (sB (sB (sB (sB M 24 ((6 : Int32) * (M.1 7)).toNatClampNeg x1) 24 (((6 : Int32) * (M.1 7)) + (1 : Int32)).toNatClampNeg x2) 24 (((6 : Int32) * (M.1 7)) + (2 : Int32)).toNatClampNeg x3) 24 (((6 : Int32) * (M.1 7)) + (3 : Int32)).toNatClampNeg x4) 24 (((6 : Int32) * (M.1 7)) + (4 : Int32)).toNatClampNeg x5) 24 (((6 : Int32) * (M.1 7)) + (5 : Int32)).toNatClampNeg x6) 7 (((sB (sB (sB (sB (sB (sB M 24 ((6 : Int32) * (M.1 7)).toNatClampNeg x1) 24 (((6 : Int32) * (M.1 7)) + (1 : Int32)).toNatClampNeg x2) 24 (((6 : Int32) * (M.1 7)) + (2 : Int32)).toNatClampNeg x3) 24 (((6 : Int32) * (M.1 7)) + (3 : Int32)).toNatClampNeg x4) 24 (((6 : Int32) * (M.1 7)) + (4 : Int32)).toNatClampNeg x5) 24 (((6 : Int32) * (M.1 7)) + (5 : Int32)).toNatClampNeg x6).1 7) + (1 : Int32))))) else none) else none) else none) else none) else none) else none)
abbrev rmX8_add : Room := { frames := 0, cells := 0, slots := 0, locals := 0 }
theorem hdX8_add : yX8_add.cls = RX8 ∧ yX8_add.cls ≠ "java/lang/invoke/MethodHandle" ∧ yX8_add.cls ≠ "java/lang/invoke/VarHandle" ∧ (parseMethodDescriptor yX8_add.desc).map (fun d => d.parameters.length) = some 6 := by decide +kernel
set_option maxRecDepth 100000 in
set_option maxHeartbeats 8000000 in
theorem ctX8_add (l : Launch) (dC : Nat → ClassId) (dI : Nat → Nat → Nat) (cq : Nat → ClassId) (q : Nat → Nat) (S : CS) (M : MS) (o : Nat → Int64) (sz : Nat) (x1 : Int32) (x2 : Int32) (x3 : Int32) (x4 : Int32) (x5 : Int32) (x6 : Int32) (rr : Int32) (MM : MS) (h : mX8_add M x1 x2 x3 x4 x5 x6 = some (rr, MM)) : CtM_i l yX8_add wsX8_add rmX8_add (fun _ => True) (fun _ => True) dC dI cq q S M o sz [.ref (q 22), .int x1, .int x2, .int x3, .int x4, .int x5, .int x6] rr MM := by
  refine enM_i (cc := cX8_add) (maxL := 8) (by decide) rfl (Nat.le_of_ble_eq_true rfl) (fun p e s m args below meth c A Q ls F hA hP hK hD hDm hX hS hl hend => ?_)
  obtain ⟨hx, hb, hml, hown, hts⟩ := id F
  have hown : s.vm.findClass RX8 = some m.cls := hown
  have F : CallFix p m c cX8_add 8 s args wsX8_add RX8 := F
  have hl : lv_has ls 8 [(0, .ref (q 22)), (1, .int x1), (2, .int x2), (3, .int x3), (4, .int x4), (5, .int x5), (6, .int x6)] := hl
  have hinX8 : ∀ w ∈ u_ws RX8 TX8 29, w ∈ wsX8_add := fun w h => List.mem_cons_of_mem _ (List.mem_append_right _ h)
  rw [mX8_add] at h
  refine lv_bipush (v := (6 : Int32)) hx hb dX8_add_0 (by decide) ?_
  refine lv_aload_n hx hb dX8_add_2 rfl (lv_at hl 0 rfl) ?_
  refine va_get (D := (dC, dI)) (ci := 9) (v := .int (M.1 7)) (C := RX8) (T := TX8) (N := 29) hx hb hts hinX8 hown hK hP 22 rfl rfl 7 (by decide) (hts (.fieldLink RX8 64 "CableTesterModel" "many" "I") (mm 1 rfl)) (fun _ h9 => h9) rfl dX8_add_3 ?_
  refine lv_imul hx hb dX8_add_6 ?_
  refine lv_istore (lv' := [(7, .int ((6 : Int32) * (M.1 7))), (0, .ref (q 22)), (1, .int x1), (2, .int x2), (3, .int x3), (4, .int x4), (5, .int x5), (6, .int x6)]) hx hb dX8_add_7 hl (by decide) rfl (fun ls hl => ?_)
  refine lv_aload_n hx hb dX8_add_9 rfl (lv_at hl 1 rfl) ?_
  refine va_get (D := (dC, dI)) (ci := 9) (v := .ref (q 24)) (C := RX8) (T := TX8) (N := 29) hx hb hts hinX8 hown hK hP 22 rfl rfl 6 (by decide) (hts (.fieldLink RX8 13 "CableTesterModel" "faults" "[I") (mm 2 rfl)) (fun _ h9 => h9) rfl dX8_add_10 ?_
  refine lv_iload hx hb dX8_add_13 (lv_at hl 0 rfl) ?_
  refine lv_iload_n hx hb dX8_add_15 rfl (lv_at hl 2 rfl) ?_
  obtain ⟨g1, h⟩ := gd h
  refine as_24 F hK hP hD hS (inb_ok g1) dX8_add_16 (fun H locs hP hD hS => ?_)
  refine lv_aload_n hx hb dX8_add_17 rfl (lv_at hl 1 rfl) ?_
  refine va_get (D := (dC, dI)) (ci := 9) (v := .ref (q 24)) (C := RX8) (T := TX8) (N := 29) hx hb hts hinX8 hown hK hP 22 rfl rfl 6 (by decide) (hts (.fieldLink RX8 13 "CableTesterModel" "faults" "[I") (mm 2 rfl)) (fun _ h9 => h9) rfl dX8_add_18 ?_
  refine lv_iload hx hb dX8_add_21 (lv_at hl 0 rfl) ?_
  refine lv_iconst (v := (1 : Int32)) hx hb dX8_add_23 (by decide) ?_
  refine lv_iadd hx hb dX8_add_24 ?_
  refine lv_iload_n hx hb dX8_add_25 rfl (lv_at hl 3 rfl) ?_
  obtain ⟨g2, h⟩ := gd h
  refine as_24 F hK hP hD hS (inb_ok g2) dX8_add_26 (fun H locs hP hD hS => ?_)
  refine lv_aload_n hx hb dX8_add_27 rfl (lv_at hl 1 rfl) ?_
  refine va_get (D := (dC, dI)) (ci := 9) (v := .ref (q 24)) (C := RX8) (T := TX8) (N := 29) hx hb hts hinX8 hown hK hP 22 rfl rfl 6 (by decide) (hts (.fieldLink RX8 13 "CableTesterModel" "faults" "[I") (mm 2 rfl)) (fun _ h9 => h9) rfl dX8_add_28 ?_
  refine lv_iload hx hb dX8_add_31 (lv_at hl 0 rfl) ?_
  refine lv_iconst (v := (2 : Int32)) hx hb dX8_add_33 (by decide) ?_
  refine lv_iadd hx hb dX8_add_34 ?_
  refine lv_iload_n hx hb dX8_add_35 rfl (lv_at hl 4 rfl) ?_
  obtain ⟨g3, h⟩ := gd h
  refine as_24 F hK hP hD hS (inb_ok g3) dX8_add_36 (fun H locs hP hD hS => ?_)
  refine lv_aload_n hx hb dX8_add_37 rfl (lv_at hl 1 rfl) ?_
  refine va_get (D := (dC, dI)) (ci := 9) (v := .ref (q 24)) (C := RX8) (T := TX8) (N := 29) hx hb hts hinX8 hown hK hP 22 rfl rfl 6 (by decide) (hts (.fieldLink RX8 13 "CableTesterModel" "faults" "[I") (mm 2 rfl)) (fun _ h9 => h9) rfl dX8_add_38 ?_
  refine lv_iload hx hb dX8_add_41 (lv_at hl 0 rfl) ?_
  refine lv_iconst (v := (3 : Int32)) hx hb dX8_add_43 (by decide) ?_
  refine lv_iadd hx hb dX8_add_44 ?_
  refine lv_iload hx hb dX8_add_45 (lv_at hl 5 rfl) ?_
  obtain ⟨g4, h⟩ := gd h
  refine as_24 F hK hP hD hS (inb_ok g4) dX8_add_47 (fun H locs hP hD hS => ?_)
  refine lv_aload_n hx hb dX8_add_48 rfl (lv_at hl 1 rfl) ?_
  refine va_get (D := (dC, dI)) (ci := 9) (v := .ref (q 24)) (C := RX8) (T := TX8) (N := 29) hx hb hts hinX8 hown hK hP 22 rfl rfl 6 (by decide) (hts (.fieldLink RX8 13 "CableTesterModel" "faults" "[I") (mm 2 rfl)) (fun _ h9 => h9) rfl dX8_add_49 ?_
  refine lv_iload hx hb dX8_add_52 (lv_at hl 0 rfl) ?_
  refine lv_iconst (v := (4 : Int32)) hx hb dX8_add_54 (by decide) ?_
  refine lv_iadd hx hb dX8_add_55 ?_
  refine lv_iload hx hb dX8_add_56 (lv_at hl 6 rfl) ?_
  obtain ⟨g5, h⟩ := gd h
  refine as_24 F hK hP hD hS (inb_ok g5) dX8_add_58 (fun H locs hP hD hS => ?_)
  refine lv_aload_n hx hb dX8_add_59 rfl (lv_at hl 1 rfl) ?_
  refine va_get (D := (dC, dI)) (ci := 9) (v := .ref (q 24)) (C := RX8) (T := TX8) (N := 29) hx hb hts hinX8 hown hK hP 22 rfl rfl 6 (by decide) (hts (.fieldLink RX8 13 "CableTesterModel" "faults" "[I") (mm 2 rfl)) (fun _ h9 => h9) rfl dX8_add_60 ?_
  refine lv_iload hx hb dX8_add_63 (lv_at hl 0 rfl) ?_
  refine lv_iconst (v := (5 : Int32)) hx hb dX8_add_65 (by decide) ?_
  refine lv_iadd hx hb dX8_add_66 ?_
  refine lv_iload hx hb dX8_add_67 (lv_at hl 7 rfl) ?_
  obtain ⟨g6, h⟩ := gd h
  refine as_24 F hK hP hD hS (inb_ok g6) dX8_add_69 (fun H locs hP hD hS => ?_)
  refine lv_aload_n hx hb dX8_add_70 rfl (lv_at hl 1 rfl) ?_
  refine lv_dup hx hb dX8_add_71 rfl ?_
  refine va_get (D := (dC, dI)) (ci := 9) (v := .int ((sB (sB (sB (sB (sB (sB M 24 ((6 : Int32) * (M.1 7)).toNatClampNeg x1) 24 (((6 : Int32) * (M.1 7)) + (1 : Int32)).toNatClampNeg x2) 24 (((6 : Int32) * (M.1 7)) + (2 : Int32)).toNatClampNeg x3) 24 (((6 : Int32) * (M.1 7)) + (3 : Int32)).toNatClampNeg x4) 24 (((6 : Int32) * (M.1 7)) + (4 : Int32)).toNatClampNeg x5) 24 (((6 : Int32) * (M.1 7)) + (5 : Int32)).toNatClampNeg x6).1 7)) (C := RX8) (T := TX8) (N := 29) hx hb hts hinX8 hown hK hP 22 rfl rfl 7 (by decide) (hts (.fieldLink RX8 64 "CableTesterModel" "many" "I") (mm 1 rfl)) (fun _ h9 => h9) rfl dX8_add_72 ?_
  refine lv_iconst (v := (1 : Int32)) hx hb dX8_add_75 (by decide) ?_
  refine lv_iadd hx hb dX8_add_76 ?_
  refine pt_22_7 F hinX8 (hts (.fieldLink RX8 64 "CableTesterModel" "many" "I") (mm 1 rfl)) hK hP hD hS dX8_add_77 (fun H locs hP hD hS => ?_)
  refine lv_aload_n hx hb dX8_add_80 rfl (lv_at hl 1 rfl) ?_
  refine va_get (D := (dC, dI)) (ci := 9) (v := .int ((sG (sB (sB (sB (sB (sB (sB M 24 ((6 : Int32) * (M.1 7)).toNatClampNeg x1) 24 (((6 : Int32) * (M.1 7)) + (1 : Int32)).toNatClampNeg x2) 24 (((6 : Int32) * (M.1 7)) + (2 : Int32)).toNatClampNeg x3) 24 (((6 : Int32) * (M.1 7)) + (3 : Int32)).toNatClampNeg x4) 24 (((6 : Int32) * (M.1 7)) + (4 : Int32)).toNatClampNeg x5) 24 (((6 : Int32) * (M.1 7)) + (5 : Int32)).toNatClampNeg x6) 7 (((sB (sB (sB (sB (sB (sB M 24 ((6 : Int32) * (M.1 7)).toNatClampNeg x1) 24 (((6 : Int32) * (M.1 7)) + (1 : Int32)).toNatClampNeg x2) 24 (((6 : Int32) * (M.1 7)) + (2 : Int32)).toNatClampNeg x3) 24 (((6 : Int32) * (M.1 7)) + (3 : Int32)).toNatClampNeg x4) 24 (((6 : Int32) * (M.1 7)) + (4 : Int32)).toNatClampNeg x5) 24 (((6 : Int32) * (M.1 7)) + (5 : Int32)).toNatClampNeg x6).1 7) + (1 : Int32))).1 7)) (C := RX8) (T := TX8) (N := 29) hx hb hts hinX8 hown hK hP 22 rfl rfl 7 (by decide) (hts (.fieldLink RX8 64 "CableTesterModel" "many" "I") (mm 1 rfl)) (fun _ h9 => h9) rfl dX8_add_81 ?_
  refine lv_iconst (v := (1 : Int32)) hx hb dX8_add_84 (by decide) ?_
  refine lv_isub hx hb dX8_add_85 ?_
  exact hend _ _ _ _ _ _ h hP hD hS dX8_add_86
def mX8_isTime (M : MS) (x1 : Int32) (x2 : Int32) (x3 : Int32) : Option (Int32) :=
  (bn (mX8_within x1 (1 : Int32) ((M.1 1) - (1 : Int32))) fun r1 => (if r1 = (0 : Int32) then (some (0 : Int32)) else (bn (mX8_within x2 (1 : Int32) (32 : Int32)) fun r4 => (if r4 = (0 : Int32) then (some (0 : Int32)) else (bn (mX8_within x3 (1 : Int32) x2) fun r7 => (if r7 = (0 : Int32) then (some (0 : Int32)) else (some (1 : Int32))))))))
abbrev rmX8_isTime : Room := { frames := 1, cells := 0, slots := 0, locals := 22 }
theorem hdX8_isTime : yX8_isTime.cls = RX8 ∧ yX8_isTime.cls ≠ "java/lang/invoke/MethodHandle" ∧ yX8_isTime.cls ≠ "java/lang/invoke/VarHandle" ∧ (parseMethodDescriptor yX8_isTime.desc).map (fun d => d.parameters.length) = some 3 := by decide +kernel
set_option maxRecDepth 100000 in
set_option maxHeartbeats 8000000 in
theorem ctX8_isTime (l : Launch) (dC : Nat → ClassId) (dI : Nat → Nat → Nat) (cq : Nat → ClassId) (q : Nat → Nat) (S : CS) (M : MS) (o : Nat → Int64) (sz : Nat) (x1 : Int32) (x2 : Int32) (x3 : Int32) (rr : Int32) (h : mX8_isTime M x1 x2 x3 = some rr) : CtR_i l yX8_isTime wsX8_isTime rmX8_isTime (fun _ => True) (fun _ => True) dC dI cq q S M o sz [.ref (q 22), .int x1, .int x2, .int x3] rr := by
  refine enR_z (cc := cX8_isTime) (maxL := 4) (by decide) rfl (Nat.le_of_ble_eq_true rfl) (fun p e s m args below meth c A Q ls F hA hP hK hD hDm hX hS hl hend => ?_)
  obtain ⟨hx, hb, hml, hown, hts⟩ := id F
  have hown : s.vm.findClass RX8 = some m.cls := hown
  have F : CallFix p m c cX8_isTime 4 s args wsX8_isTime RX8 := F
  have hl : lv_has ls 4 [(0, .ref (q 22)), (1, .int x1), (2, .int x2), (3, .int x3)] := hl
  have hinX8 : ∀ w ∈ u_ws RX8 TX8 29, w ∈ wsX8_isTime := fun w h => List.mem_cons_of_mem _ (List.mem_append_right _ h)
  rw [mX8_isTime] at h
  refine lv_iload_n hx hb dX8_isTime_0 rfl (lv_at hl 1 rfl) ?_
  refine lv_iconst (v := (1 : Int32)) hx hb dX8_isTime_1 (by decide) ?_
  refine lv_aload_n hx hb dX8_isTime_2 rfl (lv_at hl 0 rfl) ?_
  refine va_get (D := (dC, dI)) (ci := 9) (v := .int (M.1 1)) (C := RX8) (T := TX8) (N := 29) hx hb hts hinX8 hown hK hP 22 rfl rfl 1 (by decide) (hts (.fieldLink RX8 52 "CableTesterModel" "length" "I") (mm 1 rfl)) (fun _ h9 => h9) rfl dX8_isTime_3 ?_
  refine lv_iconst (v := (1 : Int32)) hx hb dX8_isTime_6 (by decide) ?_
  refine lv_isub hx hb dX8_isTime_7 ?_
  obtain ⟨r1, e2, h⟩ := bo h
  refine caSR_i (As := [.int x1, .int (1 : Int32), .int ((M.1 1) - (1 : Int32))]) (rest := []) (ctX8_within l dC dI cq q S M o _ _ _ _ _ e2) F (va_cwS 3 hts gX8_isTime_X8_within rfl rfl rfl hdX8_within ⟨Nat.le_of_ble_eq_true rfl, Nat.le_of_ble_eq_true rfl⟩) hK hP hD hDm hS hA (fun _ _ _ _ _ => trivial) (fun _ _ _ => trivial) rfl hl.1 rfl (Nat.le_of_ble_eq_true rfl) dX8_isTime_8 ⟨Nat.zero_le _, Nat.zero_le _⟩ (fun H locs hP hD hS => ?_)
  refine lv_if_eq (tgt := 37) hx hb dX8_isTime_11 (by decide) (fun c3 => ?_) (fun c3 => ?_)
  · replace h := it c3 h
    refine lv_iconst (v := (0 : Int32)) hx hb dX8_isTime_37 (by decide) ?_
    exact hend _ _ _ _ _ h hP hD hS dX8_isTime_38 (by decide)
  · replace h := ie c3 h
    refine lv_iload_n hx hb dX8_isTime_14 rfl (lv_at hl 2 rfl) ?_
    refine lv_iconst (v := (1 : Int32)) hx hb dX8_isTime_15 (by decide) ?_
    refine lv_bipush (v := (32 : Int32)) hx hb dX8_isTime_16 (by decide) ?_
    obtain ⟨r4, e5, h⟩ := bo h
    refine caSR_i (As := [.int x2, .int (1 : Int32), .int (32 : Int32)]) (rest := []) (ctX8_within l dC dI cq q S M o _ _ _ _ _ e5) F (va_cwS 3 hts gX8_isTime_X8_within rfl rfl rfl hdX8_within ⟨Nat.le_of_ble_eq_true rfl, Nat.le_of_ble_eq_true rfl⟩) hK hP hD hDm hS hA (fun _ _ _ _ _ => trivial) (fun _ _ _ => trivial) rfl hl.1 rfl (Nat.le_of_ble_eq_true rfl) dX8_isTime_18 ⟨Nat.zero_le _, Nat.zero_le _⟩ (fun H locs hP hD hS => ?_)
    refine lv_if_eq (tgt := 37) hx hb dX8_isTime_21 (by decide) (fun c6 => ?_) (fun c6 => ?_)
    · replace h := it c6 h
      refine lv_iconst (v := (0 : Int32)) hx hb dX8_isTime_37 (by decide) ?_
      exact hend _ _ _ _ _ h hP hD hS dX8_isTime_38 (by decide)
    · replace h := ie c6 h
      refine lv_iload_n hx hb dX8_isTime_24 rfl (lv_at hl 3 rfl) ?_
      refine lv_iconst (v := (1 : Int32)) hx hb dX8_isTime_25 (by decide) ?_
      refine lv_iload_n hx hb dX8_isTime_26 rfl (lv_at hl 2 rfl) ?_
      obtain ⟨r7, e8, h⟩ := bo h
      refine caSR_i (As := [.int x3, .int (1 : Int32), .int x2]) (rest := []) (ctX8_within l dC dI cq q S M o _ _ _ _ _ e8) F (va_cwS 3 hts gX8_isTime_X8_within rfl rfl rfl hdX8_within ⟨Nat.le_of_ble_eq_true rfl, Nat.le_of_ble_eq_true rfl⟩) hK hP hD hDm hS hA (fun _ _ _ _ _ => trivial) (fun _ _ _ => trivial) rfl hl.1 rfl (Nat.le_of_ble_eq_true rfl) dX8_isTime_27 ⟨Nat.zero_le _, Nat.zero_le _⟩ (fun H locs hP hD hS => ?_)
      refine lv_if_eq (tgt := 37) hx hb dX8_isTime_30 (by decide) (fun c9 => ?_) (fun c9 => ?_)
      · replace h := it c9 h
        refine lv_iconst (v := (0 : Int32)) hx hb dX8_isTime_37 (by decide) ?_
        exact hend _ _ _ _ _ h hP hD hS dX8_isTime_38 (by decide)
      · replace h := ie c9 h
        refine lv_iconst (v := (1 : Int32)) hx hb dX8_isTime_33 (by decide) ?_
        refine lv_goto (tgt := 38) hx hb dX8_isTime_34 (by decide) ?_
        exact hend _ _ _ _ _ h hP hD hS dX8_isTime_38 (by decide)
def mX8_cut_41  (M : MS) (x1 : Int32) (x2 : Int32) (x3 : Int32) (x4 : Int32) (t0 : Int32) : Option (Int32 × MS) :=
  (if ((sG M 0 t0).1 0) ≤ (0 : Int32) then (bm (mX8_add (sG M 0 t0) (0 : Int32) x1 (-1 : Int32) x2 x3 x4) fun r9 M11 => (some (r9, M11))) else (some ((0 : Int32), (sG M 0 t0))))
def mX8_cut (M : MS) (x1 : Int32) (x2 : Int32) (x3 : Int32) (x4 : Int32) : Option (Int32 × MS) :=
  (bn (mX8_isWire x1) fun r1 => (if r1 = (0 : Int32) then (mX8_cut_41 M x1 x2 x3 x4 (1 : Int32)) else (bn (mX8_isTime M x2 x3 x4) fun r4 => (if r4 = (0 : Int32) then (mX8_cut_41 M x1 x2 x3 x4 (2 : Int32)) else (if (M.1 7) = (10 : Int32) then (mX8_cut_41 M x1 x2 x3 x4 (3 : Int32)) else (mX8_cut_41 M x1 x2 x3 x4 (0 : Int32)))))))
abbrev rmX8_cut : Room := { frames := 2, cells := 0, slots := 0, locals := 45 }
theorem hdX8_cut : yX8_cut.cls = RX8 ∧ yX8_cut.cls ≠ "java/lang/invoke/MethodHandle" ∧ yX8_cut.cls ≠ "java/lang/invoke/VarHandle" ∧ (parseMethodDescriptor yX8_cut.desc).map (fun d => d.parameters.length) = some 4 := by decide +kernel
set_option maxRecDepth 100000 in
set_option maxHeartbeats 8000000 in
theorem ctX8_cut (l : Launch) (dC : Nat → ClassId) (dI : Nat → Nat → Nat) (cq : Nat → ClassId) (q : Nat → Nat) (S : CS) (M : MS) (o : Nat → Int64) (sz : Nat) (x1 : Int32) (x2 : Int32) (x3 : Int32) (x4 : Int32) (rr : Int32) (MM : MS) (h : mX8_cut M x1 x2 x3 x4 = some (rr, MM)) : CtM_i l yX8_cut wsX8_cut rmX8_cut (fun _ => True) (fun _ => True) dC dI cq q S M o sz [.ref (q 22), .int x1, .int x2, .int x3, .int x4] rr MM := by
  refine enM_i (cc := cX8_cut) (maxL := 5) (by decide) rfl (Nat.le_of_ble_eq_true rfl) (fun p e s m args below meth c A Q ls F hA hP hK hD hDm hX hS hl hend => ?_)
  obtain ⟨hx, hb, hml, hown, hts⟩ := id F
  have hown : s.vm.findClass RX8 = some m.cls := hown
  have F : CallFix p m c cX8_cut 5 s args wsX8_cut RX8 := F
  have hl : lv_has ls 5 [(0, .ref (q 22)), (1, .int x1), (2, .int x2), (3, .int x3), (4, .int x4)] := hl
  have hinX8 : ∀ w ∈ u_ws RX8 TX8 29, w ∈ wsX8_cut := fun w h => List.mem_cons_of_mem _ (List.mem_append_right _ h)
  have hj41 : ∀ (M : MS) (x1 : Int32) (x2 : Int32) (x3 : Int32) (x4 : Int32) (t0 : Int32)  (H : Heap) (locs : List Loc) (ls : Array Slot), va_P (dC, dI) vwCl (wA cq q S M o) H → va_D A (wA cq q S M o) → va_S A s.heap H locs → lv_has ls 5 [(0, .ref (q 22)), (1, .int x1), (2, .int x2), (3, .int x3), (4, .int x4)] → mX8_cut_41 M x1 x2 x3 x4 t0 = some (rr, MM) → W p l e rmX8_cut s m args below meth c H locs 0 0 Q (F0 m 41 ls [.int t0, .ref (q 22)]) := by
    intro M x1 x2 x3 x4 t0 H locs ls hP hD hS hl h
    rw [mX8_cut_41] at h
    refine pt_22_0 F hinX8 (hts (.fieldLink RX8 44 "CableTesterModel" "thrown" "I") (mm 2 rfl)) hK hP hD hS dX8_cut_41 (fun H locs hP hD hS => ?_)
    refine lv_aload_n hx hb dX8_cut_44 rfl (lv_at hl 0 rfl) ?_
    refine va_get (D := (dC, dI)) (ci := 9) (v := .int ((sG M 0 t0).1 0)) (C := RX8) (T := TX8) (N := 29) hx hb hts hinX8 hown hK hP 22 rfl rfl 0 (by decide) (hts (.fieldLink RX8 44 "CableTesterModel" "thrown" "I") (mm 2 rfl)) (fun _ h9 => h9) rfl dX8_cut_45 ?_
    refine lv_if_le (tgt := 55) hx hb dX8_cut_48 (by decide) (fun c8 => ?_) (fun c8 => ?_)
    · replace h := it c8 h
      refine lv_aload_n hx hb dX8_cut_55 rfl (lv_at hl 0 rfl) ?_
      refine lv_iconst (v := (0 : Int32)) hx hb dX8_cut_56 (by decide) ?_
      refine lv_iload_n hx hb dX8_cut_57 rfl (lv_at hl 1 rfl) ?_
      refine lv_iconst (v := (-1 : Int32)) hx hb dX8_cut_58 (by decide) ?_
      refine lv_iload_n hx hb dX8_cut_59 rfl (lv_at hl 2 rfl) ?_
      refine lv_iload_n hx hb dX8_cut_60 rfl (lv_at hl 3 rfl) ?_
      refine lv_iload hx hb dX8_cut_61 (lv_at hl 4 rfl) ?_
      obtain ⟨r9, M11, e10, h⟩ := bp h
      refine caVM_i (As := [.int (0 : Int32), .int x1, .int (-1 : Int32), .int x2, .int x3, .int x4]) (rest := []) (ctX8_add l dC dI cq q S (sG M 0 t0) o _ _ _ _ _ _ _ _ _ e10) F (cwV 6 hts gX8_cut_X8_add rfl rfl rfl hdX8_add ⟨Nat.le_of_ble_eq_true rfl, Nat.le_of_ble_eq_true rfl⟩) hK hP hD hDm hS hA (fun _ _ _ _ _ => trivial) (fun _ _ _ => trivial) (va_recv hK hP (ci := 9) (q0 := 22) rfl rfl) rfl hl.1 rfl (Nat.le_of_ble_eq_true rfl) dX8_cut_63 ⟨Nat.zero_le _, Nat.zero_le _⟩ (fun H locs hP hD hS => ?_)
      exact hend _ _ _ _ _ _ h hP hD hS dX8_cut_66
    · replace h := ie c8 h
      refine lv_iconst (v := (0 : Int32)) hx hb dX8_cut_51 (by decide) ?_
      refine lv_goto (tgt := 66) hx hb dX8_cut_52 (by decide) ?_
      exact hend _ _ _ _ _ _ h hP hD hS dX8_cut_66
  rw [mX8_cut] at h
  refine lv_aload_n hx hb dX8_cut_0 rfl (lv_at hl 0 rfl) ?_
  refine lv_iload_n hx hb dX8_cut_1 rfl (lv_at hl 1 rfl) ?_
  obtain ⟨r1, e2, h⟩ := bo h
  refine caSR_i (As := [.int x1]) (rest := [.ref (q 22)]) (ctX8_isWire l dC dI cq q S M o _ _ _ e2) F (va_cwS 1 hts gX8_cut_X8_isWire rfl rfl rfl hdX8_isWire ⟨Nat.le_of_ble_eq_true rfl, Nat.le_of_ble_eq_true rfl⟩) hK hP hD hDm hS hA (fun _ _ _ _ _ => trivial) (fun _ _ _ => trivial) rfl hl.1 rfl (Nat.le_of_ble_eq_true rfl) dX8_cut_2 ⟨Nat.zero_le _, Nat.zero_le _⟩ (fun H locs hP hD hS => ?_)
  refine lv_if_ne (tgt := 12) hx hb dX8_cut_5 (by decide) (fun c3 => ?_) (fun c3 => ?_)
  · replace h := ie c3 h
    refine lv_aload_n hx hb dX8_cut_12 rfl (lv_at hl 0 rfl) ?_
    refine lv_iload_n hx hb dX8_cut_13 rfl (lv_at hl 2 rfl) ?_
    refine lv_iload_n hx hb dX8_cut_14 rfl (lv_at hl 3 rfl) ?_
    refine lv_iload hx hb dX8_cut_15 (lv_at hl 4 rfl) ?_
    obtain ⟨r4, e5, h⟩ := bo h
    refine caVR_i (As := [.int x2, .int x3, .int x4]) (rest := [.ref (q 22)]) (ctX8_isTime l dC dI cq q S M o _ _ _ _ _ e5) F (cwV 3 hts gX8_cut_X8_isTime rfl rfl rfl hdX8_isTime ⟨Nat.le_of_ble_eq_true rfl, Nat.le_of_ble_eq_true rfl⟩) hK hP hD hDm hS hA (fun _ _ _ _ _ => trivial) (fun _ _ _ => trivial) (va_recv hK hP (ci := 9) (q0 := 22) rfl rfl) rfl hl.1 rfl (Nat.le_of_ble_eq_true rfl) dX8_cut_17 ⟨Nat.zero_le _, Nat.zero_le _⟩ (fun H locs hP hD hS => ?_)
    refine lv_if_ne (tgt := 27) hx hb dX8_cut_20 (by decide) (fun c6 => ?_) (fun c6 => ?_)
    · replace h := ie c6 h
      refine lv_aload_n hx hb dX8_cut_27 rfl (lv_at hl 0 rfl) ?_
      refine va_get (D := (dC, dI)) (ci := 9) (v := .int (M.1 7)) (C := RX8) (T := TX8) (N := 29) hx hb hts hinX8 hown hK hP 22 rfl rfl 7 (by decide) (hts (.fieldLink RX8 64 "CableTesterModel" "many" "I") (mm 1 rfl)) (fun _ h9 => h9) rfl dX8_cut_28 ?_
      refine lv_bipush (v := (10 : Int32)) hx hb dX8_cut_31 (by decide) ?_
      refine lv_icmp_ne (tgt := 40) hx hb dX8_cut_33 (by decide) (fun c7 => ?_) (fun c7 => ?_)
      · replace h := ie c7 h
        refine lv_iconst (v := (0 : Int32)) hx hb dX8_cut_40 (by decide) ?_
        exact hj41 _ _ _ _ _ _ _ _ _ hP hD hS (lv_sub hl [0, 1, 2, 3, 4] rfl) h
      · replace h := it c7 h
        refine lv_iconst (v := (3 : Int32)) hx hb dX8_cut_36 (by decide) ?_
        refine lv_goto (tgt := 41) hx hb dX8_cut_37 (by decide) ?_
        exact hj41 _ _ _ _ _ _ _ _ _ hP hD hS (lv_sub hl [0, 1, 2, 3, 4] rfl) h
    · replace h := it c6 h
      refine lv_iconst (v := (2 : Int32)) hx hb dX8_cut_23 (by decide) ?_
      refine lv_goto (tgt := 41) hx hb dX8_cut_24 (by decide) ?_
      exact hj41 _ _ _ _ _ _ _ _ _ hP hD hS (lv_sub hl [0, 1, 2, 3, 4] rfl) h
  · replace h := it c3 h
    refine lv_iconst (v := (1 : Int32)) hx hb dX8_cut_8 (by decide) ?_
    refine lv_goto (tgt := 41) hx hb dX8_cut_9 (by decide) ?_
    exact hj41 _ _ _ _ _ _ _ _ _ hP hD hS (lv_sub hl [0, 1, 2, 3, 4] rfl) h
def mX8_connect_54  (M : MS) (x1 : Int32) (x2 : Int32) (x3 : Int32) (x4 : Int32) (x5 : Int32) (t0 : Int32) : Option (Int32 × MS) :=
  (if ((sG M 0 t0).1 0) ≤ (0 : Int32) then (bm (mX8_add (sG M 0 t0) (1 : Int32) x1 x2 x3 x4 x5) fun r5 M7 => (some (r5, M7))) else (some ((0 : Int32), (sG M 0 t0))))
def mX8_connect_15  (M : MS) (x1 : Int32) (x2 : Int32) (x3 : Int32) (x4 : Int32) (x5 : Int32)  : Option (Int32 × MS) :=
  (mX8_connect_54 M x1 x2 x3 x4 x5 (1 : Int32))
def mX8_connect_36  (M : MS) (x1 : Int32) (x2 : Int32) (x3 : Int32) (x4 : Int32) (x5 : Int32)  : Option (Int32 × MS) :=
  (mX8_connect_54 M x1 x2 x3 x4 x5 (2 : Int32))
def mX8_connect (M : MS) (x1 : Int32) (x2 : Int32) (x3 : Int32) (x4 : Int32) (x5 : Int32) : Option (Int32 × MS) :=
  (bn (mX8_isWire x1) fun r1 => (if r1 = (0 : Int32) then (mX8_connect_15 M x1 x2 x3 x4 x5) else (bn (mX8_isWire x2) fun r8 => (if r8 = (0 : Int32) then (mX8_connect_15 M x1 x2 x3 x4 x5) else (if x1 = x2 then (mX8_connect_36 M x1 x2 x3 x4 x5) else (bn (mX8_isTime M x3 x4 x5) fun r12 => (if r12 = (0 : Int32) then (mX8_connect_36 M x1 x2 x3 x4 x5) else (if (M.1 7) = (10 : Int32) then (mX8_connect_54 M x1 x2 x3 x4 x5 (3 : Int32)) else (mX8_connect_54 M x1 x2 x3 x4 x5 (0 : Int32))))))))))
abbrev rmX8_connect : Room := { frames := 2, cells := 0, slots := 0, locals := 45 }
theorem hdX8_connect : yX8_connect.cls = RX8 ∧ yX8_connect.cls ≠ "java/lang/invoke/MethodHandle" ∧ yX8_connect.cls ≠ "java/lang/invoke/VarHandle" ∧ (parseMethodDescriptor yX8_connect.desc).map (fun d => d.parameters.length) = some 5 := by decide +kernel
set_option maxRecDepth 100000 in
set_option maxHeartbeats 8000000 in
theorem ctX8_connect (l : Launch) (dC : Nat → ClassId) (dI : Nat → Nat → Nat) (cq : Nat → ClassId) (q : Nat → Nat) (S : CS) (M : MS) (o : Nat → Int64) (sz : Nat) (x1 : Int32) (x2 : Int32) (x3 : Int32) (x4 : Int32) (x5 : Int32) (rr : Int32) (MM : MS) (h : mX8_connect M x1 x2 x3 x4 x5 = some (rr, MM)) : CtM_i l yX8_connect wsX8_connect rmX8_connect (fun _ => True) (fun _ => True) dC dI cq q S M o sz [.ref (q 22), .int x1, .int x2, .int x3, .int x4, .int x5] rr MM := by
  refine enM_i (cc := cX8_connect) (maxL := 6) (by decide) rfl (Nat.le_of_ble_eq_true rfl) (fun p e s m args below meth c A Q ls F hA hP hK hD hDm hX hS hl hend => ?_)
  obtain ⟨hx, hb, hml, hown, hts⟩ := id F
  have hown : s.vm.findClass RX8 = some m.cls := hown
  have F : CallFix p m c cX8_connect 6 s args wsX8_connect RX8 := F
  have hl : lv_has ls 6 [(0, .ref (q 22)), (1, .int x1), (2, .int x2), (3, .int x3), (4, .int x4), (5, .int x5)] := hl
  have hinX8 : ∀ w ∈ u_ws RX8 TX8 29, w ∈ wsX8_connect := fun w h => List.mem_cons_of_mem _ (List.mem_append_right _ h)
  have hj54 : ∀ (M : MS) (x1 : Int32) (x2 : Int32) (x3 : Int32) (x4 : Int32) (x5 : Int32) (t0 : Int32)  (H : Heap) (locs : List Loc) (ls : Array Slot), va_P (dC, dI) vwCl (wA cq q S M o) H → va_D A (wA cq q S M o) → va_S A s.heap H locs → lv_has ls 6 [(0, .ref (q 22)), (1, .int x1), (2, .int x2), (3, .int x3), (4, .int x4), (5, .int x5)] → mX8_connect_54 M x1 x2 x3 x4 x5 t0 = some (rr, MM) → W p l e rmX8_connect s m args below meth c H locs 0 0 Q (F0 m 54 ls [.int t0, .ref (q 22)]) := by
    intro M x1 x2 x3 x4 x5 t0 H locs ls hP hD hS hl h
    rw [mX8_connect_54] at h
    refine pt_22_0 F hinX8 (hts (.fieldLink RX8 44 "CableTesterModel" "thrown" "I") (mm 2 rfl)) hK hP hD hS dX8_connect_54 (fun H locs hP hD hS => ?_)
    refine lv_aload_n hx hb dX8_connect_57 rfl (lv_at hl 0 rfl) ?_
    refine va_get (D := (dC, dI)) (ci := 9) (v := .int ((sG M 0 t0).1 0)) (C := RX8) (T := TX8) (N := 29) hx hb hts hinX8 hown hK hP 22 rfl rfl 0 (by decide) (hts (.fieldLink RX8 44 "CableTesterModel" "thrown" "I") (mm 2 rfl)) (fun _ h9 => h9) rfl dX8_connect_58 ?_
    refine lv_if_le (tgt := 68) hx hb dX8_connect_61 (by decide) (fun c4 => ?_) (fun c4 => ?_)
    · replace h := it c4 h
      refine lv_aload_n hx hb dX8_connect_68 rfl (lv_at hl 0 rfl) ?_
      refine lv_iconst (v := (1 : Int32)) hx hb dX8_connect_69 (by decide) ?_
      refine lv_iload_n hx hb dX8_connect_70 rfl (lv_at hl 1 rfl) ?_
      refine lv_iload_n hx hb dX8_connect_71 rfl (lv_at hl 2 rfl) ?_
      refine lv_iload_n hx hb dX8_connect_72 rfl (lv_at hl 3 rfl) ?_
      refine lv_iload hx hb dX8_connect_73 (lv_at hl 4 rfl) ?_
      refine lv_iload hx hb dX8_connect_75 (lv_at hl 5 rfl) ?_
      obtain ⟨r5, M7, e6, h⟩ := bp h
      refine caVM_i (As := [.int (1 : Int32), .int x1, .int x2, .int x3, .int x4, .int x5]) (rest := []) (ctX8_add l dC dI cq q S (sG M 0 t0) o _ _ _ _ _ _ _ _ _ e6) F (cwV 6 hts gX8_connect_X8_add rfl rfl rfl hdX8_add ⟨Nat.le_of_ble_eq_true rfl, Nat.le_of_ble_eq_true rfl⟩) hK hP hD hDm hS hA (fun _ _ _ _ _ => trivial) (fun _ _ _ => trivial) (va_recv hK hP (ci := 9) (q0 := 22) rfl rfl) rfl hl.1 rfl (Nat.le_of_ble_eq_true rfl) dX8_connect_77 ⟨Nat.zero_le _, Nat.zero_le _⟩ (fun H locs hP hD hS => ?_)
      exact hend _ _ _ _ _ _ h hP hD hS dX8_connect_80
    · replace h := ie c4 h
      refine lv_iconst (v := (0 : Int32)) hx hb dX8_connect_64 (by decide) ?_
      refine lv_goto (tgt := 80) hx hb dX8_connect_65 (by decide) ?_
      exact hend _ _ _ _ _ _ h hP hD hS dX8_connect_80
  have hj15 : ∀ (M : MS) (x1 : Int32) (x2 : Int32) (x3 : Int32) (x4 : Int32) (x5 : Int32)   (H : Heap) (locs : List Loc) (ls : Array Slot), va_P (dC, dI) vwCl (wA cq q S M o) H → va_D A (wA cq q S M o) → va_S A s.heap H locs → lv_has ls 6 [(0, .ref (q 22)), (1, .int x1), (2, .int x2), (3, .int x3), (4, .int x4), (5, .int x5)] → mX8_connect_15 M x1 x2 x3 x4 x5 = some (rr, MM) → W p l e rmX8_connect s m args below meth c H locs 0 0 Q (F0 m 15 ls [.ref (q 22)]) := by
    intro M x1 x2 x3 x4 x5 H locs ls hP hD hS hl h
    rw [mX8_connect_15] at h
    refine lv_iconst (v := (1 : Int32)) hx hb dX8_connect_15 (by decide) ?_
    refine lv_goto (tgt := 54) hx hb dX8_connect_16 (by decide) ?_
    exact hj54 _ _ _ _ _ _ _ _ _ _ hP hD hS (lv_sub hl [0, 1, 2, 3, 4, 5] rfl) h
  have hj36 : ∀ (M : MS) (x1 : Int32) (x2 : Int32) (x3 : Int32) (x4 : Int32) (x5 : Int32)   (H : Heap) (locs : List Loc) (ls : Array Slot), va_P (dC, dI) vwCl (wA cq q S M o) H → va_D A (wA cq q S M o) → va_S A s.heap H locs → lv_has ls 6 [(0, .ref (q 22)), (1, .int x1), (2, .int x2), (3, .int x3), (4, .int x4), (5, .int x5)] → mX8_connect_36 M x1 x2 x3 x4 x5 = some (rr, MM) → W p l e rmX8_connect s m args below meth c H locs 0 0 Q (F0 m 36 ls [.ref (q 22)]) := by
    intro M x1 x2 x3 x4 x5 H locs ls hP hD hS hl h
    rw [mX8_connect_36] at h
    refine lv_iconst (v := (2 : Int32)) hx hb dX8_connect_36 (by decide) ?_
    refine lv_goto (tgt := 54) hx hb dX8_connect_37 (by decide) ?_
    exact hj54 _ _ _ _ _ _ _ _ _ _ hP hD hS (lv_sub hl [0, 1, 2, 3, 4, 5] rfl) h
  rw [mX8_connect] at h
  refine lv_aload_n hx hb dX8_connect_0 rfl (lv_at hl 0 rfl) ?_
  refine lv_iload_n hx hb dX8_connect_1 rfl (lv_at hl 1 rfl) ?_
  obtain ⟨r1, e2, h⟩ := bo h
  refine caSR_i (As := [.int x1]) (rest := [.ref (q 22)]) (ctX8_isWire l dC dI cq q S M o _ _ _ e2) F (va_cwS 1 hts gX8_connect_X8_isWire rfl rfl rfl hdX8_isWire ⟨Nat.le_of_ble_eq_true rfl, Nat.le_of_ble_eq_true rfl⟩) hK hP hD hDm hS hA (fun _ _ _ _ _ => trivial) (fun _ _ _ => trivial) rfl hl.1 rfl (Nat.le_of_ble_eq_true rfl) dX8_connect_2 ⟨Nat.zero_le _, Nat.zero_le _⟩ (fun H locs hP hD hS => ?_)
  refine lv_if_eq (tgt := 15) hx hb dX8_connect_5 (by decide) (fun c3 => ?_) (fun c3 => ?_)
  · replace h := it c3 h
    exact hj15 _ _ _ _ _ _ _ _ _ hP hD hS (lv_sub hl [0, 1, 2, 3, 4, 5] rfl) h
  · replace h := ie c3 h
    refine lv_iload_n hx hb dX8_connect_8 rfl (lv_at hl 2 rfl) ?_
    obtain ⟨r8, e9, h⟩ := bo h
    refine caSR_i (As := [.int x2]) (rest := [.ref (q 22)]) (ctX8_isWire l dC dI cq q S M o _ _ _ e9) F (va_cwS 1 hts gX8_connect_X8_isWire rfl rfl rfl hdX8_isWire ⟨Nat.le_of_ble_eq_true rfl, Nat.le_of_ble_eq_true rfl⟩) hK hP hD hDm hS hA (fun _ _ _ _ _ => trivial) (fun _ _ _ => trivial) rfl hl.1 rfl (Nat.le_of_ble_eq_true rfl) dX8_connect_9 ⟨Nat.zero_le _, Nat.zero_le _⟩ (fun H locs hP hD hS => ?_)
    refine lv_if_ne (tgt := 19) hx hb dX8_connect_12 (by decide) (fun c10 => ?_) (fun c10 => ?_)
    · replace h := ie c10 h
      refine lv_iload_n hx hb dX8_connect_19 rfl (lv_at hl 1 rfl) ?_
      refine lv_iload_n hx hb dX8_connect_20 rfl (lv_at hl 2 rfl) ?_
      refine lv_icmp_eq (tgt := 36) hx hb dX8_connect_21 (by decide) (fun c11 => ?_) (fun c11 => ?_)
      · replace h := it c11 h
        exact hj36 _ _ _ _ _ _ _ _ _ hP hD hS (lv_sub hl [0, 1, 2, 3, 4, 5] rfl) h
      · replace h := ie c11 h
        refine lv_aload_n hx hb dX8_connect_24 rfl (lv_at hl 0 rfl) ?_
        refine lv_iload_n hx hb dX8_connect_25 rfl (lv_at hl 3 rfl) ?_
        refine lv_iload hx hb dX8_connect_26 (lv_at hl 4 rfl) ?_
        refine lv_iload hx hb dX8_connect_28 (lv_at hl 5 rfl) ?_
        obtain ⟨r12, e13, h⟩ := bo h
        refine caVR_i (As := [.int x3, .int x4, .int x5]) (rest := [.ref (q 22)]) (ctX8_isTime l dC dI cq q S M o _ _ _ _ _ e13) F (cwV 3 hts gX8_connect_X8_isTime rfl rfl rfl hdX8_isTime ⟨Nat.le_of_ble_eq_true rfl, Nat.le_of_ble_eq_true rfl⟩) hK hP hD hDm hS hA (fun _ _ _ _ _ => trivial) (fun _ _ _ => trivial) (va_recv hK hP (ci := 9) (q0 := 22) rfl rfl) rfl hl.1 rfl (Nat.le_of_ble_eq_true rfl) dX8_connect_30 ⟨Nat.zero_le _, Nat.zero_le _⟩ (fun H locs hP hD hS => ?_)
        refine lv_if_ne (tgt := 40) hx hb dX8_connect_33 (by decide) (fun c14 => ?_) (fun c14 => ?_)
        · replace h := ie c14 h
          refine lv_aload_n hx hb dX8_connect_40 rfl (lv_at hl 0 rfl) ?_
          refine va_get (D := (dC, dI)) (ci := 9) (v := .int (M.1 7)) (C := RX8) (T := TX8) (N := 29) hx hb hts hinX8 hown hK hP 22 rfl rfl 7 (by decide) (hts (.fieldLink RX8 64 "CableTesterModel" "many" "I") (mm 1 rfl)) (fun _ h9 => h9) rfl dX8_connect_41 ?_
          refine lv_bipush (v := (10 : Int32)) hx hb dX8_connect_44 (by decide) ?_
          refine lv_icmp_ne (tgt := 53) hx hb dX8_connect_46 (by decide) (fun c15 => ?_) (fun c15 => ?_)
          · replace h := ie c15 h
            refine lv_iconst (v := (0 : Int32)) hx hb dX8_connect_53 (by decide) ?_
            exact hj54 _ _ _ _ _ _ _ _ _ _ hP hD hS (lv_sub hl [0, 1, 2, 3, 4, 5] rfl) h
          · replace h := it c15 h
            refine lv_iconst (v := (3 : Int32)) hx hb dX8_connect_49 (by decide) ?_
            refine lv_goto (tgt := 54) hx hb dX8_connect_50 (by decide) ?_
            exact hj54 _ _ _ _ _ _ _ _ _ _ hP hD hS (lv_sub hl [0, 1, 2, 3, 4, 5] rfl) h
        · replace h := it c14 h
          exact hj36 _ _ _ _ _ _ _ _ _ hP hD hS (lv_sub hl [0, 1, 2, 3, 4, 5] rfl) h
    · replace h := it c10 h
      exact hj15 _ _ _ _ _ _ _ _ _ hP hD hS (lv_sub hl [0, 1, 2, 3, 4, 5] rfl) h
def mX8_repair_47 (n : Nat)   : Nat → MS → Int32 → Option (Int32 × MS)
  | 0, _, _ => none
  | k + 1, M, x2 => (if ((6 : Int32) * (M.1 7)) ≤ x2 then (some ((M.1 7), M)) else (if inb (x2 + (6 : Int32)) 60 then (if inb x2 60 then (mX8_repair_47 n k (sB M 24 x2.toNatClampNeg (M.2.1 24 (x2 + (6 : Int32)).toNatClampNeg)) (x2 + (1 : Int32))) else none) else none))
def mX8_repair_20 (n : Nat)  (M : MS) (x1 : Int32) (t0 : Int32) : Option (Int32 × MS) :=
  (if ((sG M 0 t0).1 0) ≤ (0 : Int32) then (mX8_repair_47 n n (sG (sG M 0 t0) 7 (((sG M 0 t0).1 7) - (1 : Int32))) ((6 : Int32) * x1)) else (some ((0 : Int32), (sG M 0 t0))))
def mX8_repair (n : Nat) (M : MS) (x1 : Int32) : Option (Int32 × MS) :=
  (bn (mX8_within x1 (0 : Int32) ((M.1 7) - (1 : Int32))) fun r1 => (if r1 = (0 : Int32) then (mX8_repair_20 n M x1 (1 : Int32)) else (mX8_repair_20 n M x1 (0 : Int32))))
abbrev rmX8_repair : Room := { frames := 1, cells := 0, slots := 0, locals := 22 }
theorem hdX8_repair : yX8_repair.cls = RX8 ∧ yX8_repair.cls ≠ "java/lang/invoke/MethodHandle" ∧ yX8_repair.cls ≠ "java/lang/invoke/VarHandle" ∧ (parseMethodDescriptor yX8_repair.desc).map (fun d => d.parameters.length) = some 1 := by decide +kernel
set_option maxRecDepth 100000 in
set_option maxHeartbeats 8000000 in
theorem ctX8_repair (l : Launch) (dC : Nat → ClassId) (dI : Nat → Nat → Nat) (cq : Nat → ClassId) (q : Nat → Nat) (S : CS) (M : MS) (o : Nat → Int64) (sz : Nat) (n : Nat) (x1 : Int32) (rr : Int32) (MM : MS) (h : mX8_repair n M x1 = some (rr, MM)) : CtM_i l yX8_repair wsX8_repair rmX8_repair (fun _ => True) (fun _ => True) dC dI cq q S M o sz [.ref (q 22), .int x1] rr MM := by
  refine enM_i (cc := cX8_repair) (maxL := 3) (by decide) rfl (Nat.le_of_ble_eq_true rfl) (fun p e s m args below meth c A Q ls F hA hP hK hD hDm hX hS hl hend => ?_)
  obtain ⟨hx, hb, hml, hown, hts⟩ := id F
  have hown : s.vm.findClass RX8 = some m.cls := hown
  have F : CallFix p m c cX8_repair 3 s args wsX8_repair RX8 := F
  have hl : lv_has ls 3 [(0, .ref (q 22)), (1, .int x1)] := hl
  have hinX8 : ∀ w ∈ u_ws RX8 TX8 29, w ∈ wsX8_repair := fun w h => List.mem_cons_of_mem _ (List.mem_append_right _ h)
  have hL47 : ∀   (k : Nat) (M : MS) (x2 : Int32) (H : Heap) (locs : List Loc) (ls : Array Slot), va_P (dC, dI) vwCl (wA cq q S M o) H → va_D A (wA cq q S M o) → va_S A s.heap H locs → lv_has ls 3 [(0, .ref (q 22)), (2, .int x2)] → mX8_repair_47 n k M x2 = some (rr, MM) → W p l e rmX8_repair s m args below meth c H locs 0 0 Q (F0 m 47 ls []) := by
    intro k
    induction k with
    | zero =>
      intro M x2 H locs ls hP hD hS hl h
      rw [mX8_repair_47] at h
      cases h
    | succ k ih =>
      intro M x2 H locs ls hP hD hS hl h
      rw [mX8_repair_47] at h
      refine lv_iload_n hx hb dX8_repair_47 rfl (lv_at hl 1 rfl) ?_
      refine lv_bipush (v := (6 : Int32)) hx hb dX8_repair_48 (by decide) ?_
      refine lv_aload_n hx hb dX8_repair_50 rfl (lv_at hl 0 rfl) ?_
      refine va_get (D := (dC, dI)) (ci := 9) (v := .int (M.1 7)) (C := RX8) (T := TX8) (N := 29) hx hb hts hinX8 hown hK hP 22 rfl rfl 7 (by decide) (hts (.fieldLink RX8 64 "CableTesterModel" "many" "I") (mm 1 rfl)) (fun _ h9 => h9) rfl dX8_repair_51 ?_
      refine lv_imul hx hb dX8_repair_54 ?_
      refine lv_icmp_ge (tgt := 79) hx hb dX8_repair_55 (by decide) (fun c5 => ?_) (fun c5 => ?_)
      · replace h := it c5 h
        refine lv_aload_n hx hb dX8_repair_79 rfl (lv_at hl 0 rfl) ?_
        refine va_get (D := (dC, dI)) (ci := 9) (v := .int (M.1 7)) (C := RX8) (T := TX8) (N := 29) hx hb hts hinX8 hown hK hP 22 rfl rfl 7 (by decide) (hts (.fieldLink RX8 64 "CableTesterModel" "many" "I") (mm 1 rfl)) (fun _ h9 => h9) rfl dX8_repair_80 ?_
        exact hend _ _ _ _ _ _ h hP hD hS dX8_repair_83
      · replace h := ie c5 h
        refine lv_aload_n hx hb dX8_repair_58 rfl (lv_at hl 0 rfl) ?_
        refine va_get (D := (dC, dI)) (ci := 9) (v := .ref (q 24)) (C := RX8) (T := TX8) (N := 29) hx hb hts hinX8 hown hK hP 22 rfl rfl 6 (by decide) (hts (.fieldLink RX8 13 "CableTesterModel" "faults" "[I") (mm 3 rfl)) (fun _ h9 => h9) rfl dX8_repair_59 ?_
        refine lv_iload_n hx hb dX8_repair_62 rfl (lv_at hl 1 rfl) ?_
        refine lv_aload_n hx hb dX8_repair_63 rfl (lv_at hl 0 rfl) ?_
        refine va_get (D := (dC, dI)) (ci := 9) (v := .ref (q 24)) (C := RX8) (T := TX8) (N := 29) hx hb hts hinX8 hown hK hP 22 rfl rfl 6 (by decide) (hts (.fieldLink RX8 13 "CableTesterModel" "faults" "[I") (mm 3 rfl)) (fun _ h9 => h9) rfl dX8_repair_64 ?_
        refine lv_iload_n hx hb dX8_repair_67 rfl (lv_at hl 1 rfl) ?_
        refine lv_bipush (v := (6 : Int32)) hx hb dX8_repair_68 (by decide) ?_
        refine lv_iadd hx hb dX8_repair_70 ?_
        obtain ⟨g6, h⟩ := gd h
        refine va_iald (D := (dC, dI)) hx hb hK hP 24 13 rfl rfl (inb_ok g6) dX8_repair_71 ?_
        obtain ⟨g7, h⟩ := gd h
        refine as_24 F hK hP hD hS (inb_ok g7) dX8_repair_72 (fun H locs hP hD hS => ?_)
        refine lv_iinc (v := (x2 + (1 : Int32))) (lv' := [(2, .int (x2 + (1 : Int32))), (0, .ref (q 22))]) hx hb dX8_repair_73 hl (k := 1) rfl rfl (by decide) rfl (fun ls hl => ?_)
        refine lv_goto (tgt := 47) hx hb dX8_repair_76 (by decide) ?_
        exact ih _ _ _ _ _ hP hD hS (lv_sub hl [1, 0] rfl) h
  have hj20 : ∀ (M : MS) (x1 : Int32) (t0 : Int32)  (H : Heap) (locs : List Loc) (ls : Array Slot), va_P (dC, dI) vwCl (wA cq q S M o) H → va_D A (wA cq q S M o) → va_S A s.heap H locs → lv_has ls 3 [(0, .ref (q 22)), (1, .int x1)] → mX8_repair_20 n M x1 t0 = some (rr, MM) → W p l e rmX8_repair s m args below meth c H locs 0 0 Q (F0 m 20 ls [.int t0, .ref (q 22)]) := by
    intro M x1 t0 H locs ls hP hD hS hl h
    rw [mX8_repair_20] at h
    refine pt_22_0 F hinX8 (hts (.fieldLink RX8 44 "CableTesterModel" "thrown" "I") (mm 2 rfl)) hK hP hD hS dX8_repair_20 (fun H locs hP hD hS => ?_)
    refine lv_aload_n hx hb dX8_repair_23 rfl (lv_at hl 0 rfl) ?_
    refine va_get (D := (dC, dI)) (ci := 9) (v := .int ((sG M 0 t0).1 0)) (C := RX8) (T := TX8) (N := 29) hx hb hts hinX8 hown hK hP 22 rfl rfl 0 (by decide) (hts (.fieldLink RX8 44 "CableTesterModel" "thrown" "I") (mm 2 rfl)) (fun _ h9 => h9) rfl dX8_repair_24 ?_
    refine lv_if_le (tgt := 32) hx hb dX8_repair_27 (by decide) (fun c4 => ?_) (fun c4 => ?_)
    · replace h := it c4 h
      refine lv_aload_n hx hb dX8_repair_32 rfl (lv_at hl 0 rfl) ?_
      refine lv_dup hx hb dX8_repair_33 rfl ?_
      refine va_get (D := (dC, dI)) (ci := 9) (v := .int ((sG M 0 t0).1 7)) (C := RX8) (T := TX8) (N := 29) hx hb hts hinX8 hown hK hP 22 rfl rfl 7 (by decide) (hts (.fieldLink RX8 64 "CableTesterModel" "many" "I") (mm 1 rfl)) (fun _ h9 => h9) rfl dX8_repair_34 ?_
      refine lv_iconst (v := (1 : Int32)) hx hb dX8_repair_37 (by decide) ?_
      refine lv_isub hx hb dX8_repair_38 ?_
      refine pt_22_7 F hinX8 (hts (.fieldLink RX8 64 "CableTesterModel" "many" "I") (mm 1 rfl)) hK hP hD hS dX8_repair_39 (fun H locs hP hD hS => ?_)
      refine lv_bipush (v := (6 : Int32)) hx hb dX8_repair_42 (by decide) ?_
      refine lv_iload_n hx hb dX8_repair_44 rfl (lv_at hl 1 rfl) ?_
      refine lv_imul hx hb dX8_repair_45 ?_
      refine lv_istore_n (lv' := [(2, .int ((6 : Int32) * x1)), (0, .ref (q 22)), (1, .int x1)]) hx hb dX8_repair_46 rfl hl (by decide) rfl (fun ls hl => ?_)
      exact hL47 _ _ _ _ _ _ hP hD hS (lv_sub hl [1, 0] rfl) h
    · replace h := ie c4 h
      refine lv_iconst (v := (0 : Int32)) hx hb dX8_repair_30 (by decide) ?_
      exact hend _ _ _ _ _ _ h hP hD hS dX8_repair_31
  rw [mX8_repair] at h
  refine lv_aload_n hx hb dX8_repair_0 rfl (lv_at hl 0 rfl) ?_
  refine lv_iload_n hx hb dX8_repair_1 rfl (lv_at hl 1 rfl) ?_
  refine lv_iconst (v := (0 : Int32)) hx hb dX8_repair_2 (by decide) ?_
  refine lv_aload_n hx hb dX8_repair_3 rfl (lv_at hl 0 rfl) ?_
  refine va_get (D := (dC, dI)) (ci := 9) (v := .int (M.1 7)) (C := RX8) (T := TX8) (N := 29) hx hb hts hinX8 hown hK hP 22 rfl rfl 7 (by decide) (hts (.fieldLink RX8 64 "CableTesterModel" "many" "I") (mm 1 rfl)) (fun _ h9 => h9) rfl dX8_repair_4 ?_
  refine lv_iconst (v := (1 : Int32)) hx hb dX8_repair_7 (by decide) ?_
  refine lv_isub hx hb dX8_repair_8 ?_
  obtain ⟨r1, e2, h⟩ := bo h
  refine caSR_i (As := [.int x1, .int (0 : Int32), .int ((M.1 7) - (1 : Int32))]) (rest := [.ref (q 22)]) (ctX8_within l dC dI cq q S M o _ _ _ _ _ e2) F (va_cwS 3 hts gX8_repair_X8_within rfl rfl rfl hdX8_within ⟨Nat.le_of_ble_eq_true rfl, Nat.le_of_ble_eq_true rfl⟩) hK hP hD hDm hS hA (fun _ _ _ _ _ => trivial) (fun _ _ _ => trivial) rfl hl.1 rfl (Nat.le_of_ble_eq_true rfl) dX8_repair_9 ⟨Nat.zero_le _, Nat.zero_le _⟩ (fun H locs hP hD hS => ?_)
  refine lv_if_eq (tgt := 19) hx hb dX8_repair_12 (by decide) (fun c3 => ?_) (fun c3 => ?_)
  · replace h := it c3 h
    refine lv_iconst (v := (1 : Int32)) hx hb dX8_repair_19 (by decide) ?_
    exact hj20 _ _ _ _ _ _ hP hD hS (lv_sub hl [0, 1] rfl) h
  · replace h := ie c3 h
    refine lv_iconst (v := (0 : Int32)) hx hb dX8_repair_15 (by decide) ?_
    refine lv_goto (tgt := 20) hx hb dX8_repair_16 (by decide) ?_
    exact hj20 _ _ _ _ _ _ hP hD hS (lv_sub hl [0, 1] rfl) h
def mX8_plug_16  (M : MS) (x1 : Int32) (t0 : Int32) : Option (Int32 × MS) :=
  (if ((sG M 0 t0).1 0) ≤ (0 : Int32) then (some (((sG M 0 t0).1 3), (sG (sG M 0 t0) 3 x1))) else (some ((0 : Int32), (sG M 0 t0))))
def mX8_plug (M : MS) (x1 : Int32) : Option (Int32 × MS) :=
  (bn (mX8_within x1 (0 : Int32) (99 : Int32)) fun r1 => (if r1 = (0 : Int32) then (mX8_plug_16 M x1 (1 : Int32)) else (mX8_plug_16 M x1 (0 : Int32))))
abbrev rmX8_plug : Room := { frames := 1, cells := 0, slots := 0, locals := 22 }
theorem hdX8_plug : yX8_plug.cls = RX8 ∧ yX8_plug.cls ≠ "java/lang/invoke/MethodHandle" ∧ yX8_plug.cls ≠ "java/lang/invoke/VarHandle" ∧ (parseMethodDescriptor yX8_plug.desc).map (fun d => d.parameters.length) = some 1 := by decide +kernel
set_option maxRecDepth 100000 in
set_option maxHeartbeats 8000000 in
theorem ctX8_plug (l : Launch) (dC : Nat → ClassId) (dI : Nat → Nat → Nat) (cq : Nat → ClassId) (q : Nat → Nat) (S : CS) (M : MS) (o : Nat → Int64) (sz : Nat) (x1 : Int32) (rr : Int32) (MM : MS) (h : mX8_plug M x1 = some (rr, MM)) : CtM_i l yX8_plug wsX8_plug rmX8_plug (fun _ => True) (fun _ => True) dC dI cq q S M o sz [.ref (q 22), .int x1] rr MM := by
  refine enM_i (cc := cX8_plug) (maxL := 3) (by decide) rfl (Nat.le_of_ble_eq_true rfl) (fun p e s m args below meth c A Q ls F hA hP hK hD hDm hX hS hl hend => ?_)
  obtain ⟨hx, hb, hml, hown, hts⟩ := id F
  have hown : s.vm.findClass RX8 = some m.cls := hown
  have F : CallFix p m c cX8_plug 3 s args wsX8_plug RX8 := F
  have hl : lv_has ls 3 [(0, .ref (q 22)), (1, .int x1)] := hl
  have hinX8 : ∀ w ∈ u_ws RX8 TX8 29, w ∈ wsX8_plug := fun w h => List.mem_cons_of_mem _ (List.mem_append_right _ h)
  have hj16 : ∀ (M : MS) (x1 : Int32) (t0 : Int32)  (H : Heap) (locs : List Loc) (ls : Array Slot), va_P (dC, dI) vwCl (wA cq q S M o) H → va_D A (wA cq q S M o) → va_S A s.heap H locs → lv_has ls 3 [(0, .ref (q 22)), (1, .int x1)] → mX8_plug_16 M x1 t0 = some (rr, MM) → W p l e rmX8_plug s m args below meth c H locs 0 0 Q (F0 m 16 ls [.int t0, .ref (q 22)]) := by
    intro M x1 t0 H locs ls hP hD hS hl h
    rw [mX8_plug_16] at h
    refine pt_22_0 F hinX8 (hts (.fieldLink RX8 44 "CableTesterModel" "thrown" "I") (mm 1 rfl)) hK hP hD hS dX8_plug_16 (fun H locs hP hD hS => ?_)
    refine lv_aload_n hx hb dX8_plug_19 rfl (lv_at hl 0 rfl) ?_
    refine va_get (D := (dC, dI)) (ci := 9) (v := .int ((sG M 0 t0).1 0)) (C := RX8) (T := TX8) (N := 29) hx hb hts hinX8 hown hK hP 22 rfl rfl 0 (by decide) (hts (.fieldLink RX8 44 "CableTesterModel" "thrown" "I") (mm 1 rfl)) (fun _ h9 => h9) rfl dX8_plug_20 ?_
    refine lv_if_le (tgt := 28) hx hb dX8_plug_23 (by decide) (fun c4 => ?_) (fun c4 => ?_)
    · replace h := it c4 h
      refine lv_aload_n hx hb dX8_plug_28 rfl (lv_at hl 0 rfl) ?_
      refine va_get (D := (dC, dI)) (ci := 9) (v := .int ((sG M 0 t0).1 3)) (C := RX8) (T := TX8) (N := 29) hx hb hts hinX8 hown hK hP 22 rfl rfl 3 (by decide) (hts (.fieldLink RX8 58 "CableTesterModel" "remote" "I") (mm 2 rfl)) (fun _ h9 => h9) rfl dX8_plug_29 ?_
      refine lv_istore_n (lv' := [(2, .int ((sG M 0 t0).1 3)), (0, .ref (q 22)), (1, .int x1)]) hx hb dX8_plug_32 rfl hl (by decide) rfl (fun ls hl => ?_)
      refine lv_aload_n hx hb dX8_plug_33 rfl (lv_at hl 1 rfl) ?_
      refine lv_iload_n hx hb dX8_plug_34 rfl (lv_at hl 2 rfl) ?_
      refine pt_22_3 F hinX8 (hts (.fieldLink RX8 58 "CableTesterModel" "remote" "I") (mm 2 rfl)) hK hP hD hS dX8_plug_35 (fun H locs hP hD hS => ?_)
      refine lv_iload_n hx hb dX8_plug_38 rfl (lv_at hl 0 rfl) ?_
      exact hend _ _ _ _ _ _ h hP hD hS dX8_plug_39
    · replace h := ie c4 h
      refine lv_iconst (v := (0 : Int32)) hx hb dX8_plug_26 (by decide) ?_
      exact hend _ _ _ _ _ _ h hP hD hS dX8_plug_27
  rw [mX8_plug] at h
  refine lv_aload_n hx hb dX8_plug_0 rfl (lv_at hl 0 rfl) ?_
  refine lv_iload_n hx hb dX8_plug_1 rfl (lv_at hl 1 rfl) ?_
  refine lv_iconst (v := (0 : Int32)) hx hb dX8_plug_2 (by decide) ?_
  refine lv_bipush (v := (99 : Int32)) hx hb dX8_plug_3 (by decide) ?_
  obtain ⟨r1, e2, h⟩ := bo h
  refine caSR_i (As := [.int x1, .int (0 : Int32), .int (99 : Int32)]) (rest := [.ref (q 22)]) (ctX8_within l dC dI cq q S M o _ _ _ _ _ e2) F (va_cwS 3 hts gX8_plug_X8_within rfl rfl rfl hdX8_within ⟨Nat.le_of_ble_eq_true rfl, Nat.le_of_ble_eq_true rfl⟩) hK hP hD hDm hS hA (fun _ _ _ _ _ => trivial) (fun _ _ _ => trivial) rfl hl.1 rfl (Nat.le_of_ble_eq_true rfl) dX8_plug_5 ⟨Nat.zero_le _, Nat.zero_le _⟩ (fun H locs hP hD hS => ?_)
  refine lv_if_eq (tgt := 15) hx hb dX8_plug_8 (by decide) (fun c3 => ?_) (fun c3 => ?_)
  · replace h := it c3 h
    refine lv_iconst (v := (1 : Int32)) hx hb dX8_plug_15 (by decide) ?_
    exact hj16 _ _ _ _ _ _ hP hD hS (lv_sub hl [0, 1] rfl) h
  · replace h := ie c3 h
    refine lv_iconst (v := (0 : Int32)) hx hb dX8_plug_11 (by decide) ?_
    refine lv_goto (tgt := 16) hx hb dX8_plug_12 (by decide) ?_
    exact hj16 _ _ _ _ _ _ hP hD hS (lv_sub hl [0, 1] rfl) h
def mX8_record_47 (n : Nat)  (M : MS)   : Option (MS) :=
  (bm (mX8_wrong n M (M.1 4)) fun r2 M4 => (if inb (M.1 9) 64 then (some (sG (sB M4 25 (M.1 9).toNatClampNeg r2) 9 (((sB M4 25 (M.1 9).toNatClampNeg r2).1 9) + (1 : Int32)))) else none))
def mX8_record_11 (n : Nat)   : Nat → MS → Int32 → Option (MS)
  | 0, _, _ => none
  | k + 1, M, x1 => (if (64 : Int32) ≤ x1 then (mX8_record_47 n (sG M 9 ((M.1 9) - (1 : Int32)))) else (if inb x1 64 then (if inb (x1 - (1 : Int32)) 64 then (mX8_record_11 n k (sB M 25 (x1 - (1 : Int32)).toNatClampNeg (M.2.1 25 x1.toNatClampNeg)) (x1 + (1 : Int32))) else none) else none))
def mX8_record (n : Nat) (M : MS)  : Option (MS) :=
  (if (M.1 9) = (64 : Int32) then (mX8_record_11 n n M (1 : Int32)) else (mX8_record_47 n M))
abbrev rmX8_record : Room := { frames := 6, cells := 0, slots := 0, locals := 138 }
theorem hdX8_record : yX8_record.cls = RX8 ∧ yX8_record.cls ≠ "java/lang/invoke/MethodHandle" ∧ yX8_record.cls ≠ "java/lang/invoke/VarHandle" ∧ (parseMethodDescriptor yX8_record.desc).map (fun d => d.parameters.length) = some 0 := by decide +kernel
set_option maxRecDepth 100000 in
set_option maxHeartbeats 8000000 in
theorem ctX8_record (l : Launch) (dC : Nat → ClassId) (dI : Nat → Nat → Nat) (cq : Nat → ClassId) (q : Nat → Nat) (S : CS) (M : MS) (o : Nat → Int64) (sz : Nat) (n : Nat)  (MM : MS) (h : mX8_record n M = some MM) : CtM_v l yX8_record wsX8_record rmX8_record (fun _ => True) (fun _ => True) dC dI cq q S M o sz [.ref (q 22)] MM := by
  refine enM_v (cc := cX8_record) (maxL := 2) (by decide) rfl (Nat.le_of_ble_eq_true rfl) (fun p e s m args below meth c A Q ls F hA hP hK hD hDm hX hS hl hend => ?_)
  obtain ⟨hx, hb, hml, hown, hts⟩ := id F
  have hown : s.vm.findClass RX8 = some m.cls := hown
  have F : CallFix p m c cX8_record 2 s args wsX8_record RX8 := F
  have hl : lv_has ls 2 [(0, .ref (q 22))] := hl
  have hinX8 : ∀ w ∈ u_ws RX8 TX8 29, w ∈ wsX8_record := fun w h => List.mem_cons_of_mem _ (List.mem_append_right _ h)
  have hj47 : ∀ (M : MS)    (H : Heap) (locs : List Loc) (ls : Array Slot), va_P (dC, dI) vwCl (wA cq q S M o) H → va_D A (wA cq q S M o) → va_S A s.heap H locs → lv_has ls 2 [(0, .ref (q 22))] → mX8_record_47 n M = some MM → W p l e rmX8_record s m args below meth c H locs 0 0 Q (F0 m 47 ls []) := by
    intro M H locs ls hP hD hS hl h
    rw [mX8_record_47] at h
    refine lv_aload_n hx hb dX8_record_47 rfl (lv_at hl 0 rfl) ?_
    refine va_get (D := (dC, dI)) (ci := 9) (v := .ref (q 25)) (C := RX8) (T := TX8) (N := 29) hx hb hts hinX8 hown hK hP 22 rfl rfl 8 (by decide) (hts (.fieldLink RX8 16 "CableTesterModel" "kept" "[I") (mm 2 rfl)) (fun _ h9 => h9) rfl dX8_record_48 ?_
    refine lv_aload_n hx hb dX8_record_51 rfl (lv_at hl 0 rfl) ?_
    refine va_get (D := (dC, dI)) (ci := 9) (v := .int (M.1 9)) (C := RX8) (T := TX8) (N := 29) hx hb hts hinX8 hown hK hP 22 rfl rfl 9 (by decide) (hts (.fieldLink RX8 67 "CableTesterModel" "records" "I") (mm 1 rfl)) (fun _ h9 => h9) rfl dX8_record_52 ?_
    refine lv_aload_n hx hb dX8_record_55 rfl (lv_at hl 0 rfl) ?_
    refine lv_aload_n hx hb dX8_record_56 rfl (lv_at hl 0 rfl) ?_
    refine va_get (D := (dC, dI)) (ci := 9) (v := .int (M.1 4)) (C := RX8) (T := TX8) (N := 29) hx hb hts hinX8 hown hK hP 22 rfl rfl 4 (by decide) (hts (.fieldLink RX8 61 "CableTesterModel" "tick" "I") (mm 3 rfl)) (fun _ h9 => h9) rfl dX8_record_57 ?_
    obtain ⟨r2, M4, e3, h⟩ := bp h
    refine caVM_i (As := [.int (M.1 4)]) (rest := [.int (M.1 9), .ref (q 25)]) (ctX8_wrong l dC dI cq q S M o _ _ _ _ _ e3) F (cwV 1 hts gX8_record_X8_wrong rfl rfl rfl hdX8_wrong ⟨Nat.le_of_ble_eq_true rfl, Nat.le_of_ble_eq_true rfl⟩) hK hP hD hDm hS hA (fun _ _ _ _ _ => trivial) (fun _ _ _ => trivial) (va_recv hK hP (ci := 9) (q0 := 22) rfl rfl) rfl hl.1 rfl (Nat.le_of_ble_eq_true rfl) dX8_record_60 ⟨Nat.zero_le _, Nat.zero_le _⟩ (fun H locs hP hD hS => ?_)
    obtain ⟨g5, h⟩ := gd h
    refine as_25 F hK hP hD hS (inb_ok g5) dX8_record_63 (fun H locs hP hD hS => ?_)
    refine lv_aload_n hx hb dX8_record_64 rfl (lv_at hl 0 rfl) ?_
    refine lv_dup hx hb dX8_record_65 rfl ?_
    refine va_get (D := (dC, dI)) (ci := 9) (v := .int ((sB M4 25 (M.1 9).toNatClampNeg r2).1 9)) (C := RX8) (T := TX8) (N := 29) hx hb hts hinX8 hown hK hP 22 rfl rfl 9 (by decide) (hts (.fieldLink RX8 67 "CableTesterModel" "records" "I") (mm 1 rfl)) (fun _ h9 => h9) rfl dX8_record_66 ?_
    refine lv_iconst (v := (1 : Int32)) hx hb dX8_record_69 (by decide) ?_
    refine lv_iadd hx hb dX8_record_70 ?_
    refine pt_22_9 F hinX8 (hts (.fieldLink RX8 67 "CableTesterModel" "records" "I") (mm 1 rfl)) hK hP hD hS dX8_record_71 (fun H locs hP hD hS => ?_)
    exact hend _ _ _ _ _ h hP hD hS dX8_record_74
  have hL11 : ∀   (k : Nat) (M : MS) (x1 : Int32) (H : Heap) (locs : List Loc) (ls : Array Slot), va_P (dC, dI) vwCl (wA cq q S M o) H → va_D A (wA cq q S M o) → va_S A s.heap H locs → lv_has ls 2 [(0, .ref (q 22)), (1, .int x1)] → mX8_record_11 n k M x1 = some MM → W p l e rmX8_record s m args below meth c H locs 0 0 Q (F0 m 11 ls []) := by
    intro k
    induction k with
    | zero =>
      intro M x1 H locs ls hP hD hS hl h
      rw [mX8_record_11] at h
      cases h
    | succ k ih =>
      intro M x1 H locs ls hP hD hS hl h
      rw [mX8_record_11] at h
      refine lv_iload_n hx hb dX8_record_11 rfl (lv_at hl 1 rfl) ?_
      refine lv_bipush (v := (64 : Int32)) hx hb dX8_record_12 (by decide) ?_
      refine lv_icmp_ge (tgt := 37) hx hb dX8_record_14 (by decide) (fun c6 => ?_) (fun c6 => ?_)
      · replace h := it c6 h
        refine lv_aload_n hx hb dX8_record_37 rfl (lv_at hl 0 rfl) ?_
        refine lv_dup hx hb dX8_record_38 rfl ?_
        refine va_get (D := (dC, dI)) (ci := 9) (v := .int (M.1 9)) (C := RX8) (T := TX8) (N := 29) hx hb hts hinX8 hown hK hP 22 rfl rfl 9 (by decide) (hts (.fieldLink RX8 67 "CableTesterModel" "records" "I") (mm 1 rfl)) (fun _ h9 => h9) rfl dX8_record_39 ?_
        refine lv_iconst (v := (1 : Int32)) hx hb dX8_record_42 (by decide) ?_
        refine lv_isub hx hb dX8_record_43 ?_
        refine pt_22_9 F hinX8 (hts (.fieldLink RX8 67 "CableTesterModel" "records" "I") (mm 1 rfl)) hK hP hD hS dX8_record_44 (fun H locs hP hD hS => ?_)
        exact hj47 _ _ _ _ hP hD hS (lv_sub hl [0] rfl) h
      · replace h := ie c6 h
        refine lv_aload_n hx hb dX8_record_17 rfl (lv_at hl 0 rfl) ?_
        refine va_get (D := (dC, dI)) (ci := 9) (v := .ref (q 25)) (C := RX8) (T := TX8) (N := 29) hx hb hts hinX8 hown hK hP 22 rfl rfl 8 (by decide) (hts (.fieldLink RX8 16 "CableTesterModel" "kept" "[I") (mm 2 rfl)) (fun _ h9 => h9) rfl dX8_record_18 ?_
        refine lv_iload_n hx hb dX8_record_21 rfl (lv_at hl 1 rfl) ?_
        refine lv_iconst (v := (1 : Int32)) hx hb dX8_record_22 (by decide) ?_
        refine lv_isub hx hb dX8_record_23 ?_
        refine lv_aload_n hx hb dX8_record_24 rfl (lv_at hl 0 rfl) ?_
        refine va_get (D := (dC, dI)) (ci := 9) (v := .ref (q 25)) (C := RX8) (T := TX8) (N := 29) hx hb hts hinX8 hown hK hP 22 rfl rfl 8 (by decide) (hts (.fieldLink RX8 16 "CableTesterModel" "kept" "[I") (mm 2 rfl)) (fun _ h9 => h9) rfl dX8_record_25 ?_
        refine lv_iload_n hx hb dX8_record_28 rfl (lv_at hl 1 rfl) ?_
        obtain ⟨g7, h⟩ := gd h
        refine va_iald (D := (dC, dI)) hx hb hK hP 25 14 rfl rfl (inb_ok g7) dX8_record_29 ?_
        obtain ⟨g8, h⟩ := gd h
        refine as_25 F hK hP hD hS (inb_ok g8) dX8_record_30 (fun H locs hP hD hS => ?_)
        refine lv_iinc (v := (x1 + (1 : Int32))) (lv' := [(1, .int (x1 + (1 : Int32))), (0, .ref (q 22))]) hx hb dX8_record_31 hl (k := 1) rfl rfl (by decide) rfl (fun ls hl => ?_)
        refine lv_goto (tgt := 11) hx hb dX8_record_34 (by decide) ?_
        exact ih _ _ _ _ _ hP hD hS (lv_sub hl [1, 0] rfl) h
  rw [mX8_record] at h
  refine lv_aload_n hx hb dX8_record_0 rfl (lv_at hl 0 rfl) ?_
  refine va_get (D := (dC, dI)) (ci := 9) (v := .int (M.1 9)) (C := RX8) (T := TX8) (N := 29) hx hb hts hinX8 hown hK hP 22 rfl rfl 9 (by decide) (hts (.fieldLink RX8 67 "CableTesterModel" "records" "I") (mm 1 rfl)) (fun _ h9 => h9) rfl dX8_record_1 ?_
  refine lv_bipush (v := (64 : Int32)) hx hb dX8_record_4 (by decide) ?_
  refine lv_icmp_ne (tgt := 47) hx hb dX8_record_6 (by decide) (fun c1 => ?_) (fun c1 => ?_)
  · replace h := ie c1 h
    exact hj47 _ _ _ _ hP hD hS (lv_sub hl [0] rfl) h
  · replace h := it c1 h
    refine lv_iconst (v := (1 : Int32)) hx hb dX8_record_9 (by decide) ?_
    refine lv_istore_n (lv' := [(1, .int (1 : Int32)), (0, .ref (q 22))]) hx hb dX8_record_10 rfl hl (by decide) rfl (fun ls hl => ?_)
    exact hL11 _ _ _ _ _ _ hP hD hS (lv_sub hl [1, 0] rfl) h
def mX8_pass_45 (n : Nat)  (x1 : Int32) : Nat → MS → Int32 → Option (Int32 × MS)
  | 0, _, _ => none
  | k + 1, M, x2 => (if x1 ≤ x2 then (some ((M.1 4), M)) else (bn (mX8_record n (sG M 4 ((M.1 4) + (1 : Int32)))) fun M9 => (mX8_pass_45 n x1 k M9 (x2 + (1 : Int32)))))
def mX8_pass_31 (n : Nat)  (M : MS) (x1 : Int32) (t0 : Int32) : Option (Int32 × MS) :=
  (if ((sG M 0 t0).1 0) ≤ (0 : Int32) then (mX8_pass_45 n x1 n (sG M 0 t0) (0 : Int32)) else (some ((0 : Int32), (sG M 0 t0))))
def mX8_pass (n : Nat) (M : MS) (x1 : Int32) : Option (Int32 × MS) :=
  (bn (mX8_within x1 (1 : Int32) (100 : Int32)) fun r1 => (if r1 = (0 : Int32) then (mX8_pass_31 n M x1 (1 : Int32)) else (if ((M.1 4) + x1) ≤ (100000 : Int32) then (mX8_pass_31 n M x1 (0 : Int32)) else (mX8_pass_31 n M x1 (2 : Int32)))))
abbrev rmX8_pass : Room := { frames := 7, cells := 0, slots := 0, locals := 159 }
theorem hdX8_pass : yX8_pass.cls = RX8 ∧ yX8_pass.cls ≠ "java/lang/invoke/MethodHandle" ∧ yX8_pass.cls ≠ "java/lang/invoke/VarHandle" ∧ (parseMethodDescriptor yX8_pass.desc).map (fun d => d.parameters.length) = some 1 := by decide +kernel
set_option maxRecDepth 100000 in
set_option maxHeartbeats 8000000 in
theorem ctX8_pass (l : Launch) (dC : Nat → ClassId) (dI : Nat → Nat → Nat) (cq : Nat → ClassId) (q : Nat → Nat) (S : CS) (M : MS) (o : Nat → Int64) (sz : Nat) (n : Nat) (x1 : Int32) (rr : Int32) (MM : MS) (h : mX8_pass n M x1 = some (rr, MM)) : CtM_i l yX8_pass wsX8_pass rmX8_pass (fun _ => True) (fun _ => True) dC dI cq q S M o sz [.ref (q 22), .int x1] rr MM := by
  refine enM_i (cc := cX8_pass) (maxL := 3) (by decide) rfl (Nat.le_of_ble_eq_true rfl) (fun p e s m args below meth c A Q ls F hA hP hK hD hDm hX hS hl hend => ?_)
  obtain ⟨hx, hb, hml, hown, hts⟩ := id F
  have hown : s.vm.findClass RX8 = some m.cls := hown
  have F : CallFix p m c cX8_pass 3 s args wsX8_pass RX8 := F
  have hl : lv_has ls 3 [(0, .ref (q 22)), (1, .int x1)] := hl
  have hinX8 : ∀ w ∈ u_ws RX8 TX8 29, w ∈ wsX8_pass := fun w h => List.mem_cons_of_mem _ (List.mem_append_right _ h)
  have hL45 : ∀ (x1 : Int32)  (k : Nat) (M : MS) (x2 : Int32) (H : Heap) (locs : List Loc) (ls : Array Slot), va_P (dC, dI) vwCl (wA cq q S M o) H → va_D A (wA cq q S M o) → va_S A s.heap H locs → lv_has ls 3 [(0, .ref (q 22)), (1, .int x1), (2, .int x2)] → mX8_pass_45 n x1 k M x2 = some (rr, MM) → W p l e rmX8_pass s m args below meth c H locs 0 0 Q (F0 m 45 ls []) := by
    intro x1
    intro k
    induction k with
    | zero =>
      intro M x2 H locs ls hP hD hS hl h
      rw [mX8_pass_45] at h
      cases h
    | succ k ih =>
      intro M x2 H locs ls hP hD hS hl h
      rw [mX8_pass_45] at h
      refine lv_iload_n hx hb dX8_pass_45 rfl (lv_at hl 2 rfl) ?_
      refine lv_iload_n hx hb dX8_pass_46 rfl (lv_at hl 1 rfl) ?_
      refine lv_icmp_ge (tgt := 70) hx hb dX8_pass_47 (by decide) (fun c6 => ?_) (fun c6 => ?_)
      · replace h := it c6 h
        refine lv_aload_n hx hb dX8_pass_70 rfl (lv_at hl 0 rfl) ?_
        refine va_get (D := (dC, dI)) (ci := 9) (v := .int (M.1 4)) (C := RX8) (T := TX8) (N := 29) hx hb hts hinX8 hown hK hP 22 rfl rfl 4 (by decide) (hts (.fieldLink RX8 61 "CableTesterModel" "tick" "I") (mm 1 rfl)) (fun _ h9 => h9) rfl dX8_pass_71 ?_
        exact hend _ _ _ _ _ _ h hP hD hS dX8_pass_74
      · replace h := ie c6 h
        refine lv_aload_n hx hb dX8_pass_50 rfl (lv_at hl 0 rfl) ?_
        refine lv_dup hx hb dX8_pass_51 rfl ?_
        refine va_get (D := (dC, dI)) (ci := 9) (v := .int (M.1 4)) (C := RX8) (T := TX8) (N := 29) hx hb hts hinX8 hown hK hP 22 rfl rfl 4 (by decide) (hts (.fieldLink RX8 61 "CableTesterModel" "tick" "I") (mm 1 rfl)) (fun _ h9 => h9) rfl dX8_pass_52 ?_
        refine lv_iconst (v := (1 : Int32)) hx hb dX8_pass_55 (by decide) ?_
        refine lv_iadd hx hb dX8_pass_56 ?_
        refine pt_22_4 F hinX8 (hts (.fieldLink RX8 61 "CableTesterModel" "tick" "I") (mm 1 rfl)) hK hP hD hS dX8_pass_57 (fun H locs hP hD hS => ?_)
        refine lv_aload_n hx hb dX8_pass_60 rfl (lv_at hl 0 rfl) ?_
        obtain ⟨M9, e8, h⟩ := bo h
        refine caVM_v (As := []) (rest := []) (ctX8_record l dC dI cq q S (sG M 4 ((M.1 4) + (1 : Int32))) o _ _ _ e8) F (cwV 0 hts gX8_pass_X8_record rfl rfl rfl hdX8_record ⟨Nat.le_of_ble_eq_true rfl, Nat.le_of_ble_eq_true rfl⟩) hK hP hD hDm hS hA (fun _ _ _ _ _ => trivial) (fun _ _ _ => trivial) (va_recv hK hP (ci := 9) (q0 := 22) rfl rfl) rfl hl.1 rfl (Nat.le_of_ble_eq_true rfl) dX8_pass_61 ⟨Nat.zero_le _, Nat.zero_le _⟩ (fun H locs hP hD hS => ?_)
        refine lv_iinc (v := (x2 + (1 : Int32))) (lv' := [(2, .int (x2 + (1 : Int32))), (0, .ref (q 22)), (1, .int x1)]) hx hb dX8_pass_64 hl (k := 2) rfl rfl (by decide) rfl (fun ls hl => ?_)
        refine lv_goto (tgt := 45) hx hb dX8_pass_67 (by decide) ?_
        exact ih _ _ _ _ _ hP hD hS (lv_sub hl [1, 2, 0] rfl) h
  have hj31 : ∀ (M : MS) (x1 : Int32) (t0 : Int32)  (H : Heap) (locs : List Loc) (ls : Array Slot), va_P (dC, dI) vwCl (wA cq q S M o) H → va_D A (wA cq q S M o) → va_S A s.heap H locs → lv_has ls 3 [(0, .ref (q 22)), (1, .int x1)] → mX8_pass_31 n M x1 t0 = some (rr, MM) → W p l e rmX8_pass s m args below meth c H locs 0 0 Q (F0 m 31 ls [.int t0, .ref (q 22)]) := by
    intro M x1 t0 H locs ls hP hD hS hl h
    rw [mX8_pass_31] at h
    refine pt_22_0 F hinX8 (hts (.fieldLink RX8 44 "CableTesterModel" "thrown" "I") (mm 3 rfl)) hK hP hD hS dX8_pass_31 (fun H locs hP hD hS => ?_)
    refine lv_aload_n hx hb dX8_pass_34 rfl (lv_at hl 0 rfl) ?_
    refine va_get (D := (dC, dI)) (ci := 9) (v := .int ((sG M 0 t0).1 0)) (C := RX8) (T := TX8) (N := 29) hx hb hts hinX8 hown hK hP 22 rfl rfl 0 (by decide) (hts (.fieldLink RX8 44 "CableTesterModel" "thrown" "I") (mm 3 rfl)) (fun _ h9 => h9) rfl dX8_pass_35 ?_
    refine lv_if_le (tgt := 43) hx hb dX8_pass_38 (by decide) (fun c5 => ?_) (fun c5 => ?_)
    · replace h := it c5 h
      refine lv_iconst (v := (0 : Int32)) hx hb dX8_pass_43 (by decide) ?_
      refine lv_istore_n (lv' := [(2, .int (0 : Int32)), (0, .ref (q 22)), (1, .int x1)]) hx hb dX8_pass_44 rfl hl (by decide) rfl (fun ls hl => ?_)
      exact hL45 _ _ _ _ _ _ _ hP hD hS (lv_sub hl [1, 2, 0] rfl) h
    · replace h := ie c5 h
      refine lv_iconst (v := (0 : Int32)) hx hb dX8_pass_41 (by decide) ?_
      exact hend _ _ _ _ _ _ h hP hD hS dX8_pass_42
  rw [mX8_pass] at h
  refine lv_aload_n hx hb dX8_pass_0 rfl (lv_at hl 0 rfl) ?_
  refine lv_iload_n hx hb dX8_pass_1 rfl (lv_at hl 1 rfl) ?_
  refine lv_iconst (v := (1 : Int32)) hx hb dX8_pass_2 (by decide) ?_
  refine lv_bipush (v := (100 : Int32)) hx hb dX8_pass_3 (by decide) ?_
  obtain ⟨r1, e2, h⟩ := bo h
  refine caSR_i (As := [.int x1, .int (1 : Int32), .int (100 : Int32)]) (rest := [.ref (q 22)]) (ctX8_within l dC dI cq q S M o _ _ _ _ _ e2) F (va_cwS 3 hts gX8_pass_X8_within rfl rfl rfl hdX8_within ⟨Nat.le_of_ble_eq_true rfl, Nat.le_of_ble_eq_true rfl⟩) hK hP hD hDm hS hA (fun _ _ _ _ _ => trivial) (fun _ _ _ => trivial) rfl hl.1 rfl (Nat.le_of_ble_eq_true rfl) dX8_pass_5 ⟨Nat.zero_le _, Nat.zero_le _⟩ (fun H locs hP hD hS => ?_)
  refine lv_if_ne (tgt := 15) hx hb dX8_pass_8 (by decide) (fun c3 => ?_) (fun c3 => ?_)
  · replace h := ie c3 h
    refine lv_aload_n hx hb dX8_pass_15 rfl (lv_at hl 0 rfl) ?_
    refine va_get (D := (dC, dI)) (ci := 9) (v := .int (M.1 4)) (C := RX8) (T := TX8) (N := 29) hx hb hts hinX8 hown hK hP 22 rfl rfl 4 (by decide) (hts (.fieldLink RX8 61 "CableTesterModel" "tick" "I") (mm 1 rfl)) (fun _ h9 => h9) rfl dX8_pass_16 ?_
    refine lv_iload_n hx hb dX8_pass_19 rfl (lv_at hl 1 rfl) ?_
    refine lv_iadd hx hb dX8_pass_20 ?_
    refine lv_ldc hx hb hown (hts (.constant RX8 123 (100000)) (mm 2 rfl)) dX8_pass_21 ?_
    refine lv_icmp_le (tgt := 30) hx hb dX8_pass_23 (by decide) (fun c4 => ?_) (fun c4 => ?_)
    · replace h := it c4 h
      refine lv_iconst (v := (0 : Int32)) hx hb dX8_pass_30 (by decide) ?_
      exact hj31 _ _ _ _ _ _ hP hD hS (lv_sub hl [0, 1] rfl) h
    · replace h := ie c4 h
      refine lv_iconst (v := (2 : Int32)) hx hb dX8_pass_26 (by decide) ?_
      refine lv_goto (tgt := 31) hx hb dX8_pass_27 (by decide) ?_
      exact hj31 _ _ _ _ _ _ hP hD hS (lv_sub hl [0, 1] rfl) h
  · replace h := it c3 h
    refine lv_iconst (v := (1 : Int32)) hx hb dX8_pass_11 (by decide) ?_
    refine lv_goto (tgt := 31) hx hb dX8_pass_12 (by decide) ?_
    exact hj31 _ _ _ _ _ _ hP hD hS (lv_sub hl [0, 1] rfl) h
def mX8_append_30  (M : MS) (x1 : Int32) (t0 : Int32) : Option (Int32 × MS) :=
  (if ((sG M 0 t0).1 0) ≤ (0 : Int32) then (if inb ((sG M 0 t0).1 10) 50 then (some (((sG (sB (sG M 0 t0) 26 ((sG M 0 t0).1 10).toNatClampNeg x1) 10 (((sB (sG M 0 t0) 26 ((sG M 0 t0).1 10).toNatClampNeg x1).1 10) + (1 : Int32))).1 10), (sG (sB (sG M 0 t0) 26 ((sG M 0 t0).1 10).toNatClampNeg x1) 10 (((sB (sG M 0 t0) 26 ((sG M 0 t0).1 10).toNatClampNeg x1).1 10) + (1 : Int32))))) else none) else (some ((0 : Int32), (sG M 0 t0))))
def mX8_append (M : MS) (x1 : Int32) : Option (Int32 × MS) :=
  (bn (mX8_within x1 (33 : Int32) (126 : Int32)) fun r1 => (if r1 = (0 : Int32) then (mX8_append_30 M x1 (1 : Int32)) else (if (M.1 10) = (50 : Int32) then (mX8_append_30 M x1 (2 : Int32)) else (mX8_append_30 M x1 (0 : Int32)))))
abbrev rmX8_append : Room := { frames := 1, cells := 0, slots := 0, locals := 22 }
theorem hdX8_append : yX8_append.cls = RX8 ∧ yX8_append.cls ≠ "java/lang/invoke/MethodHandle" ∧ yX8_append.cls ≠ "java/lang/invoke/VarHandle" ∧ (parseMethodDescriptor yX8_append.desc).map (fun d => d.parameters.length) = some 1 := by decide +kernel
set_option maxRecDepth 100000 in
set_option maxHeartbeats 8000000 in
theorem ctX8_append (l : Launch) (dC : Nat → ClassId) (dI : Nat → Nat → Nat) (cq : Nat → ClassId) (q : Nat → Nat) (S : CS) (M : MS) (o : Nat → Int64) (sz : Nat) (x1 : Int32) (rr : Int32) (MM : MS) (h : mX8_append M x1 = some (rr, MM)) : CtM_i l yX8_append wsX8_append rmX8_append (fun _ => True) (fun _ => True) dC dI cq q S M o sz [.ref (q 22), .int x1] rr MM := by
  refine enM_i (cc := cX8_append) (maxL := 2) (by decide) rfl (Nat.le_of_ble_eq_true rfl) (fun p e s m args below meth c A Q ls F hA hP hK hD hDm hX hS hl hend => ?_)
  obtain ⟨hx, hb, hml, hown, hts⟩ := id F
  have hown : s.vm.findClass RX8 = some m.cls := hown
  have F : CallFix p m c cX8_append 2 s args wsX8_append RX8 := F
  have hl : lv_has ls 2 [(0, .ref (q 22)), (1, .int x1)] := hl
  have hinX8 : ∀ w ∈ u_ws RX8 TX8 29, w ∈ wsX8_append := fun w h => List.mem_cons_of_mem _ (List.mem_append_right _ h)
  have hj30 : ∀ (M : MS) (x1 : Int32) (t0 : Int32)  (H : Heap) (locs : List Loc) (ls : Array Slot), va_P (dC, dI) vwCl (wA cq q S M o) H → va_D A (wA cq q S M o) → va_S A s.heap H locs → lv_has ls 2 [(0, .ref (q 22)), (1, .int x1)] → mX8_append_30 M x1 t0 = some (rr, MM) → W p l e rmX8_append s m args below meth c H locs 0 0 Q (F0 m 30 ls [.int t0, .ref (q 22)]) := by
    intro M x1 t0 H locs ls hP hD hS hl h
    rw [mX8_append_30] at h
    refine pt_22_0 F hinX8 (hts (.fieldLink RX8 44 "CableTesterModel" "thrown" "I") (mm 2 rfl)) hK hP hD hS dX8_append_30 (fun H locs hP hD hS => ?_)
    refine lv_aload_n hx hb dX8_append_33 rfl (lv_at hl 0 rfl) ?_
    refine va_get (D := (dC, dI)) (ci := 9) (v := .int ((sG M 0 t0).1 0)) (C := RX8) (T := TX8) (N := 29) hx hb hts hinX8 hown hK hP 22 rfl rfl 0 (by decide) (hts (.fieldLink RX8 44 "CableTesterModel" "thrown" "I") (mm 2 rfl)) (fun _ h9 => h9) rfl dX8_append_34 ?_
    refine lv_if_le (tgt := 42) hx hb dX8_append_37 (by decide) (fun c5 => ?_) (fun c5 => ?_)
    · replace h := it c5 h
      refine lv_aload_n hx hb dX8_append_42 rfl (lv_at hl 0 rfl) ?_
      refine va_get (D := (dC, dI)) (ci := 9) (v := .ref (q 26)) (C := RX8) (T := TX8) (N := 29) hx hb hts hinX8 hown hK hP 22 rfl rfl 11 (by decide) (hts (.fieldLink RX8 19 "CableTesterModel" "text" "[I") (mm 3 rfl)) (fun _ h9 => h9) rfl dX8_append_43 ?_
      refine lv_aload_n hx hb dX8_append_46 rfl (lv_at hl 0 rfl) ?_
      refine va_get (D := (dC, dI)) (ci := 9) (v := .int ((sG M 0 t0).1 10)) (C := RX8) (T := TX8) (N := 29) hx hb hts hinX8 hown hK hP 22 rfl rfl 10 (by decide) (hts (.fieldLink RX8 127 "CableTesterModel" "letters" "I") (mm 1 rfl)) (fun _ h9 => h9) rfl dX8_append_47 ?_
      refine lv_iload_n hx hb dX8_append_50 rfl (lv_at hl 1 rfl) ?_
      obtain ⟨g6, h⟩ := gd h
      refine as_26 F hK hP hD hS (inb_ok g6) dX8_append_51 (fun H locs hP hD hS => ?_)
      refine lv_aload_n hx hb dX8_append_52 rfl (lv_at hl 0 rfl) ?_
      refine lv_dup hx hb dX8_append_53 rfl ?_
      refine va_get (D := (dC, dI)) (ci := 9) (v := .int ((sB (sG M 0 t0) 26 ((sG M 0 t0).1 10).toNatClampNeg x1).1 10)) (C := RX8) (T := TX8) (N := 29) hx hb hts hinX8 hown hK hP 22 rfl rfl 10 (by decide) (hts (.fieldLink RX8 127 "CableTesterModel" "letters" "I") (mm 1 rfl)) (fun _ h9 => h9) rfl dX8_append_54 ?_
      refine lv_iconst (v := (1 : Int32)) hx hb dX8_append_57 (by decide) ?_
      refine lv_iadd hx hb dX8_append_58 ?_
      refine pt_22_10 F hinX8 (hts (.fieldLink RX8 127 "CableTesterModel" "letters" "I") (mm 1 rfl)) hK hP hD hS dX8_append_59 (fun H locs hP hD hS => ?_)
      refine lv_aload_n hx hb dX8_append_62 rfl (lv_at hl 0 rfl) ?_
      refine va_get (D := (dC, dI)) (ci := 9) (v := .int ((sG (sB (sG M 0 t0) 26 ((sG M 0 t0).1 10).toNatClampNeg x1) 10 (((sB (sG M 0 t0) 26 ((sG M 0 t0).1 10).toNatClampNeg x1).1 10) + (1 : Int32))).1 10)) (C := RX8) (T := TX8) (N := 29) hx hb hts hinX8 hown hK hP 22 rfl rfl 10 (by decide) (hts (.fieldLink RX8 127 "CableTesterModel" "letters" "I") (mm 1 rfl)) (fun _ h9 => h9) rfl dX8_append_63 ?_
      exact hend _ _ _ _ _ _ h hP hD hS dX8_append_66
    · replace h := ie c5 h
      refine lv_iconst (v := (0 : Int32)) hx hb dX8_append_40 (by decide) ?_
      exact hend _ _ _ _ _ _ h hP hD hS dX8_append_41
  rw [mX8_append] at h
  refine lv_aload_n hx hb dX8_append_0 rfl (lv_at hl 0 rfl) ?_
  refine lv_iload_n hx hb dX8_append_1 rfl (lv_at hl 1 rfl) ?_
  refine lv_bipush (v := (33 : Int32)) hx hb dX8_append_2 (by decide) ?_
  refine lv_bipush (v := (126 : Int32)) hx hb dX8_append_4 (by decide) ?_
  obtain ⟨r1, e2, h⟩ := bo h
  refine caSR_i (As := [.int x1, .int (33 : Int32), .int (126 : Int32)]) (rest := [.ref (q 22)]) (ctX8_within l dC dI cq q S M o _ _ _ _ _ e2) F (va_cwS 3 hts gX8_append_X8_within rfl rfl rfl hdX8_within ⟨Nat.le_of_ble_eq_true rfl, Nat.le_of_ble_eq_true rfl⟩) hK hP hD hDm hS hA (fun _ _ _ _ _ => trivial) (fun _ _ _ => trivial) rfl hl.1 rfl (Nat.le_of_ble_eq_true rfl) dX8_append_6 ⟨Nat.zero_le _, Nat.zero_le _⟩ (fun H locs hP hD hS => ?_)
  refine lv_if_ne (tgt := 16) hx hb dX8_append_9 (by decide) (fun c3 => ?_) (fun c3 => ?_)
  · replace h := ie c3 h
    refine lv_aload_n hx hb dX8_append_16 rfl (lv_at hl 0 rfl) ?_
    refine va_get (D := (dC, dI)) (ci := 9) (v := .int (M.1 10)) (C := RX8) (T := TX8) (N := 29) hx hb hts hinX8 hown hK hP 22 rfl rfl 10 (by decide) (hts (.fieldLink RX8 127 "CableTesterModel" "letters" "I") (mm 1 rfl)) (fun _ h9 => h9) rfl dX8_append_17 ?_
    refine lv_bipush (v := (50 : Int32)) hx hb dX8_append_20 (by decide) ?_
    refine lv_icmp_ne (tgt := 29) hx hb dX8_append_22 (by decide) (fun c4 => ?_) (fun c4 => ?_)
    · replace h := ie c4 h
      refine lv_iconst (v := (0 : Int32)) hx hb dX8_append_29 (by decide) ?_
      exact hj30 _ _ _ _ _ _ hP hD hS (lv_sub hl [0, 1] rfl) h
    · replace h := it c4 h
      refine lv_iconst (v := (2 : Int32)) hx hb dX8_append_25 (by decide) ?_
      refine lv_goto (tgt := 30) hx hb dX8_append_26 (by decide) ?_
      exact hj30 _ _ _ _ _ _ hP hD hS (lv_sub hl [0, 1] rfl) h
  · replace h := it c3 h
    refine lv_iconst (v := (1 : Int32)) hx hb dX8_append_12 (by decide) ?_
    refine lv_goto (tgt := 30) hx hb dX8_append_13 (by decide) ?_
    exact hj30 _ _ _ _ _ _ hP hD hS (lv_sub hl [0, 1] rfl) h
def mX8_clearBuffer (M : MS)  : Option (Int32 × MS) :=
  (some (((sG M 0 (0 : Int32)).1 10), (sG (sG M 0 (0 : Int32)) 10 (0 : Int32))))
abbrev rmX8_clearBuffer : Room := { frames := 0, cells := 0, slots := 0, locals := 0 }
theorem hdX8_clearBuffer : yX8_clearBuffer.cls = RX8 ∧ yX8_clearBuffer.cls ≠ "java/lang/invoke/MethodHandle" ∧ yX8_clearBuffer.cls ≠ "java/lang/invoke/VarHandle" ∧ (parseMethodDescriptor yX8_clearBuffer.desc).map (fun d => d.parameters.length) = some 0 := by decide +kernel
set_option maxRecDepth 100000 in
set_option maxHeartbeats 8000000 in
theorem ctX8_clearBuffer (l : Launch) (dC : Nat → ClassId) (dI : Nat → Nat → Nat) (cq : Nat → ClassId) (q : Nat → Nat) (S : CS) (M : MS) (o : Nat → Int64) (sz : Nat)  (rr : Int32) (MM : MS) (h : mX8_clearBuffer M = some (rr, MM)) : CtM_i l yX8_clearBuffer wsX8_clearBuffer rmX8_clearBuffer (fun _ => True) (fun _ => True) dC dI cq q S M o sz [.ref (q 22)] rr MM := by
  refine enM_i (cc := cX8_clearBuffer) (maxL := 2) (by decide) rfl (Nat.le_of_ble_eq_true rfl) (fun p e s m args below meth c A Q ls F hA hP hK hD hDm hX hS hl hend => ?_)
  obtain ⟨hx, hb, hml, hown, hts⟩ := id F
  have hown : s.vm.findClass RX8 = some m.cls := hown
  have F : CallFix p m c cX8_clearBuffer 2 s args wsX8_clearBuffer RX8 := F
  have hl : lv_has ls 2 [(0, .ref (q 22))] := hl
  have hinX8 : ∀ w ∈ u_ws RX8 TX8 29, w ∈ wsX8_clearBuffer := fun w h => List.mem_cons_of_mem _ (List.mem_append_right _ h)
  rw [mX8_clearBuffer] at h
  refine lv_aload_n hx hb dX8_clearBuffer_0 rfl (lv_at hl 0 rfl) ?_
  refine lv_iconst (v := (0 : Int32)) hx hb dX8_clearBuffer_1 (by decide) ?_
  refine pt_22_0 F hinX8 (hts (.fieldLink RX8 44 "CableTesterModel" "thrown" "I") (mm 1 rfl)) hK hP hD hS dX8_clearBuffer_2 (fun H locs hP hD hS => ?_)
  refine lv_aload_n hx hb dX8_clearBuffer_5 rfl (lv_at hl 0 rfl) ?_
  refine va_get (D := (dC, dI)) (ci := 9) (v := .int ((sG M 0 (0 : Int32)).1 10)) (C := RX8) (T := TX8) (N := 29) hx hb hts hinX8 hown hK hP 22 rfl rfl 10 (by decide) (hts (.fieldLink RX8 127 "CableTesterModel" "letters" "I") (mm 2 rfl)) (fun _ h9 => h9) rfl dX8_clearBuffer_6 ?_
  refine lv_istore_n (lv' := [(1, .int ((sG M 0 (0 : Int32)).1 10)), (0, .ref (q 22))]) hx hb dX8_clearBuffer_9 rfl hl (by decide) rfl (fun ls hl => ?_)
  refine lv_aload_n hx hb dX8_clearBuffer_10 rfl (lv_at hl 1 rfl) ?_
  refine lv_iconst (v := (0 : Int32)) hx hb dX8_clearBuffer_11 (by decide) ?_
  refine pt_22_10 F hinX8 (hts (.fieldLink RX8 127 "CableTesterModel" "letters" "I") (mm 2 rfl)) hK hP hD hS dX8_clearBuffer_12 (fun H locs hP hD hS => ?_)
  refine lv_iload_n hx hb dX8_clearBuffer_15 rfl (lv_at hl 0 rfl) ?_
  exact hend _ _ _ _ _ _ h hP hD hS dX8_clearBuffer_16
def mX8_takesSign_29  (M : MS) (x1 : Int32) (t0 : Int32) : Option (Int32 × MS) :=
  (if t0 = (0 : Int32) then (if bz t0 then (some (t0, M)) else none) else (if bz t0 then (some (t0, (sG (sG (sG (sG (sG (sG M 15 x1) 17 (-1 : Int32)) 19 (0 : Int32)) 20 (0 : Int32)) 18 (0 : Int32)) 14 (1 : Int32)))) else none))
def mX8_takesSign_24  (M : MS) (x1 : Int32)  : Option (Int32 × MS) :=
  (mX8_takesSign_29 M x1 (1 : Int32))
def mX8_takesSign (M : MS) (x1 : Int32) : Option (Int32 × MS) :=
  (if x1 = (99 : Int32) then (mX8_takesSign_24 M x1) else (if x1 = (115 : Int32) then (mX8_takesSign_24 M x1) else (if x1 = (110 : Int32) then (mX8_takesSign_24 M x1) else (if x1 = (102 : Int32) then (mX8_takesSign_24 M x1) else (mX8_takesSign_29 M x1 (0 : Int32))))))
abbrev rmX8_takesSign : Room := { frames := 0, cells := 0, slots := 0, locals := 0 }
theorem hdX8_takesSign : yX8_takesSign.cls = RX8 ∧ yX8_takesSign.cls ≠ "java/lang/invoke/MethodHandle" ∧ yX8_takesSign.cls ≠ "java/lang/invoke/VarHandle" ∧ (parseMethodDescriptor yX8_takesSign.desc).map (fun d => d.parameters.length) = some 1 := by decide +kernel
set_option maxRecDepth 100000 in
set_option maxHeartbeats 8000000 in
theorem ctX8_takesSign (l : Launch) (dC : Nat → ClassId) (dI : Nat → Nat → Nat) (cq : Nat → ClassId) (q : Nat → Nat) (S : CS) (M : MS) (o : Nat → Int64) (sz : Nat) (x1 : Int32) (rr : Int32) (MM : MS) (h : mX8_takesSign M x1 = some (rr, MM)) : CtM_i l yX8_takesSign wsX8_takesSign rmX8_takesSign (fun _ => True) (fun _ => True) dC dI cq q S M o sz [.ref (q 22), .int x1] rr MM := by
  refine enM_z (cc := cX8_takesSign) (maxL := 3) (by decide) rfl (Nat.le_of_ble_eq_true rfl) (fun p e s m args below meth c A Q ls F hA hP hK hD hDm hX hS hl hend => ?_)
  obtain ⟨hx, hb, hml, hown, hts⟩ := id F
  have hown : s.vm.findClass RX8 = some m.cls := hown
  have F : CallFix p m c cX8_takesSign 3 s args wsX8_takesSign RX8 := F
  have hl : lv_has ls 3 [(0, .ref (q 22)), (1, .int x1)] := hl
  have hinX8 : ∀ w ∈ u_ws RX8 TX8 29, w ∈ wsX8_takesSign := fun w h => List.mem_cons_of_mem _ (List.mem_append_right _ h)
  have hj29 : ∀ (M : MS) (x1 : Int32) (t0 : Int32)  (H : Heap) (locs : List Loc) (ls : Array Slot), va_P (dC, dI) vwCl (wA cq q S M o) H → va_D A (wA cq q S M o) → va_S A s.heap H locs → lv_has ls 3 [(0, .ref (q 22)), (1, .int x1)] → mX8_takesSign_29 M x1 t0 = some (rr, MM) → W p l e rmX8_takesSign s m args below meth c H locs 0 0 Q (F0 m 29 ls [.int t0]) := by
    intro M x1 t0 H locs ls hP hD hS hl h
    rw [mX8_takesSign_29] at h
    refine lv_istore_n (lv' := [(2, .int t0), (0, .ref (q 22)), (1, .int x1)]) hx hb dX8_takesSign_29 rfl hl (by decide) rfl (fun ls hl => ?_)
    refine lv_iload_n hx hb dX8_takesSign_30 rfl (lv_at hl 0 rfl) ?_
    refine lv_if_eq (tgt := 64) hx hb dX8_takesSign_31 (by decide) (fun c2 => ?_) (fun c2 => ?_)
    · replace h := it c2 h
      refine lv_iload_n hx hb dX8_takesSign_64 rfl (lv_at hl 0 rfl) ?_
      obtain ⟨g3, h⟩ := gd h
      exact hend _ _ _ _ _ _ h hP hD hS dX8_takesSign_65 (bz_ok g3)
    · replace h := ie c2 h
      refine lv_aload_n hx hb dX8_takesSign_34 rfl (lv_at hl 1 rfl) ?_
      refine lv_iload_n hx hb dX8_takesSign_35 rfl (lv_at hl 2 rfl) ?_
      refine pt_22_15 F hinX8 (hts (.fieldLink RX8 130 "CableTesterModel" "sign" "I") (mm 1 rfl)) hK hP hD hS dX8_takesSign_36 (fun H locs hP hD hS => ?_)
      refine lv_aload_n hx hb dX8_takesSign_39 rfl (lv_at hl 1 rfl) ?_
      refine lv_iconst (v := (-1 : Int32)) hx hb dX8_takesSign_40 (by decide) ?_
      refine pt_22_17 F hinX8 (hts (.fieldLink RX8 133 "CableTesterModel" "other" "I") (mm 2 rfl)) hK hP hD hS dX8_takesSign_41 (fun H locs hP hD hS => ?_)
      refine lv_aload_n hx hb dX8_takesSign_44 rfl (lv_at hl 1 rfl) ?_
      refine lv_iconst (v := (0 : Int32)) hx hb dX8_takesSign_45 (by decide) ?_
      refine pt_22_19 F hinX8 (hts (.fieldLink RX8 136 "CableTesterModel" "place" "I") (mm 3 rfl)) hK hP hD hS dX8_takesSign_46 (fun H locs hP hD hS => ?_)
      refine lv_aload_n hx hb dX8_takesSign_49 rfl (lv_at hl 1 rfl) ?_
      refine lv_iconst (v := (0 : Int32)) hx hb dX8_takesSign_50 (by decide) ?_
      refine pt_22_20 F hinX8 (hts (.fieldLink RX8 139 "CableTesterModel" "period" "I") (mm 4 rfl)) hK hP hD hS dX8_takesSign_51 (fun H locs hP hD hS => ?_)
      refine lv_aload_n hx hb dX8_takesSign_54 rfl (lv_at hl 1 rfl) ?_
      refine lv_iconst (v := (0 : Int32)) hx hb dX8_takesSign_55 (by decide) ?_
      refine pt_22_18 F hinX8 (hts (.fieldLink RX8 142 "CableTesterModel" "number" "I") (mm 5 rfl)) hK hP hD hS dX8_takesSign_56 (fun H locs hP hD hS => ?_)
      refine lv_aload_n hx hb dX8_takesSign_59 rfl (lv_at hl 1 rfl) ?_
      refine lv_iconst (v := (1 : Int32)) hx hb dX8_takesSign_60 (by decide) ?_
      refine pt_22_14 F hinX8 (hts (.fieldLink RX8 145 "CableTesterModel" "step" "I") (mm 6 rfl)) hK hP hD hS dX8_takesSign_61 (fun H locs hP hD hS => ?_)
      refine lv_iload_n hx hb dX8_takesSign_64 rfl (lv_at hl 0 rfl) ?_
      obtain ⟨g4, h⟩ := gd h
      exact hend _ _ _ _ _ _ h hP hD hS dX8_takesSign_65 (bz_ok g4)
  have hj24 : ∀ (M : MS) (x1 : Int32)   (H : Heap) (locs : List Loc) (ls : Array Slot), va_P (dC, dI) vwCl (wA cq q S M o) H → va_D A (wA cq q S M o) → va_S A s.heap H locs → lv_has ls 3 [(0, .ref (q 22)), (1, .int x1)] → mX8_takesSign_24 M x1 = some (rr, MM) → W p l e rmX8_takesSign s m args below meth c H locs 0 0 Q (F0 m 24 ls []) := by
    intro M x1 H locs ls hP hD hS hl h
    rw [mX8_takesSign_24] at h
    refine lv_iconst (v := (1 : Int32)) hx hb dX8_takesSign_24 (by decide) ?_
    refine lv_goto (tgt := 29) hx hb dX8_takesSign_25 (by decide) ?_
    exact hj29 _ _ _ _ _ _ hP hD hS (lv_sub hl [0, 1] rfl) h
  rw [mX8_takesSign] at h
  refine lv_iload_n hx hb dX8_takesSign_0 rfl (lv_at hl 1 rfl) ?_
  refine lv_bipush (v := (99 : Int32)) hx hb dX8_takesSign_1 (by decide) ?_
  refine lv_icmp_eq (tgt := 24) hx hb dX8_takesSign_3 (by decide) (fun c1 => ?_) (fun c1 => ?_)
  · replace h := it c1 h
    exact hj24 _ _ _ _ _ hP hD hS (lv_sub hl [0, 1] rfl) h
  · replace h := ie c1 h
    refine lv_iload_n hx hb dX8_takesSign_6 rfl (lv_at hl 1 rfl) ?_
    refine lv_bipush (v := (115 : Int32)) hx hb dX8_takesSign_7 (by decide) ?_
    refine lv_icmp_eq (tgt := 24) hx hb dX8_takesSign_9 (by decide) (fun c5 => ?_) (fun c5 => ?_)
    · replace h := it c5 h
      exact hj24 _ _ _ _ _ hP hD hS (lv_sub hl [0, 1] rfl) h
    · replace h := ie c5 h
      refine lv_iload_n hx hb dX8_takesSign_12 rfl (lv_at hl 1 rfl) ?_
      refine lv_bipush (v := (110 : Int32)) hx hb dX8_takesSign_13 (by decide) ?_
      refine lv_icmp_eq (tgt := 24) hx hb dX8_takesSign_15 (by decide) (fun c6 => ?_) (fun c6 => ?_)
      · replace h := it c6 h
        exact hj24 _ _ _ _ _ hP hD hS (lv_sub hl [0, 1] rfl) h
      · replace h := ie c6 h
        refine lv_iload_n hx hb dX8_takesSign_18 rfl (lv_at hl 1 rfl) ?_
        refine lv_bipush (v := (102 : Int32)) hx hb dX8_takesSign_19 (by decide) ?_
        refine lv_icmp_ne (tgt := 28) hx hb dX8_takesSign_21 (by decide) (fun c7 => ?_) (fun c7 => ?_)
        · replace h := ie c7 h
          refine lv_iconst (v := (0 : Int32)) hx hb dX8_takesSign_28 (by decide) ?_
          exact hj29 _ _ _ _ _ _ hP hD hS (lv_sub hl [0, 1] rfl) h
        · replace h := it c7 h
          exact hj24 _ _ _ _ _ hP hD hS (lv_sub hl [0, 1] rfl) h
