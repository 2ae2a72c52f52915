def mX8_cutsUntil_38 (n : Nat) (K4 : Int32 → Int32 → Option (Int32)) (M : MS) (x1 : Int32) (x3 : Int32) (t0 : Int32) (t1 : Int32) : Option (Int32) :=
  (K4 (t1 + t0) (x3 + (1 : Int32)))
def mX8_cutsUntil_4 (n : Nat)  (M : MS) (x1 : Int32) : Nat → Int32 → Int32 → Option (Int32)
  | 0, _, _ => none
  | k + 1, x2, x3 => (if x1 ≤ x3 then (some x2) else (if inb x3 16 then (if inb x3 8 then (if inb ((8 : Int32) + (M.2.1 31 x3.toNatClampNeg)) 16 then (if (M.2.1 28 x3.toNatClampNeg) = (M.2.1 28 ((8 : Int32) + (M.2.1 31 x3.toNatClampNeg)).toNatClampNeg) then (mX8_cutsUntil_38 n (mX8_cutsUntil_4 n M x1 k) M x1 x3 (0 : Int32) x2) else (mX8_cutsUntil_38 n (mX8_cutsUntil_4 n M x1 k) M x1 x3 (1 : Int32) x2)) else none) else none) else none))
def mX8_cutsUntil (n : Nat) (M : MS) (x1 : Int32) : Option (Int32) :=
  (mX8_cutsUntil_4 n M x1 n (0 : Int32) (0 : Int32))
abbrev rmX8_cutsUntil : Room := { frames := 0, cells := 0, slots := 0, locals := 0 }
theorem hdX8_cutsUntil : yX8_cutsUntil.cls = RX8 ∧ yX8_cutsUntil.cls ≠ "java/lang/invoke/MethodHandle" ∧ yX8_cutsUntil.cls ≠ "java/lang/invoke/VarHandle" ∧ (parseMethodDescriptor yX8_cutsUntil.desc).map (fun d => d.parameters.length) = some 1 := by decide +kernel
set_option maxRecDepth 100000 in
set_option maxHeartbeats 8000000 in
theorem ctX8_cutsUntil (l : Launch) (dC : Nat → ClassId) (dI : Nat → Nat → Nat) (cq : Nat → ClassId) (q : Nat → Nat) (S : CS) (M : MS) (o : Nat → Int64) (sz : Nat) (n : Nat) (x1 : Int32) (rr : Int32) (h : mX8_cutsUntil n M x1 = some rr) : CtR_i l yX8_cutsUntil wsX8_cutsUntil rmX8_cutsUntil (fun _ => True) (fun _ => True) dC dI cq q S M o sz [.ref (q 22), .int x1] rr := by
  refine enR_i (cc := cX8_cutsUntil) (maxL := 4) (by decide) rfl (Nat.le_of_ble_eq_true rfl) (fun p e s m args below meth c A Q ls F hA hP hK hD hDm hX hS hl hend => ?_)
  obtain ⟨hx, hb, hml, hown, hts⟩ := id F
  have hown : s.vm.findClass RX8 = some m.cls := hown
  have F : CallFix p m c cX8_cutsUntil 4 s args wsX8_cutsUntil RX8 := F
  have hl : lv_has ls 4 [(0, .ref (q 22)), (1, .int x1)] := hl
  have hinX8 : ∀ w ∈ u_ws RX8 TX8 29, w ∈ wsX8_cutsUntil := fun w h => List.mem_cons_of_mem _ (List.mem_append_right _ h)
  have hj38 : ∀  (x1 : Int32) (x3 : Int32) (t0 : Int32) (t1 : Int32) (K4 : Int32 → Int32 → Option (Int32)) (hK4 : ∀ (y2 : Int32) (y3 : Int32) (H : Heap) (locs : List Loc) (ls : Array Slot), va_P (dC, dI) vwCl (wA cq q S M o) H → va_D A (wA cq q S M o) → va_S A s.heap H locs → lv_has ls 4 [(0, .ref (q 22)), (1, .int x1), (2, .int y2), (3, .int y3)] → K4 y2 y3 = some rr → W p l e rmX8_cutsUntil s m args below meth c H locs 0 0 Q (F0 m 4 ls [])) (H : Heap) (locs : List Loc) (ls : Array Slot), va_P (dC, dI) vwCl (wA cq q S M o) H → va_D A (wA cq q S M o) → va_S A s.heap H locs → lv_has ls 4 [(0, .ref (q 22)), (1, .int x1), (3, .int x3)] → mX8_cutsUntil_38 n K4 M x1 x3 t0 t1 = some rr → W p l e rmX8_cutsUntil s m args below meth c H locs 0 0 Q (F0 m 38 ls [.int t0, .int t1]) := by
    intro x1 x3 t0 t1 K4 hK4 H locs ls hP hD hS hl h
    rw [mX8_cutsUntil_38] at h
    refine lv_iadd hx hb dX8_cutsUntil_38 ?_
    refine lv_istore_n (lv' := [(2, .int (t1 + t0)), (0, .ref (q 22)), (1, .int x1), (3, .int x3)]) hx hb dX8_cutsUntil_39 rfl hl (by decide) rfl (fun ls hl => ?_)
    refine lv_iinc (v := (x3 + (1 : Int32))) (lv' := [(3, .int (x3 + (1 : Int32))), (2, .int (t1 + t0)), (0, .ref (q 22)), (1, .int x1)]) hx hb dX8_cutsUntil_40 hl (k := 3) rfl rfl (by decide) rfl (fun ls hl => ?_)
    refine lv_goto (tgt := 4) hx hb dX8_cutsUntil_43 (by decide) ?_
    exact hK4 _ _ _ _ _ hP hD hS (lv_sub hl [2, 3, 1, 0] rfl) h
  have hL4 : ∀ (x1 : Int32)  (k : Nat)  (x2 : Int32) (x3 : Int32) (H : Heap) (locs : List Loc) (ls : Array Slot), va_P (dC, dI) vwCl (wA cq q S M o) H → va_D A (wA cq q S M o) → va_S A s.heap H locs → lv_has ls 4 [(0, .ref (q 22)), (1, .int x1), (2, .int x2), (3, .int x3)] → mX8_cutsUntil_4 n M x1 k x2 x3 = some rr → W p l e rmX8_cutsUntil s m args below meth c H locs 0 0 Q (F0 m 4 ls []) := by
    intro x1
    intro k
    induction k with
    | zero =>
      intro x2 x3 H locs ls hP hD hS hl h
      rw [mX8_cutsUntil_4] at h
      cases h
    | succ k ih =>
      intro x2 x3 H locs ls hP hD hS hl h
      rw [mX8_cutsUntil_4] at h
      refine lv_iload_n hx hb dX8_cutsUntil_4 rfl (lv_at hl 3 rfl) ?_
      refine lv_iload_n hx hb dX8_cutsUntil_5 rfl (lv_at hl 1 rfl) ?_
      refine lv_icmp_ge (tgt := 46) hx hb dX8_cutsUntil_6 (by decide) (fun c1 => ?_) (fun c1 => ?_)
      · replace h := it c1 h
        refine lv_iload_n hx hb dX8_cutsUntil_46 rfl (lv_at hl 2 rfl) ?_
        exact hend _ _ _ _ _ h hP hD hS dX8_cutsUntil_47
      · replace h := ie c1 h
        refine lv_iload_n hx hb dX8_cutsUntil_9 rfl (lv_at hl 2 rfl) ?_
        refine lv_aload_n hx hb dX8_cutsUntil_10 rfl (lv_at hl 0 rfl) ?_
        refine va_get (D := (dC, dI)) (ci := 9) (v := .ref (q 28)) (C := RX8) (T := TX8) (N := 29) hx hb hts hinX8 hown hK hP 22 rfl rfl 13 (by decide) (hts (.fieldLink RX8 25 "CableTesterModel" "nets" "[I") (mm 1 rfl)) (fun _ h9 => h9) rfl dX8_cutsUntil_11 ?_
        refine lv_iload_n hx hb dX8_cutsUntil_14 rfl (lv_at hl 3 rfl) ?_
        obtain ⟨g2, h⟩ := gd h
        refine va_iald (D := (dC, dI)) hx hb hK hP 28 17 rfl rfl (inb_ok g2) dX8_cutsUntil_15 ?_
        refine lv_aload_n hx hb dX8_cutsUntil_16 rfl (lv_at hl 0 rfl) ?_
        refine va_get (D := (dC, dI)) (ci := 9) (v := .ref (q 28)) (C := RX8) (T := TX8) (N := 29) hx hb hts hinX8 hown hK hP 22 rfl rfl 13 (by decide) (hts (.fieldLink RX8 25 "CableTesterModel" "nets" "[I") (mm 1 rfl)) (fun _ h9 => h9) rfl dX8_cutsUntil_17 ?_
        refine lv_bipush (v := (8 : Int32)) hx hb dX8_cutsUntil_20 (by decide) ?_
        refine lv_aload_n hx hb dX8_cutsUntil_22 rfl (lv_at hl 0 rfl) ?_
        refine va_get (D := (dC, dI)) (ci := 9) (v := .ref (q 31)) (C := RX8) (T := TX8) (N := 29) hx hb hts hinX8 hown hK hP 22 rfl rfl 26 (by decide) (hts (.fieldLink RX8 34 "CableTesterModel" "given" "[I") (mm 2 rfl)) (fun _ h9 => h9) rfl dX8_cutsUntil_23 ?_
        refine lv_iload_n hx hb dX8_cutsUntil_26 rfl (lv_at hl 3 rfl) ?_
        obtain ⟨g3, h⟩ := gd h
        refine va_iald (D := (dC, dI)) hx hb hK hP 31 20 rfl rfl (inb_ok g3) dX8_cutsUntil_27 ?_
        refine lv_iadd hx hb dX8_cutsUntil_28 ?_
        obtain ⟨g4, h⟩ := gd h
        refine va_iald (D := (dC, dI)) hx hb hK hP 28 17 rfl rfl (inb_ok g4) dX8_cutsUntil_29 ?_
        refine lv_icmp_ne (tgt := 37) hx hb dX8_cutsUntil_30 (by decide) (fun c5 => ?_) (fun c5 => ?_)
        · replace h := ie c5 h
          refine lv_iconst (v := (1 : Int32)) hx hb dX8_cutsUntil_37 (by decide) ?_
          exact hj38 _ _ _ _ _ ih _ _ _ hP hD hS (lv_sub hl [0, 1, 3] rfl) h
        · replace h := it c5 h
          refine lv_iconst (v := (0 : Int32)) hx hb dX8_cutsUntil_33 (by decide) ?_
          refine lv_goto (tgt := 38) hx hb dX8_cutsUntil_34 (by decide) ?_
          exact hj38 _ _ _ _ _ ih _ _ _ hP hD hS (lv_sub hl [0, 1, 3] rfl) h
  rw [mX8_cutsUntil] at h
  refine lv_iconst (v := (0 : Int32)) hx hb dX8_cutsUntil_0 (by decide) ?_
  refine lv_istore_n (lv' := [(2, .int (0 : Int32)), (0, .ref (q 22)), (1, .int x1)]) hx hb dX8_cutsUntil_1 rfl hl (by decide) rfl (fun ls hl => ?_)
  refine lv_iconst (v := (0 : Int32)) hx hb dX8_cutsUntil_2 (by decide) ?_
  refine lv_istore_n (lv' := [(3, .int (0 : Int32)), (2, .int (0 : Int32)), (0, .ref (q 22)), (1, .int x1)]) hx hb dX8_cutsUntil_3 rfl hl (by decide) rfl (fun ls hl => ?_)
  exact hL4 _ _ _ _ _ _ _ hP hD hS (lv_sub hl [2, 3, 1, 0] rfl) h
def mX8_arrive_51 (n : Nat)   : Nat → MS → Int32 → Option (MS)
  | 0, _, _ => none
  | k + 1, M, x3 => (if (8 : Int32) ≤ x3 then (some M) else (if inb x3 8 then (if inb x3 8 then (mX8_arrive_51 n k (sB M 30 x3.toNatClampNeg (M.2.1 31 x3.toNatClampNeg)) (x3 + (1 : Int32))) else none) else none))
def mX8_arrive_39 (n : Nat)  (M : MS) (x1 : Int32) (x2 : Int32)  : Option (MS) :=
  (mX8_arrive_51 n n (sG (sG M 23 x1) 24 x2) (0 : Int32))
def mX8_arrive (n : Nat) (M : MS)  : Option (MS) :=
  (bn (mX8_cutsUntil n M (8 : Int32)) fun r1 => (bn (mX8_cycles n M) fun r3 => (if r1 < (M.1 23) then (mX8_arrive_39 n M r1 ((8 : Int32) - r3)) else (if r1 = (M.1 23) then (if (M.1 24) ≤ ((8 : Int32) - r3) then (some M) else (mX8_arrive_39 n M r1 ((8 : Int32) - r3))) else (some M)))))
abbrev rmX8_arrive : Room := { frames := 1, cells := 0, slots := 0, locals := 24 }
theorem hdX8_arrive : yX8_arrive.cls = RX8 ∧ yX8_arrive.cls ≠ "java/lang/invoke/MethodHandle" ∧ yX8_arrive.cls ≠ "java/lang/invoke/VarHandle" ∧ (parseMethodDescriptor yX8_arrive.desc).map (fun d => d.parameters.length) = some 0 := by decide +kernel
set_option maxRecDepth 100000 in
set_option maxHeartbeats 8000000 in
theorem ctX8_arrive (l : Launch) (dC : Nat → ClassId) (dI : Nat → Nat → Nat) (cq : Nat → ClassId) (q : Nat → Nat) (S : CS) (M : MS) (o : Nat → Int64) (sz : Nat) (n : Nat)  (MM : MS) (h : mX8_arrive n M = some MM) : CtM_v l yX8_arrive wsX8_arrive rmX8_arrive (fun _ => True) (fun _ => True) dC dI cq q S M o sz [.ref (q 22)] MM := by
  refine enM_v (cc := cX8_arrive) (maxL := 4) (by decide) rfl (Nat.le_of_ble_eq_true rfl) (fun p e s m args below meth c A Q ls F hA hP hK hD hDm hX hS hl hend => ?_)
  obtain ⟨hx, hb, hml, hown, hts⟩ := id F
  have hown : s.vm.findClass RX8 = some m.cls := hown
  have F : CallFix p m c cX8_arrive 4 s args wsX8_arrive RX8 := F
  have hl : lv_has ls 4 [(0, .ref (q 22))] := hl
  have hinX8 : ∀ w ∈ u_ws RX8 TX8 29, w ∈ wsX8_arrive := fun w h => List.mem_cons_of_mem _ (List.mem_append_right _ h)
  have hL51 : ∀   (k : Nat) (M : MS) (x3 : Int32) (H : Heap) (locs : List Loc) (ls : Array Slot), va_P (dC, dI) vwCl (wA cq q S M o) H → va_D A (wA cq q S M o) → va_S A s.heap H locs → lv_has ls 4 [(0, .ref (q 22)), (3, .int x3)] → mX8_arrive_51 n k M x3 = some MM → W p l e rmX8_arrive s m args below meth c H locs 0 0 Q (F0 m 51 ls []) := by
    intro k
    induction k with
    | zero =>
      intro M x3 H locs ls hP hD hS hl h
      rw [mX8_arrive_51] at h
      cases h
    | succ k ih =>
      intro M x3 H locs ls hP hD hS hl h
      rw [mX8_arrive_51] at h
      refine lv_iload_n hx hb dX8_arrive_51 rfl (lv_at hl 1 rfl) ?_
      refine lv_bipush (v := (8 : Int32)) hx hb dX8_arrive_52 (by decide) ?_
      refine lv_icmp_ge (tgt := 75) hx hb dX8_arrive_54 (by decide) (fun c6 => ?_) (fun c6 => ?_)
      · replace h := it c6 h
        exact hend _ _ _ _ _ h hP hD hS dX8_arrive_75
      · replace h := ie c6 h
        refine lv_aload_n hx hb dX8_arrive_57 rfl (lv_at hl 0 rfl) ?_
        refine va_get (D := (dC, dI)) (ci := 9) (v := .ref (q 30)) (C := RX8) (T := TX8) (N := 29) hx hb hts hinX8 hown hK hP 22 rfl rfl 25 (by decide) (hts (.fieldLink RX8 31 "CableTesterModel" "best" "[I") (mm 3 rfl)) (fun _ h9 => h9) rfl dX8_arrive_58 ?_
        refine lv_iload_n hx hb dX8_arrive_61 rfl (lv_at hl 1 rfl) ?_
        refine lv_aload_n hx hb dX8_arrive_62 rfl (lv_at hl 0 rfl) ?_
        refine va_get (D := (dC, dI)) (ci := 9) (v := .ref (q 31)) (C := RX8) (T := TX8) (N := 29) hx hb hts hinX8 hown hK hP 22 rfl rfl 26 (by decide) (hts (.fieldLink RX8 34 "CableTesterModel" "given" "[I") (mm 4 rfl)) (fun _ h9 => h9) rfl dX8_arrive_63 ?_
        refine lv_iload_n hx hb dX8_arrive_66 rfl (lv_at hl 1 rfl) ?_
        obtain ⟨g7, h⟩ := gd h
        refine va_iald (D := (dC, dI)) hx hb hK hP 31 20 rfl rfl (inb_ok g7) dX8_arrive_67 ?_
        obtain ⟨g8, h⟩ := gd h
        refine as_30 F hK hP hD hS (inb_ok g8) dX8_arrive_68 (fun H locs hP hD hS => ?_)
        refine lv_iinc (v := (x3 + (1 : Int32))) (lv' := [(3, .int (x3 + (1 : Int32))), (0, .ref (q 22))]) hx hb dX8_arrive_69 hl (k := 1) rfl rfl (by decide) rfl (fun ls hl => ?_)
        refine lv_goto (tgt := 51) hx hb dX8_arrive_72 (by decide) ?_
        exact ih _ _ _ _ _ hP hD hS (lv_sub hl [1, 0] rfl) h
  have hj39 : ∀ (M : MS) (x1 : Int32) (x2 : Int32)   (H : Heap) (locs : List Loc) (ls : Array Slot), va_P (dC, dI) vwCl (wA cq q S M o) H → va_D A (wA cq q S M o) → va_S A s.heap H locs → lv_has ls 4 [(0, .ref (q 22)), (1, .int x1), (2, .int x2)] → mX8_arrive_39 n M x1 x2 = some MM → W p l e rmX8_arrive s m args below meth c H locs 0 0 Q (F0 m 39 ls []) := by
    intro M x1 x2 H locs ls hP hD hS hl h
    rw [mX8_arrive_39] at h
    refine lv_aload_n hx hb dX8_arrive_39 rfl (lv_at hl 0 rfl) ?_
    refine lv_iload_n hx hb dX8_arrive_40 rfl (lv_at hl 1 rfl) ?_
    refine pt_22_23 F hinX8 (hts (.fieldLink RX8 234 "CableTesterModel" "cuts" "I") (mm 1 rfl)) hK hP hD hS dX8_arrive_41 (fun H locs hP hD hS => ?_)
    refine lv_aload_n hx hb dX8_arrive_44 rfl (lv_at hl 0 rfl) ?_
    refine lv_iload_n hx hb dX8_arrive_45 rfl (lv_at hl 2 rfl) ?_
    refine pt_22_24 F hinX8 (hts (.fieldLink RX8 237 "CableTesterModel" "exchanges" "I") (mm 2 rfl)) hK hP hD hS dX8_arrive_46 (fun H locs hP hD hS => ?_)
    refine lv_iconst (v := (0 : Int32)) hx hb dX8_arrive_49 (by decide) ?_
    refine lv_istore_n (lv' := [(3, .int (0 : Int32)), (0, .ref (q 22)), (1, .int x1), (2, .int x2)]) hx hb dX8_arrive_50 rfl hl (by decide) rfl (fun ls hl => ?_)
    exact hL51 _ _ _ _ _ _ hP hD hS (lv_sub hl [1, 0] rfl) h
  rw [mX8_arrive] at h
  refine lv_aload_n hx hb dX8_arrive_0 rfl (lv_at hl 0 rfl) ?_
  refine lv_bipush (v := (8 : Int32)) hx hb dX8_arrive_1 (by decide) ?_
  obtain ⟨r1, e2, h⟩ := bo h
  refine caVR_i (As := [.int (8 : Int32)]) (rest := []) (ctX8_cutsUntil l dC dI cq q S M o _ _ _ _ e2) F (cwV 1 hts gX8_arrive_X8_cutsUntil rfl rfl rfl hdX8_cutsUntil ⟨Nat.le_of_ble_eq_true rfl, Nat.le_of_ble_eq_true rfl⟩) hK hP hD hDm hS hA (fun _ _ _ _ _ => trivial) (fun _ _ _ => trivial) (va_recv hK hP (ci := 9) (q0 := 22) rfl rfl) rfl hl.1 rfl (Nat.le_of_ble_eq_true rfl) dX8_arrive_3 ⟨Nat.zero_le _, Nat.zero_le _⟩ (fun H locs hP hD hS => ?_)
  refine lv_istore_n (lv' := [(1, .int r1), (0, .ref (q 22))]) hx hb dX8_arrive_6 rfl hl (by decide) rfl (fun ls hl => ?_)
  refine lv_bipush (v := (8 : Int32)) hx hb dX8_arrive_7 (by decide) ?_
  refine lv_aload_n hx hb dX8_arrive_9 rfl (lv_at hl 1 rfl) ?_
  obtain ⟨r3, e4, h⟩ := bo h
  refine caVR_i (As := []) (rest := [.int (8 : Int32)]) (ctX8_cycles l dC dI cq q S M o _ _ _ e4) F (cwV 0 hts gX8_arrive_X8_cycles rfl rfl rfl hdX8_cycles ⟨Nat.le_of_ble_eq_true rfl, Nat.le_of_ble_eq_true rfl⟩) hK hP hD hDm hS hA (fun _ _ _ _ _ => trivial) (fun _ _ _ => trivial) (va_recv hK hP (ci := 9) (q0 := 22) rfl rfl) rfl hl.1 rfl (Nat.le_of_ble_eq_true rfl) dX8_arrive_10 ⟨Nat.zero_le _, Nat.zero_le _⟩ (fun H locs hP hD hS => ?_)
  refine lv_isub hx hb dX8_arrive_13 ?_
  refine lv_istore_n (lv' := [(2, .int ((8 : Int32) - r3)), (1, .int r1), (0, .ref (q 22))]) hx hb dX8_arrive_14 rfl hl (by decide) rfl (fun ls hl => ?_)
  refine lv_iload_n hx hb dX8_arrive_15 rfl (lv_at hl 1 rfl) ?_
  refine lv_aload_n hx hb dX8_arrive_16 rfl (lv_at hl 2 rfl) ?_
  refine va_get (D := (dC, dI)) (ci := 9) (v := .int (M.1 23)) (C := RX8) (T := TX8) (N := 29) hx hb hts hinX8 hown hK hP 22 rfl rfl 23 (by decide) (hts (.fieldLink RX8 234 "CableTesterModel" "cuts" "I") (mm 1 rfl)) (fun _ h9 => h9) rfl dX8_arrive_17 ?_
  refine lv_icmp_lt (tgt := 39) hx hb dX8_arrive_20 (by decide) (fun c5 => ?_) (fun c5 => ?_)
  · replace h := it c5 h
    exact hj39 _ _ _ _ _ _ hP hD hS (lv_sub hl [2, 1, 0] rfl) h
  · replace h := ie c5 h
    refine lv_iload_n hx hb dX8_arrive_23 rfl (lv_at hl 1 rfl) ?_
    refine lv_aload_n hx hb dX8_arrive_24 rfl (lv_at hl 2 rfl) ?_
    refine va_get (D := (dC, dI)) (ci := 9) (v := .int (M.1 23)) (C := RX8) (T := TX8) (N := 29) hx hb hts hinX8 hown hK hP 22 rfl rfl 23 (by decide) (hts (.fieldLink RX8 234 "CableTesterModel" "cuts" "I") (mm 1 rfl)) (fun _ h9 => h9) rfl dX8_arrive_25 ?_
    refine lv_icmp_ne (tgt := 75) hx hb dX8_arrive_28 (by decide) (fun c9 => ?_) (fun c9 => ?_)
    · replace h := ie c9 h
      exact hend _ _ _ _ _ h hP hD hS dX8_arrive_75
    · replace h := it c9 h
      refine lv_iload_n hx hb dX8_arrive_31 rfl (lv_at hl 0 rfl) ?_
      refine lv_aload_n hx hb dX8_arrive_32 rfl (lv_at hl 2 rfl) ?_
      refine va_get (D := (dC, dI)) (ci := 9) (v := .int (M.1 24)) (C := RX8) (T := TX8) (N := 29) hx hb hts hinX8 hown hK hP 22 rfl rfl 24 (by decide) (hts (.fieldLink RX8 237 "CableTesterModel" "exchanges" "I") (mm 2 rfl)) (fun _ h9 => h9) rfl dX8_arrive_33 ?_
      refine lv_icmp_ge (tgt := 75) hx hb dX8_arrive_36 (by decide) (fun c10 => ?_) (fun c10 => ?_)
      · replace h := it c10 h
        exact hend _ _ _ _ _ h hP hD hS dX8_arrive_75
      · replace h := ie c10 h
        exact hj39 _ _ _ _ _ _ hP hD hS (lv_sub hl [2, 1, 0] rfl) h
def mX8_findBest_161 (n : Nat) (K31 : MS → Int32 → Int32 → Option (MS)) (M : MS) (x1 : Int32) (x2 : Int32)  : Option (MS) :=
  (K31 M x1 x2)
def mX8_findBest_124 (n : Nat) (K31 : MS → Int32 → Int32 → Option (MS)) (M : MS) (x2 : Int32) (t0 : Int32) (t1 : Int32) : Option (MS) :=
  (mX8_findBest_161 n (K31) M (t1 &&& t0) x2)
def mX8_findBest_102 (n : Nat) (K31 : MS → Int32 → Int32 → Option (MS)) (M : MS) (x1 : Int32) (x2 : Int32)  : Option (MS) :=
  (if (x2 + (-1 : Int32)) < (0 : Int32) then (mX8_findBest_124 n (K31) M (x2 + (-1 : Int32)) (-1 : Int32) x1) else (if inb (x2 + (-1 : Int32)) 8 then (mX8_findBest_124 n (K31) M (x2 + (-1 : Int32)) (((1 : Int32) <<< ((M.2.1 31 (x2 + (-1 : Int32)).toNatClampNeg) &&& 31)) ^^^ (-1 : Int32)) x1) else none))
def mX8_findBest_84 (n : Nat) (K31 : MS → Int32 → Int32 → Option (MS)) (M : MS) (x1 : Int32) (x2 : Int32) (x3 : Int32)  : Option (MS) :=
  (if x3 = (8 : Int32) then (mX8_findBest_102 n (K31) M x1 x2) else (bn (mX8_cutsUntil n M x2) fun r12 => (if r12 ≤ (M.1 23) then (if inb x2 9 then (if inb x2 8 then (if inb (x2 + (1 : Int32)) 9 then (mX8_findBest_161 n (K31) (sB (sB (sB M 32 x2.toNatClampNeg (x3 + (1 : Int32))) 31 x2.toNatClampNeg x3) 32 (x2 + (1 : Int32)).toNatClampNeg (0 : Int32)) (x1 ||| ((1 : Int32) <<< (x3 &&& 31))) (x2 + (1 : Int32))) else none) else none) else none) else (mX8_findBest_102 n (K31) M x1 x2))))
def mX8_findBest_74 (n : Nat) (K31 : MS → Int32 → Int32 → Option (MS)) (M : MS) (x1 : Int32) (x2 : Int32) (x3 : Int32)  : Option (MS) :=
  (if x2 = (8 : Int32) then (bn (mX8_arrive n M) fun M20 => (mX8_findBest_84 n (K31) M20 x1 x2 x3)) else (mX8_findBest_84 n (K31) M x1 x2 x3))
def mX8_findBest_53 (n : Nat) (K31 : MS → Int32 → Int32 → Option (MS)) (x1 : Int32) (x2 : Int32) : Nat → MS → Int32 → Option (MS)
  | 0, _, _ => none
  | k + 1, M, x3 => (if (8 : Int32) ≤ x3 then (mX8_findBest_74 n (K31) M x1 x2 x3) else (if ((x1 >>> (x3 &&& 31)) &&& (1 : Int32)) = (1 : Int32) then (mX8_findBest_53 n K31 x1 x2 k M (x3 + (1 : Int32))) else (mX8_findBest_74 n (K31) M x1 x2 x3)))
def mX8_findBest_52 (n : Nat) (K31 : MS → Int32 → Int32 → Option (MS)) (M : MS) (x1 : Int32) (x2 : Int32) (t0 : Int32) : Option (MS) :=
  (mX8_findBest_53 n (K31) x1 x2 n M t0)
def mX8_findBest_31 (n : Nat)   : Nat → MS → Int32 → Int32 → Option (MS)
  | 0, _, _, _ => none
  | k + 1, M, x1, x2 => (if x2 < (0 : Int32) then (some M) else (if (8 : Int32) ≤ x2 then (mX8_findBest_52 n (mX8_findBest_31 n k) M x1 x2 (8 : Int32)) else (if inb x2 9 then (mX8_findBest_52 n (mX8_findBest_31 n k) M x1 x2 (M.2.1 32 x2.toNatClampNeg)) else none)))
def mX8_findBest (n : Nat) (M : MS)  : Option (MS) :=
  (bn (mX8_layNets n M (M.1 4)) fun M3 => (if inb (0 : Int32) 9 then (mX8_findBest_31 n n (sB (sG (sG M3 23 (9 : Int32)) 24 (9 : Int32)) 32 (0 : Int32).toNatClampNeg (0 : Int32)) (0 : Int32) (0 : Int32)) else none))
abbrev rmX8_findBest : Room := { frames := 5, cells := 0, slots := 0, locals := 115 }
theorem hdX8_findBest : yX8_findBest.cls = RX8 ∧ yX8_findBest.cls ≠ "java/lang/invoke/MethodHandle" ∧ yX8_findBest.cls ≠ "java/lang/invoke/VarHandle" ∧ (parseMethodDescriptor yX8_findBest.desc).map (fun d => d.parameters.length) = some 0 := by decide +kernel
set_option maxRecDepth 100000 in
set_option maxHeartbeats 8000000 in
theorem ctX8_findBest (l : Launch) (dC : Nat → ClassId) (dI : Nat → Nat → Nat) (cq : Nat → ClassId) (q : Nat → Nat) (S : CS) (M : MS) (o : Nat → Int64) (sz : Nat) (n : Nat)  (MM : MS) (h : mX8_findBest n M = some MM) : CtM_v l yX8_findBest wsX8_findBest rmX8_findBest (fun _ => True) (fun _ => True) dC dI cq q S M o sz [.ref (q 22)] MM := by
  refine enM_v (cc := cX8_findBest) (maxL := 4) (by decide) rfl (Nat.le_of_ble_eq_true rfl) (fun p e s m args below meth c A Q ls F hA hP hK hD hDm hX hS hl hend => ?_)
  obtain ⟨hx, hb, hml, hown, hts⟩ := id F
  have hown : s.vm.findClass RX8 = some m.cls := hown
  have F : CallFix p m c cX8_findBest 4 s args wsX8_findBest RX8 := F
  have hl : lv_has ls 4 [(0, .ref (q 22))] := hl
  have hinX8 : ∀ w ∈ u_ws RX8 TX8 29, w ∈ wsX8_findBest := fun w h => List.mem_cons_of_mem _ (List.mem_append_right _ h)
  have hj161 : ∀ (M : MS) (x1 : Int32) (x2 : Int32)  (K31 : MS → Int32 → Int32 → Option (MS)) (hK31 : ∀ (M9 : MS) (y1 : Int32) (y2 : Int32) (H : Heap) (locs : List Loc) (ls : Array Slot), va_P (dC, dI) vwCl (wA cq q S M9 o) H → va_D A (wA cq q S M9 o) → va_S A s.heap H locs → lv_has ls 4 [(0, .ref (q 22)), (1, .int y1), (2, .int y2)] → K31 M9 y1 y2 = some MM → W p l e rmX8_findBest s m args below meth c H locs 0 0 Q (F0 m 31 ls [])) (H : Heap) (locs : List Loc) (ls : Array Slot), va_P (dC, dI) vwCl (wA cq q S M o) H → va_D A (wA cq q S M o) → va_S A s.heap H locs → lv_has ls 4 [(0, .ref (q 22)), (1, .int x1), (2, .int x2)] → mX8_findBest_161 n K31 M x1 x2 = some MM → W p l e rmX8_findBest s m args below meth c H locs 0 0 Q (F0 m 161 ls []) := by
    intro M x1 x2 K31 hK31 H locs ls hP hD hS hl h
    rw [mX8_findBest_161] at h
    refine lv_goto (tgt := 31) hx hb dX8_findBest_161 (by decide) ?_
    exact hK31 _ _ _ _ _ _ hP hD hS (lv_sub hl [0, 1, 2] rfl) h
  have hj124 : ∀ (M : MS) (x2 : Int32) (t0 : Int32) (t1 : Int32) (K31 : MS → Int32 → Int32 → Option (MS)) (hK31 : ∀ (M9 : MS) (y1 : Int32) (y2 : Int32) (H : Heap) (locs : List Loc) (ls : Array Slot), va_P (dC, dI) vwCl (wA cq q S M9 o) H → va_D A (wA cq q S M9 o) → va_S A s.heap H locs → lv_has ls 4 [(0, .ref (q 22)), (1, .int y1), (2, .int y2)] → K31 M9 y1 y2 = some MM → W p l e rmX8_findBest s m args below meth c H locs 0 0 Q (F0 m 31 ls [])) (H : Heap) (locs : List Loc) (ls : Array Slot), va_P (dC, dI) vwCl (wA cq q S M o) H → va_D A (wA cq q S M o) → va_S A s.heap H locs → lv_has ls 4 [(0, .ref (q 22)), (2, .int x2)] → mX8_findBest_124 n K31 M x2 t0 t1 = some MM → W p l e rmX8_findBest s m args below meth c H locs 0 0 Q (F0 m 124 ls [.int t0, .int t1]) := by
    intro M x2 t0 t1 K31 hK31 H locs ls hP hD hS hl h
    rw [mX8_findBest_124] at h
    refine lv_iand hx hb dX8_findBest_124 ?_
    refine lv_istore_n (lv' := [(1, .int (t1 &&& t0)), (0, .ref (q 22)), (2, .int x2)]) hx hb dX8_findBest_125 rfl hl (by decide) rfl (fun ls hl => ?_)
    refine lv_goto (tgt := 161) hx hb dX8_findBest_126 (by decide) ?_
    exact hj161 _ _ _ _ hK31 _ _ _ hP hD hS (lv_sub hl [1, 0, 2] rfl) h
  have hj102 : ∀ (M : MS) (x1 : Int32) (x2 : Int32)  (K31 : MS → Int32 → Int32 → Option (MS)) (hK31 : ∀ (M9 : MS) (y1 : Int32) (y2 : Int32) (H : Heap) (locs : List Loc) (ls : Array Slot), va_P (dC, dI) vwCl (wA cq q S M9 o) H → va_D A (wA cq q S M9 o) → va_S A s.heap H locs → lv_has ls 4 [(0, .ref (q 22)), (1, .int y1), (2, .int y2)] → K31 M9 y1 y2 = some MM → W p l e rmX8_findBest s m args below meth c H locs 0 0 Q (F0 m 31 ls [])) (H : Heap) (locs : List Loc) (ls : Array Slot), va_P (dC, dI) vwCl (wA cq q S M o) H → va_D A (wA cq q S M o) → va_S A s.heap H locs → lv_has ls 4 [(0, .ref (q 22)), (1, .int x1), (2, .int x2)] → mX8_findBest_102 n K31 M x1 x2 = some MM → W p l e rmX8_findBest s m args below meth c H locs 0 0 Q (F0 m 102 ls []) := by
    intro M x1 x2 K31 hK31 H locs ls hP hD hS hl h
    rw [mX8_findBest_102] at h
    refine lv_iinc (v := (x2 + (-1 : Int32))) (lv' := [(2, .int (x2 + (-1 : Int32))), (0, .ref (q 22)), (1, .int x1)]) hx hb dX8_findBest_102 hl (k := 2) rfl rfl (by decide) rfl (fun ls hl => ?_)
    refine lv_iload_n hx hb dX8_findBest_105 rfl (lv_at hl 2 rfl) ?_
    refine lv_iload_n hx hb dX8_findBest_106 rfl (lv_at hl 0 rfl) ?_
    refine lv_if_lt (tgt := 123) hx hb dX8_findBest_107 (by decide) (fun c10 => ?_) (fun c10 => ?_)
    · replace h := it c10 h
      refine lv_iconst (v := (-1 : Int32)) hx hb dX8_findBest_123 (by decide) ?_
      exact hj124 _ _ _ _ _ hK31 _ _ _ hP hD hS (lv_sub hl [1, 0] rfl) h
    · replace h := ie c10 h
      refine lv_iconst (v := (1 : Int32)) hx hb dX8_findBest_110 (by decide) ?_
      refine lv_aload_n hx hb dX8_findBest_111 rfl (lv_at hl 1 rfl) ?_
      refine va_get (D := (dC, dI)) (ci := 9) (v := .ref (q 31)) (C := RX8) (T := TX8) (N := 29) hx hb hts hinX8 hown hK hP 22 rfl rfl 26 (by decide) (hts (.fieldLink RX8 34 "CableTesterModel" "given" "[I") (mm 5 rfl)) (fun _ h9 => h9) rfl dX8_findBest_112 ?_
      refine lv_iload_n hx hb dX8_findBest_115 rfl (lv_at hl 0 rfl) ?_
      obtain ⟨g11, h⟩ := gd h
      refine va_iald (D := (dC, dI)) hx hb hK hP 31 20 rfl rfl (inb_ok g11) dX8_findBest_116 ?_
      refine lv_ishl hx hb dX8_findBest_117 ?_
      refine lv_iconst (v := (-1 : Int32)) hx hb dX8_findBest_118 (by decide) ?_
      refine lv_ixor hx hb dX8_findBest_119 ?_
      refine lv_goto (tgt := 124) hx hb dX8_findBest_120 (by decide) ?_
      exact hj124 _ _ _ _ _ hK31 _ _ _ hP hD hS (lv_sub hl [1, 0] rfl) h
  have hj84 : ∀ (M : MS) (x1 : Int32) (x2 : Int32) (x3 : Int32)  (K31 : MS → Int32 → Int32 → Option (MS)) (hK31 : ∀ (M9 : MS) (y1 : Int32) (y2 : Int32) (H : Heap) (locs : List Loc) (ls : Array Slot), va_P (dC, dI) vwCl (wA cq q S M9 o) H → va_D A (wA cq q S M9 o) → va_S A s.heap H locs → lv_has ls 4 [(0, .ref (q 22)), (1, .int y1), (2, .int y2)] → K31 M9 y1 y2 = some MM → W p l e rmX8_findBest s m args below meth c H locs 0 0 Q (F0 m 31 ls [])) (H : Heap) (locs : List Loc) (ls : Array Slot), va_P (dC, dI) vwCl (wA cq q S M o) H → va_D A (wA cq q S M o) → va_S A s.heap H locs → lv_has ls 4 [(0, .ref (q 22)), (1, .int x1), (2, .int x2), (3, .int x3)] → mX8_findBest_84 n K31 M x1 x2 x3 = some MM → W p l e rmX8_findBest s m args below meth c H locs 0 0 Q (F0 m 84 ls []) := by
    intro M x1 x2 x3 K31 hK31 H locs ls hP hD hS hl h
    rw [mX8_findBest_84] at h
    refine lv_iload_n hx hb dX8_findBest_84 rfl (lv_at hl 3 rfl) ?_
    refine lv_bipush (v := (8 : Int32)) hx hb dX8_findBest_85 (by decide) ?_
    refine lv_icmp_eq (tgt := 102) hx hb dX8_findBest_87 (by decide) (fun c9 => ?_) (fun c9 => ?_)
    · replace h := it c9 h
      exact hj102 _ _ _ _ hK31 _ _ _ hP hD hS (lv_sub hl [0, 1, 2] rfl) h
    · replace h := ie c9 h
      refine lv_aload_n hx hb dX8_findBest_90 rfl (lv_at hl 0 rfl) ?_
      refine lv_iload_n hx hb dX8_findBest_91 rfl (lv_at hl 2 rfl) ?_
      obtain ⟨r12, e13, h⟩ := bo h
      refine caVR_i (As := [.int x2]) (rest := []) (ctX8_cutsUntil l dC dI cq q S M o _ _ _ _ e13) F (cwV 1 hts gX8_findBest_X8_cutsUntil rfl rfl rfl hdX8_cutsUntil ⟨Nat.le_of_ble_eq_true rfl, Nat.le_of_ble_eq_true rfl⟩) hK hP hD hDm hS hA (fun _ _ _ _ _ => trivial) (fun _ _ _ => trivial) (va_recv hK hP (ci := 9) (q0 := 22) rfl rfl) rfl hl.1 rfl (Nat.le_of_ble_eq_true rfl) dX8_findBest_92 ⟨Nat.zero_le _, Nat.zero_le _⟩ (fun H locs hP hD hS => ?_)
      refine lv_aload_n hx hb dX8_findBest_95 rfl (lv_at hl 0 rfl) ?_
      refine va_get (D := (dC, dI)) (ci := 9) (v := .int (M.1 23)) (C := RX8) (T := TX8) (N := 29) hx hb hts hinX8 hown hK hP 22 rfl rfl 23 (by decide) (hts (.fieldLink RX8 234 "CableTesterModel" "cuts" "I") (mm 2 rfl)) (fun _ h9 => h9) rfl dX8_findBest_96 ?_
      refine lv_icmp_le (tgt := 129) hx hb dX8_findBest_99 (by decide) (fun c14 => ?_) (fun c14 => ?_)
      · replace h := it c14 h
        refine lv_aload_n hx hb dX8_findBest_129 rfl (lv_at hl 0 rfl) ?_
        refine va_get (D := (dC, dI)) (ci := 9) (v := .ref (q 32)) (C := RX8) (T := TX8) (N := 29) hx hb hts hinX8 hown hK hP 22 rfl rfl 27 (by decide) (hts (.fieldLink RX8 37 "CableTesterModel" "tried" "[I") (mm 4 rfl)) (fun _ h9 => h9) rfl dX8_findBest_130 ?_
        refine lv_iload_n hx hb dX8_findBest_133 rfl (lv_at hl 2 rfl) ?_
        refine lv_iload_n hx hb dX8_findBest_134 rfl (lv_at hl 3 rfl) ?_
        refine lv_iconst (v := (1 : Int32)) hx hb dX8_findBest_135 (by decide) ?_
        refine lv_iadd hx hb dX8_findBest_136 ?_
        obtain ⟨g15, h⟩ := gd h
        refine as_32 F hK hP hD hS (inb_ok g15) dX8_findBest_137 (fun H locs hP hD hS => ?_)
        refine lv_aload_n hx hb dX8_findBest_138 rfl (lv_at hl 0 rfl) ?_
        refine va_get (D := (dC, dI)) (ci := 9) (v := .ref (q 31)) (C := RX8) (T := TX8) (N := 29) hx hb hts hinX8 hown hK hP 22 rfl rfl 26 (by decide) (hts (.fieldLink RX8 34 "CableTesterModel" "given" "[I") (mm 5 rfl)) (fun _ h9 => h9) rfl dX8_findBest_139 ?_
        refine lv_iload_n hx hb dX8_findBest_142 rfl (lv_at hl 2 rfl) ?_
        refine lv_iload_n hx hb dX8_findBest_143 rfl (lv_at hl 3 rfl) ?_
        obtain ⟨g16, h⟩ := gd h
        refine as_31 F hK hP hD hS (inb_ok g16) dX8_findBest_144 (fun H locs hP hD hS => ?_)
        refine lv_iload_n hx hb dX8_findBest_145 rfl (lv_at hl 1 rfl) ?_
        refine lv_iconst (v := (1 : Int32)) hx hb dX8_findBest_146 (by decide) ?_
        refine lv_iload_n hx hb dX8_findBest_147 rfl (lv_at hl 3 rfl) ?_
        refine lv_ishl hx hb dX8_findBest_148 ?_
        refine lv_ior hx hb dX8_findBest_149 ?_
        refine lv_istore_n (lv' := [(1, .int (x1 ||| ((1 : Int32) <<< (x3 &&& 31)))), (0, .ref (q 22)), (2, .int x2), (3, .int x3)]) hx hb dX8_findBest_150 rfl hl (by decide) rfl (fun ls hl => ?_)
        refine lv_iinc (v := (x2 + (1 : Int32))) (lv' := [(2, .int (x2 + (1 : Int32))), (1, .int (x1 ||| ((1 : Int32) <<< (x3 &&& 31)))), (0, .ref (q 22)), (3, .int x3)]) hx hb dX8_findBest_151 hl (k := 2) rfl rfl (by decide) rfl (fun ls hl => ?_)
        refine lv_aload_n hx hb dX8_findBest_154 rfl (lv_at hl 2 rfl) ?_
        refine va_get (D := (dC, dI)) (ci := 9) (v := .ref (q 32)) (C := RX8) (T := TX8) (N := 29) hx hb hts hinX8 hown hK hP 22 rfl rfl 27 (by decide) (hts (.fieldLink RX8 37 "CableTesterModel" "tried" "[I") (mm 4 rfl)) (fun _ h9 => h9) rfl dX8_findBest_155 ?_
        refine lv_iload_n hx hb dX8_findBest_158 rfl (lv_at hl 0 rfl) ?_
        refine lv_iconst (v := (0 : Int32)) hx hb dX8_findBest_159 (by decide) ?_
        obtain ⟨g17, h⟩ := gd h
        refine as_32 F hK hP hD hS (inb_ok g17) dX8_findBest_160 (fun H locs hP hD hS => ?_)
        exact hj161 _ _ _ _ hK31 _ _ _ hP hD hS (lv_sub hl [2, 1, 0] rfl) h
      · replace h := ie c14 h
        exact hj102 _ _ _ _ hK31 _ _ _ hP hD hS (lv_sub hl [0, 1, 2] rfl) h
  have hj74 : ∀ (M : MS) (x1 : Int32) (x2 : Int32) (x3 : Int32)  (K31 : MS → Int32 → Int32 → Option (MS)) (hK31 : ∀ (M9 : MS) (y1 : Int32) (y2 : Int32) (H : Heap) (locs : List Loc) (ls : Array Slot), va_P (dC, dI) vwCl (wA cq q S M9 o) H → va_D A (wA cq q S M9 o) → va_S A s.heap H locs → lv_has ls 4 [(0, .ref (q 22)), (1, .int y1), (2, .int y2)] → K31 M9 y1 y2 = some MM → W p l e rmX8_findBest s m args below meth c H locs 0 0 Q (F0 m 31 ls [])) (H : Heap) (locs : List Loc) (ls : Array Slot), va_P (dC, dI) vwCl (wA cq q S M o) H → va_D A (wA cq q S M o) → va_S A s.heap H locs → lv_has ls 4 [(0, .ref (q 22)), (1, .int x1), (2, .int x2), (3, .int x3)] → mX8_findBest_74 n K31 M x1 x2 x3 = some MM → W p l e rmX8_findBest s m args below meth c H locs 0 0 Q (F0 m 74 ls []) := by
    intro M x1 x2 x3 K31 hK31 H locs ls hP hD hS hl h
    rw [mX8_findBest_74] at h
    refine lv_iload_n hx hb dX8_findBest_74 rfl (lv_at hl 2 rfl) ?_
    refine lv_bipush (v := (8 : Int32)) hx hb dX8_findBest_75 (by decide) ?_
    refine lv_icmp_ne (tgt := 84) hx hb dX8_findBest_77 (by decide) (fun c8 => ?_) (fun c8 => ?_)
    · replace h := ie c8 h
      exact hj84 _ _ _ _ _ hK31 _ _ _ hP hD hS (lv_sub hl [0, 1, 2, 3] rfl) h
    · replace h := it c8 h
      refine lv_aload_n hx hb dX8_findBest_80 rfl (lv_at hl 0 rfl) ?_
      obtain ⟨M20, e19, h⟩ := bo h
      refine caVM_v (As := []) (rest := []) (ctX8_arrive l dC dI cq q S M o _ _ _ e19) F (cwV 0 hts gX8_findBest_X8_arrive rfl rfl rfl hdX8_arrive ⟨Nat.le_of_ble_eq_true rfl, Nat.le_of_ble_eq_true rfl⟩) hK hP hD hDm hS hA (fun _ _ _ _ _ => trivial) (fun _ _ _ => trivial) (va_recv hK hP (ci := 9) (q0 := 22) rfl rfl) rfl hl.1 rfl (Nat.le_of_ble_eq_true rfl) dX8_findBest_81 ⟨Nat.zero_le _, Nat.zero_le _⟩ (fun H locs hP hD hS => ?_)
      exact hj84 _ _ _ _ _ hK31 _ _ _ hP hD hS (lv_sub hl [0, 1, 2, 3] rfl) h
  have hL53 : ∀ (x1 : Int32) (x2 : Int32) (K31 : MS → Int32 → Int32 → Option (MS)) (hK31 : ∀ (M9 : MS) (y1 : Int32) (y2 : Int32) (H : Heap) (locs : List Loc) (ls : Array Slot), va_P (dC, dI) vwCl (wA cq q S M9 o) H → va_D A (wA cq q S M9 o) → va_S A s.heap H locs → lv_has ls 4 [(0, .ref (q 22)), (1, .int y1), (2, .int y2)] → K31 M9 y1 y2 = some MM → W p l e rmX8_findBest s m args below meth c H locs 0 0 Q (F0 m 31 ls [])) (k : Nat) (M : MS) (x3 : Int32) (H : Heap) (locs : List Loc) (ls : Array Slot), va_P (dC, dI) vwCl (wA cq q S M o) H → va_D A (wA cq q S M o) → va_S A s.heap H locs → lv_has ls 4 [(0, .ref (q 22)), (1, .int x1), (2, .int x2), (3, .int x3)] → mX8_findBest_53 n K31 x1 x2 k M x3 = some MM → W p l e rmX8_findBest s m args below meth c H locs 0 0 Q (F0 m 53 ls []) := by
    intro x1 x2 K31 hK31
    intro k
    induction k with
    | zero =>
      intro M x3 H locs ls hP hD hS hl h
      rw [mX8_findBest_53] at h
      cases h
    | succ k ih =>
      intro M x3 H locs ls hP hD hS hl h
      rw [mX8_findBest_53] at h
      refine lv_iload_n hx hb dX8_findBest_53 rfl (lv_at hl 3 rfl) ?_
      refine lv_bipush (v := (8 : Int32)) hx hb dX8_findBest_54 (by decide) ?_
      refine lv_icmp_ge (tgt := 74) hx hb dX8_findBest_56 (by decide) (fun c7 => ?_) (fun c7 => ?_)
      · replace h := it c7 h
        exact hj74 _ _ _ _ _ hK31 _ _ _ hP hD hS (lv_sub hl [0, 1, 2, 3] rfl) h
      · replace h := ie c7 h
        refine lv_iload_n hx hb dX8_findBest_59 rfl (lv_at hl 1 rfl) ?_
        refine lv_iload_n hx hb dX8_findBest_60 rfl (lv_at hl 3 rfl) ?_
        refine lv_ishr hx hb dX8_findBest_61 ?_
        refine lv_iconst (v := (1 : Int32)) hx hb dX8_findBest_62 (by decide) ?_
        refine lv_iand hx hb dX8_findBest_63 ?_
        refine lv_iconst (v := (1 : Int32)) hx hb dX8_findBest_64 (by decide) ?_
        refine lv_icmp_ne (tgt := 74) hx hb dX8_findBest_65 (by decide) (fun c21 => ?_) (fun c21 => ?_)
        · replace h := ie c21 h
          exact hj74 _ _ _ _ _ hK31 _ _ _ hP hD hS (lv_sub hl [0, 1, 2, 3] rfl) h
        · replace h := it c21 h
          refine lv_iinc (v := (x3 + (1 : Int32))) (lv' := [(3, .int (x3 + (1 : Int32))), (0, .ref (q 22)), (1, .int x1), (2, .int x2)]) hx hb dX8_findBest_68 hl (k := 3) rfl rfl (by decide) rfl (fun ls hl => ?_)
          refine lv_goto (tgt := 53) hx hb dX8_findBest_71 (by decide) ?_
          exact ih _ _ _ _ _ hP hD hS (lv_sub hl [1, 2, 3, 0] rfl) h
  have hj52 : ∀ (M : MS) (x1 : Int32) (x2 : Int32) (t0 : Int32) (K31 : MS → Int32 → Int32 → Option (MS)) (hK31 : ∀ (M9 : MS) (y1 : Int32) (y2 : Int32) (H : Heap) (locs : List Loc) (ls : Array Slot), va_P (dC, dI) vwCl (wA cq q S M9 o) H → va_D A (wA cq q S M9 o) → va_S A s.heap H locs → lv_has ls 4 [(0, .ref (q 22)), (1, .int y1), (2, .int y2)] → K31 M9 y1 y2 = some MM → W p l e rmX8_findBest s m args below meth c H locs 0 0 Q (F0 m 31 ls [])) (H : Heap) (locs : List Loc) (ls : Array Slot), va_P (dC, dI) vwCl (wA cq q S M o) H → va_D A (wA cq q S M o) → va_S A s.heap H locs → lv_has ls 4 [(0, .ref (q 22)), (1, .int x1), (2, .int x2)] → mX8_findBest_52 n K31 M x1 x2 t0 = some MM → W p l e rmX8_findBest s m args below meth c H locs 0 0 Q (F0 m 52 ls [.int t0]) := by
    intro M x1 x2 t0 K31 hK31 H locs ls hP hD hS hl h
    rw [mX8_findBest_52] at h
    refine lv_istore_n (lv' := [(3, .int t0), (0, .ref (q 22)), (1, .int x1), (2, .int x2)]) hx hb dX8_findBest_52 rfl hl (by decide) rfl (fun ls hl => ?_)
    exact hL53 _ _ _ hK31 _ _ _ _ _ _ hP hD hS (lv_sub hl [1, 2, 3, 0] rfl) h
  have hL31 : ∀   (k : Nat) (M : MS) (x1 : Int32) (x2 : Int32) (H : Heap) (locs : List Loc) (ls : Array Slot), va_P (dC, dI) vwCl (wA cq q S M o) H → va_D A (wA cq q S M o) → va_S A s.heap H locs → lv_has ls 4 [(0, .ref (q 22)), (1, .int x1), (2, .int x2)] → mX8_findBest_31 n k M x1 x2 = some MM → W p l e rmX8_findBest s m args below meth c H locs 0 0 Q (F0 m 31 ls []) := by
    intro k
    induction k with
    | zero =>
      intro M x1 x2 H locs ls hP hD hS hl h
      rw [mX8_findBest_31] at h
      cases h
    | succ k ih =>
      intro M x1 x2 H locs ls hP hD hS hl h
      rw [mX8_findBest_31] at h
      refine lv_iload_n hx hb dX8_findBest_31 rfl (lv_at hl 2 rfl) ?_
      refine lv_if_lt (tgt := 164) hx hb dX8_findBest_32 (by decide) (fun c5 => ?_) (fun c5 => ?_)
      · replace h := it c5 h
        exact hend _ _ _ _ _ h hP hD hS dX8_findBest_164
      · replace h := ie c5 h
        refine lv_iload_n hx hb dX8_findBest_35 rfl (lv_at hl 2 rfl) ?_
        refine lv_bipush (v := (8 : Int32)) hx hb dX8_findBest_36 (by decide) ?_
        refine lv_icmp_ge (tgt := 50) hx hb dX8_findBest_38 (by decide) (fun c6 => ?_) (fun c6 => ?_)
        · replace h := it c6 h
          refine lv_bipush (v := (8 : Int32)) hx hb dX8_findBest_50 (by decide) ?_
          exact hj52 _ _ _ _ _ ih _ _ _ hP hD hS (lv_sub hl [0, 1, 2] rfl) h
        · replace h := ie c6 h
          refine lv_aload_n hx hb dX8_findBest_41 rfl (lv_at hl 0 rfl) ?_
          refine va_get (D := (dC, dI)) (ci := 9) (v := .ref (q 32)) (C := RX8) (T := TX8) (N := 29) hx hb hts hinX8 hown hK hP 22 rfl rfl 27 (by decide) (hts (.fieldLink RX8 37 "CableTesterModel" "tried" "[I") (mm 4 rfl)) (fun _ h9 => h9) rfl dX8_findBest_42 ?_
          refine lv_iload_n hx hb dX8_findBest_45 rfl (lv_at hl 2 rfl) ?_
          obtain ⟨g22, h⟩ := gd h
          refine va_iald (D := (dC, dI)) hx hb hK hP 32 21 rfl rfl (inb_ok g22) dX8_findBest_46 ?_
          refine lv_goto (tgt := 52) hx hb dX8_findBest_47 (by decide) ?_
          exact hj52 _ _ _ _ _ ih _ _ _ hP hD hS (lv_sub hl [0, 1, 2] rfl) h
  rw [mX8_findBest] at h
  refine lv_aload_n hx hb dX8_findBest_0 rfl (lv_at hl 0 rfl) ?_
  refine lv_aload_n hx hb dX8_findBest_1 rfl (lv_at hl 0 rfl) ?_
  refine va_get (D := (dC, dI)) (ci := 9) (v := .int (M.1 4)) (C := RX8) (T := TX8) (N := 29) hx hb hts hinX8 hown hK hP 22 rfl rfl 4 (by decide) (hts (.fieldLink RX8 61 "CableTesterModel" "tick" "I") (mm 1 rfl)) (fun _ h9 => h9) rfl dX8_findBest_2 ?_
  obtain ⟨M3, e2, h⟩ := bo h
  refine caVM_v (As := [.int (M.1 4)]) (rest := []) (ctX8_layNets l dC dI cq q S M o _ _ _ _ e2) F (cwV 1 hts gX8_findBest_X8_layNets rfl rfl rfl hdX8_layNets ⟨Nat.le_of_ble_eq_true rfl, Nat.le_of_ble_eq_true rfl⟩) hK hP hD hDm hS hA (fun _ _ _ _ _ => trivial) (fun _ _ _ => trivial) (va_recv hK hP (ci := 9) (q0 := 22) rfl rfl) rfl hl.1 rfl (Nat.le_of_ble_eq_true rfl) dX8_findBest_5 ⟨Nat.zero_le _, Nat.zero_le _⟩ (fun H locs hP hD hS => ?_)
  refine lv_aload_n hx hb dX8_findBest_8 rfl (lv_at hl 0 rfl) ?_
  refine lv_bipush (v := (9 : Int32)) hx hb dX8_findBest_9 (by decide) ?_
  refine pt_22_23 F hinX8 (hts (.fieldLink RX8 234 "CableTesterModel" "cuts" "I") (mm 2 rfl)) hK hP hD hS dX8_findBest_11 (fun H locs hP hD hS => ?_)
  refine lv_aload_n hx hb dX8_findBest_14 rfl (lv_at hl 0 rfl) ?_
  refine lv_bipush (v := (9 : Int32)) hx hb dX8_findBest_15 (by decide) ?_
  refine pt_22_24 F hinX8 (hts (.fieldLink RX8 237 "CableTesterModel" "exchanges" "I") (mm 3 rfl)) hK hP hD hS dX8_findBest_17 (fun H locs hP hD hS => ?_)
  refine lv_iconst (v := (0 : Int32)) hx hb dX8_findBest_20 (by decide) ?_
  refine lv_istore_n (lv' := [(1, .int (0 : Int32)), (0, .ref (q 22))]) hx hb dX8_findBest_21 rfl hl (by decide) rfl (fun ls hl => ?_)
  refine lv_iconst (v := (0 : Int32)) hx hb dX8_findBest_22 (by decide) ?_
  refine lv_istore_n (lv' := [(2, .int (0 : Int32)), (1, .int (0 : Int32)), (0, .ref (q 22))]) hx hb dX8_findBest_23 rfl hl (by decide) rfl (fun ls hl => ?_)
  refine lv_aload_n hx hb dX8_findBest_24 rfl (lv_at hl 2 rfl) ?_
  refine va_get (D := (dC, dI)) (ci := 9) (v := .ref (q 32)) (C := RX8) (T := TX8) (N := 29) hx hb hts hinX8 hown hK hP 22 rfl rfl 27 (by decide) (hts (.fieldLink RX8 37 "CableTesterModel" "tried" "[I") (mm 4 rfl)) (fun _ h9 => h9) rfl dX8_findBest_25 ?_
  refine lv_iconst (v := (0 : Int32)) hx hb dX8_findBest_28 (by decide) ?_
  refine lv_iconst (v := (0 : Int32)) hx hb dX8_findBest_29 (by decide) ?_
  obtain ⟨g4, h⟩ := gd h
  refine as_32 F hK hP hD hS (inb_ok g4) dX8_findBest_30 (fun H locs hP hD hS => ?_)
  exact hL31 _ _ _ _ _ _ _ hP hD hS (lv_sub hl [2, 1, 0] rfl) h
def mX8_netShorts_100 (n : Nat) (K4 : Int32 → Int32 → Option (Int32)) (M : MS) (x2 : Int32) (t0 : Int32) (t1 : Int32) : Option (Int32) :=
  (K4 (t1 + t0) (x2 + (1 : Int32)))
def mX8_netShorts_94 (n : Nat) (K4 : Int32 → Int32 → Option (Int32)) (M : MS) (x2 : Int32) (t0 : Int32) (t1 : Int32) : Option (Int32) :=
  (mX8_netShorts_100 n (K4) M x2 (t0 - (1 : Int32)) t1)
def mX8_netShorts_46 (n : Nat) (K4 : Int32 → Int32 → Option (Int32)) (K15 : Int32 → Int32 → Option (Int32)) (M : MS) (x1 : Int32) (x2 : Int32) (x4 : Int32) (t0 : Int32) : Option (Int32) :=
  (K15 t0 (x4 + (1 : Int32)))
def mX8_netShorts_45 (n : Nat) (K4 : Int32 → Int32 → Option (Int32)) (K15 : Int32 → Int32 → Option (Int32)) (M : MS) (x1 : Int32) (x2 : Int32) (x4 : Int32)  : Option (Int32) :=
  (mX8_netShorts_46 n (K4) (K15) M x1 x2 x4 (0 : Int32))
def mX8_netShorts_15 (n : Nat) (K4 : Int32 → Int32 → Option (Int32)) (M : MS) (x1 : Int32) (x2 : Int32) : Nat → Int32 → Int32 → Option (Int32)
  | 0, _, _ => none
  | k + 1, x3, x4 => (if x2 ≤ x4 then (bn (mX8_same n M x2 (0 : Int32)) fun r3 => (bn (mX8_bits n r3) fun r5 => (bn (mX8_same n M x2 (1 : Int32)) fun r7 => (bn (mX8_bits n r7) fun r9 => (if x3 = (0 : Int32) then (mX8_netShorts_100 n (K4) M x2 (0 : Int32) x1) else (if r5 ≤ r9 then (mX8_netShorts_94 n (K4) M x2 r9 x1) else (mX8_netShorts_94 n (K4) M x2 r5 x1))))))) else (if x3 = (0 : Int32) then (mX8_netShorts_45 n (K4) (mX8_netShorts_15 n K4 M x1 x2 k) M x1 x2 x4) else (if inb x4 16 then (if inb x2 16 then (if (M.2.1 28 x4.toNatClampNeg) = (M.2.1 28 x2.toNatClampNeg) then (mX8_netShorts_45 n (K4) (mX8_netShorts_15 n K4 M x1 x2 k) M x1 x2 x4) else (mX8_netShorts_46 n (K4) (mX8_netShorts_15 n K4 M x1 x2 k) M x1 x2 x4 (1 : Int32))) else none) else none)))
def mX8_netShorts_4 (n : Nat)  (M : MS)  : Nat → Int32 → Int32 → Option (Int32)
  | 0, _, _ => none
  | k + 1, x1, x2 => (if (16 : Int32) ≤ x2 then (some x1) else (mX8_netShorts_15 n (mX8_netShorts_4 n M k) M x1 x2 n (1 : Int32) (0 : Int32)))
def mX8_netShorts (n : Nat) (M : MS)  : Option (Int32) :=
  (mX8_netShorts_4 n M n (0 : Int32) (0 : Int32))
abbrev rmX8_netShorts : Room := { frames := 1, cells := 0, slots := 0, locals := 24 }
theorem hdX8_netShorts : yX8_netShorts.cls = RX8 ∧ yX8_netShorts.cls ≠ "java/lang/invoke/MethodHandle" ∧ yX8_netShorts.cls ≠ "java/lang/invoke/VarHandle" ∧ (parseMethodDescriptor yX8_netShorts.desc).map (fun d => d.parameters.length) = some 0 := by decide +kernel
set_option maxRecDepth 100000 in
set_option maxHeartbeats 8000000 in
theorem ctX8_netShorts (l : Launch) (dC : Nat → ClassId) (dI : Nat → Nat → Nat) (cq : Nat → ClassId) (q : Nat → Nat) (S : CS) (M : MS) (o : Nat → Int64) (sz : Nat) (n : Nat)  (rr : Int32) (h : mX8_netShorts n M = some rr) : CtR_i l yX8_netShorts wsX8_netShorts rmX8_netShorts (fun _ => True) (fun _ => True) dC dI cq q S M o sz [.ref (q 22)] rr := by
  refine enR_i (cc := cX8_netShorts) (maxL := 6) (by decide) rfl (Nat.le_of_ble_eq_true rfl) (fun p e s m args below meth c A Q ls F hA hP hK hD hDm hX hS hl hend => ?_)
  obtain ⟨hx, hb, hml, hown, hts⟩ := id F
  have hown : s.vm.findClass RX8 = some m.cls := hown
  have F : CallFix p m c cX8_netShorts 6 s args wsX8_netShorts RX8 := F
  have hl : lv_has ls 6 [(0, .ref (q 22))] := hl
  have hinX8 : ∀ w ∈ u_ws RX8 TX8 29, w ∈ wsX8_netShorts := fun w h => List.mem_cons_of_mem _ (List.mem_append_right _ h)
  have hj100 : ∀  (x2 : Int32) (t0 : Int32) (t1 : Int32) (K4 : Int32 → Int32 → Option (Int32)) (hK4 : ∀ (y1 : Int32) (y2 : Int32) (H : Heap) (locs : List Loc) (ls : Array Slot), va_P (dC, dI) vwCl (wA cq q S M o) H → va_D A (wA cq q S M o) → va_S A s.heap H locs → lv_has ls 6 [(0, .ref (q 22)), (1, .int y1), (2, .int y2)] → K4 y1 y2 = some rr → W p l e rmX8_netShorts s m args below meth c H locs 0 0 Q (F0 m 4 ls [])) (H : Heap) (locs : List Loc) (ls : Array Slot), va_P (dC, dI) vwCl (wA cq q S M o) H → va_D A (wA cq q S M o) → va_S A s.heap H locs → lv_has ls 6 [(0, .ref (q 22)), (2, .int x2)] → mX8_netShorts_100 n K4 M x2 t0 t1 = some rr → W p l e rmX8_netShorts s m args below meth c H locs 0 0 Q (F0 m 100 ls [.int t0, .int t1]) := by
    intro x2 t0 t1 K4 hK4 H locs ls hP hD hS hl h
    rw [mX8_netShorts_100] at h
    refine lv_iadd hx hb dX8_netShorts_100 ?_
    refine lv_istore_n (lv' := [(1, .int (t1 + t0)), (0, .ref (q 22)), (2, .int x2)]) hx hb dX8_netShorts_101 rfl hl (by decide) rfl (fun ls hl => ?_)
    refine lv_iinc (v := (x2 + (1 : Int32))) (lv' := [(2, .int (x2 + (1 : Int32))), (1, .int (t1 + t0)), (0, .ref (q 22))]) hx hb dX8_netShorts_102 hl (k := 2) rfl rfl (by decide) rfl (fun ls hl => ?_)
    refine lv_goto (tgt := 4) hx hb dX8_netShorts_105 (by decide) ?_
    exact hK4 _ _ _ _ _ hP hD hS (lv_sub hl [2, 1, 0] rfl) h
  have hj94 : ∀  (x2 : Int32) (t0 : Int32) (t1 : Int32) (K4 : Int32 → Int32 → Option (Int32)) (hK4 : ∀ (y1 : Int32) (y2 : Int32) (H : Heap) (locs : List Loc) (ls : Array Slot), va_P (dC, dI) vwCl (wA cq q S M o) H → va_D A (wA cq q S M o) → va_S A s.heap H locs → lv_has ls 6 [(0, .ref (q 22)), (1, .int y1), (2, .int y2)] → K4 y1 y2 = some rr → W p l e rmX8_netShorts s m args below meth c H locs 0 0 Q (F0 m 4 ls [])) (H : Heap) (locs : List Loc) (ls : Array Slot), va_P (dC, dI) vwCl (wA cq q S M o) H → va_D A (wA cq q S M o) → va_S A s.heap H locs → lv_has ls 6 [(0, .ref (q 22)), (2, .int x2)] → mX8_netShorts_94 n K4 M x2 t0 t1 = some rr → W p l e rmX8_netShorts s m args below meth c H locs 0 0 Q (F0 m 94 ls [.int t0, .int t1]) := by
    intro x2 t0 t1 K4 hK4 H locs ls hP hD hS hl h
    rw [mX8_netShorts_94] at h
    refine lv_iconst (v := (1 : Int32)) hx hb dX8_netShorts_94 (by decide) ?_
    refine lv_isub hx hb dX8_netShorts_95 ?_
    refine lv_goto (tgt := 100) hx hb dX8_netShorts_96 (by decide) ?_
    exact hj100 _ _ _ _ hK4 _ _ _ hP hD hS (lv_sub hl [0, 1] rfl) h
  have hj46 : ∀  (x1 : Int32) (x2 : Int32) (x4 : Int32) (t0 : Int32) (K4 : Int32 → Int32 → Option (Int32)) (hK4 : ∀ (y1 : Int32) (y2 : Int32) (H : Heap) (locs : List Loc) (ls : Array Slot), va_P (dC, dI) vwCl (wA cq q S M o) H → va_D A (wA cq q S M o) → va_S A s.heap H locs → lv_has ls 6 [(0, .ref (q 22)), (1, .int y1), (2, .int y2)] → K4 y1 y2 = some rr → W p l e rmX8_netShorts s m args below meth c H locs 0 0 Q (F0 m 4 ls [])) (K15 : Int32 → Int32 → Option (Int32)) (hK15 : ∀ (y3 : Int32) (y4 : Int32) (H : Heap) (locs : List Loc) (ls : Array Slot), va_P (dC, dI) vwCl (wA cq q S M o) H → va_D A (wA cq q S M o) → va_S A s.heap H locs → lv_has ls 6 [(0, .ref (q 22)), (1, .int x1), (2, .int x2), (3, .int y3), (4, .int y4)] → K15 y3 y4 = some rr → W p l e rmX8_netShorts s m args below meth c H locs 0 0 Q (F0 m 15 ls [])) (H : Heap) (locs : List Loc) (ls : Array Slot), va_P (dC, dI) vwCl (wA cq q S M o) H → va_D A (wA cq q S M o) → va_S A s.heap H locs → lv_has ls 6 [(0, .ref (q 22)), (1, .int x1), (2, .int x2), (4, .int x4)] → mX8_netShorts_46 n K4 K15 M x1 x2 x4 t0 = some rr → W p l e rmX8_netShorts s m args below meth c H locs 0 0 Q (F0 m 46 ls [.int t0]) := by
    intro x1 x2 x4 t0 K4 hK4 K15 hK15 H locs ls hP hD hS hl h
    rw [mX8_netShorts_46] at h
    refine lv_istore_n (lv' := [(3, .int t0), (0, .ref (q 22)), (1, .int x1), (2, .int x2), (4, .int x4)]) hx hb dX8_netShorts_46 rfl hl (by decide) rfl (fun ls hl => ?_)
    refine lv_iinc (v := (x4 + (1 : Int32))) (lv' := [(4, .int (x4 + (1 : Int32))), (3, .int t0), (0, .ref (q 22)), (1, .int x1), (2, .int x2)]) hx hb dX8_netShorts_47 hl (k := 4) rfl rfl (by decide) rfl (fun ls hl => ?_)
    refine lv_goto (tgt := 15) hx hb dX8_netShorts_50 (by decide) ?_
    exact hK15 _ _ _ _ _ hP hD hS (lv_sub hl [2, 3, 4, 1, 0] rfl) h
  have hj45 : ∀  (x1 : Int32) (x2 : Int32) (x4 : Int32)  (K4 : Int32 → Int32 → Option (Int32)) (hK4 : ∀ (y1 : Int32) (y2 : Int32) (H : Heap) (locs : List Loc) (ls : Array Slot), va_P (dC, dI) vwCl (wA cq q S M o) H → va_D A (wA cq q S M o) → va_S A s.heap H locs → lv_has ls 6 [(0, .ref (q 22)), (1, .int y1), (2, .int y2)] → K4 y1 y2 = some rr → W p l e rmX8_netShorts s m args below meth c H locs 0 0 Q (F0 m 4 ls [])) (K15 : Int32 → Int32 → Option (Int32)) (hK15 : ∀ (y3 : Int32) (y4 : Int32) (H : Heap) (locs : List Loc) (ls : Array Slot), va_P (dC, dI) vwCl (wA cq q S M o) H → va_D A (wA cq q S M o) → va_S A s.heap H locs → lv_has ls 6 [(0, .ref (q 22)), (1, .int x1), (2, .int x2), (3, .int y3), (4, .int y4)] → K15 y3 y4 = some rr → W p l e rmX8_netShorts s m args below meth c H locs 0 0 Q (F0 m 15 ls [])) (H : Heap) (locs : List Loc) (ls : Array Slot), va_P (dC, dI) vwCl (wA cq q S M o) H → va_D A (wA cq q S M o) → va_S A s.heap H locs → lv_has ls 6 [(0, .ref (q 22)), (1, .int x1), (2, .int x2), (4, .int x4)] → mX8_netShorts_45 n K4 K15 M x1 x2 x4 = some rr → W p l e rmX8_netShorts s m args below meth c H locs 0 0 Q (F0 m 45 ls []) := by
    intro x1 x2 x4 K4 hK4 K15 hK15 H locs ls hP hD hS hl h
    rw [mX8_netShorts_45] at h
    refine lv_iconst (v := (0 : Int32)) hx hb dX8_netShorts_45 (by decide) ?_
    exact hj46 _ _ _ _ _ hK4 _ hK15 _ _ _ hP hD hS (lv_sub hl [0, 1, 2, 3] rfl) h
  have hL15 : ∀ (x1 : Int32) (x2 : Int32) (K4 : Int32 → Int32 → Option (Int32)) (hK4 : ∀ (y1 : Int32) (y2 : Int32) (H : Heap) (locs : List Loc) (ls : Array Slot), va_P (dC, dI) vwCl (wA cq q S M o) H → va_D A (wA cq q S M o) → va_S A s.heap H locs → lv_has ls 6 [(0, .ref (q 22)), (1, .int y1), (2, .int y2)] → K4 y1 y2 = some rr → W p l e rmX8_netShorts s m args below meth c H locs 0 0 Q (F0 m 4 ls [])) (k : Nat)  (x3 : Int32) (x4 : Int32) (H : Heap) (locs : List Loc) (ls : Array Slot), va_P (dC, dI) vwCl (wA cq q S M o) H → va_D A (wA cq q S M o) → va_S A s.heap H locs → lv_has ls 6 [(0, .ref (q 22)), (1, .int x1), (2, .int x2), (3, .int x3), (4, .int x4)] → mX8_netShorts_15 n K4 M x1 x2 k x3 x4 = some rr → W p l e rmX8_netShorts s m args below meth c H locs 0 0 Q (F0 m 15 ls []) := by
    intro x1 x2 K4 hK4
    intro k
    induction k with
    | zero =>
      intro x3 x4 H locs ls hP hD hS hl h
      rw [mX8_netShorts_15] at h
      cases h
    | succ k ih =>
      intro x3 x4 H locs ls hP hD hS hl h
      rw [mX8_netShorts_15] at h
      refine lv_iload hx hb dX8_netShorts_15 (lv_at hl 4 rfl) ?_
      refine lv_iload_n hx hb dX8_netShorts_17 rfl (lv_at hl 2 rfl) ?_
      refine lv_icmp_ge (tgt := 53) hx hb dX8_netShorts_18 (by decide) (fun c2 => ?_) (fun c2 => ?_)
      · replace h := it c2 h
        refine lv_aload_n hx hb dX8_netShorts_53 rfl (lv_at hl 0 rfl) ?_
        refine lv_iload_n hx hb dX8_netShorts_54 rfl (lv_at hl 2 rfl) ?_
        refine lv_iconst (v := (0 : Int32)) hx hb dX8_netShorts_55 (by decide) ?_
        obtain ⟨r3, e4, h⟩ := bo h
        refine caVR_i (As := [.int x2, .int (0 : Int32)]) (rest := []) (ctX8_same l dC dI cq q S M o _ _ _ _ _ e4) F (cwV 2 hts gX8_netShorts_X8_same rfl rfl rfl hdX8_same ⟨Nat.le_of_ble_eq_true rfl, Nat.le_of_ble_eq_true rfl⟩) hK hP hD hDm hS hA (fun _ _ _ _ _ => trivial) (fun _ _ _ => trivial) (va_recv hK hP (ci := 9) (q0 := 22) rfl rfl) rfl hl.1 rfl (Nat.le_of_ble_eq_true rfl) dX8_netShorts_56 ⟨Nat.zero_le _, Nat.zero_le _⟩ (fun H locs hP hD hS => ?_)
        obtain ⟨r5, e6, h⟩ := bo h
        refine caSR_i (As := [.int r3]) (rest := []) (ctX8_bits l dC dI cq q S M o _ _ _ _ e6) F (va_cwS 1 hts gX8_netShorts_X8_bits rfl rfl rfl hdX8_bits ⟨Nat.le_of_ble_eq_true rfl, Nat.le_of_ble_eq_true rfl⟩) hK hP hD hDm hS hA (fun _ _ _ _ _ => trivial) (fun _ _ _ => trivial) rfl hl.1 rfl (Nat.le_of_ble_eq_true rfl) dX8_netShorts_59 ⟨Nat.zero_le _, Nat.zero_le _⟩ (fun H locs hP hD hS => ?_)
        refine lv_istore (lv' := [(4, .int r5), (0, .ref (q 22)), (1, .int x1), (2, .int x2), (3, .int x3)]) hx hb dX8_netShorts_62 hl (by decide) rfl (fun ls hl => ?_)
        refine lv_aload_n hx hb dX8_netShorts_64 rfl (lv_at hl 1 rfl) ?_
        refine lv_iload_n hx hb dX8_netShorts_65 rfl (lv_at hl 3 rfl) ?_
        refine lv_iconst (v := (1 : Int32)) hx hb dX8_netShorts_66 (by decide) ?_
        obtain ⟨r7, e8, h⟩ := bo h
        refine caVR_i (As := [.int x2, .int (1 : Int32)]) (rest := []) (ctX8_same l dC dI cq q S M o _ _ _ _ _ e8) F (cwV 2 hts gX8_netShorts_X8_same rfl rfl rfl hdX8_same ⟨Nat.le_of_ble_eq_true rfl, Nat.le_of_ble_eq_true rfl⟩) hK hP hD hDm hS hA (fun _ _ _ _ _ => trivial) (fun _ _ _ => trivial) (va_recv hK hP (ci := 9) (q0 := 22) rfl rfl) rfl hl.1 rfl (Nat.le_of_ble_eq_true rfl) dX8_netShorts_67 ⟨Nat.zero_le _, Nat.zero_le _⟩ (fun H locs hP hD hS => ?_)
        obtain ⟨r9, e10, h⟩ := bo h
        refine caSR_i (As := [.int r7]) (rest := []) (ctX8_bits l dC dI cq q S M o _ _ _ _ e10) F (va_cwS 1 hts gX8_netShorts_X8_bits rfl rfl rfl hdX8_bits ⟨Nat.le_of_ble_eq_true rfl, Nat.le_of_ble_eq_true rfl⟩) hK hP hD hDm hS hA (fun _ _ _ _ _ => trivial) (fun _ _ _ => trivial) rfl hl.1 rfl (Nat.le_of_ble_eq_true rfl) dX8_netShorts_70 ⟨Nat.zero_le _, Nat.zero_le _⟩ (fun H locs hP hD hS => ?_)
        refine lv_istore (lv' := [(5, .int r9), (4, .int r5), (0, .ref (q 22)), (1, .int x1), (2, .int x2), (3, .int x3)]) hx hb dX8_netShorts_73 hl (by decide) rfl (fun ls hl => ?_)
        refine lv_iload_n hx hb dX8_netShorts_75 rfl (lv_at hl 3 rfl) ?_
        refine lv_iload_n hx hb dX8_netShorts_76 rfl (lv_at hl 5 rfl) ?_
        refine lv_if_eq (tgt := 99) hx hb dX8_netShorts_77 (by decide) (fun c11 => ?_) (fun c11 => ?_)
        · replace h := it c11 h
          refine lv_iconst (v := (0 : Int32)) hx hb dX8_netShorts_99 (by decide) ?_
          exact hj100 _ _ _ _ hK4 _ _ _ hP hD hS (lv_sub hl [2, 4] rfl) h
        · replace h := ie c11 h
          refine lv_iload hx hb dX8_netShorts_80 (lv_at hl 1 rfl) ?_
          refine lv_iload hx hb dX8_netShorts_82 (lv_at hl 0 rfl) ?_
          refine lv_icmp_le (tgt := 92) hx hb dX8_netShorts_84 (by decide) (fun c12 => ?_) (fun c12 => ?_)
          · replace h := it c12 h
            refine lv_iload hx hb dX8_netShorts_92 (lv_at hl 0 rfl) ?_
            exact hj94 _ _ _ _ hK4 _ _ _ hP hD hS (lv_sub hl [2, 4] rfl) h
          · replace h := ie c12 h
            refine lv_iload hx hb dX8_netShorts_87 (lv_at hl 1 rfl) ?_
            refine lv_goto (tgt := 94) hx hb dX8_netShorts_89 (by decide) ?_
            exact hj94 _ _ _ _ hK4 _ _ _ hP hD hS (lv_sub hl [2, 4] rfl) h
      · replace h := ie c2 h
        refine lv_iload_n hx hb dX8_netShorts_21 rfl (lv_at hl 3 rfl) ?_
        refine lv_if_eq (tgt := 45) hx hb dX8_netShorts_22 (by decide) (fun c13 => ?_) (fun c13 => ?_)
        · replace h := it c13 h
          exact hj45 _ _ _ _ hK4 _ ih _ _ _ hP hD hS (lv_sub hl [0, 1, 2, 4] rfl) h
        · replace h := ie c13 h
          refine lv_aload_n hx hb dX8_netShorts_25 rfl (lv_at hl 0 rfl) ?_
          refine va_get (D := (dC, dI)) (ci := 9) (v := .ref (q 28)) (C := RX8) (T := TX8) (N := 29) hx hb hts hinX8 hown hK hP 22 rfl rfl 13 (by decide) (hts (.fieldLink RX8 25 "CableTesterModel" "nets" "[I") (mm 1 rfl)) (fun _ h9 => h9) rfl dX8_netShorts_26 ?_
          refine lv_iload hx hb dX8_netShorts_29 (lv_at hl 4 rfl) ?_
          obtain ⟨g14, h⟩ := gd h
          refine va_iald (D := (dC, dI)) hx hb hK hP 28 17 rfl rfl (inb_ok g14) dX8_netShorts_31 ?_
          refine lv_aload_n hx hb dX8_netShorts_32 rfl (lv_at hl 0 rfl) ?_
          refine va_get (D := (dC, dI)) (ci := 9) (v := .ref (q 28)) (C := RX8) (T := TX8) (N := 29) hx hb hts hinX8 hown hK hP 22 rfl rfl 13 (by decide) (hts (.fieldLink RX8 25 "CableTesterModel" "nets" "[I") (mm 1 rfl)) (fun _ h9 => h9) rfl dX8_netShorts_33 ?_
          refine lv_iload_n hx hb dX8_netShorts_36 rfl (lv_at hl 2 rfl) ?_
          obtain ⟨g15, h⟩ := gd h
          refine va_iald (D := (dC, dI)) hx hb hK hP 28 17 rfl rfl (inb_ok g15) dX8_netShorts_37 ?_
          refine lv_icmp_eq (tgt := 45) hx hb dX8_netShorts_38 (by decide) (fun c16 => ?_) (fun c16 => ?_)
          · replace h := it c16 h
            exact hj45 _ _ _ _ hK4 _ ih _ _ _ hP hD hS (lv_sub hl [0, 1, 2, 4] rfl) h
          · replace h := ie c16 h
            refine lv_iconst (v := (1 : Int32)) hx hb dX8_netShorts_41 (by decide) ?_
            refine lv_goto (tgt := 46) hx hb dX8_netShorts_42 (by decide) ?_
            exact hj46 _ _ _ _ _ hK4 _ ih _ _ _ hP hD hS (lv_sub hl [0, 1, 2, 4] rfl) h
  have hL4 : ∀   (k : Nat)  (x1 : Int32) (x2 : Int32) (H : Heap) (locs : List Loc) (ls : Array Slot), va_P (dC, dI) vwCl (wA cq q S M o) H → va_D A (wA cq q S M o) → va_S A s.heap H locs → lv_has ls 6 [(0, .ref (q 22)), (1, .int x1), (2, .int x2)] → mX8_netShorts_4 n M k x1 x2 = some rr → W p l e rmX8_netShorts s m args below meth c H locs 0 0 Q (F0 m 4 ls []) := by
    intro k
    induction k with
    | zero =>
      intro x1 x2 H locs ls hP hD hS hl h
      rw [mX8_netShorts_4] at h
      cases h
    | succ k ih =>
      intro x1 x2 H locs ls hP hD hS hl h
      rw [mX8_netShorts_4] at h
      refine lv_iload_n hx hb dX8_netShorts_4 rfl (lv_at hl 2 rfl) ?_
      refine lv_bipush (v := (16 : Int32)) hx hb dX8_netShorts_5 (by decide) ?_
      refine lv_icmp_ge (tgt := 108) hx hb dX8_netShorts_7 (by decide) (fun c1 => ?_) (fun c1 => ?_)
      · replace h := it c1 h
        refine lv_iload_n hx hb dX8_netShorts_108 rfl (lv_at hl 1 rfl) ?_
        exact hend _ _ _ _ _ h hP hD hS dX8_netShorts_109
      · replace h := ie c1 h
        refine lv_iconst (v := (1 : Int32)) hx hb dX8_netShorts_10 (by decide) ?_
        refine lv_istore_n (lv' := [(3, .int (1 : Int32)), (0, .ref (q 22)), (1, .int x1), (2, .int x2)]) hx hb dX8_netShorts_11 rfl hl (by decide) rfl (fun ls hl => ?_)
        refine lv_iconst (v := (0 : Int32)) hx hb dX8_netShorts_12 (by decide) ?_
        refine lv_istore (lv' := [(4, .int (0 : Int32)), (3, .int (1 : Int32)), (0, .ref (q 22)), (1, .int x1), (2, .int x2)]) hx hb dX8_netShorts_13 hl (by decide) rfl (fun ls hl => ?_)
        exact hL15 _ _ _ ih _ _ _ _ _ _ hP hD hS (lv_sub hl [2, 3, 4, 1, 0] rfl) h
  rw [mX8_netShorts] at h
  refine lv_iconst (v := (0 : Int32)) hx hb dX8_netShorts_0 (by decide) ?_
  refine lv_istore_n (lv' := [(1, .int (0 : Int32)), (0, .ref (q 22))]) hx hb dX8_netShorts_1 rfl hl (by decide) rfl (fun ls hl => ?_)
  refine lv_iconst (v := (0 : Int32)) hx hb dX8_netShorts_2 (by decide) ?_
  refine lv_istore_n (lv' := [(2, .int (0 : Int32)), (1, .int (0 : Int32)), (0, .ref (q 22))]) hx hb dX8_netShorts_3 rfl hl (by decide) rfl (fun ls hl => ?_)
  exact hL4 _ _ _ _ _ _ hP hD hS (lv_sub hl [2, 1, 0] rfl) h
def mX8_splits_151 (n : Nat) (K4 : Int32 → Int32 → Option (Int32)) (M : MS) (x2 : Int32) (t0 : Int32) (t1 : Int32) : Option (Int32) :=
  (K4 (t1 + t0) (x2 + (1 : Int32)))
def mX8_splits_127 (n : Nat) (K4 : Int32 → Int32 → Option (Int32)) (K76 : Int32 → Int32 → Option (Int32)) (M : MS) (x1 : Int32) (x2 : Int32) (x4 : Int32) (t0 : Int32) (t1 : Int32) : Option (Int32) :=
  (K76 (t1 ||| t0) (x4 + (1 : Int32)))
def mX8_splits_126 (n : Nat) (K4 : Int32 → Int32 → Option (Int32)) (K76 : Int32 → Int32 → Option (Int32)) (M : MS) (x1 : Int32) (x2 : Int32) (x4 : Int32) (t0 : Int32) : Option (Int32) :=
  (mX8_splits_127 n (K4) (K76) M x1 x2 x4 (0 : Int32) t0)
def mX8_splits_76 (n : Nat) (K4 : Int32 → Int32 → Option (Int32)) (M : MS) (x1 : Int32) (x2 : Int32) : Nat → Int32 → Int32 → Option (Int32)
  | 0, _, _ => none
  | k + 1, x3, x4 => (if (32 : Int32) ≤ x4 then (if (x3 &&& (((1 : Int32) <<< (x2 &&& 31)) - (1 : Int32))) = (0 : Int32) then (mX8_splits_151 n (K4) M x2 (0 : Int32) x1) else (mX8_splits_151 n (K4) M x2 (1 : Int32) x1)) else (if ((x3 >>> (((x4 / (4 : Int32)) - (x4 / (4 : Int32)) / (4 : Int32) * (4 : Int32)) &&& 31)) &&& (1 : Int32)) = (1 : Int32) then (bn (mX8_talk n M ((x4 / (4 : Int32)) - (x4 / (4 : Int32)) / (4 : Int32) * (4 : Int32)) (x4 - x4 / (4 : Int32) * (4 : Int32))) fun r6 => (if r6 ≤ (0 : Int32) then (mX8_splits_126 n (K4) (mX8_splits_76 n K4 M x1 x2 k) M x1 x2 x4 x3) else (mX8_splits_127 n (K4) (mX8_splits_76 n K4 M x1 x2 k) M x1 x2 x4 ((1 : Int32) <<< ((x4 - x4 / (4 : Int32) * (4 : Int32)) &&& 31)) x3))) else (mX8_splits_126 n (K4) (mX8_splits_76 n K4 M x1 x2 k) M x1 x2 x4 x3)))
def mX8_splits_65 (n : Nat) (K4 : Int32 → Int32 → Option (Int32)) (K16 : Int32 → Int32 → Option (Int32)) (M : MS) (x1 : Int32) (x2 : Int32) (x4 : Int32) (t0 : Int32) (t1 : Int32) : Option (Int32) :=
  (K16 (t1 ||| t0) (x4 + (1 : Int32)))
def mX8_splits_64 (n : Nat) (K4 : Int32 → Int32 → Option (Int32)) (K16 : Int32 → Int32 → Option (Int32)) (M : MS) (x1 : Int32) (x2 : Int32) (x4 : Int32) (t0 : Int32) : Option (Int32) :=
  (mX8_splits_65 n (K4) (K16) M x1 x2 x4 (0 : Int32) t0)
def mX8_splits_16 (n : Nat) (K4 : Int32 → Int32 → Option (Int32)) (M : MS) (x1 : Int32) (x2 : Int32) : Nat → Int32 → Int32 → Option (Int32)
  | 0, _, _ => none
  | k + 1, x3, x4 => (if (16 : Int32) ≤ x4 then (mX8_splits_76 n (K4) M x1 x2 n x3 (0 : Int32)) else (if ((x3 >>> ((x4 / (4 : Int32)) &&& 31)) &&& (1 : Int32)) = (1 : Int32) then (bn (mX8_talk n M (x4 / (4 : Int32)) (x4 - x4 / (4 : Int32) * (4 : Int32))) fun r10 => (if r10 ≤ (0 : Int32) then (mX8_splits_64 n (K4) (mX8_splits_16 n K4 M x1 x2 k) M x1 x2 x4 x3) else (mX8_splits_65 n (K4) (mX8_splits_16 n K4 M x1 x2 k) M x1 x2 x4 ((1 : Int32) <<< ((x4 - x4 / (4 : Int32) * (4 : Int32)) &&& 31)) x3))) else (mX8_splits_64 n (K4) (mX8_splits_16 n K4 M x1 x2 k) M x1 x2 x4 x3)))
def mX8_splits_4 (n : Nat)  (M : MS)  : Nat → Int32 → Int32 → Option (Int32)
  | 0, _, _ => none
  | k + 1, x1, x2 => (if (4 : Int32) ≤ x2 then (some x1) else (mX8_splits_16 n (mX8_splits_4 n M k) M x1 x2 n ((1 : Int32) <<< (x2 &&& 31)) (0 : Int32)))
def mX8_splits (n : Nat) (M : MS)  : Option (Int32) :=
  (mX8_splits_4 n M n (0 : Int32) (0 : Int32))
abbrev rmX8_splits : Room := { frames := 1, cells := 0, slots := 0, locals := 25 }
theorem hdX8_splits : yX8_splits.cls = RX8 ∧ yX8_splits.cls ≠ "java/lang/invoke/MethodHandle" ∧ yX8_splits.cls ≠ "java/lang/invoke/VarHandle" ∧ (parseMethodDescriptor yX8_splits.desc).map (fun d => d.parameters.length) = some 0 := by decide +kernel
set_option maxRecDepth 100000 in
set_option maxHeartbeats 8000000 in
theorem ctX8_splits (l : Launch) (dC : Nat → ClassId) (dI : Nat → Nat → Nat) (cq : Nat → ClassId) (q : Nat → Nat) (S : CS) (M : MS) (o : Nat → Int64) (sz : Nat) (n : Nat)  (rr : Int32) (h : mX8_splits n M = some rr) : CtR_i l yX8_splits wsX8_splits rmX8_splits (fun _ => True) (fun _ => True) dC dI cq q S M o sz [.ref (q 22)] rr := by
  refine enR_i (cc := cX8_splits) (maxL := 7) (by decide) rfl (Nat.le_of_ble_eq_true rfl) (fun p e s m args below meth c A Q ls F hA hP hK hD hDm hX hS hl hend => ?_)
  obtain ⟨hx, hb, hml, hown, hts⟩ := id F
  have hown : s.vm.findClass RX8 = some m.cls := hown
  have F : CallFix p m c cX8_splits 7 s args wsX8_splits RX8 := F
  have hl : lv_has ls 7 [(0, .ref (q 22))] := hl
  have hj151 : ∀  (x2 : Int32) (t0 : Int32) (t1 : Int32) (K4 : Int32 → Int32 → Option (Int32)) (hK4 : ∀ (y1 : Int32) (y2 : Int32) (H : Heap) (locs : List Loc) (ls : Array Slot), va_P (dC, dI) vwCl (wA cq q S M o) H → va_D A (wA cq q S M o) → va_S A s.heap H locs → lv_has ls 7 [(0, .ref (q 22)), (1, .int y1), (2, .int y2)] → K4 y1 y2 = some rr → W p l e rmX8_splits s m args below meth c H locs 0 0 Q (F0 m 4 ls [])) (H : Heap) (locs : List Loc) (ls : Array Slot), va_P (dC, dI) vwCl (wA cq q S M o) H → va_D A (wA cq q S M o) → va_S A s.heap H locs → lv_has ls 7 [(0, .ref (q 22)), (2, .int x2)] → mX8_splits_151 n K4 M x2 t0 t1 = some rr → W p l e rmX8_splits s m args below meth c H locs 0 0 Q (F0 m 151 ls [.int t0, .int t1]) := by
    intro x2 t0 t1 K4 hK4 H locs ls hP hD hS hl h
    rw [mX8_splits_151] at h
    refine lv_iadd hx hb dX8_splits_151 ?_
    refine lv_istore_n (lv' := [(1, .int (t1 + t0)), (0, .ref (q 22)), (2, .int x2)]) hx hb dX8_splits_152 rfl hl (by decide) rfl (fun ls hl => ?_)
    refine lv_iinc (v := (x2 + (1 : Int32))) (lv' := [(2, .int (x2 + (1 : Int32))), (1, .int (t1 + t0)), (0, .ref (q 22))]) hx hb dX8_splits_153 hl (k := 2) rfl rfl (by decide) rfl (fun ls hl => ?_)
    refine lv_goto (tgt := 4) hx hb dX8_splits_156 (by decide) ?_
    exact hK4 _ _ _ _ _ hP hD hS (lv_sub hl [2, 1, 0] rfl) h
  have hj127 : ∀  (x1 : Int32) (x2 : Int32) (x4 : Int32) (t0 : Int32) (t1 : Int32) (K4 : Int32 → Int32 → Option (Int32)) (hK4 : ∀ (y1 : Int32) (y2 : Int32) (H : Heap) (locs : List Loc) (ls : Array Slot), va_P (dC, dI) vwCl (wA cq q S M o) H → va_D A (wA cq q S M o) → va_S A s.heap H locs → lv_has ls 7 [(0, .ref (q 22)), (1, .int y1), (2, .int y2)] → K4 y1 y2 = some rr → W p l e rmX8_splits s m args below meth c H locs 0 0 Q (F0 m 4 ls [])) (K76 : Int32 → Int32 → Option (Int32)) (hK76 : ∀ (y3 : Int32) (y4 : Int32) (H : Heap) (locs : List Loc) (ls : Array Slot), va_P (dC, dI) vwCl (wA cq q S M o) H → va_D A (wA cq q S M o) → va_S A s.heap H locs → lv_has ls 7 [(0, .ref (q 22)), (1, .int x1), (2, .int x2), (3, .int y3), (4, .int y4)] → K76 y3 y4 = some rr → W p l e rmX8_splits s m args below meth c H locs 0 0 Q (F0 m 76 ls [])) (H : Heap) (locs : List Loc) (ls : Array Slot), va_P (dC, dI) vwCl (wA cq q S M o) H → va_D A (wA cq q S M o) → va_S A s.heap H locs → lv_has ls 7 [(0, .ref (q 22)), (1, .int x1), (2, .int x2), (4, .int x4)] → mX8_splits_127 n K4 K76 M x1 x2 x4 t0 t1 = some rr → W p l e rmX8_splits s m args below meth c H locs 0 0 Q (F0 m 127 ls [.int t0, .int t1]) := by
    intro x1 x2 x4 t0 t1 K4 hK4 K76 hK76 H locs ls hP hD hS hl h
    rw [mX8_splits_127] at h
    refine lv_ior hx hb dX8_splits_127 ?_
    refine lv_istore_n (lv' := [(3, .int (t1 ||| t0)), (0, .ref (q 22)), (1, .int x1), (2, .int x2), (4, .int x4)]) hx hb dX8_splits_128 rfl hl (by decide) rfl (fun ls hl => ?_)
    refine lv_iinc (v := (x4 + (1 : Int32))) (lv' := [(4, .int (x4 + (1 : Int32))), (3, .int (t1 ||| t0)), (0, .ref (q 22)), (1, .int x1), (2, .int x2)]) hx hb dX8_splits_129 hl (k := 4) rfl rfl (by decide) rfl (fun ls hl => ?_)
    refine lv_goto (tgt := 76) hx hb dX8_splits_132 (by decide) ?_
    exact hK76 _ _ _ _ _ hP hD hS (lv_sub hl [2, 3, 4, 1, 0] rfl) h
  have hj126 : ∀  (x1 : Int32) (x2 : Int32) (x4 : Int32) (t0 : Int32) (K4 : Int32 → Int32 → Option (Int32)) (hK4 : ∀ (y1 : Int32) (y2 : Int32) (H : Heap) (locs : List Loc) (ls : Array Slot), va_P (dC, dI) vwCl (wA cq q S M o) H → va_D A (wA cq q S M o) → va_S A s.heap H locs → lv_has ls 7 [(0, .ref (q 22)), (1, .int y1), (2, .int y2)] → K4 y1 y2 = some rr → W p l e rmX8_splits s m args below meth c H locs 0 0 Q (F0 m 4 ls [])) (K76 : Int32 → Int32 → Option (Int32)) (hK76 : ∀ (y3 : Int32) (y4 : Int32) (H : Heap) (locs : List Loc) (ls : Array Slot), va_P (dC, dI) vwCl (wA cq q S M o) H → va_D A (wA cq q S M o) → va_S A s.heap H locs → lv_has ls 7 [(0, .ref (q 22)), (1, .int x1), (2, .int x2), (3, .int y3), (4, .int y4)] → K76 y3 y4 = some rr → W p l e rmX8_splits s m args below meth c H locs 0 0 Q (F0 m 76 ls [])) (H : Heap) (locs : List Loc) (ls : Array Slot), va_P (dC, dI) vwCl (wA cq q S M o) H → va_D A (wA cq q S M o) → va_S A s.heap H locs → lv_has ls 7 [(0, .ref (q 22)), (1, .int x1), (2, .int x2), (4, .int x4)] → mX8_splits_126 n K4 K76 M x1 x2 x4 t0 = some rr → W p l e rmX8_splits s m args below meth c H locs 0 0 Q (F0 m 126 ls [.int t0]) := by
    intro x1 x2 x4 t0 K4 hK4 K76 hK76 H locs ls hP hD hS hl h
    rw [mX8_splits_126] at h
    refine lv_iconst (v := (0 : Int32)) hx hb dX8_splits_126 (by decide) ?_
    exact hj127 _ _ _ _ _ _ hK4 _ hK76 _ _ _ hP hD hS (lv_sub hl [0, 1, 2, 3] rfl) h
  have hL76 : ∀ (x1 : Int32) (x2 : Int32) (K4 : Int32 → Int32 → Option (Int32)) (hK4 : ∀ (y1 : Int32) (y2 : Int32) (H : Heap) (locs : List Loc) (ls : Array Slot), va_P (dC, dI) vwCl (wA cq q S M o) H → va_D A (wA cq q S M o) → va_S A s.heap H locs → lv_has ls 7 [(0, .ref (q 22)), (1, .int y1), (2, .int y2)] → K4 y1 y2 = some rr → W p l e rmX8_splits s m args below meth c H locs 0 0 Q (F0 m 4 ls [])) (k : Nat)  (x3 : Int32) (x4 : Int32) (H : Heap) (locs : List Loc) (ls : Array Slot), va_P (dC, dI) vwCl (wA cq q S M o) H → va_D A (wA cq q S M o) → va_S A s.heap H locs → lv_has ls 7 [(0, .ref (q 22)), (1, .int x1), (2, .int x2), (3, .int x3), (4, .int x4)] → mX8_splits_76 n K4 M x1 x2 k x3 x4 = some rr → W p l e rmX8_splits s m args below meth c H locs 0 0 Q (F0 m 76 ls []) := by
    intro x1 x2 K4 hK4
    intro k
    induction k with
    | zero =>
      intro x3 x4 H locs ls hP hD hS hl h
      rw [mX8_splits_76] at h
      cases h
    | succ k ih =>
      intro x3 x4 H locs ls hP hD hS hl h
      rw [mX8_splits_76] at h
      refine lv_iload hx hb dX8_splits_76 (lv_at hl 4 rfl) ?_
      refine lv_bipush (v := (32 : Int32)) hx hb dX8_splits_78 (by decide) ?_
      refine lv_icmp_ge (tgt := 135) hx hb dX8_splits_80 (by decide) (fun c3 => ?_) (fun c3 => ?_)
      · replace h := it c3 h
        refine lv_iload_n hx hb dX8_splits_135 rfl (lv_at hl 1 rfl) ?_
        refine lv_iload_n hx hb dX8_splits_136 rfl (lv_at hl 3 rfl) ?_
        refine lv_iconst (v := (1 : Int32)) hx hb dX8_splits_137 (by decide) ?_
        refine lv_iload_n hx hb dX8_splits_138 rfl (lv_at hl 2 rfl) ?_
        refine lv_ishl hx hb dX8_splits_139 ?_
        refine lv_iconst (v := (1 : Int32)) hx hb dX8_splits_140 (by decide) ?_
        refine lv_isub hx hb dX8_splits_141 ?_
        refine lv_iand hx hb dX8_splits_142 ?_
        refine lv_if_eq (tgt := 150) hx hb dX8_splits_143 (by decide) (fun c4 => ?_) (fun c4 => ?_)
        · replace h := it c4 h
          refine lv_iconst (v := (0 : Int32)) hx hb dX8_splits_150 (by decide) ?_
          exact hj151 _ _ _ _ hK4 _ _ _ hP hD hS (lv_sub hl [0, 2] rfl) h
        · replace h := ie c4 h
          refine lv_iconst (v := (1 : Int32)) hx hb dX8_splits_146 (by decide) ?_
          refine lv_goto (tgt := 151) hx hb dX8_splits_147 (by decide) ?_
          exact hj151 _ _ _ _ hK4 _ _ _ hP hD hS (lv_sub hl [0, 2] rfl) h
      · replace h := ie c3 h
        refine lv_iload hx hb dX8_splits_83 (lv_at hl 4 rfl) ?_
        refine lv_iconst (v := (4 : Int32)) hx hb dX8_splits_85 (by decide) ?_
        refine lv_idiv hx hb dX8_splits_86 (by decide) ?_
        refine lv_iconst (v := (4 : Int32)) hx hb dX8_splits_87 (by decide) ?_
        refine lv_irem hx hb dX8_splits_88 (by decide) ?_
        refine lv_istore (lv' := [(5, .int ((x4 / (4 : Int32)) - (x4 / (4 : Int32)) / (4 : Int32) * (4 : Int32))), (0, .ref (q 22)), (1, .int x1), (2, .int x2), (3, .int x3), (4, .int x4)]) hx hb dX8_splits_89 hl (by decide) rfl (fun ls hl => ?_)
        refine lv_iload hx hb dX8_splits_91 (lv_at hl 5 rfl) ?_
        refine lv_iconst (v := (4 : Int32)) hx hb dX8_splits_93 (by decide) ?_
        refine lv_irem hx hb dX8_splits_94 (by decide) ?_
        refine lv_istore (lv' := [(6, .int (x4 - x4 / (4 : Int32) * (4 : Int32))), (5, .int ((x4 / (4 : Int32)) - (x4 / (4 : Int32)) / (4 : Int32) * (4 : Int32))), (0, .ref (q 22)), (1, .int x1), (2, .int x2), (3, .int x3), (4, .int x4)]) hx hb dX8_splits_95 hl (by decide) rfl (fun ls hl => ?_)
        refine lv_iload_n hx hb dX8_splits_97 rfl (lv_at hl 5 rfl) ?_
        refine lv_iload_n hx hb dX8_splits_98 rfl (lv_at hl 5 rfl) ?_
        refine lv_iload hx hb dX8_splits_99 (lv_at hl 1 rfl) ?_
        refine lv_ishr hx hb dX8_splits_101 ?_
        refine lv_iconst (v := (1 : Int32)) hx hb dX8_splits_102 (by decide) ?_
        refine lv_iand hx hb dX8_splits_103 ?_
        refine lv_iconst (v := (1 : Int32)) hx hb dX8_splits_104 (by decide) ?_
        refine lv_icmp_ne (tgt := 126) hx hb dX8_splits_105 (by decide) (fun c5 => ?_) (fun c5 => ?_)
        · replace h := ie c5 h
          exact hj126 _ _ _ _ _ hK4 _ ih _ _ _ hP hD hS (lv_sub hl [2, 3, 4, 6] rfl) h
        · replace h := it c5 h
          refine lv_aload_n hx hb dX8_splits_108 rfl (lv_at hl 2 rfl) ?_
          refine lv_iload hx hb dX8_splits_109 (lv_at hl 1 rfl) ?_
          refine lv_iload hx hb dX8_splits_111 (lv_at hl 0 rfl) ?_
          obtain ⟨r6, e7, h⟩ := bo h
          refine caVR_i (As := [.int ((x4 / (4 : Int32)) - (x4 / (4 : Int32)) / (4 : Int32) * (4 : Int32)), .int (x4 - x4 / (4 : Int32) * (4 : Int32))]) (rest := [.int x3]) (ctX8_talk l dC dI cq q S M o _ _ _ _ _ e7) F (cwV 2 hts gX8_splits_X8_talk rfl rfl rfl hdX8_talk ⟨Nat.le_of_ble_eq_true rfl, Nat.le_of_ble_eq_true rfl⟩) hK hP hD hDm hS hA (fun _ _ _ _ _ => trivial) (fun _ _ _ => trivial) (va_recv hK hP (ci := 9) (q0 := 22) rfl rfl) rfl hl.1 rfl (Nat.le_of_ble_eq_true rfl) dX8_splits_113 ⟨Nat.zero_le _, Nat.zero_le _⟩ (fun H locs hP hD hS => ?_)
          refine lv_if_le (tgt := 126) hx hb dX8_splits_116 (by decide) (fun c8 => ?_) (fun c8 => ?_)
          · replace h := it c8 h
            exact hj126 _ _ _ _ _ hK4 _ ih _ _ _ hP hD hS (lv_sub hl [2, 3, 4, 6] rfl) h
          · replace h := ie c8 h
            refine lv_iconst (v := (1 : Int32)) hx hb dX8_splits_119 (by decide) ?_
            refine lv_iload hx hb dX8_splits_120 (lv_at hl 0 rfl) ?_
            refine lv_ishl hx hb dX8_splits_122 ?_
            refine lv_goto (tgt := 127) hx hb dX8_splits_123 (by decide) ?_
            exact hj127 _ _ _ _ _ _ hK4 _ ih _ _ _ hP hD hS (lv_sub hl [2, 3, 4, 6] rfl) h
  have hj65 : ∀  (x1 : Int32) (x2 : Int32) (x4 : Int32) (t0 : Int32) (t1 : Int32) (K4 : Int32 → Int32 → Option (Int32)) (hK4 : ∀ (y1 : Int32) (y2 : Int32) (H : Heap) (locs : List Loc) (ls : Array Slot), va_P (dC, dI) vwCl (wA cq q S M o) H → va_D A (wA cq q S M o) → va_S A s.heap H locs → lv_has ls 7 [(0, .ref (q 22)), (1, .int y1), (2, .int y2)] → K4 y1 y2 = some rr → W p l e rmX8_splits s m args below meth c H locs 0 0 Q (F0 m 4 ls [])) (K16 : Int32 → Int32 → Option (Int32)) (hK16 : ∀ (y3 : Int32) (y4 : Int32) (H : Heap) (locs : List Loc) (ls : Array Slot), va_P (dC, dI) vwCl (wA cq q S M o) H → va_D A (wA cq q S M o) → va_S A s.heap H locs → lv_has ls 7 [(0, .ref (q 22)), (1, .int x1), (2, .int x2), (3, .int y3), (4, .int y4)] → K16 y3 y4 = some rr → W p l e rmX8_splits s m args below meth c H locs 0 0 Q (F0 m 16 ls [])) (H : Heap) (locs : List Loc) (ls : Array Slot), va_P (dC, dI) vwCl (wA cq q S M o) H → va_D A (wA cq q S M o) → va_S A s.heap H locs → lv_has ls 7 [(0, .ref (q 22)), (1, .int x1), (2, .int x2), (4, .int x4)] → mX8_splits_65 n K4 K16 M x1 x2 x4 t0 t1 = some rr → W p l e rmX8_splits s m args below meth c H locs 0 0 Q (F0 m 65 ls [.int t0, .int t1]) := by
    intro x1 x2 x4 t0 t1 K4 hK4 K16 hK16 H locs ls hP hD hS hl h
    rw [mX8_splits_65] at h
    refine lv_ior hx hb dX8_splits_65 ?_
    refine lv_istore_n (lv' := [(3, .int (t1 ||| t0)), (0, .ref (q 22)), (1, .int x1), (2, .int x2), (4, .int x4)]) hx hb dX8_splits_66 rfl hl (by decide) rfl (fun ls hl => ?_)
    refine lv_iinc (v := (x4 + (1 : Int32))) (lv' := [(4, .int (x4 + (1 : Int32))), (3, .int (t1 ||| t0)), (0, .ref (q 22)), (1, .int x1), (2, .int x2)]) hx hb dX8_splits_67 hl (k := 4) rfl rfl (by decide) rfl (fun ls hl => ?_)
    refine lv_goto (tgt := 16) hx hb dX8_splits_70 (by decide) ?_
    exact hK16 _ _ _ _ _ hP hD hS (lv_sub hl [2, 3, 4, 1, 0] rfl) h
  have hj64 : ∀  (x1 : Int32) (x2 : Int32) (x4 : Int32) (t0 : Int32) (K4 : Int32 → Int32 → Option (Int32)) (hK4 : ∀ (y1 : Int32) (y2 : Int32) (H : Heap) (locs : List Loc) (ls : Array Slot), va_P (dC, dI) vwCl (wA cq q S M o) H → va_D A (wA cq q S M o) → va_S A s.heap H locs → lv_has ls 7 [(0, .ref (q 22)), (1, .int y1), (2, .int y2)] → K4 y1 y2 = some rr → W p l e rmX8_splits s m args below meth c H locs 0 0 Q (F0 m 4 ls [])) (K16 : Int32 → Int32 → Option (Int32)) (hK16 : ∀ (y3 : Int32) (y4 : Int32) (H : Heap) (locs : List Loc) (ls : Array Slot), va_P (dC, dI) vwCl (wA cq q S M o) H → va_D A (wA cq q S M o) → va_S A s.heap H locs → lv_has ls 7 [(0, .ref (q 22)), (1, .int x1), (2, .int x2), (3, .int y3), (4, .int y4)] → K16 y3 y4 = some rr → W p l e rmX8_splits s m args below meth c H locs 0 0 Q (F0 m 16 ls [])) (H : Heap) (locs : List Loc) (ls : Array Slot), va_P (dC, dI) vwCl (wA cq q S M o) H → va_D A (wA cq q S M o) → va_S A s.heap H locs → lv_has ls 7 [(0, .ref (q 22)), (1, .int x1), (2, .int x2), (4, .int x4)] → mX8_splits_64 n K4 K16 M x1 x2 x4 t0 = some rr → W p l e rmX8_splits s m args below meth c H locs 0 0 Q (F0 m 64 ls [.int t0]) := by
    intro x1 x2 x4 t0 K4 hK4 K16 hK16 H locs ls hP hD hS hl h
    rw [mX8_splits_64] at h
    refine lv_iconst (v := (0 : Int32)) hx hb dX8_splits_64 (by decide) ?_
    exact hj65 _ _ _ _ _ _ hK4 _ hK16 _ _ _ hP hD hS (lv_sub hl [0, 1, 2, 3] rfl) h
  have hL16 : ∀ (x1 : Int32) (x2 : Int32) (K4 : Int32 → Int32 → Option (Int32)) (hK4 : ∀ (y1 : Int32) (y2 : Int32) (H : Heap) (locs : List Loc) (ls : Array Slot), va_P (dC, dI) vwCl (wA cq q S M o) H → va_D A (wA cq q S M o) → va_S A s.heap H locs → lv_has ls 7 [(0, .ref (q 22)), (1, .int y1), (2, .int y2)] → K4 y1 y2 = some rr → W p l e rmX8_splits s m args below meth c H locs 0 0 Q (F0 m 4 ls [])) (k : Nat)  (x3 : Int32) (x4 : Int32) (H : Heap) (locs : List Loc) (ls : Array Slot), va_P (dC, dI) vwCl (wA cq q S M o) H → va_D A (wA cq q S M o) → va_S A s.heap H locs → lv_has ls 7 [(0, .ref (q 22)), (1, .int x1), (2, .int x2), (3, .int x3), (4, .int x4)] → mX8_splits_16 n K4 M x1 x2 k x3 x4 = some rr → W p l e rmX8_splits s m args below meth c H locs 0 0 Q (F0 m 16 ls []) := by
    intro x1 x2 K4 hK4
    intro k
    induction k with
    | zero =>
      intro x3 x4 H locs ls hP hD hS hl h
      rw [mX8_splits_16] at h
      cases h
    | succ k ih =>
      intro x3 x4 H locs ls hP hD hS hl h
      rw [mX8_splits_16] at h
      refine lv_iload hx hb dX8_splits_16 (lv_at hl 4 rfl) ?_
      refine lv_bipush (v := (16 : Int32)) hx hb dX8_splits_18 (by decide) ?_
      refine lv_icmp_ge (tgt := 73) hx hb dX8_splits_20 (by decide) (fun c2 => ?_) (fun c2 => ?_)
      · replace h := it c2 h
        refine lv_iconst (v := (0 : Int32)) hx hb dX8_splits_73 (by decide) ?_
        refine lv_istore (lv' := [(4, .int (0 : Int32)), (0, .ref (q 22)), (1, .int x1), (2, .int x2), (3, .int x3)]) hx hb dX8_splits_74 hl (by decide) rfl (fun ls hl => ?_)
        exact hL76 _ _ _ hK4 _ _ _ _ _ _ hP hD hS (lv_sub hl [1, 2, 3, 4, 0] rfl) h
      · replace h := ie c2 h
        refine lv_iload hx hb dX8_splits_23 (lv_at hl 4 rfl) ?_
        refine lv_iconst (v := (4 : Int32)) hx hb dX8_splits_25 (by decide) ?_
        refine lv_idiv hx hb dX8_splits_26 (by decide) ?_
        refine lv_istore (lv' := [(5, .int (x4 / (4 : Int32))), (0, .ref (q 22)), (1, .int x1), (2, .int x2), (3, .int x3), (4, .int x4)]) hx hb dX8_splits_27 hl (by decide) rfl (fun ls hl => ?_)
        refine lv_iload hx hb dX8_splits_29 (lv_at hl 5 rfl) ?_
        refine lv_iconst (v := (4 : Int32)) hx hb dX8_splits_31 (by decide) ?_
        refine lv_irem hx hb dX8_splits_32 (by decide) ?_
        refine lv_istore (lv' := [(6, .int (x4 - x4 / (4 : Int32) * (4 : Int32))), (5, .int (x4 / (4 : Int32))), (0, .ref (q 22)), (1, .int x1), (2, .int x2), (3, .int x3), (4, .int x4)]) hx hb dX8_splits_33 hl (by decide) rfl (fun ls hl => ?_)
        refine lv_iload_n hx hb dX8_splits_35 rfl (lv_at hl 5 rfl) ?_
        refine lv_iload_n hx hb dX8_splits_36 rfl (lv_at hl 5 rfl) ?_
        refine lv_iload hx hb dX8_splits_37 (lv_at hl 1 rfl) ?_
        refine lv_ishr hx hb dX8_splits_39 ?_
        refine lv_iconst (v := (1 : Int32)) hx hb dX8_splits_40 (by decide) ?_
        refine lv_iand hx hb dX8_splits_41 ?_
        refine lv_iconst (v := (1 : Int32)) hx hb dX8_splits_42 (by decide) ?_
        refine lv_icmp_ne (tgt := 64) hx hb dX8_splits_43 (by decide) (fun c9 => ?_) (fun c9 => ?_)
        · replace h := ie c9 h
          exact hj64 _ _ _ _ _ hK4 _ ih _ _ _ hP hD hS (lv_sub hl [2, 3, 4, 6] rfl) h
        · replace h := it c9 h
          refine lv_aload_n hx hb dX8_splits_46 rfl (lv_at hl 2 rfl) ?_
          refine lv_iload hx hb dX8_splits_47 (lv_at hl 1 rfl) ?_
          refine lv_iload hx hb dX8_splits_49 (lv_at hl 0 rfl) ?_
          obtain ⟨r10, e11, h⟩ := bo h
          refine caVR_i (As := [.int (x4 / (4 : Int32)), .int (x4 - x4 / (4 : Int32) * (4 : Int32))]) (rest := [.int x3]) (ctX8_talk l dC dI cq q S M o _ _ _ _ _ e11) F (cwV 2 hts gX8_splits_X8_talk rfl rfl rfl hdX8_talk ⟨Nat.le_of_ble_eq_true rfl, Nat.le_of_ble_eq_true rfl⟩) hK hP hD hDm hS hA (fun _ _ _ _ _ => trivial) (fun _ _ _ => trivial) (va_recv hK hP (ci := 9) (q0 := 22) rfl rfl) rfl hl.1 rfl (Nat.le_of_ble_eq_true rfl) dX8_splits_51 ⟨Nat.zero_le _, Nat.zero_le _⟩ (fun H locs hP hD hS => ?_)
          refine lv_if_le (tgt := 64) hx hb dX8_splits_54 (by decide) (fun c12 => ?_) (fun c12 => ?_)
          · replace h := it c12 h
            exact hj64 _ _ _ _ _ hK4 _ ih _ _ _ hP hD hS (lv_sub hl [2, 3, 4, 6] rfl) h
          · replace h := ie c12 h
            refine lv_iconst (v := (1 : Int32)) hx hb dX8_splits_57 (by decide) ?_
            refine lv_iload hx hb dX8_splits_58 (lv_at hl 0 rfl) ?_
            refine lv_ishl hx hb dX8_splits_60 ?_
            refine lv_goto (tgt := 65) hx hb dX8_splits_61 (by decide) ?_
            exact hj65 _ _ _ _ _ _ hK4 _ ih _ _ _ hP hD hS (lv_sub hl [2, 3, 4, 6] rfl) h
  have hL4 : ∀   (k : Nat)  (x1 : Int32) (x2 : Int32) (H : Heap) (locs : List Loc) (ls : Array Slot), va_P (dC, dI) vwCl (wA cq q S M o) H → va_D A (wA cq q S M o) → va_S A s.heap H locs → lv_has ls 7 [(0, .ref (q 22)), (1, .int x1), (2, .int x2)] → mX8_splits_4 n M k x1 x2 = some rr → W p l e rmX8_splits s m args below meth c H locs 0 0 Q (F0 m 4 ls []) := by
    intro k
    induction k with
    | zero =>
      intro x1 x2 H locs ls hP hD hS hl h
      rw [mX8_splits_4] at h
      cases h
    | succ k ih =>
      intro x1 x2 H locs ls hP hD hS hl h
      rw [mX8_splits_4] at h
      refine lv_iload_n hx hb dX8_splits_4 rfl (lv_at hl 2 rfl) ?_
      refine lv_iconst (v := (4 : Int32)) hx hb dX8_splits_5 (by decide) ?_
      refine lv_icmp_ge (tgt := 159) hx hb dX8_splits_6 (by decide) (fun c1 => ?_) (fun c1 => ?_)
      · replace h := it c1 h
        refine lv_iload_n hx hb dX8_splits_159 rfl (lv_at hl 1 rfl) ?_
        exact hend _ _ _ _ _ h hP hD hS dX8_splits_160
      · replace h := ie c1 h
        refine lv_iconst (v := (1 : Int32)) hx hb dX8_splits_9 (by decide) ?_
        refine lv_iload_n hx hb dX8_splits_10 rfl (lv_at hl 2 rfl) ?_
        refine lv_ishl hx hb dX8_splits_11 ?_
        refine lv_istore_n (lv' := [(3, .int ((1 : Int32) <<< (x2 &&& 31))), (0, .ref (q 22)), (1, .int x1), (2, .int x2)]) hx hb dX8_splits_12 rfl hl (by decide) rfl (fun ls hl => ?_)
        refine lv_iconst (v := (0 : Int32)) hx hb dX8_splits_13 (by decide) ?_
        refine lv_istore (lv' := [(4, .int (0 : Int32)), (3, .int ((1 : Int32) <<< (x2 &&& 31))), (0, .ref (q 22)), (1, .int x1), (2, .int x2)]) hx hb dX8_splits_14 hl (by decide) rfl (fun ls hl => ?_)
        exact hL16 _ _ _ ih _ _ _ _ _ _ hP hD hS (lv_sub hl [2, 3, 4, 1, 0] rfl) h
  rw [mX8_splits] at h
  refine lv_iconst (v := (0 : Int32)) hx hb dX8_splits_0 (by decide) ?_
  refine lv_istore_n (lv' := [(1, .int (0 : Int32)), (0, .ref (q 22))]) hx hb dX8_splits_1 rfl hl (by decide) rfl (fun ls hl => ?_)
  refine lv_iconst (v := (0 : Int32)) hx hb dX8_splits_2 (by decide) ?_
  refine lv_istore_n (lv' := [(2, .int (0 : Int32)), (1, .int (0 : Int32)), (0, .ref (q 22))]) hx hb dX8_splits_3 rfl hl (by decide) rfl (fun ls hl => ?_)
  exact hL4 _ _ _ _ _ _ hP hD hS (lv_sub hl [2, 1, 0] rfl) h
def mX8_explanation (n : Nat) (M : MS) (x1 : Int32) : Option (Int32 × MS) :=
  (bn (mX8_findBest n M) fun M3 => (if x1 = (0 : Int32) then (some ((M3.1 23), M3)) else (if x1 = (1 : Int32) then (bn (mX8_netShorts n M3) fun r6 => (some (r6, M3))) else (if x1 = (2 : Int32) then (some ((M3.1 24), M3)) else (if x1 = (3 : Int32) then (bn (mX8_splits n M3) fun r10 => (some (r10, M3))) else (bn (mX8_netShorts n M3) fun r12 => (bn (mX8_splits n M3) fun r14 => (some (((((M3.1 23) + r12) + (M3.1 24)) + r14), M3)))))))))
abbrev rmX8_explanation : Room := { frames := 6, cells := 0, slots := 0, locals := 138 }
theorem hdX8_explanation : yX8_explanation.cls = RX8 ∧ yX8_explanation.cls ≠ "java/lang/invoke/MethodHandle" ∧ yX8_explanation.cls ≠ "java/lang/invoke/VarHandle" ∧ (parseMethodDescriptor yX8_explanation.desc).map (fun d => d.parameters.length) = some 1 := by decide +kernel
set_option maxRecDepth 100000 in
set_option maxHeartbeats 8000000 in
theorem ctX8_explanation (l : Launch) (dC : Nat → ClassId) (dI : Nat → Nat → Nat) (cq : Nat → ClassId) (q : Nat → Nat) (S : CS) (M : MS) (o : Nat → Int64) (sz : Nat) (n : Nat) (x1 : Int32) (rr : Int32) (MM : MS) (h : mX8_explanation n M x1 = some (rr, MM)) : CtM_i l yX8_explanation wsX8_explanation rmX8_explanation (fun _ => True) (fun _ => True) dC dI cq q S M o sz [.ref (q 22), .int x1] rr MM := by
  refine enM_i (cc := cX8_explanation) (maxL := 2) (by decide) rfl (Nat.le_of_ble_eq_true rfl) (fun p e s m args below meth c A Q ls F hA hP hK hD hDm hX hS hl hend => ?_)
  obtain ⟨hx, hb, hml, hown, hts⟩ := id F
  have hown : s.vm.findClass RX8 = some m.cls := hown
  have F : CallFix p m c cX8_explanation 2 s args wsX8_explanation RX8 := F
  have hl : lv_has ls 2 [(0, .ref (q 22)), (1, .int x1)] := hl
  have hinX8 : ∀ w ∈ u_ws RX8 TX8 29, w ∈ wsX8_explanation := fun w h => List.mem_cons_of_mem _ (List.mem_append_right _ h)
  rw [mX8_explanation] at h
  refine lv_aload_n hx hb dX8_explanation_0 rfl (lv_at hl 0 rfl) ?_
  obtain ⟨M3, e2, h⟩ := bo h
  refine caVM_v (As := []) (rest := []) (ctX8_findBest l dC dI cq q S M o _ _ _ e2) F (cwV 0 hts gX8_explanation_X8_findBest rfl rfl rfl hdX8_findBest ⟨Nat.le_of_ble_eq_true rfl, Nat.le_of_ble_eq_true rfl⟩) hK hP hD hDm hS hA (fun _ _ _ _ _ => trivial) (fun _ _ _ => trivial) (va_recv hK hP (ci := 9) (q0 := 22) rfl rfl) rfl hl.1 rfl (Nat.le_of_ble_eq_true rfl) dX8_explanation_1 ⟨Nat.zero_le _, Nat.zero_le _⟩ (fun H locs hP hD hS => ?_)
  refine lv_iload_n hx hb dX8_explanation_4 rfl (lv_at hl 1 rfl) ?_
  by_cases c4 : x1 = (0 : Int32)
  · replace h := it c4 h
    refine lv_tableIn (tgt := 36) (off := 31) hx hb dX8_explanation_5 (by rw [c4]; decide) (by rw [c4]; decide) (by rw [c4]; decide) (by decide) ?_
    refine lv_aload_n hx hb dX8_explanation_36 rfl (lv_at hl 0 rfl) ?_
    refine va_get (D := (dC, dI)) (ci := 9) (v := .int (M3.1 23)) (C := RX8) (T := TX8) (N := 29) hx hb hts hinX8 hown hK hP 22 rfl rfl 23 (by decide) (hts (.fieldLink RX8 234 "CableTesterModel" "cuts" "I") (mm 1 rfl)) (fun _ h9 => h9) rfl dX8_explanation_37 ?_
    exact hend _ _ _ _ _ _ h hP hD hS dX8_explanation_40
  replace h := ie c4 h
  by_cases c5 : x1 = (1 : Int32)
  · replace h := it c5 h
    refine lv_tableIn (tgt := 41) (off := 36) hx hb dX8_explanation_5 (by rw [c5]; decide) (by rw [c5]; decide) (by rw [c5]; decide) (by decide) ?_
    refine lv_aload_n hx hb dX8_explanation_41 rfl (lv_at hl 0 rfl) ?_
    obtain ⟨r6, e7, h⟩ := bo h
    refine caVR_i (As := []) (rest := []) (ctX8_netShorts l dC dI cq q S M3 o _ _ _ e7) F (cwV 0 hts gX8_explanation_X8_netShorts rfl rfl rfl hdX8_netShorts ⟨Nat.le_of_ble_eq_true rfl, Nat.le_of_ble_eq_true rfl⟩) hK hP hD hDm hS hA (fun _ _ _ _ _ => trivial) (fun _ _ _ => trivial) (va_recv hK hP (ci := 9) (q0 := 22) rfl rfl) rfl hl.1 rfl (Nat.le_of_ble_eq_true rfl) dX8_explanation_42 ⟨Nat.zero_le _, Nat.zero_le _⟩ (fun H locs hP hD hS => ?_)
    exact hend _ _ _ _ _ _ h hP hD hS dX8_explanation_45
  replace h := ie c5 h
  by_cases c8 : x1 = (2 : Int32)
  · replace h := it c8 h
    refine lv_tableIn (tgt := 46) (off := 41) hx hb dX8_explanation_5 (by rw [c8]; decide) (by rw [c8]; decide) (by rw [c8]; decide) (by decide) ?_
    refine lv_aload_n hx hb dX8_explanation_46 rfl (lv_at hl 0 rfl) ?_
    refine va_get (D := (dC, dI)) (ci := 9) (v := .int (M3.1 24)) (C := RX8) (T := TX8) (N := 29) hx hb hts hinX8 hown hK hP 22 rfl rfl 24 (by decide) (hts (.fieldLink RX8 237 "CableTesterModel" "exchanges" "I") (mm 2 rfl)) (fun _ h9 => h9) rfl dX8_explanation_47 ?_
    exact hend _ _ _ _ _ _ h hP hD hS dX8_explanation_50
  replace h := ie c8 h
  by_cases c9 : x1 = (3 : Int32)
  · replace h := it c9 h
    refine lv_tableIn (tgt := 51) (off := 46) hx hb dX8_explanation_5 (by rw [c9]; decide) (by rw [c9]; decide) (by rw [c9]; decide) (by decide) ?_
    refine lv_aload_n hx hb dX8_explanation_51 rfl (lv_at hl 0 rfl) ?_
    obtain ⟨r10, e11, h⟩ := bo h
    refine caVR_i (As := []) (rest := []) (ctX8_splits l dC dI cq q S M3 o _ _ _ e11) F (cwV 0 hts gX8_explanation_X8_splits rfl rfl rfl hdX8_splits ⟨Nat.le_of_ble_eq_true rfl, Nat.le_of_ble_eq_true rfl⟩) hK hP hD hDm hS hA (fun _ _ _ _ _ => trivial) (fun _ _ _ => trivial) (va_recv hK hP (ci := 9) (q0 := 22) rfl rfl) rfl hl.1 rfl (Nat.le_of_ble_eq_true rfl) dX8_explanation_52 ⟨Nat.zero_le _, Nat.zero_le _⟩ (fun H locs hP hD hS => ?_)
    exact hend _ _ _ _ _ _ h hP hD hS dX8_explanation_55
  replace h := ie c9 h
  refine lv_tableOut (tgt := 56) hx hb dX8_explanation_5 (by have z0 := ne_i (n := 0) rfl c4; have z1 := ne_i (n := 1) rfl c5; have z2 := ne_i (n := 2) rfl c8; have z3 := ne_i (n := 3) rfl c9; omega) (by decide) ?_
  refine lv_aload_n hx hb dX8_explanation_56 rfl (lv_at hl 0 rfl) ?_
  refine va_get (D := (dC, dI)) (ci := 9) (v := .int (M3.1 23)) (C := RX8) (T := TX8) (N := 29) hx hb hts hinX8 hown hK hP 22 rfl rfl 23 (by decide) (hts (.fieldLink RX8 234 "CableTesterModel" "cuts" "I") (mm 1 rfl)) (fun _ h9 => h9) rfl dX8_explanation_57 ?_
  refine lv_aload_n hx hb dX8_explanation_60 rfl (lv_at hl 0 rfl) ?_
  obtain ⟨r12, e13, h⟩ := bo h
  refine caVR_i (As := []) (rest := [.int (M3.1 23)]) (ctX8_netShorts l dC dI cq q S M3 o _ _ _ e13) F (cwV 0 hts gX8_explanation_X8_netShorts rfl rfl rfl hdX8_netShorts ⟨Nat.le_of_ble_eq_true rfl, Nat.le_of_ble_eq_true rfl⟩) hK hP hD hDm hS hA (fun _ _ _ _ _ => trivial) (fun _ _ _ => trivial) (va_recv hK hP (ci := 9) (q0 := 22) rfl rfl) rfl hl.1 rfl (Nat.le_of_ble_eq_true rfl) dX8_explanation_61 ⟨Nat.zero_le _, Nat.zero_le _⟩ (fun H locs hP hD hS => ?_)
  refine lv_iadd hx hb dX8_explanation_64 ?_
  refine lv_aload_n hx hb dX8_explanation_65 rfl (lv_at hl 0 rfl) ?_
  refine va_get (D := (dC, dI)) (ci := 9) (v := .int (M3.1 24)) (C := RX8) (T := TX8) (N := 29) hx hb hts hinX8 hown hK hP 22 rfl rfl 24 (by decide) (hts (.fieldLink RX8 237 "CableTesterModel" "exchanges" "I") (mm 2 rfl)) (fun _ h9 => h9) rfl dX8_explanation_66 ?_
  refine lv_iadd hx hb dX8_explanation_69 ?_
  refine lv_aload_n hx hb dX8_explanation_70 rfl (lv_at hl 0 rfl) ?_
  obtain ⟨r14, e15, h⟩ := bo h
  refine caVR_i (As := []) (rest := [.int (((M3.1 23) + r12) + (M3.1 24))]) (ctX8_splits l dC dI cq q S M3 o _ _ _ e15) F (cwV 0 hts gX8_explanation_X8_splits rfl rfl rfl hdX8_splits ⟨Nat.le_of_ble_eq_true rfl, Nat.le_of_ble_eq_true rfl⟩) hK hP hD hDm hS hA (fun _ _ _ _ _ => trivial) (fun _ _ _ => trivial) (va_recv hK hP (ci := 9) (q0 := 22) rfl rfl) rfl hl.1 rfl (Nat.le_of_ble_eq_true rfl) dX8_explanation_71 ⟨Nat.zero_le _, Nat.zero_le _⟩ (fun H locs hP hD hS => ?_)
  refine lv_iadd hx hb dX8_explanation_74 ?_
  exact hend _ _ _ _ _ _ h hP hD hS dX8_explanation_75
