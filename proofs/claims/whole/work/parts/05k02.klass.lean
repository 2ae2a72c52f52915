def mX0_nearPairOf_2 (n : Nat)  (S : CS) (x1 : Int32) : Nat → Int32 → Option (Int32)
  | 0, _ => none
  | k + 1, x2 => (if (8 : Int32) ≤ x2 then (some (-1 : Int32)) else (if inb x2 16 then (if (S.2.1 2 x2.toNatClampNeg) = x1 then (some (x2 / (2 : Int32))) else (mX0_nearPairOf_2 n S x1 k (x2 + (1 : Int32)))) else none))
def mX0_nearPairOf (n : Nat) (S : CS) (x1 : Int32) : Option (Int32) :=
  (mX0_nearPairOf_2 n S x1 n (0 : Int32))
abbrev rmX0_nearPairOf : Room := { frames := 0, cells := 0, slots := 0, locals := 0 }
theorem hdX0_nearPairOf : yX0_nearPairOf.cls = RX0 ∧ yX0_nearPairOf.cls ≠ "java/lang/invoke/MethodHandle" ∧ yX0_nearPairOf.cls ≠ "java/lang/invoke/VarHandle" ∧ (parseMethodDescriptor yX0_nearPairOf.desc).map (fun d => d.parameters.length) = some 1 := by decide +kernel
set_option maxRecDepth 100000 in
set_option maxHeartbeats 8000000 in
theorem ctX0_nearPairOf (l : Launch) (dC : Nat → ClassId) (dI : Nat → Nat → Nat) (cq : Nat → ClassId) (q : Nat → Nat) (S : CS) (M : MS) (o : Nat → Int64) (sz : Nat) (h0 : Nat) (n : Nat) (x1 : Int32) (rr : Int32) (h : mX0_nearPairOf n S x1 = some rr) : CtR_i l yX0_nearPairOf wsX0_nearPairOf rmX0_nearPairOf (fun a => h0 ≤ a) (EV h0 q) dC dI cq q S M o sz [.ref (q 1), .int x1] rr := by
  refine enR_i (cc := cX0_nearPairOf) (maxL := 3) (by decide) rfl (Nat.le_of_ble_eq_true rfl) (fun p e s m args below meth c A Q ls F hA hP hK hD hDm hX hS hl hend => ?_)
  obtain ⟨hx, hb, hml, hown, hts⟩ := id F
  have hown : s.vm.findClass RX0 = some m.cls := hown
  have F : CallFix p m c cX0_nearPairOf 3 s args wsX0_nearPairOf RX0 := F
  have hl : lv_has ls 3 [(0, .ref (q 1)), (1, .int x1)] := hl
  have hinX0 : ∀ w ∈ u_ws RX0 TX0 7, w ∈ wsX0_nearPairOf := fun w h => List.mem_cons_of_mem _ (List.mem_append_right _ h)
  have hL2 : ∀ (x1 : Int32)  (k : Nat)  (x2 : Int32) (H : Heap) (locs : List Loc) (ls : Array Slot), va_P (dC, dI) vwCl (wA cq q S M o) H → va_D A (wA cq q S M o) → va_S A s.heap H locs → lv_has ls 3 [(0, .ref (q 1)), (1, .int x1), (2, .int x2)] → mX0_nearPairOf_2 n S x1 k x2 = some rr → W p l e rmX0_nearPairOf s m args below meth c H locs 0 0 Q (F0 m 2 ls []) := by
    intro x1
    intro k
    induction k with
    | zero =>
      intro x2 H locs ls hP hD hS hl h
      rw [mX0_nearPairOf_2] at h
      cases h
    | succ k ih =>
      intro x2 H locs ls hP hD hS hl h
      rw [mX0_nearPairOf_2] at h
      refine lv_iload_n hx hb dX0_nearPairOf_2 rfl (lv_at hl 2 rfl) ?_
      refine lv_bipush (v := (8 : Int32)) hx hb dX0_nearPairOf_3 (by decide) ?_
      refine lv_icmp_ge (tgt := 28) hx hb dX0_nearPairOf_5 (by decide) (fun c1 => ?_) (fun c1 => ?_)
      · replace h := it c1 h
        refine lv_iconst (v := (-1 : Int32)) hx hb dX0_nearPairOf_28 (by decide) ?_
        exact hend _ _ _ _ _ h hP hD hS dX0_nearPairOf_29
      · replace h := ie c1 h
        refine lv_aload_n hx hb dX0_nearPairOf_8 rfl (lv_at hl 0 rfl) ?_
        refine va_get (D := (dC, dI)) (ci := 1) (v := .ref (q 2)) (C := RX0) (T := TX0) (N := 7) hx hb hts hinX0 hown hK hP 1 rfl rfl 4 (by decide) (hts (.fieldLink RX0 9 "CableTester$Cable" "wires" "[I") (mm 1 rfl)) (fun _ h9 => h9) rfl dX0_nearPairOf_9 ?_
        refine lv_iload_n hx hb dX0_nearPairOf_12 rfl (lv_at hl 2 rfl) ?_
        obtain ⟨g2, h⟩ := gd h
        refine va_iald (D := (dC, dI)) hx hb hK hP 2 0 rfl rfl (inb_ok g2) dX0_nearPairOf_13 ?_
        refine lv_iload_n hx hb dX0_nearPairOf_14 rfl (lv_at hl 1 rfl) ?_
        refine lv_icmp_ne (tgt := 22) hx hb dX0_nearPairOf_15 (by decide) (fun c3 => ?_) (fun c3 => ?_)
        · replace h := ie c3 h
          refine lv_iinc (v := (x2 + (1 : Int32))) (lv' := [(2, .int (x2 + (1 : Int32))), (0, .ref (q 1)), (1, .int x1)]) hx hb dX0_nearPairOf_22 hl (k := 2) rfl rfl (by decide) rfl (fun ls hl => ?_)
          refine lv_goto (tgt := 2) hx hb dX0_nearPairOf_25 (by decide) ?_
          exact ih _ _ _ _ hP hD hS (lv_sub hl [1, 2, 0] rfl) h
        · replace h := it c3 h
          refine lv_iload_n hx hb dX0_nearPairOf_18 rfl (lv_at hl 2 rfl) ?_
          refine lv_iconst (v := (2 : Int32)) hx hb dX0_nearPairOf_19 (by decide) ?_
          refine lv_idiv hx hb dX0_nearPairOf_20 (by decide) ?_
          exact hend _ _ _ _ _ h hP hD hS dX0_nearPairOf_21
  rw [mX0_nearPairOf] at h
  refine lv_iconst (v := (0 : Int32)) hx hb dX0_nearPairOf_0 (by decide) ?_
  refine lv_istore_n (lv' := [(2, .int (0 : Int32)), (0, .ref (q 1)), (1, .int x1)]) hx hb dX0_nearPairOf_1 rfl hl (by decide) rfl (fun ls hl => ?_)
  exact hL2 _ _ _ _ _ _ hP hD hS (lv_sub hl [1, 2, 0] rfl) h
def mX0_crosstalkOf_67 (n : Nat) (K12 : Int32 → Int32 → Option (Int32)) (S : CS) (x1 : Int32) (x2 : Int32) (x3 : Int32) (x4 : Int32)  : Option (Int32) :=
  (K12 x3 (x4 + (1 : Int32)))
def mX0_crosstalkOf_64 (n : Nat) (K12 : Int32 → Int32 → Option (Int32)) (S : CS) (x1 : Int32) (x2 : Int32) (x3 : Int32) (x4 : Int32)  : Option (Int32) :=
  (mX0_crosstalkOf_67 n (K12) S x1 x2 (x3 + (1 : Int32)) x4)
def mX0_crosstalkOf_52 (n : Nat) (K12 : Int32 → Int32 → Option (Int32)) (S : CS) (x1 : Int32) (x2 : Int32) (x3 : Int32) (x4 : Int32) (x5 : Int32) (x6 : Int32)  : Option (Int32) :=
  (if x5 = x2 then (if x6 = x1 then (mX0_crosstalkOf_64 n (K12) S x1 x2 x3 x4) else (mX0_crosstalkOf_67 n (K12) S x1 x2 x3 x4)) else (mX0_crosstalkOf_67 n (K12) S x1 x2 x3 x4))
def mX0_crosstalkOf_12 (n : Nat)  (S : CS) (x1 : Int32) (x2 : Int32) : Nat → Int32 → Int32 → Option (Int32)
  | 0, _, _ => none
  | k + 1, x3, x4 => (if (4 : Int32) ≤ x4 then (some x3) else (bn (mX0_nearPairOf n S ((2 : Int32) * x4)) fun r3 => (bn (mX0_nearPairOf n S (((2 : Int32) * x4) + (1 : Int32))) fun r5 => (if r3 = x1 then (if r5 = x2 then (mX0_crosstalkOf_64 n (mX0_crosstalkOf_12 n S x1 x2 k) S x1 x2 x3 x4) else (mX0_crosstalkOf_52 n (mX0_crosstalkOf_12 n S x1 x2 k) S x1 x2 x3 x4 r3 r5)) else (mX0_crosstalkOf_52 n (mX0_crosstalkOf_12 n S x1 x2 k) S x1 x2 x3 x4 r3 r5)))))
def mX0_crosstalkOf (n : Nat) (S : CS) (x1 : Int32) (x2 : Int32) : Option (Int32) :=
  (if x1 = x2 then (some (0 : Int32)) else (mX0_crosstalkOf_12 n S x1 x2 n (0 : Int32) (0 : Int32)))
abbrev rmX0_crosstalkOf : Room := { frames := 1, cells := 0, slots := 0, locals := 22 }
theorem hdX0_crosstalkOf : yX0_crosstalkOf.cls = RX0 ∧ yX0_crosstalkOf.cls ≠ "java/lang/invoke/MethodHandle" ∧ yX0_crosstalkOf.cls ≠ "java/lang/invoke/VarHandle" ∧ (parseMethodDescriptor yX0_crosstalkOf.desc).map (fun d => d.parameters.length) = some 2 := by decide +kernel
set_option maxRecDepth 100000 in
set_option maxHeartbeats 8000000 in
theorem ctX0_crosstalkOf (l : Launch) (dC : Nat → ClassId) (dI : Nat → Nat → Nat) (cq : Nat → ClassId) (q : Nat → Nat) (S : CS) (M : MS) (o : Nat → Int64) (sz : Nat) (h0 : Nat) (n : Nat) (x1 : Int32) (x2 : Int32) (rr : Int32) (h : mX0_crosstalkOf n S x1 x2 = some rr) : CtR_i l yX0_crosstalkOf wsX0_crosstalkOf rmX0_crosstalkOf (fun a => h0 ≤ a) (EV h0 q) dC dI cq q S M o sz [.ref (q 1), .int x1, .int x2] rr := by
  refine enR_i (cc := cX0_crosstalkOf) (maxL := 7) (by decide) rfl (Nat.le_of_ble_eq_true rfl) (fun p e s m args below meth c A Q ls F hA hP hK hD hDm hX hS hl hend => ?_)
  obtain ⟨hx, hb, hml, hown, hts⟩ := id F
  have hown : s.vm.findClass RX0 = some m.cls := hown
  have F : CallFix p m c cX0_crosstalkOf 7 s args wsX0_crosstalkOf RX0 := F
  have hl : lv_has ls 7 [(0, .ref (q 1)), (1, .int x1), (2, .int x2)] := hl
  have hj67 : ∀  (x1 : Int32) (x2 : Int32) (x3 : Int32) (x4 : Int32)   (K12 : Int32 → Int32 → Option (Int32)) (hK12 : ∀ (y3 : Int32) (y4 : Int32) (H : Heap) (locs : List Loc) (ls : Array Slot), va_P (dC, dI) vwCl (wA cq q S M o) H → va_D A (wA cq q S M o) → va_S A s.heap H locs → lv_has ls 7 [(0, .ref (q 1)), (1, .int x1), (2, .int x2), (3, .int y3), (4, .int y4)] → K12 y3 y4 = some rr → W p l e rmX0_crosstalkOf s m args below meth c H locs 0 0 Q (F0 m 12 ls [])) (H : Heap) (locs : List Loc) (ls : Array Slot), va_P (dC, dI) vwCl (wA cq q S M o) H → va_D A (wA cq q S M o) → va_S A s.heap H locs → lv_has ls 7 [(0, .ref (q 1)), (1, .int x1), (2, .int x2), (3, .int x3), (4, .int x4)] → mX0_crosstalkOf_67 n K12 S x1 x2 x3 x4 = some rr → W p l e rmX0_crosstalkOf s m args below meth c H locs 0 0 Q (F0 m 67 ls []) := by
    intro x1 x2 x3 x4 K12 hK12 H locs ls hP hD hS hl h
    rw [mX0_crosstalkOf_67] at h
    refine lv_iinc (v := (x4 + (1 : Int32))) (lv' := [(4, .int (x4 + (1 : Int32))), (0, .ref (q 1)), (1, .int x1), (2, .int x2), (3, .int x3)]) hx hb dX0_crosstalkOf_67 hl (k := 4) rfl rfl (by decide) rfl (fun ls hl => ?_)
    refine lv_goto (tgt := 12) hx hb dX0_crosstalkOf_70 (by decide) ?_
    exact hK12 _ _ _ _ _ hP hD hS (lv_sub hl [1, 2, 3, 4, 0] rfl) h
  have hj64 : ∀  (x1 : Int32) (x2 : Int32) (x3 : Int32) (x4 : Int32)   (K12 : Int32 → Int32 → Option (Int32)) (hK12 : ∀ (y3 : Int32) (y4 : Int32) (H : Heap) (locs : List Loc) (ls : Array Slot), va_P (dC, dI) vwCl (wA cq q S M o) H → va_D A (wA cq q S M o) → va_S A s.heap H locs → lv_has ls 7 [(0, .ref (q 1)), (1, .int x1), (2, .int x2), (3, .int y3), (4, .int y4)] → K12 y3 y4 = some rr → W p l e rmX0_crosstalkOf s m args below meth c H locs 0 0 Q (F0 m 12 ls [])) (H : Heap) (locs : List Loc) (ls : Array Slot), va_P (dC, dI) vwCl (wA cq q S M o) H → va_D A (wA cq q S M o) → va_S A s.heap H locs → lv_has ls 7 [(0, .ref (q 1)), (1, .int x1), (2, .int x2), (3, .int x3), (4, .int x4)] → mX0_crosstalkOf_64 n K12 S x1 x2 x3 x4 = some rr → W p l e rmX0_crosstalkOf s m args below meth c H locs 0 0 Q (F0 m 64 ls []) := by
    intro x1 x2 x3 x4 K12 hK12 H locs ls hP hD hS hl h
    rw [mX0_crosstalkOf_64] at h
    refine lv_iinc (v := (x3 + (1 : Int32))) (lv' := [(3, .int (x3 + (1 : Int32))), (0, .ref (q 1)), (1, .int x1), (2, .int x2), (4, .int x4)]) hx hb dX0_crosstalkOf_64 hl (k := 3) rfl rfl (by decide) rfl (fun ls hl => ?_)
    exact hj67 _ _ _ _ _ hK12 _ _ _ hP hD hS (lv_sub hl [1, 2, 3, 0, 4] rfl) h
  have hj52 : ∀  (x1 : Int32) (x2 : Int32) (x3 : Int32) (x4 : Int32) (x5 : Int32) (x6 : Int32)   (K12 : Int32 → Int32 → Option (Int32)) (hK12 : ∀ (y3 : Int32) (y4 : Int32) (H : Heap) (locs : List Loc) (ls : Array Slot), va_P (dC, dI) vwCl (wA cq q S M o) H → va_D A (wA cq q S M o) → va_S A s.heap H locs → lv_has ls 7 [(0, .ref (q 1)), (1, .int x1), (2, .int x2), (3, .int y3), (4, .int y4)] → K12 y3 y4 = some rr → W p l e rmX0_crosstalkOf s m args below meth c H locs 0 0 Q (F0 m 12 ls [])) (H : Heap) (locs : List Loc) (ls : Array Slot), va_P (dC, dI) vwCl (wA cq q S M o) H → va_D A (wA cq q S M o) → va_S A s.heap H locs → lv_has ls 7 [(0, .ref (q 1)), (1, .int x1), (2, .int x2), (3, .int x3), (4, .int x4), (5, .int x5), (6, .int x6)] → mX0_crosstalkOf_52 n K12 S x1 x2 x3 x4 x5 x6 = some rr → W p l e rmX0_crosstalkOf s m args below meth c H locs 0 0 Q (F0 m 52 ls []) := by
    intro x1 x2 x3 x4 x5 x6 K12 hK12 H locs ls hP hD hS hl h
    rw [mX0_crosstalkOf_52] at h
    refine lv_iload hx hb dX0_crosstalkOf_52 (lv_at hl 5 rfl) ?_
    refine lv_iload_n hx hb dX0_crosstalkOf_54 rfl (lv_at hl 2 rfl) ?_
    refine lv_icmp_ne (tgt := 67) hx hb dX0_crosstalkOf_55 (by decide) (fun c8 => ?_) (fun c8 => ?_)
    · replace h := ie c8 h
      exact hj67 _ _ _ _ _ hK12 _ _ _ hP hD hS (lv_sub hl [0, 1, 2, 3, 4] rfl) h
    · replace h := it c8 h
      refine lv_iload hx hb dX0_crosstalkOf_58 (lv_at hl 6 rfl) ?_
      refine lv_iload_n hx hb dX0_crosstalkOf_60 rfl (lv_at hl 1 rfl) ?_
      refine lv_icmp_ne (tgt := 67) hx hb dX0_crosstalkOf_61 (by decide) (fun c9 => ?_) (fun c9 => ?_)
      · replace h := ie c9 h
        exact hj67 _ _ _ _ _ hK12 _ _ _ hP hD hS (lv_sub hl [0, 1, 2, 3, 4] rfl) h
      · replace h := it c9 h
        exact hj64 _ _ _ _ _ hK12 _ _ _ hP hD hS (lv_sub hl [0, 1, 2, 3, 4] rfl) h
  have hL12 : ∀ (x1 : Int32) (x2 : Int32)  (k : Nat)  (x3 : Int32) (x4 : Int32) (H : Heap) (locs : List Loc) (ls : Array Slot), va_P (dC, dI) vwCl (wA cq q S M o) H → va_D A (wA cq q S M o) → va_S A s.heap H locs → lv_has ls 7 [(0, .ref (q 1)), (1, .int x1), (2, .int x2), (3, .int x3), (4, .int x4)] → mX0_crosstalkOf_12 n S x1 x2 k x3 x4 = some rr → W p l e rmX0_crosstalkOf s m args below meth c H locs 0 0 Q (F0 m 12 ls []) := by
    intro x1 x2
    intro k
    induction k with
    | zero =>
      intro x3 x4 H locs ls hP hD hS hl h
      rw [mX0_crosstalkOf_12] at h
      cases h
    | succ k ih =>
      intro x3 x4 H locs ls hP hD hS hl h
      rw [mX0_crosstalkOf_12] at h
      refine lv_iload hx hb dX0_crosstalkOf_12 (lv_at hl 4 rfl) ?_
      refine lv_iconst (v := (4 : Int32)) hx hb dX0_crosstalkOf_14 (by decide) ?_
      refine lv_icmp_ge (tgt := 73) hx hb dX0_crosstalkOf_15 (by decide) (fun c2 => ?_) (fun c2 => ?_)
      · replace h := it c2 h
        refine lv_iload_n hx hb dX0_crosstalkOf_73 rfl (lv_at hl 3 rfl) ?_
        exact hend _ _ _ _ _ h hP hD hS dX0_crosstalkOf_74
      · replace h := ie c2 h
        refine lv_aload_n hx hb dX0_crosstalkOf_18 rfl (lv_at hl 0 rfl) ?_
        refine lv_iconst (v := (2 : Int32)) hx hb dX0_crosstalkOf_19 (by decide) ?_
        refine lv_iload hx hb dX0_crosstalkOf_20 (lv_at hl 4 rfl) ?_
        refine lv_imul hx hb dX0_crosstalkOf_22 ?_
        obtain ⟨r3, e4, h⟩ := bo h
        refine caVR_i (As := [.int ((2 : Int32) * x4)]) (rest := []) (ctX0_nearPairOf l dC dI cq q S M o _ _ _ _ _ e4) F (cwV 1 hts gX0_crosstalkOf_X0_nearPairOf rfl rfl rfl hdX0_nearPairOf ⟨Nat.le_of_ble_eq_true rfl, Nat.le_of_ble_eq_true rfl⟩) hK hP hD hDm hS hA EV.blind (fun U hU hW => EV.call hX hS hDm hU hW) (va_recv hK hP (ci := 1) (q0 := 1) rfl rfl) rfl hl.1 rfl (Nat.le_of_ble_eq_true rfl) dX0_crosstalkOf_23 ⟨Nat.zero_le _, Nat.zero_le _⟩ (fun H locs hP hD hS => ?_)
        refine lv_istore (lv' := [(5, .int r3), (0, .ref (q 1)), (1, .int x1), (2, .int x2), (3, .int x3), (4, .int x4)]) hx hb dX0_crosstalkOf_26 hl (by decide) rfl (fun ls hl => ?_)
        refine lv_aload_n hx hb dX0_crosstalkOf_28 rfl (lv_at hl 1 rfl) ?_
        refine lv_iconst (v := (2 : Int32)) hx hb dX0_crosstalkOf_29 (by decide) ?_
        refine lv_iload hx hb dX0_crosstalkOf_30 (lv_at hl 5 rfl) ?_
        refine lv_imul hx hb dX0_crosstalkOf_32 ?_
        refine lv_iconst (v := (1 : Int32)) hx hb dX0_crosstalkOf_33 (by decide) ?_
        refine lv_iadd hx hb dX0_crosstalkOf_34 ?_
        obtain ⟨r5, e6, h⟩ := bo h
        refine caVR_i (As := [.int (((2 : Int32) * x4) + (1 : Int32))]) (rest := []) (ctX0_nearPairOf l dC dI cq q S M o _ _ _ _ _ e6) F (cwV 1 hts gX0_crosstalkOf_X0_nearPairOf rfl rfl rfl hdX0_nearPairOf ⟨Nat.le_of_ble_eq_true rfl, Nat.le_of_ble_eq_true rfl⟩) hK hP hD hDm hS hA EV.blind (fun U hU hW => EV.call hX hS hDm hU hW) (va_recv hK hP (ci := 1) (q0 := 1) rfl rfl) rfl hl.1 rfl (Nat.le_of_ble_eq_true rfl) dX0_crosstalkOf_35 ⟨Nat.zero_le _, Nat.zero_le _⟩ (fun H locs hP hD hS => ?_)
        refine lv_istore (lv' := [(6, .int r5), (5, .int r3), (0, .ref (q 1)), (1, .int x1), (2, .int x2), (3, .int x3), (4, .int x4)]) hx hb dX0_crosstalkOf_38 hl (by decide) rfl (fun ls hl => ?_)
        refine lv_iload hx hb dX0_crosstalkOf_40 (lv_at hl 1 rfl) ?_
        refine lv_iload_n hx hb dX0_crosstalkOf_42 rfl (lv_at hl 3 rfl) ?_
        refine lv_icmp_ne (tgt := 52) hx hb dX0_crosstalkOf_43 (by decide) (fun c7 => ?_) (fun c7 => ?_)
        · replace h := ie c7 h
          exact hj52 _ _ _ _ _ _ _ ih _ _ _ hP hD hS (lv_sub hl [2, 3, 4, 5, 6, 1, 0] rfl) h
        · replace h := it c7 h
          refine lv_iload hx hb dX0_crosstalkOf_46 (lv_at hl 0 rfl) ?_
          refine lv_iload_n hx hb dX0_crosstalkOf_48 rfl (lv_at hl 4 rfl) ?_
          refine lv_icmp_eq (tgt := 64) hx hb dX0_crosstalkOf_49 (by decide) (fun c10 => ?_) (fun c10 => ?_)
          · replace h := it c10 h
            exact hj64 _ _ _ _ _ ih _ _ _ hP hD hS (lv_sub hl [2, 3, 4, 5, 6] rfl) h
          · replace h := ie c10 h
            exact hj52 _ _ _ _ _ _ _ ih _ _ _ hP hD hS (lv_sub hl [2, 3, 4, 5, 6, 1, 0] rfl) h
  rw [mX0_crosstalkOf] at h
  refine lv_iload_n hx hb dX0_crosstalkOf_0 rfl (lv_at hl 1 rfl) ?_
  refine lv_iload_n hx hb dX0_crosstalkOf_1 rfl (lv_at hl 2 rfl) ?_
  refine lv_icmp_ne (tgt := 7) hx hb dX0_crosstalkOf_2 (by decide) (fun c1 => ?_) (fun c1 => ?_)
  · replace h := ie c1 h
    refine lv_iconst (v := (0 : Int32)) hx hb dX0_crosstalkOf_7 (by decide) ?_
    refine lv_istore_n (lv' := [(3, .int (0 : Int32)), (0, .ref (q 1)), (1, .int x1), (2, .int x2)]) hx hb dX0_crosstalkOf_8 rfl hl (by decide) rfl (fun ls hl => ?_)
    refine lv_iconst (v := (0 : Int32)) hx hb dX0_crosstalkOf_9 (by decide) ?_
    refine lv_istore (lv' := [(4, .int (0 : Int32)), (3, .int (0 : Int32)), (0, .ref (q 1)), (1, .int x1), (2, .int x2)]) hx hb dX0_crosstalkOf_10 hl (by decide) rfl (fun ls hl => ?_)
    exact hL12 _ _ _ _ _ _ _ _ hP hD hS (lv_sub hl [2, 3, 4, 1, 0] rfl) h
  · replace h := it c1 h
    refine lv_iconst (v := (0 : Int32)) hx hb dX0_crosstalkOf_5 (by decide) ?_
    exact hend _ _ _ _ _ h hP hD hS dX0_crosstalkOf_6
def mX0_isSplit (S : CS) (x1 : Int32) : Option (Int32) :=
  (bn (mX0_wireAt S (0 : Int32) ((2 : Int32) * x1)) fun r1 => (bn (mX0_wireAt S (0 : Int32) (((2 : Int32) * x1) + (1 : Int32))) fun r3 => (if (r1 / (2 : Int32)) = (r3 / (2 : Int32)) then (some (0 : Int32)) else (some (1 : Int32)))))
abbrev rmX0_isSplit : Room := { frames := 1, cells := 0, slots := 0, locals := 23 }
theorem hdX0_isSplit : yX0_isSplit.cls = RX0 ∧ yX0_isSplit.cls ≠ "java/lang/invoke/MethodHandle" ∧ yX0_isSplit.cls ≠ "java/lang/invoke/VarHandle" ∧ (parseMethodDescriptor yX0_isSplit.desc).map (fun d => d.parameters.length) = some 1 := by decide +kernel
set_option maxRecDepth 100000 in
set_option maxHeartbeats 8000000 in
theorem ctX0_isSplit (l : Launch) (dC : Nat → ClassId) (dI : Nat → Nat → Nat) (cq : Nat → ClassId) (q : Nat → Nat) (S : CS) (M : MS) (o : Nat → Int64) (sz : Nat) (h0 : Nat) (x1 : Int32) (rr : Int32) (h : mX0_isSplit S x1 = some rr) : CtR_i l yX0_isSplit wsX0_isSplit rmX0_isSplit (fun a => h0 ≤ a) (EV h0 q) dC dI cq q S M o sz [.ref (q 1), .int x1] rr := by
  refine enR_z (cc := cX0_isSplit) (maxL := 2) (by decide) rfl (Nat.le_of_ble_eq_true rfl) (fun p e s m args below meth c A Q ls F hA hP hK hD hDm hX hS hl hend => ?_)
  obtain ⟨hx, hb, hml, hown, hts⟩ := id F
  have hown : s.vm.findClass RX0 = some m.cls := hown
  have F : CallFix p m c cX0_isSplit 2 s args wsX0_isSplit RX0 := F
  have hl : lv_has ls 2 [(0, .ref (q 1)), (1, .int x1)] := hl
  rw [mX0_isSplit] at h
  refine lv_aload_n hx hb dX0_isSplit_0 rfl (lv_at hl 0 rfl) ?_
  refine lv_iconst (v := (0 : Int32)) hx hb dX0_isSplit_1 (by decide) ?_
  refine lv_iconst (v := (2 : Int32)) hx hb dX0_isSplit_2 (by decide) ?_
  refine lv_iload_n hx hb dX0_isSplit_3 rfl (lv_at hl 1 rfl) ?_
  refine lv_imul hx hb dX0_isSplit_4 ?_
  obtain ⟨r1, e2, h⟩ := bo h
  refine caVR_i (As := [.int (0 : Int32), .int ((2 : Int32) * x1)]) (rest := []) (ctX0_wireAt l dC dI cq q S M o _ _ _ _ _ e2) F (cwV 2 hts gX0_isSplit_X0_wireAt rfl rfl rfl hdX0_wireAt ⟨Nat.le_of_ble_eq_true rfl, Nat.le_of_ble_eq_true rfl⟩) hK hP hD hDm hS hA EV.blind (fun U hU hW => EV.call hX hS hDm hU hW) (va_recv hK hP (ci := 1) (q0 := 1) rfl rfl) rfl hl.1 rfl (Nat.le_of_ble_eq_true rfl) dX0_isSplit_5 ⟨Nat.zero_le _, Nat.zero_le _⟩ (fun H locs hP hD hS => ?_)
  refine lv_iconst (v := (2 : Int32)) hx hb dX0_isSplit_8 (by decide) ?_
  refine lv_idiv hx hb dX0_isSplit_9 (by decide) ?_
  refine lv_aload_n hx hb dX0_isSplit_10 rfl (lv_at hl 0 rfl) ?_
  refine lv_iconst (v := (0 : Int32)) hx hb dX0_isSplit_11 (by decide) ?_
  refine lv_iconst (v := (2 : Int32)) hx hb dX0_isSplit_12 (by decide) ?_
  refine lv_iload_n hx hb dX0_isSplit_13 rfl (lv_at hl 1 rfl) ?_
  refine lv_imul hx hb dX0_isSplit_14 ?_
  refine lv_iconst (v := (1 : Int32)) hx hb dX0_isSplit_15 (by decide) ?_
  refine lv_iadd hx hb dX0_isSplit_16 ?_
  obtain ⟨r3, e4, h⟩ := bo h
  refine caVR_i (As := [.int (0 : Int32), .int (((2 : Int32) * x1) + (1 : Int32))]) (rest := [.int (r1 / (2 : Int32))]) (ctX0_wireAt l dC dI cq q S M o _ _ _ _ _ e4) F (cwV 2 hts gX0_isSplit_X0_wireAt rfl rfl rfl hdX0_wireAt ⟨Nat.le_of_ble_eq_true rfl, Nat.le_of_ble_eq_true rfl⟩) hK hP hD hDm hS hA EV.blind (fun U hU hW => EV.call hX hS hDm hU hW) (va_recv hK hP (ci := 1) (q0 := 1) rfl rfl) rfl hl.1 rfl (Nat.le_of_ble_eq_true rfl) dX0_isSplit_17 ⟨Nat.zero_le _, Nat.zero_le _⟩ (fun H locs hP hD hS => ?_)
  refine lv_iconst (v := (2 : Int32)) hx hb dX0_isSplit_20 (by decide) ?_
  refine lv_idiv hx hb dX0_isSplit_21 (by decide) ?_
  refine lv_icmp_eq (tgt := 29) hx hb dX0_isSplit_22 (by decide) (fun c5 => ?_) (fun c5 => ?_)
  · replace h := it c5 h
    refine lv_iconst (v := (0 : Int32)) hx hb dX0_isSplit_29 (by decide) ?_
    exact hend _ _ _ _ _ h hP hD hS dX0_isSplit_30 (by decide)
  · replace h := ie c5 h
    refine lv_iconst (v := (1 : Int32)) hx hb dX0_isSplit_25 (by decide) ?_
    refine lv_goto (tgt := 30) hx hb dX0_isSplit_26 (by decide) ?_
    exact hend _ _ _ _ _ h hP hD hS dX0_isSplit_30 (by decide)
def mX0_splitPairs_23 (n : Nat) (K4 : Int32 → Int32 → Option (Int32)) (S : CS) (x1 : Int32) (x2 : Int32)  : Option (Int32) :=
  (K4 x1 (x2 + (1 : Int32)))
def mX0_splitPairs_4 (n : Nat)  (S : CS)  : Nat → Int32 → Int32 → Option (Int32)
  | 0, _, _ => none
  | k + 1, x1, x2 => (if (4 : Int32) ≤ x2 then (some x1) else (bn (mX0_isSplit S x2) fun r2 => (if r2 = (0 : Int32) then (mX0_splitPairs_23 n (mX0_splitPairs_4 n S k) S x1 x2) else (mX0_splitPairs_23 n (mX0_splitPairs_4 n S k) S (x1 ||| ((1 : Int32) <<< (x2 &&& 31))) x2))))
def mX0_splitPairs (n : Nat) (S : CS)  : Option (Int32) :=
  (mX0_splitPairs_4 n S n (0 : Int32) (0 : Int32))
abbrev rmX0_splitPairs : Room := { frames := 2, cells := 0, slots := 0, locals := 44 }
theorem hdX0_splitPairs : yX0_splitPairs.cls = RX0 ∧ yX0_splitPairs.cls ≠ "java/lang/invoke/MethodHandle" ∧ yX0_splitPairs.cls ≠ "java/lang/invoke/VarHandle" ∧ (parseMethodDescriptor yX0_splitPairs.desc).map (fun d => d.parameters.length) = some 0 := by decide +kernel
set_option maxRecDepth 100000 in
set_option maxHeartbeats 8000000 in
theorem ctX0_splitPairs (l : Launch) (dC : Nat → ClassId) (dI : Nat → Nat → Nat) (cq : Nat → ClassId) (q : Nat → Nat) (S : CS) (M : MS) (o : Nat → Int64) (sz : Nat) (h0 : Nat) (n : Nat)  (rr : Int32) (h : mX0_splitPairs n S = some rr) : CtR_i l yX0_splitPairs wsX0_splitPairs rmX0_splitPairs (fun a => h0 ≤ a) (EV h0 q) dC dI cq q S M o sz [.ref (q 1)] rr := by
  refine enR_i (cc := cX0_splitPairs) (maxL := 3) (by decide) rfl (Nat.le_of_ble_eq_true rfl) (fun p e s m args below meth c A Q ls F hA hP hK hD hDm hX hS hl hend => ?_)
  obtain ⟨hx, hb, hml, hown, hts⟩ := id F
  have hown : s.vm.findClass RX0 = some m.cls := hown
  have F : CallFix p m c cX0_splitPairs 3 s args wsX0_splitPairs RX0 := F
  have hl : lv_has ls 3 [(0, .ref (q 1))] := hl
  have hj23 : ∀  (x1 : Int32) (x2 : Int32)   (K4 : Int32 → Int32 → Option (Int32)) (hK4 : ∀ (y1 : Int32) (y2 : Int32) (H : Heap) (locs : List Loc) (ls : Array Slot), va_P (dC, dI) vwCl (wA cq q S M o) H → va_D A (wA cq q S M o) → va_S A s.heap H locs → lv_has ls 3 [(0, .ref (q 1)), (1, .int y1), (2, .int y2)] → K4 y1 y2 = some rr → W p l e rmX0_splitPairs s m args below meth c H locs 0 0 Q (F0 m 4 ls [])) (H : Heap) (locs : List Loc) (ls : Array Slot), va_P (dC, dI) vwCl (wA cq q S M o) H → va_D A (wA cq q S M o) → va_S A s.heap H locs → lv_has ls 3 [(0, .ref (q 1)), (1, .int x1), (2, .int x2)] → mX0_splitPairs_23 n K4 S x1 x2 = some rr → W p l e rmX0_splitPairs s m args below meth c H locs 0 0 Q (F0 m 23 ls []) := by
    intro x1 x2 K4 hK4 H locs ls hP hD hS hl h
    rw [mX0_splitPairs_23] at h
    refine lv_iinc (v := (x2 + (1 : Int32))) (lv' := [(2, .int (x2 + (1 : Int32))), (0, .ref (q 1)), (1, .int x1)]) hx hb dX0_splitPairs_23 hl (k := 2) rfl rfl (by decide) rfl (fun ls hl => ?_)
    refine lv_goto (tgt := 4) hx hb dX0_splitPairs_26 (by decide) ?_
    exact hK4 _ _ _ _ _ hP hD hS (lv_sub hl [1, 2, 0] rfl) h
  have hL4 : ∀   (k : Nat)  (x1 : Int32) (x2 : Int32) (H : Heap) (locs : List Loc) (ls : Array Slot), va_P (dC, dI) vwCl (wA cq q S M o) H → va_D A (wA cq q S M o) → va_S A s.heap H locs → lv_has ls 3 [(0, .ref (q 1)), (1, .int x1), (2, .int x2)] → mX0_splitPairs_4 n S k x1 x2 = some rr → W p l e rmX0_splitPairs s m args below meth c H locs 0 0 Q (F0 m 4 ls []) := by
    intro k
    induction k with
    | zero =>
      intro x1 x2 H locs ls hP hD hS hl h
      rw [mX0_splitPairs_4] at h
      cases h
    | succ k ih =>
      intro x1 x2 H locs ls hP hD hS hl h
      rw [mX0_splitPairs_4] at h
      refine lv_iload_n hx hb dX0_splitPairs_4 rfl (lv_at hl 2 rfl) ?_
      refine lv_iconst (v := (4 : Int32)) hx hb dX0_splitPairs_5 (by decide) ?_
      refine lv_icmp_ge (tgt := 29) hx hb dX0_splitPairs_6 (by decide) (fun c1 => ?_) (fun c1 => ?_)
      · replace h := it c1 h
        refine lv_iload_n hx hb dX0_splitPairs_29 rfl (lv_at hl 1 rfl) ?_
        exact hend _ _ _ _ _ h hP hD hS dX0_splitPairs_30
      · replace h := ie c1 h
        refine lv_aload_n hx hb dX0_splitPairs_9 rfl (lv_at hl 0 rfl) ?_
        refine lv_iload_n hx hb dX0_splitPairs_10 rfl (lv_at hl 2 rfl) ?_
        obtain ⟨r2, e3, h⟩ := bo h
        refine caVR_i (As := [.int x2]) (rest := []) (ctX0_isSplit l dC dI cq q S M o _ _ _ _ e3) F (cwV 1 hts gX0_splitPairs_X0_isSplit rfl rfl rfl hdX0_isSplit ⟨Nat.le_of_ble_eq_true rfl, Nat.le_of_ble_eq_true rfl⟩) hK hP hD hDm hS hA EV.blind (fun U hU hW => EV.call hX hS hDm hU hW) (va_recv hK hP (ci := 1) (q0 := 1) rfl rfl) rfl hl.1 rfl (Nat.le_of_ble_eq_true rfl) dX0_splitPairs_11 ⟨Nat.zero_le _, Nat.zero_le _⟩ (fun H locs hP hD hS => ?_)
        refine lv_if_eq (tgt := 23) hx hb dX0_splitPairs_14 (by decide) (fun c4 => ?_) (fun c4 => ?_)
        · replace h := it c4 h
          exact hj23 _ _ _ ih _ _ _ hP hD hS (lv_sub hl [0, 1, 2] rfl) h
        · replace h := ie c4 h
          refine lv_iload_n hx hb dX0_splitPairs_17 rfl (lv_at hl 1 rfl) ?_
          refine lv_iconst (v := (1 : Int32)) hx hb dX0_splitPairs_18 (by decide) ?_
          refine lv_iload_n hx hb dX0_splitPairs_19 rfl (lv_at hl 2 rfl) ?_
          refine lv_ishl hx hb dX0_splitPairs_20 ?_
          refine lv_ior hx hb dX0_splitPairs_21 ?_
          refine lv_istore_n (lv' := [(1, .int (x1 ||| ((1 : Int32) <<< (x2 &&& 31)))), (0, .ref (q 1)), (2, .int x2)]) hx hb dX0_splitPairs_22 rfl hl (by decide) rfl (fun ls hl => ?_)
          exact hj23 _ _ _ ih _ _ _ hP hD hS (lv_sub hl [1, 0, 2] rfl) h
  rw [mX0_splitPairs] at h
  refine lv_iconst (v := (0 : Int32)) hx hb dX0_splitPairs_0 (by decide) ?_
  refine lv_istore_n (lv' := [(1, .int (0 : Int32)), (0, .ref (q 1))]) hx hb dX0_splitPairs_1 rfl hl (by decide) rfl (fun ls hl => ?_)
  refine lv_iconst (v := (0 : Int32)) hx hb dX0_splitPairs_2 (by decide) ?_
  refine lv_istore_n (lv' := [(2, .int (0 : Int32)), (1, .int (0 : Int32)), (0, .ref (q 1))]) hx hb dX0_splitPairs_3 rfl hl (by decide) rfl (fun ls hl => ?_)
  exact hL4 _ _ _ _ _ _ hP hD hS (lv_sub hl [2, 1, 0] rfl) h
def mX0_splitsNeeded_49 (n : Nat) (K11 : CS → Int32 → Int32 → Option (Int32 × CS)) (K20 : CS → Int32 → Int32 → Option (Int32 × CS)) (S : CS) (x1 : Int32) (x2 : Int32) (x3 : Int32)  : Option (Int32 × CS) :=
  (K20 S x1 (x3 + (1 : Int32)))
def mX0_splitsNeeded_20 (n : Nat) (K11 : CS → Int32 → Int32 → Option (Int32 × CS)) (x2 : Int32) : Nat → CS → Int32 → Int32 → Option (Int32 × CS)
  | 0, _, _, _ => none
  | k + 1, S, x1, x3 => (if (4 : Int32) ≤ x3 then (K11 S x1 (x2 + (1 : Int32))) else (bn (mX0_crosstalkOf n S x2 x3) fun r6 => (if r6 = (0 : Int32) then (mX0_splitsNeeded_49 n (K11) (mX0_splitsNeeded_20 n K11 x2 k) S x1 x2 x3) else (bm (mX3_unite_4 n S x2 x3) fun r9 S11 => (if r9 = (0 : Int32) then (mX0_splitsNeeded_49 n (K11) (mX0_splitsNeeded_20 n K11 x2 k) S11 x1 x2 x3) else (mX0_splitsNeeded_49 n (K11) (mX0_splitsNeeded_20 n K11 x2 k) S11 (x1 + (1 : Int32)) x2 x3))))))
def mX0_splitsNeeded_11 (n : Nat)   : Nat → CS → Int32 → Int32 → Option (Int32 × CS)
  | 0, _, _, _ => none
  | k + 1, S, x1, x2 => (if (4 : Int32) ≤ x2 then (some (x1, S)) else (mX0_splitsNeeded_20 n (mX0_splitsNeeded_11 n k) x2 n S x1 (x2 + (1 : Int32))))
def mX0_splitsNeeded (n : Nat) (S : CS)  : Option (Int32 × CS) :=
  (bn (mX3_separate_4 n S) fun S3 => (mX0_splitsNeeded_11 n n S3 (0 : Int32) (0 : Int32)))
abbrev rmX0_splitsNeeded : Room := { frames := 2, cells := 0, slots := 0, locals := 48 }
theorem hdX0_splitsNeeded : yX0_splitsNeeded.cls = RX0 ∧ yX0_splitsNeeded.cls ≠ "java/lang/invoke/MethodHandle" ∧ yX0_splitsNeeded.cls ≠ "java/lang/invoke/VarHandle" ∧ (parseMethodDescriptor yX0_splitsNeeded.desc).map (fun d => d.parameters.length) = some 0 := by decide +kernel
set_option maxRecDepth 100000 in
set_option maxHeartbeats 8000000 in
theorem ctX0_splitsNeeded (l : Launch) (dC : Nat → ClassId) (dI : Nat → Nat → Nat) (cq : Nat → ClassId) (q : Nat → Nat) (S : CS) (M : MS) (o : Nat → Int64) (sz : Nat) (h0 : Nat) (n : Nat)  (rr : Int32) (SS : CS) (h : mX0_splitsNeeded n S = some (rr, SS)) : CtC_i l yX0_splitsNeeded wsX0_splitsNeeded rmX0_splitsNeeded (fun a => h0 ≤ a) (EV h0 q) dC dI cq q S M o sz [.ref (q 1)] rr SS := by
  refine enC_i (cc := cX0_splitsNeeded) (maxL := 4) (by decide) rfl (Nat.le_of_ble_eq_true rfl) (fun p e s m args below meth c A Q ls F hA hP hK hD hDm hX hS hl hend => ?_)
  obtain ⟨hx, hb, hml, hown, hts⟩ := id F
  have hown : s.vm.findClass RX0 = some m.cls := hown
  have F : CallFix p m c cX0_splitsNeeded 4 s args wsX0_splitsNeeded RX0 := F
  have hl : lv_has ls 4 [(0, .ref (q 1))] := hl
  have hinX0 : ∀ w ∈ u_ws RX0 TX0 7, w ∈ wsX0_splitsNeeded := fun w h => List.mem_cons_of_mem _ (List.mem_append_left _ (List.mem_append_right _ h))
  have hj49 : ∀ (S : CS) (x1 : Int32) (x2 : Int32) (x3 : Int32)   (K11 : CS → Int32 → Int32 → Option (Int32 × CS)) (hK11 : ∀ (S9 : CS) (y1 : Int32) (y2 : Int32) (H : Heap) (locs : List Loc) (ls : Array Slot), va_P (dC, dI) vwCl (wA cq q S9 M o) H → va_D A (wA cq q S9 M o) → va_S A s.heap H locs → lv_has ls 4 [(0, .ref (q 1)), (1, .int y1), (2, .int y2)] → K11 S9 y1 y2 = some (rr, SS) → W p l e rmX0_splitsNeeded s m args below meth c H locs 0 0 Q (F0 m 11 ls [])) (K20 : CS → Int32 → Int32 → Option (Int32 × CS)) (hK20 : ∀ (S9 : CS) (y1 : Int32) (y3 : Int32) (H : Heap) (locs : List Loc) (ls : Array Slot), va_P (dC, dI) vwCl (wA cq q S9 M o) H → va_D A (wA cq q S9 M o) → va_S A s.heap H locs → lv_has ls 4 [(0, .ref (q 1)), (1, .int y1), (2, .int x2), (3, .int y3)] → K20 S9 y1 y3 = some (rr, SS) → W p l e rmX0_splitsNeeded s m args below meth c H locs 0 0 Q (F0 m 20 ls [])) (H : Heap) (locs : List Loc) (ls : Array Slot), va_P (dC, dI) vwCl (wA cq q S M o) H → va_D A (wA cq q S M o) → va_S A s.heap H locs → lv_has ls 4 [(0, .ref (q 1)), (1, .int x1), (2, .int x2), (3, .int x3)] → mX0_splitsNeeded_49 n K11 K20 S x1 x2 x3 = some (rr, SS) → W p l e rmX0_splitsNeeded s m args below meth c H locs 0 0 Q (F0 m 49 ls []) := by
    intro S x1 x2 x3 K11 hK11 K20 hK20 H locs ls hP hD hS hl h
    rw [mX0_splitsNeeded_49] at h
    refine lv_iinc (v := (x3 + (1 : Int32))) (lv' := [(3, .int (x3 + (1 : Int32))), (0, .ref (q 1)), (1, .int x1), (2, .int x2)]) hx hb dX0_splitsNeeded_49 hl (k := 3) rfl rfl (by decide) rfl (fun ls hl => ?_)
    refine lv_goto (tgt := 20) hx hb dX0_splitsNeeded_52 (by decide) ?_
    exact hK20 _ _ _ _ _ _ hP hD hS (lv_sub hl [1, 2, 3, 0] rfl) h
  have hL20 : ∀ (x2 : Int32) (K11 : CS → Int32 → Int32 → Option (Int32 × CS)) (hK11 : ∀ (S9 : CS) (y1 : Int32) (y2 : Int32) (H : Heap) (locs : List Loc) (ls : Array Slot), va_P (dC, dI) vwCl (wA cq q S9 M o) H → va_D A (wA cq q S9 M o) → va_S A s.heap H locs → lv_has ls 4 [(0, .ref (q 1)), (1, .int y1), (2, .int y2)] → K11 S9 y1 y2 = some (rr, SS) → W p l e rmX0_splitsNeeded s m args below meth c H locs 0 0 Q (F0 m 11 ls [])) (k : Nat) (S : CS) (x1 : Int32) (x3 : Int32) (H : Heap) (locs : List Loc) (ls : Array Slot), va_P (dC, dI) vwCl (wA cq q S M o) H → va_D A (wA cq q S M o) → va_S A s.heap H locs → lv_has ls 4 [(0, .ref (q 1)), (1, .int x1), (2, .int x2), (3, .int x3)] → mX0_splitsNeeded_20 n K11 x2 k S x1 x3 = some (rr, SS) → W p l e rmX0_splitsNeeded s m args below meth c H locs 0 0 Q (F0 m 20 ls []) := by
    intro x2 K11 hK11
    intro k
    induction k with
    | zero =>
      intro S x1 x3 H locs ls hP hD hS hl h
      rw [mX0_splitsNeeded_20] at h
      cases h
    | succ k ih =>
      intro S x1 x3 H locs ls hP hD hS hl h
      rw [mX0_splitsNeeded_20] at h
      refine lv_iload_n hx hb dX0_splitsNeeded_20 rfl (lv_at hl 3 rfl) ?_
      refine lv_iconst (v := (4 : Int32)) hx hb dX0_splitsNeeded_21 (by decide) ?_
      refine lv_icmp_ge (tgt := 55) hx hb dX0_splitsNeeded_22 (by decide) (fun c5 => ?_) (fun c5 => ?_)
      · replace h := it c5 h
        refine lv_iinc (v := (x2 + (1 : Int32))) (lv' := [(2, .int (x2 + (1 : Int32))), (0, .ref (q 1)), (1, .int x1), (3, .int x3)]) hx hb dX0_splitsNeeded_55 hl (k := 2) rfl rfl (by decide) rfl (fun ls hl => ?_)
        refine lv_goto (tgt := 11) hx hb dX0_splitsNeeded_58 (by decide) ?_
        exact hK11 _ _ _ _ _ _ hP hD hS (lv_sub hl [1, 2, 0] rfl) h
      · replace h := ie c5 h
        refine lv_aload_n hx hb dX0_splitsNeeded_25 rfl (lv_at hl 0 rfl) ?_
        refine lv_iload_n hx hb dX0_splitsNeeded_26 rfl (lv_at hl 2 rfl) ?_
        refine lv_iload_n hx hb dX0_splitsNeeded_27 rfl (lv_at hl 3 rfl) ?_
        obtain ⟨r6, e7, h⟩ := bo h
        refine caVR_i (As := [.int x2, .int x3]) (rest := []) (ctX0_crosstalkOf l dC dI cq q S M o _ _ _ _ _ _ e7) F (cwV 2 hts gX0_splitsNeeded_X0_crosstalkOf rfl rfl rfl hdX0_crosstalkOf ⟨Nat.le_of_ble_eq_true rfl, Nat.le_of_ble_eq_true rfl⟩) hK hP hD hDm hS hA EV.blind (fun U hU hW => EV.call hX hS hDm hU hW) (va_recv hK hP (ci := 1) (q0 := 1) rfl rfl) rfl hl.1 rfl (Nat.le_of_ble_eq_true rfl) dX0_splitsNeeded_28 ⟨Nat.zero_le _, Nat.zero_le _⟩ (fun H locs hP hD hS => ?_)
        refine lv_if_eq (tgt := 49) hx hb dX0_splitsNeeded_31 (by decide) (fun c8 => ?_) (fun c8 => ?_)
        · replace h := it c8 h
          exact hj49 _ _ _ _ _ hK11 _ ih _ _ _ hP hD hS (lv_sub hl [0, 1, 2, 3] rfl) h
        · replace h := ie c8 h
          refine lv_aload_n hx hb dX0_splitsNeeded_34 rfl (lv_at hl 0 rfl) ?_
          refine va_get (D := (dC, dI)) (ci := 1) (v := .ref (q 4)) (C := RX0) (T := TX0) (N := 7) hx hb hts hinX0 hown hK hP 1 rfl rfl 6 (by decide) (hts (.fieldLink RX0 27 "CableTester$Cable" "linkedPairs" "LCableTester$Groups;") (mm 1 rfl)) (fun _ h9 => h9) rfl dX0_splitsNeeded_35 ?_
          refine lv_iload_n hx hb dX0_splitsNeeded_38 rfl (lv_at hl 2 rfl) ?_
          refine lv_iload_n hx hb dX0_splitsNeeded_39 rfl (lv_at hl 3 rfl) ?_
          obtain ⟨r9, S11, e10, h⟩ := bp h
          refine caVC_i (As := [.int x2, .int x3]) (rest := []) (ctX3_unite_4 l dC dI cq q S M o _ _ _ _ _ _ _ e10) F (cwV 2 hts gX0_splitsNeeded_X3_unite rfl rfl rfl hdX3_unite ⟨Nat.le_of_ble_eq_true rfl, Nat.le_of_ble_eq_true rfl⟩) hK hP hD hDm hS hA EV.blind (fun U hU hW => EV.call hX hS hDm hU hW) (va_recv hK hP (ci := 4) (q0 := 4) rfl rfl) rfl hl.1 rfl (Nat.le_of_ble_eq_true rfl) dX0_splitsNeeded_40 ⟨Nat.zero_le _, Nat.zero_le _⟩ (fun H locs hP hD hS => ?_)
          refine lv_if_eq (tgt := 49) hx hb dX0_splitsNeeded_43 (by decide) (fun c12 => ?_) (fun c12 => ?_)
          · replace h := it c12 h
            exact hj49 _ _ _ _ _ hK11 _ ih _ _ _ hP hD hS (lv_sub hl [0, 1, 2, 3] rfl) h
          · replace h := ie c12 h
            refine lv_iinc (v := (x1 + (1 : Int32))) (lv' := [(1, .int (x1 + (1 : Int32))), (0, .ref (q 1)), (2, .int x2), (3, .int x3)]) hx hb dX0_splitsNeeded_46 hl (k := 1) rfl rfl (by decide) rfl (fun ls hl => ?_)
            exact hj49 _ _ _ _ _ hK11 _ ih _ _ _ hP hD hS (lv_sub hl [1, 0, 2, 3] rfl) h
  have hL11 : ∀   (k : Nat) (S : CS) (x1 : Int32) (x2 : Int32) (H : Heap) (locs : List Loc) (ls : Array Slot), va_P (dC, dI) vwCl (wA cq q S M o) H → va_D A (wA cq q S M o) → va_S A s.heap H locs → lv_has ls 4 [(0, .ref (q 1)), (1, .int x1), (2, .int x2)] → mX0_splitsNeeded_11 n k S x1 x2 = some (rr, SS) → W p l e rmX0_splitsNeeded s m args below meth c H locs 0 0 Q (F0 m 11 ls []) := by
    intro k
    induction k with
    | zero =>
      intro S x1 x2 H locs ls hP hD hS hl h
      rw [mX0_splitsNeeded_11] at h
      cases h
    | succ k ih =>
      intro S x1 x2 H locs ls hP hD hS hl h
      rw [mX0_splitsNeeded_11] at h
      refine lv_iload_n hx hb dX0_splitsNeeded_11 rfl (lv_at hl 2 rfl) ?_
      refine lv_iconst (v := (4 : Int32)) hx hb dX0_splitsNeeded_12 (by decide) ?_
      refine lv_icmp_ge (tgt := 61) hx hb dX0_splitsNeeded_13 (by decide) (fun c4 => ?_) (fun c4 => ?_)
      · replace h := it c4 h
        refine lv_iload_n hx hb dX0_splitsNeeded_61 rfl (lv_at hl 1 rfl) ?_
        exact hend _ _ _ _ _ _ h hP hD hS dX0_splitsNeeded_62
      · replace h := ie c4 h
        refine lv_iload_n hx hb dX0_splitsNeeded_16 rfl (lv_at hl 2 rfl) ?_
        refine lv_iconst (v := (1 : Int32)) hx hb dX0_splitsNeeded_17 (by decide) ?_
        refine lv_iadd hx hb dX0_splitsNeeded_18 ?_
        refine lv_istore_n (lv' := [(3, .int (x2 + (1 : Int32))), (0, .ref (q 1)), (1, .int x1), (2, .int x2)]) hx hb dX0_splitsNeeded_19 rfl hl (by decide) rfl (fun ls hl => ?_)
        exact hL20 _ _ ih _ _ _ _ _ _ _ hP hD hS (lv_sub hl [1, 2, 3, 0] rfl) h
  rw [mX0_splitsNeeded] at h
  refine lv_iconst (v := (0 : Int32)) hx hb dX0_splitsNeeded_0 (by decide) ?_
  refine lv_istore_n (lv' := [(1, .int (0 : Int32)), (0, .ref (q 1))]) hx hb dX0_splitsNeeded_1 rfl hl (by decide) rfl (fun ls hl => ?_)
  refine lv_aload_n hx hb dX0_splitsNeeded_2 rfl (lv_at hl 1 rfl) ?_
  refine va_get (D := (dC, dI)) (ci := 1) (v := .ref (q 4)) (C := RX0) (T := TX0) (N := 7) hx hb hts hinX0 hown hK hP 1 rfl rfl 6 (by decide) (hts (.fieldLink RX0 27 "CableTester$Cable" "linkedPairs" "LCableTester$Groups;") (mm 1 rfl)) (fun _ h9 => h9) rfl dX0_splitsNeeded_3 ?_
  obtain ⟨S3, e2, h⟩ := bo h
  refine caVC_v (As := []) (rest := []) (ctX3_separate_4 l dC dI cq q S M o _ _ _ _ e2) F (cwV 0 hts gX0_splitsNeeded_X3_separate rfl rfl rfl hdX3_separate ⟨Nat.le_of_ble_eq_true rfl, Nat.le_of_ble_eq_true rfl⟩) hK hP hD hDm hS hA EV.blind (fun U hU hW => EV.call hX hS hDm hU hW) (va_recv hK hP (ci := 4) (q0 := 4) rfl rfl) rfl hl.1 rfl (Nat.le_of_ble_eq_true rfl) dX0_splitsNeeded_6 ⟨Nat.zero_le _, Nat.zero_le _⟩ (fun H locs hP hD hS => ?_)
  refine lv_iconst (v := (0 : Int32)) hx hb dX0_splitsNeeded_9 (by decide) ?_
  refine lv_istore_n (lv' := [(2, .int (0 : Int32)), (1, .int (0 : Int32)), (0, .ref (q 1))]) hx hb dX0_splitsNeeded_10 rfl hl (by decide) rfl (fun ls hl => ?_)
  exact hL11 _ _ _ _ _ _ _ hP hD hS (lv_sub hl [2, 1, 0] rfl) h
def mX5_collectCuts_93 (n : Nat) (K7 : CS → Int32 → Option (CS)) (S : CS) (x2 : Int32)  : Option (CS) :=
  (K7 S (x2 + (1 : Int32)))
def mX5_collectCuts_7 (n : Nat)   : Nat → CS → Int32 → Option (CS)
  | 0, _, _ => none
  | k + 1, S, x2 => (bn (mJx4a65c_size_8abf5 S) fun r1 => (if r1 ≤ x2 then (some S) else (bn (mJx4a65c_get_915e3 S x2) fun r4 => (if (((S.1 5) >>> (x2 &&& 31)) &&& (1 : Int32)) = (0 : Int32) then (mX5_collectCuts_93 n (mX5_collectCuts_7 n k) S x2) else (bn (mX2_isShort r4) fun r9 => (if r9 = (0 : Int32) then (if (10 : Int32) ≤ (S.1 7) then (mX5_collectCuts_93 n (mX5_collectCuts_7 n k) S x2) else (if inb (S.1 7) 10 then (if inb ((sA S 7 (S.1 7).toNatClampNeg (r4.2 0)).1 7) 10 then (mX5_collectCuts_93 n (mX5_collectCuts_7 n k) (sF (sA (sA S 7 (S.1 7).toNatClampNeg (r4.2 0)) 8 ((sA S 7 (S.1 7).toNatClampNeg (r4.2 0)).1 7).toNatClampNeg (r4.2 2)) 7 (((sA (sA S 7 (S.1 7).toNatClampNeg (r4.2 0)) 8 ((sA S 7 (S.1 7).toNatClampNeg (r4.2 0)).1 7).toNatClampNeg (r4.2 2)).1 7) + (1 : Int32))) x2) else none) else none)) else (mX5_collectCuts_93 n (mX5_collectCuts_7 n k) S x2)))))))
def mX5_collectCuts (n : Nat) (S : CS)  : Option (CS) :=
  (mX5_collectCuts_7 n n (sF S 7 (0 : Int32)) (0 : Int32))
abbrev rmX5_collectCuts : Room := { frames := 3, cells := 0, slots := 0, locals := 64 }
theorem hdX5_collectCuts : yX5_collectCuts.cls = RX5 ∧ yX5_collectCuts.cls ≠ "java/lang/invoke/MethodHandle" ∧ yX5_collectCuts.cls ≠ "java/lang/invoke/VarHandle" ∧ (parseMethodDescriptor yX5_collectCuts.desc).map (fun d => d.parameters.length) = some 1 := by decide +kernel
set_option maxRecDepth 100000 in
set_option maxHeartbeats 8000000 in
theorem ctX5_collectCuts (l : Launch) (dC : Nat → ClassId) (dI : Nat → Nat → Nat) (cq : Nat → ClassId) (q : Nat → Nat) (S : CS) (M : MS) (o : Nat → Int64) (sz : Nat) (h0 : Nat) (n : Nat)  (SS : CS) (h : mX5_collectCuts n S = some SS) : CtC_v l yX5_collectCuts wsX5_collectCuts rmX5_collectCuts (fun a => h0 ≤ a) (EV h0 q) dC dI cq q S M o sz [.ref (q 6), .ref (q 1)] SS := by
  refine enC_v (cc := cX5_collectCuts) (maxL := 4) (by decide) rfl (Nat.le_of_ble_eq_true rfl) (fun p e s m args below meth c A Q ls F hA hP hK hD hDm hX hS hl hend => ?_)
  obtain ⟨hx, hb, hml, hown, hts⟩ := id F
  have hown : s.vm.findClass RX5 = some m.cls := hown
  have F : CallFix p m c cX5_collectCuts 4 s args wsX5_collectCuts RX5 := F
  have hl : lv_has ls 4 [(0, .ref (q 6)), (1, .ref (q 1))] := hl
  have hinX0 : ∀ w ∈ u_ws RX0 TX0 7, w ∈ wsX5_collectCuts := fun w h => List.mem_cons_of_mem _ (List.mem_append_left _ (List.mem_append_left _ (List.mem_append_right _ h)))
  have hinX2 : ∀ w ∈ u_ws RX2 TX2 5, w ∈ wsX5_collectCuts := fun w h => List.mem_cons_of_mem _ (List.mem_append_left _ (List.mem_append_right _ h))
  have hinX5 : ∀ w ∈ u_ws RX5 TX5 8, w ∈ wsX5_collectCuts := fun w h => List.mem_cons_of_mem _ (List.mem_append_left _ (List.mem_append_left _ (List.mem_append_left _ (List.mem_append_right _ h))))
  have hj93 : ∀ (S : CS) (x2 : Int32)   (K7 : CS → Int32 → Option (CS)) (hK7 : ∀ (S9 : CS) (y2 : Int32) (H : Heap) (locs : List Loc) (ls : Array Slot), va_P (dC, dI) vwCl (wA cq q S9 M o) H → va_D A (wA cq q S9 M o) → va_S A s.heap H locs → lv_has ls 4 [(0, .ref (q 6)), (1, .ref (q 1)), (2, .int y2)] → K7 S9 y2 = some SS → W p l e rmX5_collectCuts s m args below meth c H locs 0 0 Q (F0 m 7 ls [])) (H : Heap) (locs : List Loc) (ls : Array Slot), va_P (dC, dI) vwCl (wA cq q S M o) H → va_D A (wA cq q S M o) → va_S A s.heap H locs → lv_has ls 4 [(0, .ref (q 6)), (1, .ref (q 1)), (2, .int x2)] → mX5_collectCuts_93 n K7 S x2 = some SS → W p l e rmX5_collectCuts s m args below meth c H locs 0 0 Q (F0 m 93 ls []) := by
    intro S x2 K7 hK7 H locs ls hP hD hS hl h
    rw [mX5_collectCuts_93] at h
    refine lv_iinc (v := (x2 + (1 : Int32))) (lv' := [(2, .int (x2 + (1 : Int32))), (0, .ref (q 6)), (1, .ref (q 1))]) hx hb dX5_collectCuts_93 hl (k := 2) rfl rfl (by decide) rfl (fun ls hl => ?_)
    refine lv_goto (tgt := 7) hx hb dX5_collectCuts_96 (by decide) ?_
    exact hK7 _ _ _ _ _ hP hD hS (lv_sub hl [1, 2, 0] rfl) h
  have hL7 : ∀   (k : Nat) (S : CS) (x2 : Int32) (H : Heap) (locs : List Loc) (ls : Array Slot), va_P (dC, dI) vwCl (wA cq q S M o) H → va_D A (wA cq q S M o) → va_S A s.heap H locs → lv_has ls 4 [(0, .ref (q 6)), (1, .ref (q 1)), (2, .int x2)] → mX5_collectCuts_7 n k S x2 = some SS → W p l e rmX5_collectCuts s m args below meth c H locs 0 0 Q (F0 m 7 ls []) := by
    intro k
    induction k with
    | zero =>
      intro S x2 H locs ls hP hD hS hl h
      rw [mX5_collectCuts_7] at h
      cases h
    | succ k ih =>
      intro S x2 H locs ls hP hD hS hl h
      rw [mX5_collectCuts_7] at h
      refine lv_iload_n hx hb dX5_collectCuts_7 rfl (lv_at hl 2 rfl) ?_
      refine lv_aload_n hx hb dX5_collectCuts_8 rfl (lv_at hl 1 rfl) ?_
      refine va_getN (D := (dC, dI)) (ci := 1) (v := .ref (q 3)) (C := RX0) (T := TX0) (N := 7) hx hb hts hinX0 hown hK hP 1 rfl rfl 5 (by decide) (va_Nw.use rfl hX.1.2.2.2.2.2.1) (fun _ h9 => h9) rfl dX5_collectCuts_9 ?_
      obtain ⟨r1, e2, h⟩ := bo h
      refine caVR_i (As := []) (rest := [.int x2]) (ctJx4a65c_size_8abf5 l dC dI cq q S M o _ _ _ e2) F (cwV 0 hts gX5_collectCuts_Jx4a65c_size_8abf5 rfl rfl rfl hdJx4a65c_size_8abf5 ⟨Nat.le_of_ble_eq_true rfl, Nat.le_of_ble_eq_true rfl⟩) hK hP hD hDm hS hA EV.blind (fun U hU hW => EV.call hX hS hDm hU hW) (va_recv hK hP (ci := 0) (q0 := 3) rfl rfl) rfl hl.1 rfl (Nat.le_of_ble_eq_true rfl) dX5_collectCuts_12 ⟨Nat.zero_le _, Nat.zero_le _⟩ (fun H locs hP hD hS => ?_)
      refine lv_icmp_ge (tgt := 99) hx hb dX5_collectCuts_15 (by decide) (fun c3 => ?_) (fun c3 => ?_)
      · replace h := it c3 h
        exact hend _ _ _ _ _ h hP hD hS dX5_collectCuts_99
      · replace h := ie c3 h
        refine lv_aload_n hx hb dX5_collectCuts_18 rfl (lv_at hl 1 rfl) ?_
        refine va_getN (D := (dC, dI)) (ci := 1) (v := .ref (q 3)) (C := RX0) (T := TX0) (N := 7) hx hb hts hinX0 hown hK hP 1 rfl rfl 5 (by decide) (va_Nw.use rfl hX.1.2.2.2.2.2.1) (fun _ h9 => h9) rfl dX5_collectCuts_19 ?_
        refine lv_iload_n hx hb dX5_collectCuts_22 rfl (lv_at hl 2 rfl) ?_
        obtain ⟨r4, e5, h⟩ := bo h
        refine caVR_r (As := [.int x2]) (rest := []) (ctJx4a65c_get_915e3 l dC dI cq q S M o _ _ _ _ e5) F (cwV 1 hts gX5_collectCuts_Jx4a65c_get_915e3 rfl rfl rfl hdJx4a65c_get_915e3 ⟨Nat.le_of_ble_eq_true rfl, Nat.le_of_ble_eq_true rfl⟩) hK hP hD hDm hS hA EV.blind (fun U hU hW => EV.call hX hS hDm hU hW) (va_recv hK hP (ci := 0) (q0 := 3) rfl rfl) rfl hl.1 rfl (Nat.le_of_ble_eq_true rfl) dX5_collectCuts_23 ⟨Nat.zero_le _, Nat.zero_le _⟩ (fun H locs hP hD hS => ?_)
        have hw6 := mJx4a65c_get_915e3_mem e5
        obtain ⟨kw7, hkw7⟩ := wA_w (cq := cq) (q := q) (S := S) (M := M) (o := o) hw6
        refine va_castS (nm := RX2) hx hb hown (hts (.classLink RX5 83 "CableTester$Fault") (mm 2 rfl)) (hK.1 3 _ rfl).2 (va_recv hK hP (ci := 3) (q0 := kw7) rfl hkw7) dX5_collectCuts_26 ?_
        refine lv_astore_n (lv' := [(3, .ref r4.1), (0, .ref (q 6)), (1, .ref (q 1)), (2, .int x2)]) hx hb dX5_collectCuts_29 rfl hl (by decide) rfl (fun ls hl => ?_)
        refine lv_aload_n hx hb dX5_collectCuts_30 rfl (lv_at hl 1 rfl) ?_
        refine va_get (D := (dC, dI)) (ci := 6) (v := .int (S.1 5)) (C := RX5) (T := TX5) (N := 8) hx hb hts hinX5 hown hK hP 6 rfl rfl 0 (by decide) (hts (.fieldLink RX5 33 "CableTester$Nets" "present" "I") (mm 3 rfl)) (fun _ h9 => h9) rfl dX5_collectCuts_31 ?_
        refine lv_iload_n hx hb dX5_collectCuts_34 rfl (lv_at hl 3 rfl) ?_
        refine lv_ishr hx hb dX5_collectCuts_35 ?_
        refine lv_iconst (v := (1 : Int32)) hx hb dX5_collectCuts_36 (by decide) ?_
        refine lv_iand hx hb dX5_collectCuts_37 ?_
        refine lv_if_eq (tgt := 93) hx hb dX5_collectCuts_38 (by decide) (fun c8 => ?_) (fun c8 => ?_)
        · replace h := it c8 h
          exact hj93 _ _ _ ih _ _ _ hP hD hS (lv_sub hl [1, 2, 3] rfl) h
        · replace h := ie c8 h
          refine lv_aload_n hx hb dX5_collectCuts_41 rfl (lv_at hl 0 rfl) ?_
          obtain ⟨r9, e10, h⟩ := bo h
          obtain ⟨kw11, hkw11⟩ := wA_w (cq := cq) (q := q) (S := S) (M := M) (o := o) hw6
          refine caVR_i (As := []) (rest := []) (ctX2_isShort l dC dI cq q S M o _ _ _ hw6 _ e10) F (cwV 0 hts gX5_collectCuts_X2_isShort rfl rfl rfl hdX2_isShort ⟨Nat.le_of_ble_eq_true rfl, Nat.le_of_ble_eq_true rfl⟩) hK hP hD hDm hS hA EV.blind (fun U hU hW => EV.call hX hS hDm hU hW) (va_recv hK hP (ci := 3) (q0 := kw11) rfl hkw11) rfl hl.1 rfl (Nat.le_of_ble_eq_true rfl) dX5_collectCuts_42 ⟨Nat.zero_le _, Nat.zero_le _⟩ (fun H locs hP hD hS => ?_)
          refine lv_if_ne (tgt := 93) hx hb dX5_collectCuts_45 (by decide) (fun c12 => ?_) (fun c12 => ?_)
          · replace h := ie c12 h
            exact hj93 _ _ _ ih _ _ _ hP hD hS (lv_sub hl [1, 2, 3] rfl) h
          · replace h := it c12 h
            refine lv_aload_n hx hb dX5_collectCuts_48 rfl (lv_at hl 1 rfl) ?_
            refine va_get (D := (dC, dI)) (ci := 6) (v := .int (S.1 7)) (C := RX5) (T := TX5) (N := 8) hx hb hts hinX5 hown hK hP 6 rfl rfl 2 (by decide) (hts (.fieldLink RX5 66 "CableTester$Nets" "cuts" "I") (mm 1 rfl)) (fun _ h9 => h9) rfl dX5_collectCuts_49 ?_
            refine lv_bipush (v := (10 : Int32)) hx hb dX5_collectCuts_52 (by decide) ?_
            refine lv_icmp_ge (tgt := 93) hx hb dX5_collectCuts_54 (by decide) (fun c13 => ?_) (fun c13 => ?_)
            · replace h := it c13 h
              exact hj93 _ _ _ ih _ _ _ hP hD hS (lv_sub hl [1, 2, 3] rfl) h
            · replace h := ie c13 h
              refine lv_aload_n hx hb dX5_collectCuts_57 rfl (lv_at hl 1 rfl) ?_
              refine va_get (D := (dC, dI)) (ci := 6) (v := .ref (q 7)) (C := RX5) (T := TX5) (N := 8) hx hb hts hinX5 hown hK hP 6 rfl rfl 3 (by decide) (hts (.fieldLink RX5 9 "CableTester$Nets" "cutWires" "[I") (mm 4 rfl)) (fun _ h9 => h9) rfl dX5_collectCuts_58 ?_
              refine lv_aload_n hx hb dX5_collectCuts_61 rfl (lv_at hl 1 rfl) ?_
              refine va_get (D := (dC, dI)) (ci := 6) (v := .int (S.1 7)) (C := RX5) (T := TX5) (N := 8) hx hb hts hinX5 hown hK hP 6 rfl rfl 2 (by decide) (hts (.fieldLink RX5 66 "CableTester$Nets" "cuts" "I") (mm 1 rfl)) (fun _ h9 => h9) rfl dX5_collectCuts_62 ?_
              refine lv_aload_n hx hb dX5_collectCuts_65 rfl (lv_at hl 0 rfl) ?_
              obtain ⟨kw14, hkw14⟩ := wA_w (cq := cq) (q := q) (S := S) (M := M) (o := o) hw6
              refine va_getN (D := (dC, dI)) (ci := 3) (v := .int (r4.2 0)) (C := RX2) (T := TX2) (N := 5) hx hb hts hinX2 hown hK hP kw14 hkw14 rfl 0 (by decide) (va_Nw.use rfl hX.1.2.2.2.2.2.2.2.2.2.2.2.2.2.2.2.2.1) (fun _ h9 => h9) rfl dX5_collectCuts_66 ?_
              obtain ⟨g15, h⟩ := gd h
              refine as_7 F hK hP hD hS (inb_ok g15) dX5_collectCuts_69 (fun H locs hP hD hS => ?_)
              refine lv_aload_n hx hb dX5_collectCuts_70 rfl (lv_at hl 1 rfl) ?_
              refine va_get (D := (dC, dI)) (ci := 6) (v := .ref (q 8)) (C := RX5) (T := TX5) (N := 8) hx hb hts hinX5 hown hK hP 6 rfl rfl 4 (by decide) (hts (.fieldLink RX5 15 "CableTester$Nets" "cutPlaces" "[I") (mm 5 rfl)) (fun _ h9 => h9) rfl dX5_collectCuts_71 ?_
              refine lv_aload_n hx hb dX5_collectCuts_74 rfl (lv_at hl 1 rfl) ?_
              refine va_get (D := (dC, dI)) (ci := 6) (v := .int ((sA S 7 (S.1 7).toNatClampNeg (r4.2 0)).1 7)) (C := RX5) (T := TX5) (N := 8) hx hb hts hinX5 hown hK hP 6 rfl rfl 2 (by decide) (hts (.fieldLink RX5 66 "CableTester$Nets" "cuts" "I") (mm 1 rfl)) (fun _ h9 => h9) rfl dX5_collectCuts_75 ?_
              refine lv_aload_n hx hb dX5_collectCuts_78 rfl (lv_at hl 0 rfl) ?_
              obtain ⟨kw16, hkw16⟩ := wA_w (cq := cq) (q := q) (S := (sA S 7 (S.1 7).toNatClampNeg (r4.2 0))) (M := M) (o := o) hw6
              refine va_getN (D := (dC, dI)) (ci := 3) (v := .int (r4.2 2)) (C := RX2) (T := TX2) (N := 5) hx hb hts hinX2 hown hK hP kw16 hkw16 rfl 2 (by decide) (va_Nw.use rfl hX.1.2.2.2.2.2.2.2.2.2.2.2.2.2.2.2.2.2.2.1) (fun _ h9 => h9) rfl dX5_collectCuts_79 ?_
              obtain ⟨g17, h⟩ := gd h
              refine as_8 F hK hP hD hS (inb_ok g17) dX5_collectCuts_82 (fun H locs hP hD hS => ?_)
              refine lv_aload_n hx hb dX5_collectCuts_83 rfl (lv_at hl 1 rfl) ?_
              refine lv_dup hx hb dX5_collectCuts_84 rfl ?_
              refine va_get (D := (dC, dI)) (ci := 6) (v := .int ((sA (sA S 7 (S.1 7).toNatClampNeg (r4.2 0)) 8 ((sA S 7 (S.1 7).toNatClampNeg (r4.2 0)).1 7).toNatClampNeg (r4.2 2)).1 7)) (C := RX5) (T := TX5) (N := 8) hx hb hts hinX5 hown hK hP 6 rfl rfl 2 (by decide) (hts (.fieldLink RX5 66 "CableTester$Nets" "cuts" "I") (mm 1 rfl)) (fun _ h9 => h9) rfl dX5_collectCuts_85 ?_
              refine lv_iconst (v := (1 : Int32)) hx hb dX5_collectCuts_88 (by decide) ?_
              refine lv_iadd hx hb dX5_collectCuts_89 ?_
              refine pt_6_2 F hinX5 (hts (.fieldLink RX5 66 "CableTester$Nets" "cuts" "I") (mm 1 rfl)) hK hP hD hS dX5_collectCuts_90 (fun H locs hP hD hS => ?_)
              exact hj93 _ _ _ ih _ _ _ hP hD hS (lv_sub hl [1, 2, 3] rfl) h
  rw [mX5_collectCuts] at h
  refine lv_aload_n hx hb dX5_collectCuts_0 rfl (lv_at hl 0 rfl) ?_
  refine lv_iconst (v := (0 : Int32)) hx hb dX5_collectCuts_1 (by decide) ?_
  refine pt_6_2 F hinX5 (hts (.fieldLink RX5 66 "CableTester$Nets" "cuts" "I") (mm 1 rfl)) hK hP hD hS dX5_collectCuts_2 (fun H locs hP hD hS => ?_)
  refine lv_iconst (v := (0 : Int32)) hx hb dX5_collectCuts_5 (by decide) ?_
  refine lv_istore_n (lv' := [(2, .int (0 : Int32)), (0, .ref (q 6)), (1, .ref (q 1))]) hx hb dX5_collectCuts_6 rfl hl (by decide) rfl (fun ls hl => ?_)
  exact hL7 _ _ _ _ _ _ hP hD hS (lv_sub hl [1, 2, 0] rfl) h
def mX5_pieceAt_57 (n : Nat) (K5 : Int32 → Int32 → Option (Int32)) (S : CS) (x1 : Int32) (x2 : Int32) (x3 : Int32) (x4 : Int32)  : Option (Int32) :=
  (K5 x3 (x4 + (1 : Int32)))
def mX5_pieceAt_54 (n : Nat) (K5 : Int32 → Int32 → Option (Int32)) (S : CS) (x1 : Int32) (x2 : Int32) (x3 : Int32) (x4 : Int32)  : Option (Int32) :=
  (mX5_pieceAt_57 n (K5) S x1 x2 (x3 + (1 : Int32)) x4)
def mX5_pieceAt_5 (n : Nat)  (S : CS) (x1 : Int32) (x2 : Int32) : Nat → Int32 → Int32 → Option (Int32)
  | 0, _, _ => none
  | k + 1, x3, x4 => (if (S.1 7) ≤ x4 then (some x3) else (if (10 : Int32) ≤ x4 then (some x3) else (if inb x4 10 then (if (S.2.1 7 x4.toNatClampNeg) < x1 then (mX5_pieceAt_54 n (mX5_pieceAt_5 n S x1 x2 k) S x1 x2 x3 x4) else (if inb x4 10 then (if (S.2.1 7 x4.toNatClampNeg) = x1 then (if inb x4 10 then (if x2 ≤ (S.2.1 8 x4.toNatClampNeg) then (mX5_pieceAt_57 n (mX5_pieceAt_5 n S x1 x2 k) S x1 x2 x3 x4) else (mX5_pieceAt_54 n (mX5_pieceAt_5 n S x1 x2 k) S x1 x2 x3 x4)) else none) else (mX5_pieceAt_57 n (mX5_pieceAt_5 n S x1 x2 k) S x1 x2 x3 x4)) else none)) else none)))
def mX5_pieceAt (n : Nat) (S : CS) (x1 : Int32) (x2 : Int32) : Option (Int32) :=
  (mX5_pieceAt_5 n S x1 x2 n x1 (0 : Int32))
abbrev rmX5_pieceAt : Room := { frames := 0, cells := 0, slots := 0, locals := 0 }
theorem hdX5_pieceAt : yX5_pieceAt.cls = RX5 ∧ yX5_pieceAt.cls ≠ "java/lang/invoke/MethodHandle" ∧ yX5_pieceAt.cls ≠ "java/lang/invoke/VarHandle" ∧ (parseMethodDescriptor yX5_pieceAt.desc).map (fun d => d.parameters.length) = some 2 := by decide +kernel
set_option maxRecDepth 100000 in
set_option maxHeartbeats 8000000 in
theorem ctX5_pieceAt (l : Launch) (dC : Nat → ClassId) (dI : Nat → Nat → Nat) (cq : Nat → ClassId) (q : Nat → Nat) (S : CS) (M : MS) (o : Nat → Int64) (sz : Nat) (h0 : Nat) (n : Nat) (x1 : Int32) (x2 : Int32) (rr : Int32) (h : mX5_pieceAt n S x1 x2 = some rr) : CtR_i l yX5_pieceAt wsX5_pieceAt rmX5_pieceAt (fun a => h0 ≤ a) (EV h0 q) dC dI cq q S M o sz [.ref (q 6), .int x1, .int x2] rr := by
  refine enR_i (cc := cX5_pieceAt) (maxL := 5) (by decide) rfl (Nat.le_of_ble_eq_true rfl) (fun p e s m args below meth c A Q ls F hA hP hK hD hDm hX hS hl hend => ?_)
  obtain ⟨hx, hb, hml, hown, hts⟩ := id F
  have hown : s.vm.findClass RX5 = some m.cls := hown
  have F : CallFix p m c cX5_pieceAt 5 s args wsX5_pieceAt RX5 := F
  have hl : lv_has ls 5 [(0, .ref (q 6)), (1, .int x1), (2, .int x2)] := hl
  have hinX5 : ∀ w ∈ u_ws RX5 TX5 8, w ∈ wsX5_pieceAt := fun w h => List.mem_cons_of_mem _ (List.mem_append_right _ h)
  have hj57 : ∀  (x1 : Int32) (x2 : Int32) (x3 : Int32) (x4 : Int32)   (K5 : Int32 → Int32 → Option (Int32)) (hK5 : ∀ (y3 : Int32) (y4 : Int32) (H : Heap) (locs : List Loc) (ls : Array Slot), va_P (dC, dI) vwCl (wA cq q S M o) H → va_D A (wA cq q S M o) → va_S A s.heap H locs → lv_has ls 5 [(0, .ref (q 6)), (1, .int x1), (2, .int x2), (3, .int y3), (4, .int y4)] → K5 y3 y4 = some rr → W p l e rmX5_pieceAt s m args below meth c H locs 0 0 Q (F0 m 5 ls [])) (H : Heap) (locs : List Loc) (ls : Array Slot), va_P (dC, dI) vwCl (wA cq q S M o) H → va_D A (wA cq q S M o) → va_S A s.heap H locs → lv_has ls 5 [(0, .ref (q 6)), (1, .int x1), (2, .int x2), (3, .int x3), (4, .int x4)] → mX5_pieceAt_57 n K5 S x1 x2 x3 x4 = some rr → W p l e rmX5_pieceAt s m args below meth c H locs 0 0 Q (F0 m 57 ls []) := by
    intro x1 x2 x3 x4 K5 hK5 H locs ls hP hD hS hl h
    rw [mX5_pieceAt_57] at h
    refine lv_iinc (v := (x4 + (1 : Int32))) (lv' := [(4, .int (x4 + (1 : Int32))), (0, .ref (q 6)), (1, .int x1), (2, .int x2), (3, .int x3)]) hx hb dX5_pieceAt_57 hl (k := 4) rfl rfl (by decide) rfl (fun ls hl => ?_)
    refine lv_goto (tgt := 5) hx hb dX5_pieceAt_60 (by decide) ?_
    exact hK5 _ _ _ _ _ hP hD hS (lv_sub hl [1, 2, 3, 4, 0] rfl) h
  have hj54 : ∀  (x1 : Int32) (x2 : Int32) (x3 : Int32) (x4 : Int32)   (K5 : Int32 → Int32 → Option (Int32)) (hK5 : ∀ (y3 : Int32) (y4 : Int32) (H : Heap) (locs : List Loc) (ls : Array Slot), va_P (dC, dI) vwCl (wA cq q S M o) H → va_D A (wA cq q S M o) → va_S A s.heap H locs → lv_has ls 5 [(0, .ref (q 6)), (1, .int x1), (2, .int x2), (3, .int y3), (4, .int y4)] → K5 y3 y4 = some rr → W p l e rmX5_pieceAt s m args below meth c H locs 0 0 Q (F0 m 5 ls [])) (H : Heap) (locs : List Loc) (ls : Array Slot), va_P (dC, dI) vwCl (wA cq q S M o) H → va_D A (wA cq q S M o) → va_S A s.heap H locs → lv_has ls 5 [(0, .ref (q 6)), (1, .int x1), (2, .int x2), (3, .int x3), (4, .int x4)] → mX5_pieceAt_54 n K5 S x1 x2 x3 x4 = some rr → W p l e rmX5_pieceAt s m args below meth c H locs 0 0 Q (F0 m 54 ls []) := by
    intro x1 x2 x3 x4 K5 hK5 H locs ls hP hD hS hl h
    rw [mX5_pieceAt_54] at h
    refine lv_iinc (v := (x3 + (1 : Int32))) (lv' := [(3, .int (x3 + (1 : Int32))), (0, .ref (q 6)), (1, .int x1), (2, .int x2), (4, .int x4)]) hx hb dX5_pieceAt_54 hl (k := 3) rfl rfl (by decide) rfl (fun ls hl => ?_)
    exact hj57 _ _ _ _ _ hK5 _ _ _ hP hD hS (lv_sub hl [1, 2, 3, 0, 4] rfl) h
  have hL5 : ∀ (x1 : Int32) (x2 : Int32)  (k : Nat)  (x3 : Int32) (x4 : Int32) (H : Heap) (locs : List Loc) (ls : Array Slot), va_P (dC, dI) vwCl (wA cq q S M o) H → va_D A (wA cq q S M o) → va_S A s.heap H locs → lv_has ls 5 [(0, .ref (q 6)), (1, .int x1), (2, .int x2), (3, .int x3), (4, .int x4)] → mX5_pieceAt_5 n S x1 x2 k x3 x4 = some rr → W p l e rmX5_pieceAt s m args below meth c H locs 0 0 Q (F0 m 5 ls []) := by
    intro x1 x2
    intro k
    induction k with
    | zero =>
      intro x3 x4 H locs ls hP hD hS hl h
      rw [mX5_pieceAt_5] at h
      cases h
    | succ k ih =>
      intro x3 x4 H locs ls hP hD hS hl h
      rw [mX5_pieceAt_5] at h
      refine lv_iload hx hb dX5_pieceAt_5 (lv_at hl 4 rfl) ?_
      refine lv_aload_n hx hb dX5_pieceAt_7 rfl (lv_at hl 0 rfl) ?_
      refine va_get (D := (dC, dI)) (ci := 6) (v := .int (S.1 7)) (C := RX5) (T := TX5) (N := 8) hx hb hts hinX5 hown hK hP 6 rfl rfl 2 (by decide) (hts (.fieldLink RX5 66 "CableTester$Nets" "cuts" "I") (mm 1 rfl)) (fun _ h9 => h9) rfl dX5_pieceAt_8 ?_
      refine lv_icmp_ge (tgt := 63) hx hb dX5_pieceAt_11 (by decide) (fun c1 => ?_) (fun c1 => ?_)
      · replace h := it c1 h
        refine lv_iload_n hx hb dX5_pieceAt_63 rfl (lv_at hl 3 rfl) ?_
        exact hend _ _ _ _ _ h hP hD hS dX5_pieceAt_64
      · replace h := ie c1 h
        refine lv_iload hx hb dX5_pieceAt_14 (lv_at hl 4 rfl) ?_
        refine lv_bipush (v := (10 : Int32)) hx hb dX5_pieceAt_16 (by decide) ?_
        refine lv_icmp_ge (tgt := 63) hx hb dX5_pieceAt_18 (by decide) (fun c2 => ?_) (fun c2 => ?_)
        · replace h := it c2 h
          refine lv_iload_n hx hb dX5_pieceAt_63 rfl (lv_at hl 3 rfl) ?_
          exact hend _ _ _ _ _ h hP hD hS dX5_pieceAt_64
        · replace h := ie c2 h
          refine lv_aload_n hx hb dX5_pieceAt_21 rfl (lv_at hl 0 rfl) ?_
          refine va_get (D := (dC, dI)) (ci := 6) (v := .ref (q 7)) (C := RX5) (T := TX5) (N := 8) hx hb hts hinX5 hown hK hP 6 rfl rfl 3 (by decide) (hts (.fieldLink RX5 9 "CableTester$Nets" "cutWires" "[I") (mm 2 rfl)) (fun _ h9 => h9) rfl dX5_pieceAt_22 ?_
          refine lv_iload hx hb dX5_pieceAt_25 (lv_at hl 4 rfl) ?_
          obtain ⟨g3, h⟩ := gd h
          refine va_iald (D := (dC, dI)) hx hb hK hP 7 2 rfl rfl (inb_ok g3) dX5_pieceAt_27 ?_
          refine lv_iload_n hx hb dX5_pieceAt_28 rfl (lv_at hl 1 rfl) ?_
          refine lv_icmp_lt (tgt := 54) hx hb dX5_pieceAt_29 (by decide) (fun c4 => ?_) (fun c4 => ?_)
          · replace h := it c4 h
            exact hj54 _ _ _ _ _ ih _ _ _ hP hD hS (lv_sub hl [0, 1, 2, 3, 4] rfl) h
          · replace h := ie c4 h
            refine lv_aload_n hx hb dX5_pieceAt_32 rfl (lv_at hl 0 rfl) ?_
            refine va_get (D := (dC, dI)) (ci := 6) (v := .ref (q 7)) (C := RX5) (T := TX5) (N := 8) hx hb hts hinX5 hown hK hP 6 rfl rfl 3 (by decide) (hts (.fieldLink RX5 9 "CableTester$Nets" "cutWires" "[I") (mm 2 rfl)) (fun _ h9 => h9) rfl dX5_pieceAt_33 ?_
            refine lv_iload hx hb dX5_pieceAt_36 (lv_at hl 4 rfl) ?_
            obtain ⟨g5, h⟩ := gd h
            refine va_iald (D := (dC, dI)) hx hb hK hP 7 2 rfl rfl (inb_ok g5) dX5_pieceAt_38 ?_
            refine lv_iload_n hx hb dX5_pieceAt_39 rfl (lv_at hl 1 rfl) ?_
            refine lv_icmp_ne (tgt := 57) hx hb dX5_pieceAt_40 (by decide) (fun c6 => ?_) (fun c6 => ?_)
            · replace h := ie c6 h
              exact hj57 _ _ _ _ _ ih _ _ _ hP hD hS (lv_sub hl [0, 1, 2, 3, 4] rfl) h
            · replace h := it c6 h
              refine lv_aload_n hx hb dX5_pieceAt_43 rfl (lv_at hl 0 rfl) ?_
              refine va_get (D := (dC, dI)) (ci := 6) (v := .ref (q 8)) (C := RX5) (T := TX5) (N := 8) hx hb hts hinX5 hown hK hP 6 rfl rfl 4 (by decide) (hts (.fieldLink RX5 15 "CableTester$Nets" "cutPlaces" "[I") (mm 3 rfl)) (fun _ h9 => h9) rfl dX5_pieceAt_44 ?_
              refine lv_iload hx hb dX5_pieceAt_47 (lv_at hl 4 rfl) ?_
              obtain ⟨g7, h⟩ := gd h
              refine va_iald (D := (dC, dI)) hx hb hK hP 8 3 rfl rfl (inb_ok g7) dX5_pieceAt_49 ?_
              refine lv_iload_n hx hb dX5_pieceAt_50 rfl (lv_at hl 2 rfl) ?_
              refine lv_icmp_ge (tgt := 57) hx hb dX5_pieceAt_51 (by decide) (fun c8 => ?_) (fun c8 => ?_)
              · replace h := it c8 h
                exact hj57 _ _ _ _ _ ih _ _ _ hP hD hS (lv_sub hl [0, 1, 2, 3, 4] rfl) h
              · replace h := ie c8 h
                exact hj54 _ _ _ _ _ ih _ _ _ hP hD hS (lv_sub hl [0, 1, 2, 3, 4] rfl) h
  rw [mX5_pieceAt] at h
  refine lv_iload_n hx hb dX5_pieceAt_0 rfl (lv_at hl 1 rfl) ?_
  refine lv_istore_n (lv' := [(3, .int x1), (0, .ref (q 6)), (1, .int x1), (2, .int x2)]) hx hb dX5_pieceAt_1 rfl hl (by decide) rfl (fun ls hl => ?_)
  refine lv_iconst (v := (0 : Int32)) hx hb dX5_pieceAt_2 (by decide) ?_
  refine lv_istore (lv' := [(4, .int (0 : Int32)), (3, .int x1), (0, .ref (q 6)), (1, .int x1), (2, .int x2)]) hx hb dX5_pieceAt_3 hl (by decide) rfl (fun ls hl => ?_)
  exact hL5 _ _ _ _ _ _ _ _ hP hD hS (lv_sub hl [2, 3, 4, 1, 0] rfl) h
def mX5_uniteShortedPieces_82 (n : Nat) (K9 : CS → Int32 → Option (CS)) (S : CS) (x2 : Int32)  : Option (CS) :=
  (K9 S (x2 + (1 : Int32)))
def mX5_uniteShortedPieces_9 (n : Nat)   : Nat → CS → Int32 → Option (CS)
  | 0, _, _ => none
  | k + 1, S, x2 => (bn (mJx4a65c_size_8abf5 S) fun r4 => (if r4 ≤ x2 then (some S) else (bn (mJx4a65c_get_915e3 S x2) fun r7 => (if (((S.1 5) >>> (x2 &&& 31)) &&& (1 : Int32)) = (0 : Int32) then (mX5_uniteShortedPieces_82 n (mX5_uniteShortedPieces_9 n k) S x2) else (bn (mX2_isShort r7) fun r12 => (if r12 = (0 : Int32) then (mX5_uniteShortedPieces_82 n (mX5_uniteShortedPieces_9 n k) S x2) else (bn (mX5_pieceAt n S (r7.2 0) (r7.2 2)) fun r18 => (bn (mX5_pieceAt n S (r7.2 1) (r7.2 2)) fun r22 => (bm (mX3_unite_9 n S r18 r22) fun r24 S26 => (mX5_uniteShortedPieces_82 n (mX5_uniteShortedPieces_9 n k) S26 x2))))))))))
def mX5_uniteShortedPieces (n : Nat) (S : CS)  : Option (CS) :=
  (bn (mX3_separate_9 n S) fun S3 => (mX5_uniteShortedPieces_9 n n S3 (0 : Int32)))
abbrev rmX5_uniteShortedPieces : Room := { frames := 3, cells := 0, slots := 0, locals := 64 }
theorem hdX5_uniteShortedPieces : yX5_uniteShortedPieces.cls = RX5 ∧ yX5_uniteShortedPieces.cls ≠ "java/lang/invoke/MethodHandle" ∧ yX5_uniteShortedPieces.cls ≠ "java/lang/invoke/VarHandle" ∧ (parseMethodDescriptor yX5_uniteShortedPieces.desc).map (fun d => d.parameters.length) = some 1 := by decide +kernel
set_option maxRecDepth 100000 in
set_option maxHeartbeats 8000000 in
theorem ctX5_uniteShortedPieces (l : Launch) (dC : Nat → ClassId) (dI : Nat → Nat → Nat) (cq : Nat → ClassId) (q : Nat → Nat) (S : CS) (M : MS) (o : Nat → Int64) (sz : Nat) (h0 : Nat) (n : Nat)  (SS : CS) (h : mX5_uniteShortedPieces n S = some SS) : CtC_v l yX5_uniteShortedPieces wsX5_uniteShortedPieces rmX5_uniteShortedPieces (fun a => h0 ≤ a) (EV h0 q) dC dI cq q S M o sz [.ref (q 6), .ref (q 1)] SS := by
  refine enC_v (cc := cX5_uniteShortedPieces) (maxL := 4) (by decide) rfl (Nat.le_of_ble_eq_true rfl) (fun p e s m args below meth c A Q ls F hA hP hK hD hDm hX hS hl hend => ?_)
  obtain ⟨hx, hb, hml, hown, hts⟩ := id F
  have hown : s.vm.findClass RX5 = some m.cls := hown
  have F : CallFix p m c cX5_uniteShortedPieces 4 s args wsX5_uniteShortedPieces RX5 := F
  have hl : lv_has ls 4 [(0, .ref (q 6)), (1, .ref (q 1))] := hl
  have hinX0 : ∀ w ∈ u_ws RX0 TX0 7, w ∈ wsX5_uniteShortedPieces := fun w h => List.mem_cons_of_mem _ (List.mem_append_left _ (List.mem_append_left _ (List.mem_append_left _ (List.mem_append_right _ h))))
  have hinX2 : ∀ w ∈ u_ws RX2 TX2 5, w ∈ wsX5_uniteShortedPieces := fun w h => List.mem_cons_of_mem _ (List.mem_append_left _ (List.mem_append_left _ (List.mem_append_right _ h)))
  have hinX5 : ∀ w ∈ u_ws RX5 TX5 8, w ∈ wsX5_uniteShortedPieces := fun w h => List.mem_cons_of_mem _ (List.mem_append_left _ (List.mem_append_left _ (List.mem_append_left _ (List.mem_append_left _ (List.mem_append_right _ h)))))
  have hj82 : ∀ (S : CS) (x2 : Int32)   (K9 : CS → Int32 → Option (CS)) (hK9 : ∀ (S9 : CS) (y2 : Int32) (H : Heap) (locs : List Loc) (ls : Array Slot), va_P (dC, dI) vwCl (wA cq q S9 M o) H → va_D A (wA cq q S9 M o) → va_S A s.heap H locs → lv_has ls 4 [(0, .ref (q 6)), (1, .ref (q 1)), (2, .int y2)] → K9 S9 y2 = some SS → W p l e rmX5_uniteShortedPieces s m args below meth c H locs 0 0 Q (F0 m 9 ls [])) (H : Heap) (locs : List Loc) (ls : Array Slot), va_P (dC, dI) vwCl (wA cq q S M o) H → va_D A (wA cq q S M o) → va_S A s.heap H locs → lv_has ls 4 [(0, .ref (q 6)), (1, .ref (q 1)), (2, .int x2)] → mX5_uniteShortedPieces_82 n K9 S x2 = some SS → W p l e rmX5_uniteShortedPieces s m args below meth c H locs 0 0 Q (F0 m 82 ls []) := by
    intro S x2 K9 hK9 H locs ls hP hD hS hl h
    rw [mX5_uniteShortedPieces_82] at h
    refine lv_iinc (v := (x2 + (1 : Int32))) (lv' := [(2, .int (x2 + (1 : Int32))), (0, .ref (q 6)), (1, .ref (q 1))]) hx hb dX5_uniteShortedPieces_82 hl (k := 2) rfl rfl (by decide) rfl (fun ls hl => ?_)
    refine lv_goto (tgt := 9) hx hb dX5_uniteShortedPieces_85 (by decide) ?_
    exact hK9 _ _ _ _ _ hP hD hS (lv_sub hl [1, 2, 0] rfl) h
  have hL9 : ∀   (k : Nat) (S : CS) (x2 : Int32) (H : Heap) (locs : List Loc) (ls : Array Slot), va_P (dC, dI) vwCl (wA cq q S M o) H → va_D A (wA cq q S M o) → va_S A s.heap H locs → lv_has ls 4 [(0, .ref (q 6)), (1, .ref (q 1)), (2, .int x2)] → mX5_uniteShortedPieces_9 n k S x2 = some SS → W p l e rmX5_uniteShortedPieces s m args below meth c H locs 0 0 Q (F0 m 9 ls []) := by
    intro k
    induction k with
    | zero =>
      intro S x2 H locs ls hP hD hS hl h
      rw [mX5_uniteShortedPieces_9] at h
      cases h
    | succ k ih =>
      intro S x2 H locs ls hP hD hS hl h
      rw [mX5_uniteShortedPieces_9] at h
      refine lv_iload_n hx hb dX5_uniteShortedPieces_9 rfl (lv_at hl 2 rfl) ?_
      refine lv_aload_n hx hb dX5_uniteShortedPieces_10 rfl (lv_at hl 1 rfl) ?_
      refine va_getN (D := (dC, dI)) (ci := 1) (v := .ref (q 3)) (C := RX0) (T := TX0) (N := 7) hx hb hts hinX0 hown hK hP 1 rfl rfl 5 (by decide) (va_Nw.use rfl hX.1.2.2.2.2.2.1) (fun _ h9 => h9) rfl dX5_uniteShortedPieces_11 ?_
      obtain ⟨r4, e5, h⟩ := bo h
      refine caVR_i (As := []) (rest := [.int x2]) (ctJx4a65c_size_8abf5 l dC dI cq q S M o _ _ _ e5) F (cwV 0 hts gX5_uniteShortedPieces_Jx4a65c_size_8abf5 rfl rfl rfl hdJx4a65c_size_8abf5 ⟨Nat.le_of_ble_eq_true rfl, Nat.le_of_ble_eq_true rfl⟩) hK hP hD hDm hS hA EV.blind (fun U hU hW => EV.call hX hS hDm hU hW) (va_recv hK hP (ci := 0) (q0 := 3) rfl rfl) rfl hl.1 rfl (Nat.le_of_ble_eq_true rfl) dX5_uniteShortedPieces_14 ⟨Nat.zero_le _, Nat.zero_le _⟩ (fun H locs hP hD hS => ?_)
      refine lv_icmp_ge (tgt := 88) hx hb dX5_uniteShortedPieces_17 (by decide) (fun c6 => ?_) (fun c6 => ?_)
      · replace h := it c6 h
        exact hend _ _ _ _ _ h hP hD hS dX5_uniteShortedPieces_88
      · replace h := ie c6 h
        refine lv_aload_n hx hb dX5_uniteShortedPieces_20 rfl (lv_at hl 1 rfl) ?_
        refine va_getN (D := (dC, dI)) (ci := 1) (v := .ref (q 3)) (C := RX0) (T := TX0) (N := 7) hx hb hts hinX0 hown hK hP 1 rfl rfl 5 (by decide) (va_Nw.use rfl hX.1.2.2.2.2.2.1) (fun _ h9 => h9) rfl dX5_uniteShortedPieces_21 ?_
        refine lv_iload_n hx hb dX5_uniteShortedPieces_24 rfl (lv_at hl 2 rfl) ?_
        obtain ⟨r7, e8, h⟩ := bo h
        refine caVR_r (As := [.int x2]) (rest := []) (ctJx4a65c_get_915e3 l dC dI cq q S M o _ _ _ _ e8) F (cwV 1 hts gX5_uniteShortedPieces_Jx4a65c_get_915e3 rfl rfl rfl hdJx4a65c_get_915e3 ⟨Nat.le_of_ble_eq_true rfl, Nat.le_of_ble_eq_true rfl⟩) hK hP hD hDm hS hA EV.blind (fun U hU hW => EV.call hX hS hDm hU hW) (va_recv hK hP (ci := 0) (q0 := 3) rfl rfl) rfl hl.1 rfl (Nat.le_of_ble_eq_true rfl) dX5_uniteShortedPieces_25 ⟨Nat.zero_le _, Nat.zero_le _⟩ (fun H locs hP hD hS => ?_)
        have hw9 := mJx4a65c_get_915e3_mem e8
        obtain ⟨kw10, hkw10⟩ := wA_w (cq := cq) (q := q) (S := S) (M := M) (o := o) hw9
        refine va_castS (nm := RX2) hx hb hown (hts (.classLink RX5 83 "CableTester$Fault") (mm 2 rfl)) (hK.1 3 _ rfl).2 (va_recv hK hP (ci := 3) (q0 := kw10) rfl hkw10) dX5_uniteShortedPieces_28 ?_
        refine lv_astore_n (lv' := [(3, .ref r7.1), (0, .ref (q 6)), (1, .ref (q 1)), (2, .int x2)]) hx hb dX5_uniteShortedPieces_31 rfl hl (by decide) rfl (fun ls hl => ?_)
        refine lv_aload_n hx hb dX5_uniteShortedPieces_32 rfl (lv_at hl 1 rfl) ?_
        refine va_get (D := (dC, dI)) (ci := 6) (v := .int (S.1 5)) (C := RX5) (T := TX5) (N := 8) hx hb hts hinX5 hown hK hP 6 rfl rfl 0 (by decide) (hts (.fieldLink RX5 33 "CableTester$Nets" "present" "I") (mm 3 rfl)) (fun _ h9 => h9) rfl dX5_uniteShortedPieces_33 ?_
        refine lv_iload_n hx hb dX5_uniteShortedPieces_36 rfl (lv_at hl 3 rfl) ?_
        refine lv_ishr hx hb dX5_uniteShortedPieces_37 ?_
        refine lv_iconst (v := (1 : Int32)) hx hb dX5_uniteShortedPieces_38 (by decide) ?_
        refine lv_iand hx hb dX5_uniteShortedPieces_39 ?_
        refine lv_if_eq (tgt := 82) hx hb dX5_uniteShortedPieces_40 (by decide) (fun c11 => ?_) (fun c11 => ?_)
        · replace h := it c11 h
          exact hj82 _ _ _ ih _ _ _ hP hD hS (lv_sub hl [1, 2, 3] rfl) h
        · replace h := ie c11 h
          refine lv_aload_n hx hb dX5_uniteShortedPieces_43 rfl (lv_at hl 0 rfl) ?_
          obtain ⟨r12, e13, h⟩ := bo h
          obtain ⟨kw14, hkw14⟩ := wA_w (cq := cq) (q := q) (S := S) (M := M) (o := o) hw9
          refine caVR_i (As := []) (rest := []) (ctX2_isShort l dC dI cq q S M o _ _ _ hw9 _ e13) F (cwV 0 hts gX5_uniteShortedPieces_X2_isShort rfl rfl rfl hdX2_isShort ⟨Nat.le_of_ble_eq_true rfl, Nat.le_of_ble_eq_true rfl⟩) hK hP hD hDm hS hA EV.blind (fun U hU hW => EV.call hX hS hDm hU hW) (va_recv hK hP (ci := 3) (q0 := kw14) rfl hkw14) rfl hl.1 rfl (Nat.le_of_ble_eq_true rfl) dX5_uniteShortedPieces_44 ⟨Nat.zero_le _, Nat.zero_le _⟩ (fun H locs hP hD hS => ?_)
          refine lv_if_eq (tgt := 82) hx hb dX5_uniteShortedPieces_47 (by decide) (fun c15 => ?_) (fun c15 => ?_)
          · replace h := it c15 h
            exact hj82 _ _ _ ih _ _ _ hP hD hS (lv_sub hl [1, 2, 3] rfl) h
          · replace h := ie c15 h
            refine lv_aload_n hx hb dX5_uniteShortedPieces_50 rfl (lv_at hl 1 rfl) ?_
            refine va_get (D := (dC, dI)) (ci := 6) (v := .ref (q 9)) (C := RX5) (T := TX5) (N := 8) hx hb hts hinX5 hown hK hP 6 rfl rfl 5 (by decide) (hts (.fieldLink RX5 23 "CableTester$Nets" "pieces" "LCableTester$Groups;") (mm 1 rfl)) (fun _ h9 => h9) rfl dX5_uniteShortedPieces_51 ?_
            refine lv_aload_n hx hb dX5_uniteShortedPieces_54 rfl (lv_at hl 1 rfl) ?_
            refine lv_aload_n hx hb dX5_uniteShortedPieces_55 rfl (lv_at hl 0 rfl) ?_
            obtain ⟨kw16, hkw16⟩ := wA_w (cq := cq) (q := q) (S := S) (M := M) (o := o) hw9
            refine va_getN (D := (dC, dI)) (ci := 3) (v := .int (r7.2 0)) (C := RX2) (T := TX2) (N := 5) hx hb hts hinX2 hown hK hP kw16 hkw16 rfl 0 (by decide) (va_Nw.use rfl hX.1.2.2.2.2.2.2.2.2.2.2.2.2.2.2.2.2.1) (fun _ h9 => h9) rfl dX5_uniteShortedPieces_56 ?_
            refine lv_aload_n hx hb dX5_uniteShortedPieces_59 rfl (lv_at hl 0 rfl) ?_
            obtain ⟨kw17, hkw17⟩ := wA_w (cq := cq) (q := q) (S := S) (M := M) (o := o) hw9
            refine va_getN (D := (dC, dI)) (ci := 3) (v := .int (r7.2 2)) (C := RX2) (T := TX2) (N := 5) hx hb hts hinX2 hown hK hP kw17 hkw17 rfl 2 (by decide) (va_Nw.use rfl hX.1.2.2.2.2.2.2.2.2.2.2.2.2.2.2.2.2.2.2.1) (fun _ h9 => h9) rfl dX5_uniteShortedPieces_60 ?_
            obtain ⟨r18, e19, h⟩ := bo h
            refine caVR_i (As := [.int (r7.2 0), .int (r7.2 2)]) (rest := [.ref (q 9)]) (ctX5_pieceAt l dC dI cq q S M o _ _ _ _ _ _ e19) F (cwV 2 hts gX5_uniteShortedPieces_X5_pieceAt rfl rfl rfl hdX5_pieceAt ⟨Nat.le_of_ble_eq_true rfl, Nat.le_of_ble_eq_true rfl⟩) hK hP hD hDm hS hA EV.blind (fun U hU hW => EV.call hX hS hDm hU hW) (va_recv hK hP (ci := 6) (q0 := 6) rfl rfl) rfl hl.1 rfl (Nat.le_of_ble_eq_true rfl) dX5_uniteShortedPieces_63 ⟨Nat.zero_le _, Nat.zero_le _⟩ (fun H locs hP hD hS => ?_)
            refine lv_aload_n hx hb dX5_uniteShortedPieces_66 rfl (lv_at hl 1 rfl) ?_
            refine lv_aload_n hx hb dX5_uniteShortedPieces_67 rfl (lv_at hl 0 rfl) ?_
            obtain ⟨kw20, hkw20⟩ := wA_w (cq := cq) (q := q) (S := S) (M := M) (o := o) hw9
            refine va_getN (D := (dC, dI)) (ci := 3) (v := .int (r7.2 1)) (C := RX2) (T := TX2) (N := 5) hx hb hts hinX2 hown hK hP kw20 hkw20 rfl 1 (by decide) (va_Nw.use rfl hX.1.2.2.2.2.2.2.2.2.2.2.2.2.2.2.2.2.2.1) (fun _ h9 => h9) rfl dX5_uniteShortedPieces_68 ?_
            refine lv_aload_n hx hb dX5_uniteShortedPieces_71 rfl (lv_at hl 0 rfl) ?_
            obtain ⟨kw21, hkw21⟩ := wA_w (cq := cq) (q := q) (S := S) (M := M) (o := o) hw9
            refine va_getN (D := (dC, dI)) (ci := 3) (v := .int (r7.2 2)) (C := RX2) (T := TX2) (N := 5) hx hb hts hinX2 hown hK hP kw21 hkw21 rfl 2 (by decide) (va_Nw.use rfl hX.1.2.2.2.2.2.2.2.2.2.2.2.2.2.2.2.2.2.2.1) (fun _ h9 => h9) rfl dX5_uniteShortedPieces_72 ?_
            obtain ⟨r22, e23, h⟩ := bo h
            refine caVR_i (As := [.int (r7.2 1), .int (r7.2 2)]) (rest := [.int r18, .ref (q 9)]) (ctX5_pieceAt l dC dI cq q S M o _ _ _ _ _ _ e23) F (cwV 2 hts gX5_uniteShortedPieces_X5_pieceAt rfl rfl rfl hdX5_pieceAt ⟨Nat.le_of_ble_eq_true rfl, Nat.le_of_ble_eq_true rfl⟩) hK hP hD hDm hS hA EV.blind (fun U hU hW => EV.call hX hS hDm hU hW) (va_recv hK hP (ci := 6) (q0 := 6) rfl rfl) rfl hl.1 rfl (Nat.le_of_ble_eq_true rfl) dX5_uniteShortedPieces_75 ⟨Nat.zero_le _, Nat.zero_le _⟩ (fun H locs hP hD hS => ?_)
            obtain ⟨r24, S26, e25, h⟩ := bp h
            refine caVC_i (As := [.int r18, .int r22]) (rest := []) (ctX3_unite_9 l dC dI cq q S M o _ _ _ _ _ _ _ e25) F (cwV 2 hts gX5_uniteShortedPieces_X3_unite rfl rfl rfl hdX3_unite ⟨Nat.le_of_ble_eq_true rfl, Nat.le_of_ble_eq_true rfl⟩) hK hP hD hDm hS hA EV.blind (fun U hU hW => EV.call hX hS hDm hU hW) (va_recv hK hP (ci := 4) (q0 := 9) rfl rfl) rfl hl.1 rfl (Nat.le_of_ble_eq_true rfl) dX5_uniteShortedPieces_78 ⟨Nat.zero_le _, Nat.zero_le _⟩ (fun H locs hP hD hS => ?_)
            refine lv_pop hx hb dX5_uniteShortedPieces_81 rfl ?_
            exact hj82 _ _ _ ih _ _ _ hP hD hS (lv_sub hl [1, 2, 3] rfl) h
  rw [mX5_uniteShortedPieces] at h
  refine lv_aload_n hx hb dX5_uniteShortedPieces_0 rfl (lv_at hl 0 rfl) ?_
  refine va_get (D := (dC, dI)) (ci := 6) (v := .ref (q 9)) (C := RX5) (T := TX5) (N := 8) hx hb hts hinX5 hown hK hP 6 rfl rfl 5 (by decide) (hts (.fieldLink RX5 23 "CableTester$Nets" "pieces" "LCableTester$Groups;") (mm 1 rfl)) (fun _ h9 => h9) rfl dX5_uniteShortedPieces_1 ?_
  obtain ⟨S3, e2, h⟩ := bo h
  refine caVC_v (As := []) (rest := []) (ctX3_separate_9 l dC dI cq q S M o _ _ _ _ e2) F (cwV 0 hts gX5_uniteShortedPieces_X3_separate rfl rfl rfl hdX3_separate ⟨Nat.le_of_ble_eq_true rfl, Nat.le_of_ble_eq_true rfl⟩) hK hP hD hDm hS hA EV.blind (fun U hU hW => EV.call hX hS hDm hU hW) (va_recv hK hP (ci := 4) (q0 := 9) rfl rfl) rfl hl.1 rfl (Nat.le_of_ble_eq_true rfl) dX5_uniteShortedPieces_4 ⟨Nat.zero_le _, Nat.zero_le _⟩ (fun H locs hP hD hS => ?_)
  refine lv_iconst (v := (0 : Int32)) hx hb dX5_uniteShortedPieces_7 (by decide) ?_
  refine lv_istore_n (lv' := [(2, .int (0 : Int32)), (0, .ref (q 6)), (1, .ref (q 1))]) hx hb dX5_uniteShortedPieces_8 rfl hl (by decide) rfl (fun ls hl => ?_)
  exact hL9 _ _ _ _ _ _ hP hD hS (lv_sub hl [1, 2, 0] rfl) h
def mX5_collectMembers_63 (n : Nat) (K2 : CS → Int32 → Option (CS)) (K19 : CS → Int32 → Option (CS)) (S : CS) (x1 : Int32) (x2 : Int32)  : Option (CS) :=
  (K19 S (x2 + (1 : Int32)))
def mX5_collectMembers_19 (n : Nat) (K2 : CS → Int32 → Option (CS)) (x1 : Int32) : Nat → CS → Int32 → Option (CS)
  | 0, _, _ => none
  | k + 1, S, x2 => (if x1 ≤ x2 then (K2 S (x1 + (1 : Int32))) else (if inb x1 16 then (if inb x2 16 then (if (S.2.1 11 x1.toNatClampNeg) = (S.2.1 11 x2.toNatClampNeg) then (if inb x1 16 then (if inb x1 16 then (if inb x2 16 then (if inb x2 16 then (mX5_collectMembers_63 n (K2) (mX5_collectMembers_19 n K2 x1 k) (sA (sA S 12 x1.toNatClampNeg ((S.2.1 12 x1.toNatClampNeg) ||| ((1 : Int32) <<< (x2 &&& 31)))) 12 x2.toNatClampNeg (((sA S 12 x1.toNatClampNeg ((S.2.1 12 x1.toNatClampNeg) ||| ((1 : Int32) <<< (x2 &&& 31)))).2.1 12 x2.toNatClampNeg) ||| ((1 : Int32) <<< (x1 &&& 31)))) x1 x2) else none) else none) else none) else none) else (mX5_collectMembers_63 n (K2) (mX5_collectMembers_19 n K2 x1 k) S x1 x2)) else none) else none))
def mX5_collectMembers_2 (n : Nat)   : Nat → CS → Int32 → Option (CS)
  | 0, _, _ => none
  | k + 1, S, x1 => (if (16 : Int32) ≤ x1 then (some S) else (if inb x1 16 then (mX5_collectMembers_19 n (mX5_collectMembers_2 n k) x1 n (sA S 12 x1.toNatClampNeg ((1 : Int32) <<< (x1 &&& 31))) (0 : Int32)) else none))
def mX5_collectMembers (n : Nat) (S : CS)  : Option (CS) :=
  (mX5_collectMembers_2 n n S (0 : Int32))
abbrev rmX5_collectMembers : Room := { frames := 0, cells := 0, slots := 0, locals := 0 }
theorem hdX5_collectMembers : yX5_collectMembers.cls = RX5 ∧ yX5_collectMembers.cls ≠ "java/lang/invoke/MethodHandle" ∧ yX5_collectMembers.cls ≠ "java/lang/invoke/VarHandle" ∧ (parseMethodDescriptor yX5_collectMembers.desc).map (fun d => d.parameters.length) = some 0 := by decide +kernel
set_option maxRecDepth 100000 in
set_option maxHeartbeats 8000000 in
theorem ctX5_collectMembers (l : Launch) (dC : Nat → ClassId) (dI : Nat → Nat → Nat) (cq : Nat → ClassId) (q : Nat → Nat) (S : CS) (M : MS) (o : Nat → Int64) (sz : Nat) (h0 : Nat) (n : Nat)  (SS : CS) (h : mX5_collectMembers n S = some SS) : CtC_v l yX5_collectMembers wsX5_collectMembers rmX5_collectMembers (fun a => h0 ≤ a) (EV h0 q) dC dI cq q S M o sz [.ref (q 6)] SS := by
  refine enC_v (cc := cX5_collectMembers) (maxL := 3) (by decide) rfl (Nat.le_of_ble_eq_true rfl) (fun p e s m args below meth c A Q ls F hA hP hK hD hDm hX hS hl hend => ?_)
  obtain ⟨hx, hb, hml, hown, hts⟩ := id F
  have hown : s.vm.findClass RX5 = some m.cls := hown
  have F : CallFix p m c cX5_collectMembers 3 s args wsX5_collectMembers RX5 := F
  have hl : lv_has ls 3 [(0, .ref (q 6))] := hl
  have hinX5 : ∀ w ∈ u_ws RX5 TX5 8, w ∈ wsX5_collectMembers := fun w h => List.mem_cons_of_mem _ (List.mem_append_right _ h)
  have hj63 : ∀ (S : CS) (x1 : Int32) (x2 : Int32)   (K2 : CS → Int32 → Option (CS)) (hK2 : ∀ (S9 : CS) (y1 : Int32) (H : Heap) (locs : List Loc) (ls : Array Slot), va_P (dC, dI) vwCl (wA cq q S9 M o) H → va_D A (wA cq q S9 M o) → va_S A s.heap H locs → lv_has ls 3 [(0, .ref (q 6)), (1, .int y1)] → K2 S9 y1 = some SS → W p l e rmX5_collectMembers s m args below meth c H locs 0 0 Q (F0 m 2 ls [])) (K19 : CS → Int32 → Option (CS)) (hK19 : ∀ (S9 : CS) (y2 : Int32) (H : Heap) (locs : List Loc) (ls : Array Slot), va_P (dC, dI) vwCl (wA cq q S9 M o) H → va_D A (wA cq q S9 M o) → va_S A s.heap H locs → lv_has ls 3 [(0, .ref (q 6)), (1, .int x1), (2, .int y2)] → K19 S9 y2 = some SS → W p l e rmX5_collectMembers s m args below meth c H locs 0 0 Q (F0 m 19 ls [])) (H : Heap) (locs : List Loc) (ls : Array Slot), va_P (dC, dI) vwCl (wA cq q S M o) H → va_D A (wA cq q S M o) → va_S A s.heap H locs → lv_has ls 3 [(0, .ref (q 6)), (1, .int x1), (2, .int x2)] → mX5_collectMembers_63 n K2 K19 S x1 x2 = some SS → W p l e rmX5_collectMembers s m args below meth c H locs 0 0 Q (F0 m 63 ls []) := by
    intro S x1 x2 K2 hK2 K19 hK19 H locs ls hP hD hS hl h
    rw [mX5_collectMembers_63] at h
    refine lv_iinc (v := (x2 + (1 : Int32))) (lv' := [(2, .int (x2 + (1 : Int32))), (0, .ref (q 6)), (1, .int x1)]) hx hb dX5_collectMembers_63 hl (k := 2) rfl rfl (by decide) rfl (fun ls hl => ?_)
    refine lv_goto (tgt := 19) hx hb dX5_collectMembers_66 (by decide) ?_
    exact hK19 _ _ _ _ _ hP hD hS (lv_sub hl [1, 2, 0] rfl) h
  have hL19 : ∀ (x1 : Int32) (K2 : CS → Int32 → Option (CS)) (hK2 : ∀ (S9 : CS) (y1 : Int32) (H : Heap) (locs : List Loc) (ls : Array Slot), va_P (dC, dI) vwCl (wA cq q S9 M o) H → va_D A (wA cq q S9 M o) → va_S A s.heap H locs → lv_has ls 3 [(0, .ref (q 6)), (1, .int y1)] → K2 S9 y1 = some SS → W p l e rmX5_collectMembers s m args below meth c H locs 0 0 Q (F0 m 2 ls [])) (k : Nat) (S : CS) (x2 : Int32) (H : Heap) (locs : List Loc) (ls : Array Slot), va_P (dC, dI) vwCl (wA cq q S M o) H → va_D A (wA cq q S M o) → va_S A s.heap H locs → lv_has ls 3 [(0, .ref (q 6)), (1, .int x1), (2, .int x2)] → mX5_collectMembers_19 n K2 x1 k S x2 = some SS → W p l e rmX5_collectMembers s m args below meth c H locs 0 0 Q (F0 m 19 ls []) := by
    intro x1 K2 hK2
    intro k
    induction k with
    | zero =>
      intro S x2 H locs ls hP hD hS hl h
      rw [mX5_collectMembers_19] at h
      cases h
    | succ k ih =>
      intro S x2 H locs ls hP hD hS hl h
      rw [mX5_collectMembers_19] at h
      refine lv_iload_n hx hb dX5_collectMembers_19 rfl (lv_at hl 2 rfl) ?_
      refine lv_iload_n hx hb dX5_collectMembers_20 rfl (lv_at hl 1 rfl) ?_
      refine lv_icmp_ge (tgt := 69) hx hb dX5_collectMembers_21 (by decide) (fun c3 => ?_) (fun c3 => ?_)
      · replace h := it c3 h
        refine lv_iinc (v := (x1 + (1 : Int32))) (lv' := [(1, .int (x1 + (1 : Int32))), (0, .ref (q 6)), (2, .int x2)]) hx hb dX5_collectMembers_69 hl (k := 1) rfl rfl (by decide) rfl (fun ls hl => ?_)
        refine lv_goto (tgt := 2) hx hb dX5_collectMembers_72 (by decide) ?_
        exact hK2 _ _ _ _ _ hP hD hS (lv_sub hl [1, 0] rfl) h
      · replace h := ie c3 h
        refine lv_aload_n hx hb dX5_collectMembers_24 rfl (lv_at hl 0 rfl) ?_
        refine va_get (D := (dC, dI)) (ci := 6) (v := .ref (q 11)) (C := RX5) (T := TX5) (N := 8) hx hb hts hinX5 hown hK hP 6 rfl rfl 6 (by decide) (hts (.fieldLink RX5 27 "CableTester$Nets" "netOf" "[I") (mm 2 rfl)) (fun _ h9 => h9) rfl dX5_collectMembers_25 ?_
        refine lv_iload_n hx hb dX5_collectMembers_28 rfl (lv_at hl 1 rfl) ?_
        obtain ⟨g4, h⟩ := gd h
        refine va_iald (D := (dC, dI)) hx hb hK hP 11 5 rfl rfl (inb_ok g4) dX5_collectMembers_29 ?_
        refine lv_aload_n hx hb dX5_collectMembers_30 rfl (lv_at hl 0 rfl) ?_
        refine va_get (D := (dC, dI)) (ci := 6) (v := .ref (q 11)) (C := RX5) (T := TX5) (N := 8) hx hb hts hinX5 hown hK hP 6 rfl rfl 6 (by decide) (hts (.fieldLink RX5 27 "CableTester$Nets" "netOf" "[I") (mm 2 rfl)) (fun _ h9 => h9) rfl dX5_collectMembers_31 ?_
        refine lv_iload_n hx hb dX5_collectMembers_34 rfl (lv_at hl 2 rfl) ?_
        obtain ⟨g5, h⟩ := gd h
        refine va_iald (D := (dC, dI)) hx hb hK hP 11 5 rfl rfl (inb_ok g5) dX5_collectMembers_35 ?_
        refine lv_icmp_ne (tgt := 63) hx hb dX5_collectMembers_36 (by decide) (fun c6 => ?_) (fun c6 => ?_)
        · replace h := ie c6 h
          exact hj63 _ _ _ _ hK2 _ ih _ _ _ hP hD hS (lv_sub hl [0, 1, 2] rfl) h
        · replace h := it c6 h
          refine lv_aload_n hx hb dX5_collectMembers_39 rfl (lv_at hl 0 rfl) ?_
          refine va_get (D := (dC, dI)) (ci := 6) (v := .ref (q 12)) (C := RX5) (T := TX5) (N := 8) hx hb hts hinX5 hown hK hP 6 rfl rfl 7 (by decide) (hts (.fieldLink RX5 30 "CableTester$Nets" "members" "[I") (mm 1 rfl)) (fun _ h9 => h9) rfl dX5_collectMembers_40 ?_
          refine lv_iload_n hx hb dX5_collectMembers_43 rfl (lv_at hl 1 rfl) ?_
          refine lv_dup2_11 hx hb dX5_collectMembers_44 rfl rfl ?_
          obtain ⟨g7, h⟩ := gd h
          refine va_iald (D := (dC, dI)) hx hb hK hP 12 6 rfl rfl (inb_ok g7) dX5_collectMembers_45 ?_
          refine lv_iconst (v := (1 : Int32)) hx hb dX5_collectMembers_46 (by decide) ?_
          refine lv_iload_n hx hb dX5_collectMembers_47 rfl (lv_at hl 2 rfl) ?_
          refine lv_ishl hx hb dX5_collectMembers_48 ?_
          refine lv_ior hx hb dX5_collectMembers_49 ?_
          obtain ⟨g8, h⟩ := gd h
          refine as_12 F hK hP hD hS (inb_ok g8) dX5_collectMembers_50 (fun H locs hP hD hS => ?_)
          refine lv_aload_n hx hb dX5_collectMembers_51 rfl (lv_at hl 0 rfl) ?_
          refine va_get (D := (dC, dI)) (ci := 6) (v := .ref (q 12)) (C := RX5) (T := TX5) (N := 8) hx hb hts hinX5 hown hK hP 6 rfl rfl 7 (by decide) (hts (.fieldLink RX5 30 "CableTester$Nets" "members" "[I") (mm 1 rfl)) (fun _ h9 => h9) rfl dX5_collectMembers_52 ?_
          refine lv_iload_n hx hb dX5_collectMembers_55 rfl (lv_at hl 2 rfl) ?_
          refine lv_dup2_11 hx hb dX5_collectMembers_56 rfl rfl ?_
          obtain ⟨g9, h⟩ := gd h
          refine va_iald (D := (dC, dI)) hx hb hK hP 12 6 rfl rfl (inb_ok g9) dX5_collectMembers_57 ?_
          refine lv_iconst (v := (1 : Int32)) hx hb dX5_collectMembers_58 (by decide) ?_
          refine lv_iload_n hx hb dX5_collectMembers_59 rfl (lv_at hl 1 rfl) ?_
          refine lv_ishl hx hb dX5_collectMembers_60 ?_
          refine lv_ior hx hb dX5_collectMembers_61 ?_
          obtain ⟨g10, h⟩ := gd h
          refine as_12 F hK hP hD hS (inb_ok g10) dX5_collectMembers_62 (fun H locs hP hD hS => ?_)
          exact hj63 _ _ _ _ hK2 _ ih _ _ _ hP hD hS (lv_sub hl [0, 1, 2] rfl) h
  have hL2 : ∀   (k : Nat) (S : CS) (x1 : Int32) (H : Heap) (locs : List Loc) (ls : Array Slot), va_P (dC, dI) vwCl (wA cq q S M o) H → va_D A (wA cq q S M o) → va_S A s.heap H locs → lv_has ls 3 [(0, .ref (q 6)), (1, .int x1)] → mX5_collectMembers_2 n k S x1 = some SS → W p l e rmX5_collectMembers s m args below meth c H locs 0 0 Q (F0 m 2 ls []) := by
    intro k
    induction k with
    | zero =>
      intro S x1 H locs ls hP hD hS hl h
      rw [mX5_collectMembers_2] at h
      cases h
    | succ k ih =>
      intro S x1 H locs ls hP hD hS hl h
      rw [mX5_collectMembers_2] at h
      refine lv_iload_n hx hb dX5_collectMembers_2 rfl (lv_at hl 1 rfl) ?_
      refine lv_bipush (v := (16 : Int32)) hx hb dX5_collectMembers_3 (by decide) ?_
      refine lv_icmp_ge (tgt := 75) hx hb dX5_collectMembers_5 (by decide) (fun c1 => ?_) (fun c1 => ?_)
      · replace h := it c1 h
        exact hend _ _ _ _ _ h hP hD hS dX5_collectMembers_75
      · replace h := ie c1 h
        refine lv_aload_n hx hb dX5_collectMembers_8 rfl (lv_at hl 0 rfl) ?_
        refine va_get (D := (dC, dI)) (ci := 6) (v := .ref (q 12)) (C := RX5) (T := TX5) (N := 8) hx hb hts hinX5 hown hK hP 6 rfl rfl 7 (by decide) (hts (.fieldLink RX5 30 "CableTester$Nets" "members" "[I") (mm 1 rfl)) (fun _ h9 => h9) rfl dX5_collectMembers_9 ?_
        refine lv_iload_n hx hb dX5_collectMembers_12 rfl (lv_at hl 1 rfl) ?_
        refine lv_iconst (v := (1 : Int32)) hx hb dX5_collectMembers_13 (by decide) ?_
        refine lv_iload_n hx hb dX5_collectMembers_14 rfl (lv_at hl 1 rfl) ?_
        refine lv_ishl hx hb dX5_collectMembers_15 ?_
        obtain ⟨g2, h⟩ := gd h
        refine as_12 F hK hP hD hS (inb_ok g2) dX5_collectMembers_16 (fun H locs hP hD hS => ?_)
        refine lv_iconst (v := (0 : Int32)) hx hb dX5_collectMembers_17 (by decide) ?_
        refine lv_istore_n (lv' := [(2, .int (0 : Int32)), (0, .ref (q 6)), (1, .int x1)]) hx hb dX5_collectMembers_18 rfl hl (by decide) rfl (fun ls hl => ?_)
        exact hL19 _ _ ih _ _ _ _ _ _ hP hD hS (lv_sub hl [1, 2, 0] rfl) h
  rw [mX5_collectMembers] at h
  refine lv_iconst (v := (0 : Int32)) hx hb dX5_collectMembers_0 (by decide) ?_
  refine lv_istore_n (lv' := [(1, .int (0 : Int32)), (0, .ref (q 6))]) hx hb dX5_collectMembers_1 rfl hl (by decide) rfl (fun ls hl => ?_)
  exact hL2 _ _ _ _ _ _ hP hD hS (lv_sub hl [1, 0] rfl) h
