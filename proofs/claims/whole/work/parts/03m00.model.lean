def mX8_fresh_32 (n : Nat)   : Nat → MS → Int32 → Option (MS)
  | 0, _, _ => none
  | k + 1, M, x3 => (if (16 : Int32) ≤ x3 then (some M) else (if inb x3 16 then (mX8_fresh_32 n k (sB M 23 x3.toNatClampNeg (x3 - x3 / (8 : Int32) * (8 : Int32))) (x3 + (1 : Int32))) else none))
def mX8_fresh (n : Nat) (M : MS) (x1 : Int32) (x2 : Int32) : Option (MS) :=
  (mX8_fresh_32 n n (sG (sG (sG (sG (sG (sG M 1 x1) 2 x2) 3 (0 : Int32)) 4 (0 : Int32)) 7 (0 : Int32)) 9 (0 : Int32)) (0 : Int32))
abbrev rmX8_fresh : Room := { frames := 0, cells := 0, slots := 0, locals := 0 }
theorem hdX8_fresh : yX8_fresh.cls = RX8 ∧ yX8_fresh.cls ≠ "java/lang/invoke/MethodHandle" ∧ yX8_fresh.cls ≠ "java/lang/invoke/VarHandle" ∧ (parseMethodDescriptor yX8_fresh.desc).map (fun d => d.parameters.length) = some 2 := by decide +kernel
set_option maxRecDepth 100000 in
set_option maxHeartbeats 8000000 in
theorem ctX8_fresh (l : Launch) (dC : Nat → ClassId) (dI : Nat → Nat → Nat) (cq : Nat → ClassId) (q : Nat → Nat) (S : CS) (M : MS) (o : Nat → Int64) (sz : Nat) (n : Nat) (x1 : Int32) (x2 : Int32) (MM : MS) (h : mX8_fresh n M x1 x2 = some MM) : CtM_v l yX8_fresh wsX8_fresh rmX8_fresh (fun _ => True) (fun _ => True) dC dI cq q S M o sz [.ref (q 22), .int x1, .int x2] MM := by
  refine enM_v (cc := cX8_fresh) (maxL := 4) (by decide) rfl (Nat.le_of_ble_eq_true rfl) (fun p e s m args below meth c A Q ls F hA hP hK hD hDm hX hS hl hend => ?_)
  obtain ⟨hx, hb, hml, hown, hts⟩ := id F
  have hown : s.vm.findClass RX8 = some m.cls := hown
  have F : CallFix p m c cX8_fresh 4 s args wsX8_fresh RX8 := F
  have hl : lv_has ls 4 [(0, .ref (q 22)), (1, .int x1), (2, .int x2)] := hl
  have hinX8 : ∀ w ∈ u_ws RX8 TX8 29, w ∈ wsX8_fresh := fun w h => List.mem_cons_of_mem _ (List.mem_append_right _ h)
  have hL32 : ∀   (k : Nat) (M : MS) (x3 : Int32) (H : Heap) (locs : List Loc) (ls : Array Slot), va_P (dC, dI) vwCl (wA cq q S M o) H → va_D A (wA cq q S M o) → va_S A s.heap H locs → lv_has ls 4 [(0, .ref (q 22)), (3, .int x3)] → mX8_fresh_32 n k M x3 = some MM → W p l e rmX8_fresh s m args below meth c H locs 0 0 Q (F0 m 32 ls []) := by
    intro k
    induction k with
    | zero =>
      intro M x3 H locs ls hP hD hS hl h
      rw [mX8_fresh_32] at h
      cases h
    | succ k ih =>
      intro M x3 H locs ls hP hD hS hl h
      rw [mX8_fresh_32] at h
      refine lv_iload_n hx hb dX8_fresh_32 rfl (lv_at hl 1 rfl) ?_
      refine lv_bipush (v := (16 : Int32)) hx hb dX8_fresh_33 (by decide) ?_
      refine lv_icmp_ge (tgt := 54) hx hb dX8_fresh_35 (by decide) (fun c1 => ?_) (fun c1 => ?_)
      · replace h := it c1 h
        exact hend _ _ _ _ _ h hP hD hS dX8_fresh_54
      · replace h := ie c1 h
        refine lv_aload_n hx hb dX8_fresh_38 rfl (lv_at hl 0 rfl) ?_
        refine va_get (D := (dC, dI)) (ci := 9) (v := .ref (q 23)) (C := RX8) (T := TX8) (N := 29) hx hb hts hinX8 hown hK hP 22 rfl rfl 5 (by decide) (hts (.fieldLink RX8 7 "CableTesterModel" "wires" "[I") (mm 7 rfl)) (fun _ h9 => h9) rfl dX8_fresh_39 ?_
        refine lv_iload_n hx hb dX8_fresh_42 rfl (lv_at hl 1 rfl) ?_
        refine lv_iload_n hx hb dX8_fresh_43 rfl (lv_at hl 1 rfl) ?_
        refine lv_bipush (v := (8 : Int32)) hx hb dX8_fresh_44 (by decide) ?_
        refine lv_irem hx hb dX8_fresh_46 (by decide) ?_
        obtain ⟨g2, h⟩ := gd h
        refine as_23 F hK hP hD hS (inb_ok g2) dX8_fresh_47 (fun H locs hP hD hS => ?_)
        refine lv_iinc (v := (x3 + (1 : Int32))) (lv' := [(3, .int (x3 + (1 : Int32))), (0, .ref (q 22))]) hx hb dX8_fresh_48 hl (k := 1) rfl rfl (by decide) rfl (fun ls hl => ?_)
        refine lv_goto (tgt := 32) hx hb dX8_fresh_51 (by decide) ?_
        exact ih _ _ _ _ _ hP hD hS (lv_sub hl [1, 0] rfl) h
  rw [mX8_fresh] at h
  refine lv_aload_n hx hb dX8_fresh_0 rfl (lv_at hl 0 rfl) ?_
  refine lv_iload_n hx hb dX8_fresh_1 rfl (lv_at hl 1 rfl) ?_
  refine pt_22_1 F hinX8 (hts (.fieldLink RX8 52 "CableTesterModel" "length" "I") (mm 1 rfl)) hK hP hD hS dX8_fresh_2 (fun H locs hP hD hS => ?_)
  refine lv_aload_n hx hb dX8_fresh_5 rfl (lv_at hl 0 rfl) ?_
  refine lv_iload_n hx hb dX8_fresh_6 rfl (lv_at hl 2 rfl) ?_
  refine pt_22_2 F hinX8 (hts (.fieldLink RX8 55 "CableTesterModel" "velocity" "I") (mm 2 rfl)) hK hP hD hS dX8_fresh_7 (fun H locs hP hD hS => ?_)
  refine lv_aload_n hx hb dX8_fresh_10 rfl (lv_at hl 0 rfl) ?_
  refine lv_iconst (v := (0 : Int32)) hx hb dX8_fresh_11 (by decide) ?_
  refine pt_22_3 F hinX8 (hts (.fieldLink RX8 58 "CableTesterModel" "remote" "I") (mm 3 rfl)) hK hP hD hS dX8_fresh_12 (fun H locs hP hD hS => ?_)
  refine lv_aload_n hx hb dX8_fresh_15 rfl (lv_at hl 0 rfl) ?_
  refine lv_iconst (v := (0 : Int32)) hx hb dX8_fresh_16 (by decide) ?_
  refine pt_22_4 F hinX8 (hts (.fieldLink RX8 61 "CableTesterModel" "tick" "I") (mm 4 rfl)) hK hP hD hS dX8_fresh_17 (fun H locs hP hD hS => ?_)
  refine lv_aload_n hx hb dX8_fresh_20 rfl (lv_at hl 0 rfl) ?_
  refine lv_iconst (v := (0 : Int32)) hx hb dX8_fresh_21 (by decide) ?_
  refine pt_22_7 F hinX8 (hts (.fieldLink RX8 64 "CableTesterModel" "many" "I") (mm 5 rfl)) hK hP hD hS dX8_fresh_22 (fun H locs hP hD hS => ?_)
  refine lv_aload_n hx hb dX8_fresh_25 rfl (lv_at hl 0 rfl) ?_
  refine lv_iconst (v := (0 : Int32)) hx hb dX8_fresh_26 (by decide) ?_
  refine pt_22_9 F hinX8 (hts (.fieldLink RX8 67 "CableTesterModel" "records" "I") (mm 6 rfl)) hK hP hD hS dX8_fresh_27 (fun H locs hP hD hS => ?_)
  refine lv_iconst (v := (0 : Int32)) hx hb dX8_fresh_30 (by decide) ?_
  refine lv_istore_n (lv' := [(3, .int (0 : Int32)), (0, .ref (q 22)), (1, .int x1), (2, .int x2)]) hx hb dX8_fresh_31 rfl hl (by decide) rfl (fun ls hl => ?_)
  exact hL32 _ _ _ _ _ _ hP hD hS (lv_sub hl [1, 0] rfl) h
def mX8_thrown (M : MS)  : Option (Int32) :=
  (some (M.1 0))
abbrev rmX8_thrown : Room := { frames := 0, cells := 0, slots := 0, locals := 0 }
theorem hdX8_thrown : yX8_thrown.cls = RX8 ∧ yX8_thrown.cls ≠ "java/lang/invoke/MethodHandle" ∧ yX8_thrown.cls ≠ "java/lang/invoke/VarHandle" ∧ (parseMethodDescriptor yX8_thrown.desc).map (fun d => d.parameters.length) = some 0 := by decide +kernel
set_option maxRecDepth 100000 in
set_option maxHeartbeats 8000000 in
theorem ctX8_thrown (l : Launch) (dC : Nat → ClassId) (dI : Nat → Nat → Nat) (cq : Nat → ClassId) (q : Nat → Nat) (S : CS) (M : MS) (o : Nat → Int64) (sz : Nat)  (rr : Int32) (h : mX8_thrown M = some rr) : CtR_i l yX8_thrown wsX8_thrown rmX8_thrown (fun _ => True) (fun _ => True) dC dI cq q S M o sz [.ref (q 22)] rr := by
  refine enR_i (cc := cX8_thrown) (maxL := 1) (by decide) rfl (Nat.le_of_ble_eq_true rfl) (fun p e s m args below meth c A Q ls F hA hP hK hD hDm hX hS hl hend => ?_)
  obtain ⟨hx, hb, hml, hown, hts⟩ := id F
  have hown : s.vm.findClass RX8 = some m.cls := hown
  have F : CallFix p m c cX8_thrown 1 s args wsX8_thrown RX8 := F
  have hl : lv_has ls 1 [(0, .ref (q 22))] := hl
  have hinX8 : ∀ w ∈ u_ws RX8 TX8 29, w ∈ wsX8_thrown := fun w h => List.mem_cons_of_mem _ (List.mem_append_right _ h)
  rw [mX8_thrown] at h
  refine lv_aload_n hx hb dX8_thrown_0 rfl (lv_at hl 0 rfl) ?_
  refine va_get (D := (dC, dI)) (ci := 9) (v := .int (M.1 0)) (C := RX8) (T := TX8) (N := 29) hx hb hts hinX8 hown hK hP 22 rfl rfl 0 (by decide) (hts (.fieldLink RX8 44 "CableTesterModel" "thrown" "I") (mm 1 rfl)) (fun _ h9 => h9) rfl dX8_thrown_1 ?_
  exact hend _ _ _ _ _ h hP hD hS dX8_thrown_4
def mX8_within (x0 : Int32) (x1 : Int32) (x2 : Int32) : Option (Int32) :=
  (if x0 < x1 then (some (0 : Int32)) else (if x2 < x0 then (some (0 : Int32)) else (some (1 : Int32))))
abbrev rmX8_within : Room := { frames := 0, cells := 0, slots := 0, locals := 0 }
theorem hdX8_within : yX8_within.cls ≠ "java/lang/invoke/MethodHandle" ∧ yX8_within.cls ≠ "java/lang/invoke/VarHandle" ∧ (parseMethodDescriptor yX8_within.desc).map (fun d => d.parameters.length) = some 3 := by decide +kernel
set_option maxRecDepth 100000 in
set_option maxHeartbeats 8000000 in
theorem ctX8_within (l : Launch) (dC : Nat → ClassId) (dI : Nat → Nat → Nat) (cq : Nat → ClassId) (q : Nat → Nat) (S : CS) (M : MS) (o : Nat → Int64) (sz : Nat) (x0 : Int32) (x1 : Int32) (x2 : Int32) (rr : Int32) (h : mX8_within x0 x1 x2 = some rr) : CtR_i l yX8_within wsX8_within rmX8_within (fun _ => True) (fun _ => True) dC dI cq q S M o sz [.int x0, .int x1, .int x2] rr := by
  refine enR_z (cc := cX8_within) (maxL := 3) (by decide) rfl (Nat.le_of_ble_eq_true rfl) (fun p e s m args below meth c A Q ls F hA hP hK hD hDm hX hS hl hend => ?_)
  obtain ⟨hx, hb, hml, hown, hts⟩ := id F
  have hown : s.vm.findClass RX8 = some m.cls := hown
  have F : CallFix p m c cX8_within 3 s args wsX8_within RX8 := F
  have hl : lv_has ls 3 [(0, .int x0), (1, .int x1), (2, .int x2)] := hl
  rw [mX8_within] at h
  refine lv_iload_n hx hb dX8_within_0 rfl (lv_at hl 0 rfl) ?_
  refine lv_iload_n hx hb dX8_within_1 rfl (lv_at hl 1 rfl) ?_
  refine lv_icmp_lt (tgt := 14) hx hb dX8_within_2 (by decide) (fun c1 => ?_) (fun c1 => ?_)
  · replace h := it c1 h
    refine lv_iconst (v := (0 : Int32)) hx hb dX8_within_14 (by decide) ?_
    exact hend _ _ _ _ _ h hP hD hS dX8_within_15 (by decide)
  · replace h := ie c1 h
    refine lv_iload_n hx hb dX8_within_5 rfl (lv_at hl 0 rfl) ?_
    refine lv_iload_n hx hb dX8_within_6 rfl (lv_at hl 2 rfl) ?_
    refine lv_icmp_gt (tgt := 14) hx hb dX8_within_7 (by decide) (fun c2 => ?_) (fun c2 => ?_)
    · replace h := it c2 h
      refine lv_iconst (v := (0 : Int32)) hx hb dX8_within_14 (by decide) ?_
      exact hend _ _ _ _ _ h hP hD hS dX8_within_15 (by decide)
    · replace h := ie c2 h
      refine lv_iconst (v := (1 : Int32)) hx hb dX8_within_10 (by decide) ?_
      refine lv_goto (tgt := 15) hx hb dX8_within_11 (by decide) ?_
      exact hend _ _ _ _ _ h hP hD hS dX8_within_15 (by decide)
def mX8_isWire (x0 : Int32) : Option (Int32) :=
  (bn (mX8_within x0 (0 : Int32) (7 : Int32)) fun r1 => (if bz r1 then (some r1) else none))
abbrev rmX8_isWire : Room := { frames := 1, cells := 0, slots := 0, locals := 22 }
theorem hdX8_isWire : yX8_isWire.cls ≠ "java/lang/invoke/MethodHandle" ∧ yX8_isWire.cls ≠ "java/lang/invoke/VarHandle" ∧ (parseMethodDescriptor yX8_isWire.desc).map (fun d => d.parameters.length) = some 1 := by decide +kernel
set_option maxRecDepth 100000 in
set_option maxHeartbeats 8000000 in
theorem ctX8_isWire (l : Launch) (dC : Nat → ClassId) (dI : Nat → Nat → Nat) (cq : Nat → ClassId) (q : Nat → Nat) (S : CS) (M : MS) (o : Nat → Int64) (sz : Nat) (x0 : Int32) (rr : Int32) (h : mX8_isWire x0 = some rr) : CtR_i l yX8_isWire wsX8_isWire rmX8_isWire (fun _ => True) (fun _ => True) dC dI cq q S M o sz [.int x0] rr := by
  refine enR_z (cc := cX8_isWire) (maxL := 1) (by decide) rfl (Nat.le_of_ble_eq_true rfl) (fun p e s m args below meth c A Q ls F hA hP hK hD hDm hX hS hl hend => ?_)
  obtain ⟨hx, hb, hml, hown, hts⟩ := id F
  have hown : s.vm.findClass RX8 = some m.cls := hown
  have F : CallFix p m c cX8_isWire 1 s args wsX8_isWire RX8 := F
  have hl : lv_has ls 1 [(0, .int x0)] := hl
  rw [mX8_isWire] at h
  refine lv_iload_n hx hb dX8_isWire_0 rfl (lv_at hl 0 rfl) ?_
  refine lv_iconst (v := (0 : Int32)) hx hb dX8_isWire_1 (by decide) ?_
  refine lv_bipush (v := (7 : Int32)) hx hb dX8_isWire_2 (by decide) ?_
  obtain ⟨r1, e2, h⟩ := bo h
  refine caSR_i (As := [.int x0, .int (0 : Int32), .int (7 : Int32)]) (rest := []) (ctX8_within l dC dI cq q S M o _ _ _ _ _ e2) F (va_cwS 3 hts gX8_isWire_X8_within rfl rfl rfl hdX8_within ⟨Nat.le_of_ble_eq_true rfl, Nat.le_of_ble_eq_true rfl⟩) hK hP hD hDm hS hA (fun _ _ _ _ _ => trivial) (fun _ _ _ => trivial) rfl hl.1 rfl (Nat.le_of_ble_eq_true rfl) dX8_isWire_4 ⟨Nat.zero_le _, Nat.zero_le _⟩ (fun H locs hP hD hS => ?_)
  obtain ⟨g3, h⟩ := gd h
  exact hend _ _ _ _ _ h hP hD hS dX8_isWire_7 (bz_ok g3)
def mX8_isEnd (x0 : Int32) : Option (Int32) :=
  (bn (mX8_within x0 (0 : Int32) (1 : Int32)) fun r1 => (if bz r1 then (some r1) else none))
abbrev rmX8_isEnd : Room := { frames := 1, cells := 0, slots := 0, locals := 22 }
theorem hdX8_isEnd : yX8_isEnd.cls ≠ "java/lang/invoke/MethodHandle" ∧ yX8_isEnd.cls ≠ "java/lang/invoke/VarHandle" ∧ (parseMethodDescriptor yX8_isEnd.desc).map (fun d => d.parameters.length) = some 1 := by decide +kernel
set_option maxRecDepth 100000 in
set_option maxHeartbeats 8000000 in
theorem ctX8_isEnd (l : Launch) (dC : Nat → ClassId) (dI : Nat → Nat → Nat) (cq : Nat → ClassId) (q : Nat → Nat) (S : CS) (M : MS) (o : Nat → Int64) (sz : Nat) (x0 : Int32) (rr : Int32) (h : mX8_isEnd x0 = some rr) : CtR_i l yX8_isEnd wsX8_isEnd rmX8_isEnd (fun _ => True) (fun _ => True) dC dI cq q S M o sz [.int x0] rr := by
  refine enR_z (cc := cX8_isEnd) (maxL := 1) (by decide) rfl (Nat.le_of_ble_eq_true rfl) (fun p e s m args below meth c A Q ls F hA hP hK hD hDm hX hS hl hend => ?_)
  obtain ⟨hx, hb, hml, hown, hts⟩ := id F
  have hown : s.vm.findClass RX8 = some m.cls := hown
  have F : CallFix p m c cX8_isEnd 1 s args wsX8_isEnd RX8 := F
  have hl : lv_has ls 1 [(0, .int x0)] := hl
  rw [mX8_isEnd] at h
  refine lv_iload_n hx hb dX8_isEnd_0 rfl (lv_at hl 0 rfl) ?_
  refine lv_iconst (v := (0 : Int32)) hx hb dX8_isEnd_1 (by decide) ?_
  refine lv_iconst (v := (1 : Int32)) hx hb dX8_isEnd_2 (by decide) ?_
  obtain ⟨r1, e2, h⟩ := bo h
  refine caSR_i (As := [.int x0, .int (0 : Int32), .int (1 : Int32)]) (rest := []) (ctX8_within l dC dI cq q S M o _ _ _ _ _ e2) F (va_cwS 3 hts gX8_isEnd_X8_within rfl rfl rfl hdX8_within ⟨Nat.le_of_ble_eq_true rfl, Nat.le_of_ble_eq_true rfl⟩) hK hP hD hDm hS hA (fun _ _ _ _ _ => trivial) (fun _ _ _ => trivial) rfl hl.1 rfl (Nat.le_of_ble_eq_true rfl) dX8_isEnd_3 ⟨Nat.zero_le _, Nat.zero_le _⟩ (fun H locs hP hD hS => ?_)
  obtain ⟨g3, h⟩ := gd h
  exact hend _ _ _ _ _ h hP hD hS dX8_isEnd_6 (bz_ok g3)
def mX8_of (M : MS) (x1 : Int32) (x2 : Int32) : Option (Int32) :=
  (if inb (((6 : Int32) * x1) + x2) 60 then (some (M.2.1 24 (((6 : Int32) * x1) + x2).toNatClampNeg)) else none)
abbrev rmX8_of : Room := { frames := 0, cells := 0, slots := 0, locals := 0 }
theorem hdX8_of : yX8_of.cls = RX8 ∧ yX8_of.cls ≠ "java/lang/invoke/MethodHandle" ∧ yX8_of.cls ≠ "java/lang/invoke/VarHandle" ∧ (parseMethodDescriptor yX8_of.desc).map (fun d => d.parameters.length) = some 2 := by decide +kernel
set_option maxRecDepth 100000 in
set_option maxHeartbeats 8000000 in
theorem ctX8_of (l : Launch) (dC : Nat → ClassId) (dI : Nat → Nat → Nat) (cq : Nat → ClassId) (q : Nat → Nat) (S : CS) (M : MS) (o : Nat → Int64) (sz : Nat) (x1 : Int32) (x2 : Int32) (rr : Int32) (h : mX8_of M x1 x2 = some rr) : CtR_i l yX8_of wsX8_of rmX8_of (fun _ => True) (fun _ => True) dC dI cq q S M o sz [.ref (q 22), .int x1, .int x2] rr := by
  refine enR_i (cc := cX8_of) (maxL := 3) (by decide) rfl (Nat.le_of_ble_eq_true rfl) (fun p e s m args below meth c A Q ls F hA hP hK hD hDm hX hS hl hend => ?_)
  obtain ⟨hx, hb, hml, hown, hts⟩ := id F
  have hown : s.vm.findClass RX8 = some m.cls := hown
  have F : CallFix p m c cX8_of 3 s args wsX8_of RX8 := F
  have hl : lv_has ls 3 [(0, .ref (q 22)), (1, .int x1), (2, .int x2)] := hl
  have hinX8 : ∀ w ∈ u_ws RX8 TX8 29, w ∈ wsX8_of := fun w h => List.mem_cons_of_mem _ (List.mem_append_right _ h)
  rw [mX8_of] at h
  refine lv_aload_n hx hb dX8_of_0 rfl (lv_at hl 0 rfl) ?_
  refine va_get (D := (dC, dI)) (ci := 9) (v := .ref (q 24)) (C := RX8) (T := TX8) (N := 29) hx hb hts hinX8 hown hK hP 22 rfl rfl 6 (by decide) (hts (.fieldLink RX8 13 "CableTesterModel" "faults" "[I") (mm 1 rfl)) (fun _ h9 => h9) rfl dX8_of_1 ?_
  refine lv_bipush (v := (6 : Int32)) hx hb dX8_of_4 (by decide) ?_
  refine lv_iload_n hx hb dX8_of_6 rfl (lv_at hl 1 rfl) ?_
  refine lv_imul hx hb dX8_of_7 ?_
  refine lv_iload_n hx hb dX8_of_8 rfl (lv_at hl 2 rfl) ?_
  refine lv_iadd hx hb dX8_of_9 ?_
  obtain ⟨g1, h⟩ := gd h
  refine va_iald (D := (dC, dI)) hx hb hK hP 24 13 rfl rfl (inb_ok g1) dX8_of_10 ?_
  exact hend _ _ _ _ _ h hP hD hS dX8_of_11
def mX8_isPresent (M : MS) (x1 : Int32) (x2 : Int32) : Option (Int32) :=
  (bn (mX8_of M x1 (4 : Int32)) fun r1 => (if ¬ r1 = 0 then (bn (mX8_of M x1 (5 : Int32)) fun r4 => (if r4 ≤ (x2 - x2 / r1 * r1) then (some (0 : Int32)) else (some (1 : Int32)))) else none))
abbrev rmX8_isPresent : Room := { frames := 1, cells := 0, slots := 0, locals := 22 }
theorem hdX8_isPresent : yX8_isPresent.cls = RX8 ∧ yX8_isPresent.cls ≠ "java/lang/invoke/MethodHandle" ∧ yX8_isPresent.cls ≠ "java/lang/invoke/VarHandle" ∧ (parseMethodDescriptor yX8_isPresent.desc).map (fun d => d.parameters.length) = some 2 := by decide +kernel
set_option maxRecDepth 100000 in
set_option maxHeartbeats 8000000 in
theorem ctX8_isPresent (l : Launch) (dC : Nat → ClassId) (dI : Nat → Nat → Nat) (cq : Nat → ClassId) (q : Nat → Nat) (S : CS) (M : MS) (o : Nat → Int64) (sz : Nat) (x1 : Int32) (x2 : Int32) (rr : Int32) (h : mX8_isPresent M x1 x2 = some rr) : CtR_i l yX8_isPresent wsX8_isPresent rmX8_isPresent (fun _ => True) (fun _ => True) dC dI cq q S M o sz [.ref (q 22), .int x1, .int x2] rr := by
  refine enR_z (cc := cX8_isPresent) (maxL := 3) (by decide) rfl (Nat.le_of_ble_eq_true rfl) (fun p e s m args below meth c A Q ls F hA hP hK hD hDm hX hS hl hend => ?_)
  obtain ⟨hx, hb, hml, hown, hts⟩ := id F
  have hown : s.vm.findClass RX8 = some m.cls := hown
  have F : CallFix p m c cX8_isPresent 3 s args wsX8_isPresent RX8 := F
  have hl : lv_has ls 3 [(0, .ref (q 22)), (1, .int x1), (2, .int x2)] := hl
  rw [mX8_isPresent] at h
  refine lv_iload_n hx hb dX8_isPresent_0 rfl (lv_at hl 2 rfl) ?_
  refine lv_aload_n hx hb dX8_isPresent_1 rfl (lv_at hl 0 rfl) ?_
  refine lv_iload_n hx hb dX8_isPresent_2 rfl (lv_at hl 1 rfl) ?_
  refine lv_iconst (v := (4 : Int32)) hx hb dX8_isPresent_3 (by decide) ?_
  obtain ⟨r1, e2, h⟩ := bo h
  refine caVR_i (As := [.int x1, .int (4 : Int32)]) (rest := [.int x2]) (ctX8_of l dC dI cq q S M o _ _ _ _ e2) F (cwV 2 hts gX8_isPresent_X8_of rfl rfl rfl hdX8_of ⟨Nat.le_of_ble_eq_true rfl, Nat.le_of_ble_eq_true rfl⟩) hK hP hD hDm hS hA (fun _ _ _ _ _ => trivial) (fun _ _ _ => trivial) (va_recv hK hP (ci := 9) (q0 := 22) rfl rfl) rfl hl.1 rfl (Nat.le_of_ble_eq_true rfl) dX8_isPresent_4 ⟨Nat.zero_le _, Nat.zero_le _⟩ (fun H locs hP hD hS => ?_)
  obtain ⟨g3, h⟩ := gd h
  refine lv_irem hx hb dX8_isPresent_7 g3 ?_
  refine lv_aload_n hx hb dX8_isPresent_8 rfl (lv_at hl 0 rfl) ?_
  refine lv_iload_n hx hb dX8_isPresent_9 rfl (lv_at hl 1 rfl) ?_
  refine lv_iconst (v := (5 : Int32)) hx hb dX8_isPresent_10 (by decide) ?_
  obtain ⟨r4, e5, h⟩ := bo h
  refine caVR_i (As := [.int x1, .int (5 : Int32)]) (rest := [.int (x2 - x2 / r1 * r1)]) (ctX8_of l dC dI cq q S M o _ _ _ _ e5) F (cwV 2 hts gX8_isPresent_X8_of rfl rfl rfl hdX8_of ⟨Nat.le_of_ble_eq_true rfl, Nat.le_of_ble_eq_true rfl⟩) hK hP hD hDm hS hA (fun _ _ _ _ _ => trivial) (fun _ _ _ => trivial) (va_recv hK hP (ci := 9) (q0 := 22) rfl rfl) rfl hl.1 rfl (Nat.le_of_ble_eq_true rfl) dX8_isPresent_11 ⟨Nat.zero_le _, Nat.zero_le _⟩ (fun H locs hP hD hS => ?_)
  refine lv_icmp_ge (tgt := 21) hx hb dX8_isPresent_14 (by decide) (fun c6 => ?_) (fun c6 => ?_)
  · replace h := it c6 h
    refine lv_iconst (v := (0 : Int32)) hx hb dX8_isPresent_21 (by decide) ?_
    exact hend _ _ _ _ _ h hP hD hS dX8_isPresent_22 (by decide)
  · replace h := ie c6 h
    refine lv_iconst (v := (1 : Int32)) hx hb dX8_isPresent_17 (by decide) ?_
    refine lv_goto (tgt := 22) hx hb dX8_isPresent_18 (by decide) ?_
    exact hend _ _ _ _ _ h hP hD hS dX8_isPresent_22 (by decide)
def mX8_root_2 (n : Nat)  (M : MS)  : Nat → Int32 → Option (Int32)
  | 0, _ => none
  | k + 1, x2 => (if inb x2 88 then (if (M.2.1 27 x2.toNatClampNeg) = x2 then (some x2) else (if inb x2 88 then (mX8_root_2 n M k (M.2.1 27 x2.toNatClampNeg)) else none)) else none)
def mX8_root (n : Nat) (M : MS) (x1 : Int32) : Option (Int32) :=
  (mX8_root_2 n M n x1)
abbrev rmX8_root : Room := { frames := 0, cells := 0, slots := 0, locals := 0 }
theorem hdX8_root : yX8_root.cls = RX8 ∧ yX8_root.cls ≠ "java/lang/invoke/MethodHandle" ∧ yX8_root.cls ≠ "java/lang/invoke/VarHandle" ∧ (parseMethodDescriptor yX8_root.desc).map (fun d => d.parameters.length) = some 1 := by decide +kernel
set_option maxRecDepth 100000 in
set_option maxHeartbeats 8000000 in
theorem ctX8_root (l : Launch) (dC : Nat → ClassId) (dI : Nat → Nat → Nat) (cq : Nat → ClassId) (q : Nat → Nat) (S : CS) (M : MS) (o : Nat → Int64) (sz : Nat) (n : Nat) (x1 : Int32) (rr : Int32) (h : mX8_root n M x1 = some rr) : CtR_i l yX8_root wsX8_root rmX8_root (fun _ => True) (fun _ => True) dC dI cq q S M o sz [.ref (q 22), .int x1] rr := by
  refine enR_i (cc := cX8_root) (maxL := 3) (by decide) rfl (Nat.le_of_ble_eq_true rfl) (fun p e s m args below meth c A Q ls F hA hP hK hD hDm hX hS hl hend => ?_)
  obtain ⟨hx, hb, hml, hown, hts⟩ := id F
  have hown : s.vm.findClass RX8 = some m.cls := hown
  have F : CallFix p m c cX8_root 3 s args wsX8_root RX8 := F
  have hl : lv_has ls 3 [(0, .ref (q 22)), (1, .int x1)] := hl
  have hinX8 : ∀ w ∈ u_ws RX8 TX8 29, w ∈ wsX8_root := fun w h => List.mem_cons_of_mem _ (List.mem_append_right _ h)
  have hL2 : ∀   (k : Nat)  (x2 : Int32) (H : Heap) (locs : List Loc) (ls : Array Slot), va_P (dC, dI) vwCl (wA cq q S M o) H → va_D A (wA cq q S M o) → va_S A s.heap H locs → lv_has ls 3 [(0, .ref (q 22)), (2, .int x2)] → mX8_root_2 n M k x2 = some rr → W p l e rmX8_root s m args below meth c H locs 0 0 Q (F0 m 2 ls []) := by
    intro k
    induction k with
    | zero =>
      intro x2 H locs ls hP hD hS hl h
      rw [mX8_root_2] at h
      cases h
    | succ k ih =>
      intro x2 H locs ls hP hD hS hl h
      rw [mX8_root_2] at h
      refine lv_aload_n hx hb dX8_root_2 rfl (lv_at hl 0 rfl) ?_
      refine va_get (D := (dC, dI)) (ci := 9) (v := .ref (q 27)) (C := RX8) (T := TX8) (N := 29) hx hb hts hinX8 hown hK hP 22 rfl rfl 12 (by decide) (hts (.fieldLink RX8 22 "CableTesterModel" "parents" "[I") (mm 1 rfl)) (fun _ h9 => h9) rfl dX8_root_3 ?_
      refine lv_iload_n hx hb dX8_root_6 rfl (lv_at hl 1 rfl) ?_
      obtain ⟨g1, h⟩ := gd h
      refine va_iald (D := (dC, dI)) hx hb hK hP 27 16 rfl rfl (inb_ok g1) dX8_root_7 ?_
      refine lv_iload_n hx hb dX8_root_8 rfl (lv_at hl 1 rfl) ?_
      refine lv_icmp_eq (tgt := 22) hx hb dX8_root_9 (by decide) (fun c2 => ?_) (fun c2 => ?_)
      · replace h := it c2 h
        refine lv_iload_n hx hb dX8_root_22 rfl (lv_at hl 1 rfl) ?_
        exact hend _ _ _ _ _ h hP hD hS dX8_root_23
      · replace h := ie c2 h
        refine lv_aload_n hx hb dX8_root_12 rfl (lv_at hl 0 rfl) ?_
        refine va_get (D := (dC, dI)) (ci := 9) (v := .ref (q 27)) (C := RX8) (T := TX8) (N := 29) hx hb hts hinX8 hown hK hP 22 rfl rfl 12 (by decide) (hts (.fieldLink RX8 22 "CableTesterModel" "parents" "[I") (mm 1 rfl)) (fun _ h9 => h9) rfl dX8_root_13 ?_
        refine lv_iload_n hx hb dX8_root_16 rfl (lv_at hl 1 rfl) ?_
        obtain ⟨g3, h⟩ := gd h
        refine va_iald (D := (dC, dI)) hx hb hK hP 27 16 rfl rfl (inb_ok g3) dX8_root_17 ?_
        refine lv_istore_n (lv' := [(2, .int (M.2.1 27 x2.toNatClampNeg)), (0, .ref (q 22))]) hx hb dX8_root_18 rfl hl (by decide) rfl (fun ls hl => ?_)
        refine lv_goto (tgt := 2) hx hb dX8_root_19 (by decide) ?_
        exact ih _ _ _ _ hP hD hS (lv_sub hl [1, 0] rfl) h
  rw [mX8_root] at h
  refine lv_iload_n hx hb dX8_root_0 rfl (lv_at hl 1 rfl) ?_
  refine lv_istore_n (lv' := [(2, .int x1), (0, .ref (q 22)), (1, .int x1)]) hx hb dX8_root_1 rfl hl (by decide) rfl (fun ls hl => ?_)
  exact hL2 _ _ _ _ _ hP hD hS (lv_sub hl [1, 0] rfl) h
def mX8_piece_64 (n : Nat) (K6 : Int32 → Int32 → Option (Int32)) (M : MS) (x1 : Int32) (x2 : Int32) (x3 : Int32) (x5 : Int32) (t0 : Int32) (t1 : Int32) : Option (Int32) :=
  (K6 (t1 + t0) (x5 + (1 : Int32)))
def mX8_piece_63 (n : Nat) (K6 : Int32 → Int32 → Option (Int32)) (M : MS) (x1 : Int32) (x2 : Int32) (x3 : Int32) (x5 : Int32) (t0 : Int32) : Option (Int32) :=
  (mX8_piece_64 n (K6) M x1 x2 x3 x5 (0 : Int32) t0)
def mX8_piece_6 (n : Nat)  (M : MS) (x1 : Int32) (x2 : Int32) (x3 : Int32) : Nat → Int32 → Int32 → Option (Int32)
  | 0, _, _ => none
  | k + 1, x4, x5 => (if (M.1 7) ≤ x5 then (some (((11 : Int32) * x1) + x4)) else (bn (mX8_of M x5 (0 : Int32)) fun r2 => (if r2 = (0 : Int32) then (bn (mX8_of M x5 (1 : Int32)) fun r5 => (if r5 = x1 then (bn (mX8_of M x5 (3 : Int32)) fun r8 => (if x2 ≤ r8 then (mX8_piece_63 n (mX8_piece_6 n M x1 x2 x3 k) M x1 x2 x3 x5 x4) else (bn (mX8_isPresent M x5 x3) fun r11 => (if r11 = (0 : Int32) then (mX8_piece_63 n (mX8_piece_6 n M x1 x2 x3 k) M x1 x2 x3 x5 x4) else (mX8_piece_64 n (mX8_piece_6 n M x1 x2 x3 k) M x1 x2 x3 x5 (1 : Int32) x4))))) else (mX8_piece_63 n (mX8_piece_6 n M x1 x2 x3 k) M x1 x2 x3 x5 x4))) else (mX8_piece_63 n (mX8_piece_6 n M x1 x2 x3 k) M x1 x2 x3 x5 x4))))
def mX8_piece (n : Nat) (M : MS) (x1 : Int32) (x2 : Int32) (x3 : Int32) : Option (Int32) :=
  (mX8_piece_6 n M x1 x2 x3 n (0 : Int32) (0 : Int32))
abbrev rmX8_piece : Room := { frames := 2, cells := 0, slots := 0, locals := 44 }
theorem hdX8_piece : yX8_piece.cls = RX8 ∧ yX8_piece.cls ≠ "java/lang/invoke/MethodHandle" ∧ yX8_piece.cls ≠ "java/lang/invoke/VarHandle" ∧ (parseMethodDescriptor yX8_piece.desc).map (fun d => d.parameters.length) = some 3 := by decide +kernel
set_option maxRecDepth 100000 in
set_option maxHeartbeats 8000000 in
theorem ctX8_piece (l : Launch) (dC : Nat → ClassId) (dI : Nat → Nat → Nat) (cq : Nat → ClassId) (q : Nat → Nat) (S : CS) (M : MS) (o : Nat → Int64) (sz : Nat) (n : Nat) (x1 : Int32) (x2 : Int32) (x3 : Int32) (rr : Int32) (h : mX8_piece n M x1 x2 x3 = some rr) : CtR_i l yX8_piece wsX8_piece rmX8_piece (fun _ => True) (fun _ => True) dC dI cq q S M o sz [.ref (q 22), .int x1, .int x2, .int x3] rr := by
  refine enR_i (cc := cX8_piece) (maxL := 6) (by decide) rfl (Nat.le_of_ble_eq_true rfl) (fun p e s m args below meth c A Q ls F hA hP hK hD hDm hX hS hl hend => ?_)
  obtain ⟨hx, hb, hml, hown, hts⟩ := id F
  have hown : s.vm.findClass RX8 = some m.cls := hown
  have F : CallFix p m c cX8_piece 6 s args wsX8_piece RX8 := F
  have hl : lv_has ls 6 [(0, .ref (q 22)), (1, .int x1), (2, .int x2), (3, .int x3)] := hl
  have hinX8 : ∀ w ∈ u_ws RX8 TX8 29, w ∈ wsX8_piece := fun w h => List.mem_cons_of_mem _ (List.mem_append_right _ h)
  have hj64 : ∀  (x1 : Int32) (x2 : Int32) (x3 : Int32) (x5 : Int32) (t0 : Int32) (t1 : Int32) (K6 : Int32 → Int32 → Option (Int32)) (hK6 : ∀ (y4 : Int32) (y5 : Int32) (H : Heap) (locs : List Loc) (ls : Array Slot), va_P (dC, dI) vwCl (wA cq q S M o) H → va_D A (wA cq q S M o) → va_S A s.heap H locs → lv_has ls 6 [(0, .ref (q 22)), (1, .int x1), (2, .int x2), (3, .int x3), (4, .int y4), (5, .int y5)] → K6 y4 y5 = some rr → W p l e rmX8_piece s m args below meth c H locs 0 0 Q (F0 m 6 ls [])) (H : Heap) (locs : List Loc) (ls : Array Slot), va_P (dC, dI) vwCl (wA cq q S M o) H → va_D A (wA cq q S M o) → va_S A s.heap H locs → lv_has ls 6 [(0, .ref (q 22)), (1, .int x1), (2, .int x2), (3, .int x3), (5, .int x5)] → mX8_piece_64 n K6 M x1 x2 x3 x5 t0 t1 = some rr → W p l e rmX8_piece s m args below meth c H locs 0 0 Q (F0 m 64 ls [.int t0, .int t1]) := by
    intro x1 x2 x3 x5 t0 t1 K6 hK6 H locs ls hP hD hS hl h
    rw [mX8_piece_64] at h
    refine lv_iadd hx hb dX8_piece_64 ?_
    refine lv_istore (lv' := [(4, .int (t1 + t0)), (0, .ref (q 22)), (1, .int x1), (2, .int x2), (3, .int x3), (5, .int x5)]) hx hb dX8_piece_65 hl (by decide) rfl (fun ls hl => ?_)
    refine lv_iinc (v := (x5 + (1 : Int32))) (lv' := [(5, .int (x5 + (1 : Int32))), (4, .int (t1 + t0)), (0, .ref (q 22)), (1, .int x1), (2, .int x2), (3, .int x3)]) hx hb dX8_piece_67 hl (k := 5) rfl rfl (by decide) rfl (fun ls hl => ?_)
    refine lv_goto (tgt := 6) hx hb dX8_piece_70 (by decide) ?_
    exact hK6 _ _ _ _ _ hP hD hS (lv_sub hl [2, 3, 4, 5, 1, 0] rfl) h
  have hj63 : ∀  (x1 : Int32) (x2 : Int32) (x3 : Int32) (x5 : Int32) (t0 : Int32) (K6 : Int32 → Int32 → Option (Int32)) (hK6 : ∀ (y4 : Int32) (y5 : Int32) (H : Heap) (locs : List Loc) (ls : Array Slot), va_P (dC, dI) vwCl (wA cq q S M o) H → va_D A (wA cq q S M o) → va_S A s.heap H locs → lv_has ls 6 [(0, .ref (q 22)), (1, .int x1), (2, .int x2), (3, .int x3), (4, .int y4), (5, .int y5)] → K6 y4 y5 = some rr → W p l e rmX8_piece s m args below meth c H locs 0 0 Q (F0 m 6 ls [])) (H : Heap) (locs : List Loc) (ls : Array Slot), va_P (dC, dI) vwCl (wA cq q S M o) H → va_D A (wA cq q S M o) → va_S A s.heap H locs → lv_has ls 6 [(0, .ref (q 22)), (1, .int x1), (2, .int x2), (3, .int x3), (5, .int x5)] → mX8_piece_63 n K6 M x1 x2 x3 x5 t0 = some rr → W p l e rmX8_piece s m args below meth c H locs 0 0 Q (F0 m 63 ls [.int t0]) := by
    intro x1 x2 x3 x5 t0 K6 hK6 H locs ls hP hD hS hl h
    rw [mX8_piece_63] at h
    refine lv_iconst (v := (0 : Int32)) hx hb dX8_piece_63 (by decide) ?_
    exact hj64 _ _ _ _ _ _ _ hK6 _ _ _ hP hD hS (lv_sub hl [0, 1, 2, 3, 4] rfl) h
  have hL6 : ∀ (x1 : Int32) (x2 : Int32) (x3 : Int32)  (k : Nat)  (x4 : Int32) (x5 : Int32) (H : Heap) (locs : List Loc) (ls : Array Slot), va_P (dC, dI) vwCl (wA cq q S M o) H → va_D A (wA cq q S M o) → va_S A s.heap H locs → lv_has ls 6 [(0, .ref (q 22)), (1, .int x1), (2, .int x2), (3, .int x3), (4, .int x4), (5, .int x5)] → mX8_piece_6 n M x1 x2 x3 k x4 x5 = some rr → W p l e rmX8_piece s m args below meth c H locs 0 0 Q (F0 m 6 ls []) := by
    intro x1 x2 x3
    intro k
    induction k with
    | zero =>
      intro x4 x5 H locs ls hP hD hS hl h
      rw [mX8_piece_6] at h
      cases h
    | succ k ih =>
      intro x4 x5 H locs ls hP hD hS hl h
      rw [mX8_piece_6] at h
      refine lv_iload hx hb dX8_piece_6 (lv_at hl 5 rfl) ?_
      refine lv_aload_n hx hb dX8_piece_8 rfl (lv_at hl 0 rfl) ?_
      refine va_get (D := (dC, dI)) (ci := 9) (v := .int (M.1 7)) (C := RX8) (T := TX8) (N := 29) hx hb hts hinX8 hown hK hP 22 rfl rfl 7 (by decide) (hts (.fieldLink RX8 64 "CableTesterModel" "many" "I") (mm 1 rfl)) (fun _ h9 => h9) rfl dX8_piece_9 ?_
      refine lv_icmp_ge (tgt := 73) hx hb dX8_piece_12 (by decide) (fun c1 => ?_) (fun c1 => ?_)
      · replace h := it c1 h
        refine lv_bipush (v := (11 : Int32)) hx hb dX8_piece_73 (by decide) ?_
        refine lv_iload_n hx hb dX8_piece_75 rfl (lv_at hl 1 rfl) ?_
        refine lv_imul hx hb dX8_piece_76 ?_
        refine lv_iload hx hb dX8_piece_77 (lv_at hl 4 rfl) ?_
        refine lv_iadd hx hb dX8_piece_79 ?_
        exact hend _ _ _ _ _ h hP hD hS dX8_piece_80
      · replace h := ie c1 h
        refine lv_iload hx hb dX8_piece_15 (lv_at hl 4 rfl) ?_
        refine lv_aload_n hx hb dX8_piece_17 rfl (lv_at hl 0 rfl) ?_
        refine lv_iload hx hb dX8_piece_18 (lv_at hl 5 rfl) ?_
        refine lv_iconst (v := (0 : Int32)) hx hb dX8_piece_20 (by decide) ?_
        obtain ⟨r2, e3, h⟩ := bo h
        refine caVR_i (As := [.int x5, .int (0 : Int32)]) (rest := [.int x4]) (ctX8_of l dC dI cq q S M o _ _ _ _ e3) F (cwV 2 hts gX8_piece_X8_of rfl rfl rfl hdX8_of ⟨Nat.le_of_ble_eq_true rfl, Nat.le_of_ble_eq_true rfl⟩) hK hP hD hDm hS hA (fun _ _ _ _ _ => trivial) (fun _ _ _ => trivial) (va_recv hK hP (ci := 9) (q0 := 22) rfl rfl) rfl hl.1 rfl (Nat.le_of_ble_eq_true rfl) dX8_piece_21 ⟨Nat.zero_le _, Nat.zero_le _⟩ (fun H locs hP hD hS => ?_)
        refine lv_if_ne (tgt := 63) hx hb dX8_piece_24 (by decide) (fun c4 => ?_) (fun c4 => ?_)
        · replace h := ie c4 h
          exact hj63 _ _ _ _ _ _ ih _ _ _ hP hD hS (lv_sub hl [0, 1, 2, 3, 5] rfl) h
        · replace h := it c4 h
          refine lv_aload_n hx hb dX8_piece_27 rfl (lv_at hl 0 rfl) ?_
          refine lv_iload hx hb dX8_piece_28 (lv_at hl 5 rfl) ?_
          refine lv_iconst (v := (1 : Int32)) hx hb dX8_piece_30 (by decide) ?_
          obtain ⟨r5, e6, h⟩ := bo h
          refine caVR_i (As := [.int x5, .int (1 : Int32)]) (rest := [.int x4]) (ctX8_of l dC dI cq q S M o _ _ _ _ e6) F (cwV 2 hts gX8_piece_X8_of rfl rfl rfl hdX8_of ⟨Nat.le_of_ble_eq_true rfl, Nat.le_of_ble_eq_true rfl⟩) hK hP hD hDm hS hA (fun _ _ _ _ _ => trivial) (fun _ _ _ => trivial) (va_recv hK hP (ci := 9) (q0 := 22) rfl rfl) rfl hl.1 rfl (Nat.le_of_ble_eq_true rfl) dX8_piece_31 ⟨Nat.zero_le _, Nat.zero_le _⟩ (fun H locs hP hD hS => ?_)
          refine lv_iload_n hx hb dX8_piece_34 rfl (lv_at hl 1 rfl) ?_
          refine lv_icmp_ne (tgt := 63) hx hb dX8_piece_35 (by decide) (fun c7 => ?_) (fun c7 => ?_)
          · replace h := ie c7 h
            exact hj63 _ _ _ _ _ _ ih _ _ _ hP hD hS (lv_sub hl [0, 1, 2, 3, 5] rfl) h
          · replace h := it c7 h
            refine lv_aload_n hx hb dX8_piece_38 rfl (lv_at hl 0 rfl) ?_
            refine lv_iload hx hb dX8_piece_39 (lv_at hl 5 rfl) ?_
            refine lv_iconst (v := (3 : Int32)) hx hb dX8_piece_41 (by decide) ?_
            obtain ⟨r8, e9, h⟩ := bo h
            refine caVR_i (As := [.int x5, .int (3 : Int32)]) (rest := [.int x4]) (ctX8_of l dC dI cq q S M o _ _ _ _ e9) F (cwV 2 hts gX8_piece_X8_of rfl rfl rfl hdX8_of ⟨Nat.le_of_ble_eq_true rfl, Nat.le_of_ble_eq_true rfl⟩) hK hP hD hDm hS hA (fun _ _ _ _ _ => trivial) (fun _ _ _ => trivial) (va_recv hK hP (ci := 9) (q0 := 22) rfl rfl) rfl hl.1 rfl (Nat.le_of_ble_eq_true rfl) dX8_piece_42 ⟨Nat.zero_le _, Nat.zero_le _⟩ (fun H locs hP hD hS => ?_)
            refine lv_iload_n hx hb dX8_piece_45 rfl (lv_at hl 2 rfl) ?_
            refine lv_icmp_ge (tgt := 63) hx hb dX8_piece_46 (by decide) (fun c10 => ?_) (fun c10 => ?_)
            · replace h := it c10 h
              exact hj63 _ _ _ _ _ _ ih _ _ _ hP hD hS (lv_sub hl [0, 1, 2, 3, 5] rfl) h
            · replace h := ie c10 h
              refine lv_aload_n hx hb dX8_piece_49 rfl (lv_at hl 0 rfl) ?_
              refine lv_iload hx hb dX8_piece_50 (lv_at hl 5 rfl) ?_
              refine lv_iload_n hx hb dX8_piece_52 rfl (lv_at hl 3 rfl) ?_
              obtain ⟨r11, e12, h⟩ := bo h
              refine caVR_i (As := [.int x5, .int x3]) (rest := [.int x4]) (ctX8_isPresent l dC dI cq q S M o _ _ _ _ e12) F (cwV 2 hts gX8_piece_X8_isPresent rfl rfl rfl hdX8_isPresent ⟨Nat.le_of_ble_eq_true rfl, Nat.le_of_ble_eq_true rfl⟩) hK hP hD hDm hS hA (fun _ _ _ _ _ => trivial) (fun _ _ _ => trivial) (va_recv hK hP (ci := 9) (q0 := 22) rfl rfl) rfl hl.1 rfl (Nat.le_of_ble_eq_true rfl) dX8_piece_53 ⟨Nat.zero_le _, Nat.zero_le _⟩ (fun H locs hP hD hS => ?_)
              refine lv_if_eq (tgt := 63) hx hb dX8_piece_56 (by decide) (fun c13 => ?_) (fun c13 => ?_)
              · replace h := it c13 h
                exact hj63 _ _ _ _ _ _ ih _ _ _ hP hD hS (lv_sub hl [0, 1, 2, 3, 5] rfl) h
              · replace h := ie c13 h
                refine lv_iconst (v := (1 : Int32)) hx hb dX8_piece_59 (by decide) ?_
                refine lv_goto (tgt := 64) hx hb dX8_piece_60 (by decide) ?_
                exact hj64 _ _ _ _ _ _ _ ih _ _ _ hP hD hS (lv_sub hl [0, 1, 2, 3, 5] rfl) h
  rw [mX8_piece] at h
  refine lv_iconst (v := (0 : Int32)) hx hb dX8_piece_0 (by decide) ?_
  refine lv_istore (lv' := [(4, .int (0 : Int32)), (0, .ref (q 22)), (1, .int x1), (2, .int x2), (3, .int x3)]) hx hb dX8_piece_1 hl (by decide) rfl (fun ls hl => ?_)
  refine lv_iconst (v := (0 : Int32)) hx hb dX8_piece_3 (by decide) ?_
  refine lv_istore (lv' := [(5, .int (0 : Int32)), (4, .int (0 : Int32)), (0, .ref (q 22)), (1, .int x1), (2, .int x2), (3, .int x3)]) hx hb dX8_piece_4 hl (by decide) rfl (fun ls hl => ?_)
  exact hL6 _ _ _ _ _ _ _ _ _ hP hD hS (lv_sub hl [2, 3, 4, 5, 1, 0] rfl) h
def mX8_lay_103 (n : Nat) (K23 : MS → Int32 → Option (MS)) (M : MS) (x1 : Int32) (x2 : Int32)  : Option (MS) :=
  (K23 M (x2 + (1 : Int32)))
def mX8_lay_23 (n : Nat)  (x1 : Int32) : Nat → MS → Int32 → Option (MS)
  | 0, _, _ => none
  | k + 1, M, x2 => (if (M.1 7) ≤ x2 then (some M) else (bn (mX8_of M x2 (0 : Int32)) fun r3 => (if r3 = (1 : Int32) then (bn (mX8_isPresent M x2 x1) fun r6 => (if r6 = (0 : Int32) then (mX8_lay_103 n (mX8_lay_23 n x1 k) M x1 x2) else (bn (mX8_of M x2 (1 : Int32)) fun r9 => (bn (mX8_of M x2 (3 : Int32)) fun r11 => (bn (mX8_piece n M r9 r11 x1) fun r13 => (bn (mX8_root n M r13) fun r15 => (bn (mX8_of M x2 (2 : Int32)) fun r17 => (bn (mX8_of M x2 (3 : Int32)) fun r19 => (bn (mX8_piece n M r17 r19 x1) fun r21 => (bn (mX8_root n M r21) fun r23 => (if inb r15 88 then (mX8_lay_103 n (mX8_lay_23 n x1 k) (sB M 27 r15.toNatClampNeg r23) x1 x2) else none))))))))))) else (mX8_lay_103 n (mX8_lay_23 n x1 k) M x1 x2))))
def mX8_lay_2 (n : Nat)  (x1 : Int32) : Nat → MS → Int32 → Option (MS)
  | 0, _, _ => none
  | k + 1, M, x2 => (if (88 : Int32) ≤ x2 then (mX8_lay_23 n x1 n M (0 : Int32)) else (if inb x2 88 then (mX8_lay_2 n x1 k (sB M 27 x2.toNatClampNeg x2) (x2 + (1 : Int32))) else none))
def mX8_lay (n : Nat) (M : MS) (x1 : Int32) : Option (MS) :=
  (mX8_lay_2 n x1 n M (0 : Int32))
abbrev rmX8_lay : Room := { frames := 3, cells := 0, slots := 0, locals := 69 }
theorem hdX8_lay : yX8_lay.cls = RX8 ∧ yX8_lay.cls ≠ "java/lang/invoke/MethodHandle" ∧ yX8_lay.cls ≠ "java/lang/invoke/VarHandle" ∧ (parseMethodDescriptor yX8_lay.desc).map (fun d => d.parameters.length) = some 1 := by decide +kernel
set_option maxRecDepth 100000 in
set_option maxHeartbeats 8000000 in
theorem ctX8_lay (l : Launch) (dC : Nat → ClassId) (dI : Nat → Nat → Nat) (cq : Nat → ClassId) (q : Nat → Nat) (S : CS) (M : MS) (o : Nat → Int64) (sz : Nat) (n : Nat) (x1 : Int32) (MM : MS) (h : mX8_lay n M x1 = some MM) : CtM_v l yX8_lay wsX8_lay rmX8_lay (fun _ => True) (fun _ => True) dC dI cq q S M o sz [.ref (q 22), .int x1] MM := by
  refine enM_v (cc := cX8_lay) (maxL := 5) (by decide) rfl (Nat.le_of_ble_eq_true rfl) (fun p e s m args below meth c A Q ls F hA hP hK hD hDm hX hS hl hend => ?_)
  obtain ⟨hx, hb, hml, hown, hts⟩ := id F
  have hown : s.vm.findClass RX8 = some m.cls := hown
  have F : CallFix p m c cX8_lay 5 s args wsX8_lay RX8 := F
  have hl : lv_has ls 5 [(0, .ref (q 22)), (1, .int x1)] := hl
  have hinX8 : ∀ w ∈ u_ws RX8 TX8 29, w ∈ wsX8_lay := fun w h => List.mem_cons_of_mem _ (List.mem_append_right _ h)
  have hj103 : ∀ (M : MS) (x1 : Int32) (x2 : Int32)  (K23 : MS → Int32 → Option (MS)) (hK23 : ∀ (M9 : MS) (y2 : Int32) (H : Heap) (locs : List Loc) (ls : Array Slot), va_P (dC, dI) vwCl (wA cq q S M9 o) H → va_D A (wA cq q S M9 o) → va_S A s.heap H locs → lv_has ls 5 [(0, .ref (q 22)), (1, .int x1), (2, .int y2)] → K23 M9 y2 = some MM → W p l e rmX8_lay s m args below meth c H locs 0 0 Q (F0 m 23 ls [])) (H : Heap) (locs : List Loc) (ls : Array Slot), va_P (dC, dI) vwCl (wA cq q S M o) H → va_D A (wA cq q S M o) → va_S A s.heap H locs → lv_has ls 5 [(0, .ref (q 22)), (1, .int x1), (2, .int x2)] → mX8_lay_103 n K23 M x1 x2 = some MM → W p l e rmX8_lay s m args below meth c H locs 0 0 Q (F0 m 103 ls []) := by
    intro M x1 x2 K23 hK23 H locs ls hP hD hS hl h
    rw [mX8_lay_103] at h
    refine lv_iinc (v := (x2 + (1 : Int32))) (lv' := [(2, .int (x2 + (1 : Int32))), (0, .ref (q 22)), (1, .int x1)]) hx hb dX8_lay_103 hl (k := 2) rfl rfl (by decide) rfl (fun ls hl => ?_)
    refine lv_goto (tgt := 23) hx hb dX8_lay_106 (by decide) ?_
    exact hK23 _ _ _ _ _ hP hD hS (lv_sub hl [1, 2, 0] rfl) h
  have hL23 : ∀ (x1 : Int32)  (k : Nat) (M : MS) (x2 : Int32) (H : Heap) (locs : List Loc) (ls : Array Slot), va_P (dC, dI) vwCl (wA cq q S M o) H → va_D A (wA cq q S M o) → va_S A s.heap H locs → lv_has ls 5 [(0, .ref (q 22)), (1, .int x1), (2, .int x2)] → mX8_lay_23 n x1 k M x2 = some MM → W p l e rmX8_lay s m args below meth c H locs 0 0 Q (F0 m 23 ls []) := by
    intro x1
    intro k
    induction k with
    | zero =>
      intro M x2 H locs ls hP hD hS hl h
      rw [mX8_lay_23] at h
      cases h
    | succ k ih =>
      intro M x2 H locs ls hP hD hS hl h
      rw [mX8_lay_23] at h
      refine lv_iload_n hx hb dX8_lay_23 rfl (lv_at hl 2 rfl) ?_
      refine lv_aload_n hx hb dX8_lay_24 rfl (lv_at hl 0 rfl) ?_
      refine va_get (D := (dC, dI)) (ci := 9) (v := .int (M.1 7)) (C := RX8) (T := TX8) (N := 29) hx hb hts hinX8 hown hK hP 22 rfl rfl 7 (by decide) (hts (.fieldLink RX8 64 "CableTesterModel" "many" "I") (mm 2 rfl)) (fun _ h9 => h9) rfl dX8_lay_25 ?_
      refine lv_icmp_ge (tgt := 109) hx hb dX8_lay_28 (by decide) (fun c2 => ?_) (fun c2 => ?_)
      · replace h := it c2 h
        exact hend _ _ _ _ _ h hP hD hS dX8_lay_109
      · replace h := ie c2 h
        refine lv_aload_n hx hb dX8_lay_31 rfl (lv_at hl 0 rfl) ?_
        refine lv_iload_n hx hb dX8_lay_32 rfl (lv_at hl 2 rfl) ?_
        refine lv_iconst (v := (0 : Int32)) hx hb dX8_lay_33 (by decide) ?_
        obtain ⟨r3, e4, h⟩ := bo h
        refine caVR_i (As := [.int x2, .int (0 : Int32)]) (rest := []) (ctX8_of l dC dI cq q S M o _ _ _ _ e4) F (cwV 2 hts gX8_lay_X8_of rfl rfl rfl hdX8_of ⟨Nat.le_of_ble_eq_true rfl, Nat.le_of_ble_eq_true rfl⟩) hK hP hD hDm hS hA (fun _ _ _ _ _ => trivial) (fun _ _ _ => trivial) (va_recv hK hP (ci := 9) (q0 := 22) rfl rfl) rfl hl.1 rfl (Nat.le_of_ble_eq_true rfl) dX8_lay_34 ⟨Nat.zero_le _, Nat.zero_le _⟩ (fun H locs hP hD hS => ?_)
        refine lv_iconst (v := (1 : Int32)) hx hb dX8_lay_37 (by decide) ?_
        refine lv_icmp_ne (tgt := 103) hx hb dX8_lay_38 (by decide) (fun c5 => ?_) (fun c5 => ?_)
        · replace h := ie c5 h
          exact hj103 _ _ _ _ ih _ _ _ hP hD hS (lv_sub hl [0, 1, 2] rfl) h
        · replace h := it c5 h
          refine lv_aload_n hx hb dX8_lay_41 rfl (lv_at hl 0 rfl) ?_
          refine lv_iload_n hx hb dX8_lay_42 rfl (lv_at hl 2 rfl) ?_
          refine lv_iload_n hx hb dX8_lay_43 rfl (lv_at hl 1 rfl) ?_
          obtain ⟨r6, e7, h⟩ := bo h
          refine caVR_i (As := [.int x2, .int x1]) (rest := []) (ctX8_isPresent l dC dI cq q S M o _ _ _ _ e7) F (cwV 2 hts gX8_lay_X8_isPresent rfl rfl rfl hdX8_isPresent ⟨Nat.le_of_ble_eq_true rfl, Nat.le_of_ble_eq_true rfl⟩) hK hP hD hDm hS hA (fun _ _ _ _ _ => trivial) (fun _ _ _ => trivial) (va_recv hK hP (ci := 9) (q0 := 22) rfl rfl) rfl hl.1 rfl (Nat.le_of_ble_eq_true rfl) dX8_lay_44 ⟨Nat.zero_le _, Nat.zero_le _⟩ (fun H locs hP hD hS => ?_)
          refine lv_if_eq (tgt := 103) hx hb dX8_lay_47 (by decide) (fun c8 => ?_) (fun c8 => ?_)
          · replace h := it c8 h
            exact hj103 _ _ _ _ ih _ _ _ hP hD hS (lv_sub hl [0, 1, 2] rfl) h
          · replace h := ie c8 h
            refine lv_aload_n hx hb dX8_lay_50 rfl (lv_at hl 0 rfl) ?_
            refine lv_aload_n hx hb dX8_lay_51 rfl (lv_at hl 0 rfl) ?_
            refine lv_aload_n hx hb dX8_lay_52 rfl (lv_at hl 0 rfl) ?_
            refine lv_iload_n hx hb dX8_lay_53 rfl (lv_at hl 2 rfl) ?_
            refine lv_iconst (v := (1 : Int32)) hx hb dX8_lay_54 (by decide) ?_
            obtain ⟨r9, e10, h⟩ := bo h
            refine caVR_i (As := [.int x2, .int (1 : Int32)]) (rest := [.ref (q 22), .ref (q 22)]) (ctX8_of l dC dI cq q S M o _ _ _ _ e10) F (cwV 2 hts gX8_lay_X8_of rfl rfl rfl hdX8_of ⟨Nat.le_of_ble_eq_true rfl, Nat.le_of_ble_eq_true rfl⟩) hK hP hD hDm hS hA (fun _ _ _ _ _ => trivial) (fun _ _ _ => trivial) (va_recv hK hP (ci := 9) (q0 := 22) rfl rfl) rfl hl.1 rfl (Nat.le_of_ble_eq_true rfl) dX8_lay_55 ⟨Nat.zero_le _, Nat.zero_le _⟩ (fun H locs hP hD hS => ?_)
            refine lv_aload_n hx hb dX8_lay_58 rfl (lv_at hl 0 rfl) ?_
            refine lv_iload_n hx hb dX8_lay_59 rfl (lv_at hl 2 rfl) ?_
            refine lv_iconst (v := (3 : Int32)) hx hb dX8_lay_60 (by decide) ?_
            obtain ⟨r11, e12, h⟩ := bo h
            refine caVR_i (As := [.int x2, .int (3 : Int32)]) (rest := [.int r9, .ref (q 22), .ref (q 22)]) (ctX8_of l dC dI cq q S M o _ _ _ _ e12) F (cwV 2 hts gX8_lay_X8_of rfl rfl rfl hdX8_of ⟨Nat.le_of_ble_eq_true rfl, Nat.le_of_ble_eq_true rfl⟩) hK hP hD hDm hS hA (fun _ _ _ _ _ => trivial) (fun _ _ _ => trivial) (va_recv hK hP (ci := 9) (q0 := 22) rfl rfl) rfl hl.1 rfl (Nat.le_of_ble_eq_true rfl) dX8_lay_61 ⟨Nat.zero_le _, Nat.zero_le _⟩ (fun H locs hP hD hS => ?_)
            refine lv_iload_n hx hb dX8_lay_64 rfl (lv_at hl 1 rfl) ?_
            obtain ⟨r13, e14, h⟩ := bo h
            refine caVR_i (As := [.int r9, .int r11, .int x1]) (rest := [.ref (q 22)]) (ctX8_piece l dC dI cq q S M o _ _ _ _ _ _ e14) F (cwV 3 hts gX8_lay_X8_piece rfl rfl rfl hdX8_piece ⟨Nat.le_of_ble_eq_true rfl, Nat.le_of_ble_eq_true rfl⟩) hK hP hD hDm hS hA (fun _ _ _ _ _ => trivial) (fun _ _ _ => trivial) (va_recv hK hP (ci := 9) (q0 := 22) rfl rfl) rfl hl.1 rfl (Nat.le_of_ble_eq_true rfl) dX8_lay_65 ⟨Nat.zero_le _, Nat.zero_le _⟩ (fun H locs hP hD hS => ?_)
            obtain ⟨r15, e16, h⟩ := bo h
            refine caVR_i (As := [.int r13]) (rest := []) (ctX8_root l dC dI cq q S M o _ _ _ _ e16) F (cwV 1 hts gX8_lay_X8_root rfl rfl rfl hdX8_root ⟨Nat.le_of_ble_eq_true rfl, Nat.le_of_ble_eq_true rfl⟩) hK hP hD hDm hS hA (fun _ _ _ _ _ => trivial) (fun _ _ _ => trivial) (va_recv hK hP (ci := 9) (q0 := 22) rfl rfl) rfl hl.1 rfl (Nat.le_of_ble_eq_true rfl) dX8_lay_68 ⟨Nat.zero_le _, Nat.zero_le _⟩ (fun H locs hP hD hS => ?_)
            refine lv_istore_n (lv' := [(3, .int r15), (0, .ref (q 22)), (1, .int x1), (2, .int x2)]) hx hb dX8_lay_71 rfl hl (by decide) rfl (fun ls hl => ?_)
            refine lv_aload_n hx hb dX8_lay_72 rfl (lv_at hl 1 rfl) ?_
            refine lv_aload_n hx hb dX8_lay_73 rfl (lv_at hl 1 rfl) ?_
            refine lv_aload_n hx hb dX8_lay_74 rfl (lv_at hl 1 rfl) ?_
            refine lv_iload_n hx hb dX8_lay_75 rfl (lv_at hl 3 rfl) ?_
            refine lv_iconst (v := (2 : Int32)) hx hb dX8_lay_76 (by decide) ?_
            obtain ⟨r17, e18, h⟩ := bo h
            refine caVR_i (As := [.int x2, .int (2 : Int32)]) (rest := [.ref (q 22), .ref (q 22)]) (ctX8_of l dC dI cq q S M o _ _ _ _ e18) F (cwV 2 hts gX8_lay_X8_of rfl rfl rfl hdX8_of ⟨Nat.le_of_ble_eq_true rfl, Nat.le_of_ble_eq_true rfl⟩) hK hP hD hDm hS hA (fun _ _ _ _ _ => trivial) (fun _ _ _ => trivial) (va_recv hK hP (ci := 9) (q0 := 22) rfl rfl) rfl hl.1 rfl (Nat.le_of_ble_eq_true rfl) dX8_lay_77 ⟨Nat.zero_le _, Nat.zero_le _⟩ (fun H locs hP hD hS => ?_)
            refine lv_aload_n hx hb dX8_lay_80 rfl (lv_at hl 1 rfl) ?_
            refine lv_iload_n hx hb dX8_lay_81 rfl (lv_at hl 3 rfl) ?_
            refine lv_iconst (v := (3 : Int32)) hx hb dX8_lay_82 (by decide) ?_
            obtain ⟨r19, e20, h⟩ := bo h
            refine caVR_i (As := [.int x2, .int (3 : Int32)]) (rest := [.int r17, .ref (q 22), .ref (q 22)]) (ctX8_of l dC dI cq q S M o _ _ _ _ e20) F (cwV 2 hts gX8_lay_X8_of rfl rfl rfl hdX8_of ⟨Nat.le_of_ble_eq_true rfl, Nat.le_of_ble_eq_true rfl⟩) hK hP hD hDm hS hA (fun _ _ _ _ _ => trivial) (fun _ _ _ => trivial) (va_recv hK hP (ci := 9) (q0 := 22) rfl rfl) rfl hl.1 rfl (Nat.le_of_ble_eq_true rfl) dX8_lay_83 ⟨Nat.zero_le _, Nat.zero_le _⟩ (fun H locs hP hD hS => ?_)
            refine lv_iload_n hx hb dX8_lay_86 rfl (lv_at hl 2 rfl) ?_
            obtain ⟨r21, e22, h⟩ := bo h
            refine caVR_i (As := [.int r17, .int r19, .int x1]) (rest := [.ref (q 22)]) (ctX8_piece l dC dI cq q S M o _ _ _ _ _ _ e22) F (cwV 3 hts gX8_lay_X8_piece rfl rfl rfl hdX8_piece ⟨Nat.le_of_ble_eq_true rfl, Nat.le_of_ble_eq_true rfl⟩) hK hP hD hDm hS hA (fun _ _ _ _ _ => trivial) (fun _ _ _ => trivial) (va_recv hK hP (ci := 9) (q0 := 22) rfl rfl) rfl hl.1 rfl (Nat.le_of_ble_eq_true rfl) dX8_lay_87 ⟨Nat.zero_le _, Nat.zero_le _⟩ (fun H locs hP hD hS => ?_)
            obtain ⟨r23, e24, h⟩ := bo h
            refine caVR_i (As := [.int r21]) (rest := []) (ctX8_root l dC dI cq q S M o _ _ _ _ e24) F (cwV 1 hts gX8_lay_X8_root rfl rfl rfl hdX8_root ⟨Nat.le_of_ble_eq_true rfl, Nat.le_of_ble_eq_true rfl⟩) hK hP hD hDm hS hA (fun _ _ _ _ _ => trivial) (fun _ _ _ => trivial) (va_recv hK hP (ci := 9) (q0 := 22) rfl rfl) rfl hl.1 rfl (Nat.le_of_ble_eq_true rfl) dX8_lay_90 ⟨Nat.zero_le _, Nat.zero_le _⟩ (fun H locs hP hD hS => ?_)
            refine lv_istore (lv' := [(4, .int r23), (3, .int r15), (0, .ref (q 22)), (1, .int x1), (2, .int x2)]) hx hb dX8_lay_93 hl (by decide) rfl (fun ls hl => ?_)
            refine lv_aload_n hx hb dX8_lay_95 rfl (lv_at hl 2 rfl) ?_
            refine va_get (D := (dC, dI)) (ci := 9) (v := .ref (q 27)) (C := RX8) (T := TX8) (N := 29) hx hb hts hinX8 hown hK hP 22 rfl rfl 12 (by decide) (hts (.fieldLink RX8 22 "CableTesterModel" "parents" "[I") (mm 1 rfl)) (fun _ h9 => h9) rfl dX8_lay_96 ?_
            refine lv_iload_n hx hb dX8_lay_99 rfl (lv_at hl 1 rfl) ?_
            refine lv_iload hx hb dX8_lay_100 (lv_at hl 0 rfl) ?_
            obtain ⟨g25, h⟩ := gd h
            refine as_27 F hK hP hD hS (inb_ok g25) dX8_lay_102 (fun H locs hP hD hS => ?_)
            exact hj103 _ _ _ _ ih _ _ _ hP hD hS (lv_sub hl [2, 3, 4] rfl) h
  have hL2 : ∀ (x1 : Int32)  (k : Nat) (M : MS) (x2 : Int32) (H : Heap) (locs : List Loc) (ls : Array Slot), va_P (dC, dI) vwCl (wA cq q S M o) H → va_D A (wA cq q S M o) → va_S A s.heap H locs → lv_has ls 5 [(0, .ref (q 22)), (1, .int x1), (2, .int x2)] → mX8_lay_2 n x1 k M x2 = some MM → W p l e rmX8_lay s m args below meth c H locs 0 0 Q (F0 m 2 ls []) := by
    intro x1
    intro k
    induction k with
    | zero =>
      intro M x2 H locs ls hP hD hS hl h
      rw [mX8_lay_2] at h
      cases h
    | succ k ih =>
      intro M x2 H locs ls hP hD hS hl h
      rw [mX8_lay_2] at h
      refine lv_iload_n hx hb dX8_lay_2 rfl (lv_at hl 2 rfl) ?_
      refine lv_bipush (v := (88 : Int32)) hx hb dX8_lay_3 (by decide) ?_
      refine lv_icmp_ge (tgt := 21) hx hb dX8_lay_5 (by decide) (fun c1 => ?_) (fun c1 => ?_)
      · replace h := it c1 h
        refine lv_iconst (v := (0 : Int32)) hx hb dX8_lay_21 (by decide) ?_
        refine lv_istore_n (lv' := [(2, .int (0 : Int32)), (0, .ref (q 22)), (1, .int x1)]) hx hb dX8_lay_22 rfl hl (by decide) rfl (fun ls hl => ?_)
        exact hL23 _ _ _ _ _ _ _ hP hD hS (lv_sub hl [1, 2, 0] rfl) h
      · replace h := ie c1 h
        refine lv_aload_n hx hb dX8_lay_8 rfl (lv_at hl 0 rfl) ?_
        refine va_get (D := (dC, dI)) (ci := 9) (v := .ref (q 27)) (C := RX8) (T := TX8) (N := 29) hx hb hts hinX8 hown hK hP 22 rfl rfl 12 (by decide) (hts (.fieldLink RX8 22 "CableTesterModel" "parents" "[I") (mm 1 rfl)) (fun _ h9 => h9) rfl dX8_lay_9 ?_
        refine lv_iload_n hx hb dX8_lay_12 rfl (lv_at hl 2 rfl) ?_
        refine lv_iload_n hx hb dX8_lay_13 rfl (lv_at hl 2 rfl) ?_
        obtain ⟨g26, h⟩ := gd h
        refine as_27 F hK hP hD hS (inb_ok g26) dX8_lay_14 (fun H locs hP hD hS => ?_)
        refine lv_iinc (v := (x2 + (1 : Int32))) (lv' := [(2, .int (x2 + (1 : Int32))), (0, .ref (q 22)), (1, .int x1)]) hx hb dX8_lay_15 hl (k := 2) rfl rfl (by decide) rfl (fun ls hl => ?_)
        refine lv_goto (tgt := 2) hx hb dX8_lay_18 (by decide) ?_
        exact ih _ _ _ _ _ hP hD hS (lv_sub hl [1, 2, 0] rfl) h
  rw [mX8_lay] at h
  refine lv_iconst (v := (0 : Int32)) hx hb dX8_lay_0 (by decide) ?_
  refine lv_istore_n (lv' := [(2, .int (0 : Int32)), (0, .ref (q 22)), (1, .int x1)]) hx hb dX8_lay_1 rfl hl (by decide) rfl (fun ls hl => ?_)
  exact hL2 _ _ _ _ _ _ _ hP hD hS (lv_sub hl [1, 2, 0] rfl) h
def mX8_layNets_40 (n : Nat) (K7 : MS → Int32 → Option (MS)) (M : MS) (x1 : Int32) (x2 : Int32) (t0 : Int32) (t1 : Int32) (t4 : Int32) : Option (MS) :=
  (bn (mX8_piece n M t1 t0 x1) fun r7 => (bn (mX8_root n M r7) fun r9 => (if inb t4 16 then (K7 (sB M 28 t4.toNatClampNeg r9) (x2 + (1 : Int32))) else none)))
def mX8_layNets_7 (n : Nat)  (x1 : Int32) : Nat → MS → Int32 → Option (MS)
  | 0, _, _ => none
  | k + 1, M, x2 => (if (16 : Int32) ≤ x2 then (some M) else (if inb x2 16 then (if (8 : Int32) ≤ x2 then (mX8_layNets_40 n (mX8_layNets_7 n x1 k) M x1 x2 (M.1 1) (M.2.1 23 x2.toNatClampNeg) x2) else (mX8_layNets_40 n (mX8_layNets_7 n x1 k) M x1 x2 (0 : Int32) (M.2.1 23 x2.toNatClampNeg) x2)) else none))
def mX8_layNets (n : Nat) (M : MS) (x1 : Int32) : Option (MS) :=
  (bn (mX8_lay n M x1) fun M3 => (mX8_layNets_7 n x1 n M3 (0 : Int32)))
abbrev rmX8_layNets : Room := { frames := 4, cells := 0, slots := 0, locals := 93 }
theorem hdX8_layNets : yX8_layNets.cls = RX8 ∧ yX8_layNets.cls ≠ "java/lang/invoke/MethodHandle" ∧ yX8_layNets.cls ≠ "java/lang/invoke/VarHandle" ∧ (parseMethodDescriptor yX8_layNets.desc).map (fun d => d.parameters.length) = some 1 := by decide +kernel
set_option maxRecDepth 100000 in
set_option maxHeartbeats 8000000 in
theorem ctX8_layNets (l : Launch) (dC : Nat → ClassId) (dI : Nat → Nat → Nat) (cq : Nat → ClassId) (q : Nat → Nat) (S : CS) (M : MS) (o : Nat → Int64) (sz : Nat) (n : Nat) (x1 : Int32) (MM : MS) (h : mX8_layNets n M x1 = some MM) : CtM_v l yX8_layNets wsX8_layNets rmX8_layNets (fun _ => True) (fun _ => True) dC dI cq q S M o sz [.ref (q 22), .int x1] MM := by
  refine enM_v (cc := cX8_layNets) (maxL := 3) (by decide) rfl (Nat.le_of_ble_eq_true rfl) (fun p e s m args below meth c A Q ls F hA hP hK hD hDm hX hS hl hend => ?_)
  obtain ⟨hx, hb, hml, hown, hts⟩ := id F
  have hown : s.vm.findClass RX8 = some m.cls := hown
  have F : CallFix p m c cX8_layNets 3 s args wsX8_layNets RX8 := F
  have hl : lv_has ls 3 [(0, .ref (q 22)), (1, .int x1)] := hl
  have hinX8 : ∀ w ∈ u_ws RX8 TX8 29, w ∈ wsX8_layNets := fun w h => List.mem_cons_of_mem _ (List.mem_append_right _ h)
  have hj40 : ∀ (M : MS) (x1 : Int32) (x2 : Int32) (t0 : Int32) (t1 : Int32) (t4 : Int32) (K7 : MS → Int32 → Option (MS)) (hK7 : ∀ (M9 : MS) (y2 : Int32) (H : Heap) (locs : List Loc) (ls : Array Slot), va_P (dC, dI) vwCl (wA cq q S M9 o) H → va_D A (wA cq q S M9 o) → va_S A s.heap H locs → lv_has ls 3 [(0, .ref (q 22)), (1, .int x1), (2, .int y2)] → K7 M9 y2 = some MM → W p l e rmX8_layNets s m args below meth c H locs 0 0 Q (F0 m 7 ls [])) (H : Heap) (locs : List Loc) (ls : Array Slot), va_P (dC, dI) vwCl (wA cq q S M o) H → va_D A (wA cq q S M o) → va_S A s.heap H locs → lv_has ls 3 [(0, .ref (q 22)), (1, .int x1), (2, .int x2)] → mX8_layNets_40 n K7 M x1 x2 t0 t1 t4 = some MM → W p l e rmX8_layNets s m args below meth c H locs 0 0 Q (F0 m 40 ls [.int t0, .int t1, .ref (q 22), .ref (q 22), .int t4, .ref (q 28)]) := by
    intro M x1 x2 t0 t1 t4 K7 hK7 H locs ls hP hD hS hl h
    rw [mX8_layNets_40] at h
    refine lv_iload_n hx hb dX8_layNets_40 rfl (lv_at hl 1 rfl) ?_
    obtain ⟨r7, e8, h⟩ := bo h
    refine caVR_i (As := [.int t1, .int t0, .int x1]) (rest := [.ref (q 22), .int t4, .ref (q 28)]) (ctX8_piece l dC dI cq q S M o _ _ _ _ _ _ e8) F (cwV 3 hts gX8_layNets_X8_piece rfl rfl rfl hdX8_piece ⟨Nat.le_of_ble_eq_true rfl, Nat.le_of_ble_eq_true rfl⟩) hK hP hD hDm hS hA (fun _ _ _ _ _ => trivial) (fun _ _ _ => trivial) (va_recv hK hP (ci := 9) (q0 := 22) rfl rfl) rfl hl.1 rfl (Nat.le_of_ble_eq_true rfl) dX8_layNets_41 ⟨Nat.zero_le _, Nat.zero_le _⟩ (fun H locs hP hD hS => ?_)
    obtain ⟨r9, e10, h⟩ := bo h
    refine caVR_i (As := [.int r7]) (rest := [.int t4, .ref (q 28)]) (ctX8_root l dC dI cq q S M o _ _ _ _ e10) F (cwV 1 hts gX8_layNets_X8_root rfl rfl rfl hdX8_root ⟨Nat.le_of_ble_eq_true rfl, Nat.le_of_ble_eq_true rfl⟩) hK hP hD hDm hS hA (fun _ _ _ _ _ => trivial) (fun _ _ _ => trivial) (va_recv hK hP (ci := 9) (q0 := 22) rfl rfl) rfl hl.1 rfl (Nat.le_of_ble_eq_true rfl) dX8_layNets_44 ⟨Nat.zero_le _, Nat.zero_le _⟩ (fun H locs hP hD hS => ?_)
    obtain ⟨g11, h⟩ := gd h
    refine as_28 F hK hP hD hS (inb_ok g11) dX8_layNets_47 (fun H locs hP hD hS => ?_)
    refine lv_iinc (v := (x2 + (1 : Int32))) (lv' := [(2, .int (x2 + (1 : Int32))), (0, .ref (q 22)), (1, .int x1)]) hx hb dX8_layNets_48 hl (k := 2) rfl rfl (by decide) rfl (fun ls hl => ?_)
    refine lv_goto (tgt := 7) hx hb dX8_layNets_51 (by decide) ?_
    exact hK7 _ _ _ _ _ hP hD hS (lv_sub hl [1, 2, 0] rfl) h
  have hL7 : ∀ (x1 : Int32)  (k : Nat) (M : MS) (x2 : Int32) (H : Heap) (locs : List Loc) (ls : Array Slot), va_P (dC, dI) vwCl (wA cq q S M o) H → va_D A (wA cq q S M o) → va_S A s.heap H locs → lv_has ls 3 [(0, .ref (q 22)), (1, .int x1), (2, .int x2)] → mX8_layNets_7 n x1 k M x2 = some MM → W p l e rmX8_layNets s m args below meth c H locs 0 0 Q (F0 m 7 ls []) := by
    intro x1
    intro k
    induction k with
    | zero =>
      intro M x2 H locs ls hP hD hS hl h
      rw [mX8_layNets_7] at h
      cases h
    | succ k ih =>
      intro M x2 H locs ls hP hD hS hl h
      rw [mX8_layNets_7] at h
      refine lv_iload_n hx hb dX8_layNets_7 rfl (lv_at hl 2 rfl) ?_
      refine lv_bipush (v := (16 : Int32)) hx hb dX8_layNets_8 (by decide) ?_
      refine lv_icmp_ge (tgt := 54) hx hb dX8_layNets_10 (by decide) (fun c4 => ?_) (fun c4 => ?_)
      · replace h := it c4 h
        exact hend _ _ _ _ _ h hP hD hS dX8_layNets_54
      · replace h := ie c4 h
        refine lv_aload_n hx hb dX8_layNets_13 rfl (lv_at hl 0 rfl) ?_
        refine va_get (D := (dC, dI)) (ci := 9) (v := .ref (q 28)) (C := RX8) (T := TX8) (N := 29) hx hb hts hinX8 hown hK hP 22 rfl rfl 13 (by decide) (hts (.fieldLink RX8 25 "CableTesterModel" "nets" "[I") (mm 1 rfl)) (fun _ h9 => h9) rfl dX8_layNets_14 ?_
        refine lv_iload_n hx hb dX8_layNets_17 rfl (lv_at hl 2 rfl) ?_
        refine lv_aload_n hx hb dX8_layNets_18 rfl (lv_at hl 0 rfl) ?_
        refine lv_aload_n hx hb dX8_layNets_19 rfl (lv_at hl 0 rfl) ?_
        refine lv_aload_n hx hb dX8_layNets_20 rfl (lv_at hl 0 rfl) ?_
        refine va_get (D := (dC, dI)) (ci := 9) (v := .ref (q 23)) (C := RX8) (T := TX8) (N := 29) hx hb hts hinX8 hown hK hP 22 rfl rfl 5 (by decide) (hts (.fieldLink RX8 7 "CableTesterModel" "wires" "[I") (mm 2 rfl)) (fun _ h9 => h9) rfl dX8_layNets_21 ?_
        refine lv_iload_n hx hb dX8_layNets_24 rfl (lv_at hl 2 rfl) ?_
        obtain ⟨g5, h⟩ := gd h
        refine va_iald (D := (dC, dI)) hx hb hK hP 23 12 rfl rfl (inb_ok g5) dX8_layNets_25 ?_
        refine lv_iload_n hx hb dX8_layNets_26 rfl (lv_at hl 2 rfl) ?_
        refine lv_bipush (v := (8 : Int32)) hx hb dX8_layNets_27 (by decide) ?_
        refine lv_icmp_ge (tgt := 36) hx hb dX8_layNets_29 (by decide) (fun c6 => ?_) (fun c6 => ?_)
        · replace h := it c6 h
          refine lv_aload_n hx hb dX8_layNets_36 rfl (lv_at hl 0 rfl) ?_
          refine va_get (D := (dC, dI)) (ci := 9) (v := .int (M.1 1)) (C := RX8) (T := TX8) (N := 29) hx hb hts hinX8 hown hK hP 22 rfl rfl 1 (by decide) (hts (.fieldLink RX8 52 "CableTesterModel" "length" "I") (mm 3 rfl)) (fun _ h9 => h9) rfl dX8_layNets_37 ?_
          exact hj40 _ _ _ _ _ _ _ ih _ _ _ hP hD hS (lv_sub hl [0, 1, 2] rfl) h
        · replace h := ie c6 h
          refine lv_iconst (v := (0 : Int32)) hx hb dX8_layNets_32 (by decide) ?_
          refine lv_goto (tgt := 40) hx hb dX8_layNets_33 (by decide) ?_
          exact hj40 _ _ _ _ _ _ _ ih _ _ _ hP hD hS (lv_sub hl [0, 1, 2] rfl) h
  rw [mX8_layNets] at h
  refine lv_aload_n hx hb dX8_layNets_0 rfl (lv_at hl 0 rfl) ?_
  refine lv_iload_n hx hb dX8_layNets_1 rfl (lv_at hl 1 rfl) ?_
  obtain ⟨M3, e2, h⟩ := bo h
  refine caVM_v (As := [.int x1]) (rest := []) (ctX8_lay l dC dI cq q S M o _ _ _ _ e2) F (cwV 1 hts gX8_layNets_X8_lay rfl rfl rfl hdX8_lay ⟨Nat.le_of_ble_eq_true rfl, Nat.le_of_ble_eq_true rfl⟩) hK hP hD hDm hS hA (fun _ _ _ _ _ => trivial) (fun _ _ _ => trivial) (va_recv hK hP (ci := 9) (q0 := 22) rfl rfl) rfl hl.1 rfl (Nat.le_of_ble_eq_true rfl) dX8_layNets_2 ⟨Nat.zero_le _, Nat.zero_le _⟩ (fun H locs hP hD hS => ?_)
  refine lv_iconst (v := (0 : Int32)) hx hb dX8_layNets_5 (by decide) ?_
  refine lv_istore_n (lv' := [(2, .int (0 : Int32)), (0, .ref (q 22)), (1, .int x1)]) hx hb dX8_layNets_6 rfl hl (by decide) rfl (fun ls hl => ?_)
  exact hL7 _ _ _ _ _ _ _ hP hD hS (lv_sub hl [1, 2, 0] rfl) h
def mX8_same_42 (n : Nat) (K5 : Int32 → Int32 → Option (Int32)) (M : MS) (x1 : Int32) (x2 : Int32) (x4 : Int32) (t0 : Int32) (t1 : Int32) : Option (Int32) :=
  (K5 (t1 ||| t0) (x4 + (1 : Int32)))
def mX8_same_5 (n : Nat)  (M : MS) (x1 : Int32) (x2 : Int32) : Nat → Int32 → Int32 → Option (Int32)
  | 0, _, _ => none
  | k + 1, x3, x4 => (if (8 : Int32) ≤ x4 then (some x3) else (if inb (((8 : Int32) * x2) + x4) 16 then (if inb x1 16 then (if (M.2.1 28 (((8 : Int32) * x2) + x4).toNatClampNeg) = (M.2.1 28 x1.toNatClampNeg) then (mX8_same_42 n (mX8_same_5 n M x1 x2 k) M x1 x2 x4 ((1 : Int32) <<< (x4 &&& 31)) x3) else (mX8_same_42 n (mX8_same_5 n M x1 x2 k) M x1 x2 x4 (0 : Int32) x3)) else none) else none))
def mX8_same (n : Nat) (M : MS) (x1 : Int32) (x2 : Int32) : Option (Int32) :=
  (mX8_same_5 n M x1 x2 n (0 : Int32) (0 : Int32))
abbrev rmX8_same : Room := { frames := 0, cells := 0, slots := 0, locals := 0 }
theorem hdX8_same : yX8_same.cls = RX8 ∧ yX8_same.cls ≠ "java/lang/invoke/MethodHandle" ∧ yX8_same.cls ≠ "java/lang/invoke/VarHandle" ∧ (parseMethodDescriptor yX8_same.desc).map (fun d => d.parameters.length) = some 2 := by decide +kernel
set_option maxRecDepth 100000 in
set_option maxHeartbeats 8000000 in
theorem ctX8_same (l : Launch) (dC : Nat → ClassId) (dI : Nat → Nat → Nat) (cq : Nat → ClassId) (q : Nat → Nat) (S : CS) (M : MS) (o : Nat → Int64) (sz : Nat) (n : Nat) (x1 : Int32) (x2 : Int32) (rr : Int32) (h : mX8_same n M x1 x2 = some rr) : CtR_i l yX8_same wsX8_same rmX8_same (fun _ => True) (fun _ => True) dC dI cq q S M o sz [.ref (q 22), .int x1, .int x2] rr := by
  refine enR_i (cc := cX8_same) (maxL := 5) (by decide) rfl (Nat.le_of_ble_eq_true rfl) (fun p e s m args below meth c A Q ls F hA hP hK hD hDm hX hS hl hend => ?_)
  obtain ⟨hx, hb, hml, hown, hts⟩ := id F
  have hown : s.vm.findClass RX8 = some m.cls := hown
  have F : CallFix p m c cX8_same 5 s args wsX8_same RX8 := F
  have hl : lv_has ls 5 [(0, .ref (q 22)), (1, .int x1), (2, .int x2)] := hl
  have hinX8 : ∀ w ∈ u_ws RX8 TX8 29, w ∈ wsX8_same := fun w h => List.mem_cons_of_mem _ (List.mem_append_right _ h)
  have hj42 : ∀  (x1 : Int32) (x2 : Int32) (x4 : Int32) (t0 : Int32) (t1 : Int32) (K5 : Int32 → Int32 → Option (Int32)) (hK5 : ∀ (y3 : Int32) (y4 : Int32) (H : Heap) (locs : List Loc) (ls : Array Slot), va_P (dC, dI) vwCl (wA cq q S M o) H → va_D A (wA cq q S M o) → va_S A s.heap H locs → lv_has ls 5 [(0, .ref (q 22)), (1, .int x1), (2, .int x2), (3, .int y3), (4, .int y4)] → K5 y3 y4 = some rr → W p l e rmX8_same s m args below meth c H locs 0 0 Q (F0 m 5 ls [])) (H : Heap) (locs : List Loc) (ls : Array Slot), va_P (dC, dI) vwCl (wA cq q S M o) H → va_D A (wA cq q S M o) → va_S A s.heap H locs → lv_has ls 5 [(0, .ref (q 22)), (1, .int x1), (2, .int x2), (4, .int x4)] → mX8_same_42 n K5 M x1 x2 x4 t0 t1 = some rr → W p l e rmX8_same s m args below meth c H locs 0 0 Q (F0 m 42 ls [.int t0, .int t1]) := by
    intro x1 x2 x4 t0 t1 K5 hK5 H locs ls hP hD hS hl h
    rw [mX8_same_42] at h
    refine lv_ior hx hb dX8_same_42 ?_
    refine lv_istore_n (lv' := [(3, .int (t1 ||| t0)), (0, .ref (q 22)), (1, .int x1), (2, .int x2), (4, .int x4)]) hx hb dX8_same_43 rfl hl (by decide) rfl (fun ls hl => ?_)
    refine lv_iinc (v := (x4 + (1 : Int32))) (lv' := [(4, .int (x4 + (1 : Int32))), (3, .int (t1 ||| t0)), (0, .ref (q 22)), (1, .int x1), (2, .int x2)]) hx hb dX8_same_44 hl (k := 4) rfl rfl (by decide) rfl (fun ls hl => ?_)
    refine lv_goto (tgt := 5) hx hb dX8_same_47 (by decide) ?_
    exact hK5 _ _ _ _ _ hP hD hS (lv_sub hl [2, 3, 4, 1, 0] rfl) h
  have hL5 : ∀ (x1 : Int32) (x2 : Int32)  (k : Nat)  (x3 : Int32) (x4 : Int32) (H : Heap) (locs : List Loc) (ls : Array Slot), va_P (dC, dI) vwCl (wA cq q S M o) H → va_D A (wA cq q S M o) → va_S A s.heap H locs → lv_has ls 5 [(0, .ref (q 22)), (1, .int x1), (2, .int x2), (3, .int x3), (4, .int x4)] → mX8_same_5 n M x1 x2 k x3 x4 = some rr → W p l e rmX8_same s m args below meth c H locs 0 0 Q (F0 m 5 ls []) := by
    intro x1 x2
    intro k
    induction k with
    | zero =>
      intro x3 x4 H locs ls hP hD hS hl h
      rw [mX8_same_5] at h
      cases h
    | succ k ih =>
      intro x3 x4 H locs ls hP hD hS hl h
      rw [mX8_same_5] at h
      refine lv_iload hx hb dX8_same_5 (lv_at hl 4 rfl) ?_
      refine lv_bipush (v := (8 : Int32)) hx hb dX8_same_7 (by decide) ?_
      refine lv_icmp_ge (tgt := 50) hx hb dX8_same_9 (by decide) (fun c1 => ?_) (fun c1 => ?_)
      · replace h := it c1 h
        refine lv_iload_n hx hb dX8_same_50 rfl (lv_at hl 3 rfl) ?_
        exact hend _ _ _ _ _ h hP hD hS dX8_same_51
      · replace h := ie c1 h
        refine lv_iload_n hx hb dX8_same_12 rfl (lv_at hl 3 rfl) ?_
        refine lv_aload_n hx hb dX8_same_13 rfl (lv_at hl 0 rfl) ?_
        refine va_get (D := (dC, dI)) (ci := 9) (v := .ref (q 28)) (C := RX8) (T := TX8) (N := 29) hx hb hts hinX8 hown hK hP 22 rfl rfl 13 (by decide) (hts (.fieldLink RX8 25 "CableTesterModel" "nets" "[I") (mm 1 rfl)) (fun _ h9 => h9) rfl dX8_same_14 ?_
        refine lv_bipush (v := (8 : Int32)) hx hb dX8_same_17 (by decide) ?_
        refine lv_iload_n hx hb dX8_same_19 rfl (lv_at hl 2 rfl) ?_
        refine lv_imul hx hb dX8_same_20 ?_
        refine lv_iload hx hb dX8_same_21 (lv_at hl 4 rfl) ?_
        refine lv_iadd hx hb dX8_same_23 ?_
        obtain ⟨g2, h⟩ := gd h
        refine va_iald (D := (dC, dI)) hx hb hK hP 28 17 rfl rfl (inb_ok g2) dX8_same_24 ?_
        refine lv_aload_n hx hb dX8_same_25 rfl (lv_at hl 0 rfl) ?_
        refine va_get (D := (dC, dI)) (ci := 9) (v := .ref (q 28)) (C := RX8) (T := TX8) (N := 29) hx hb hts hinX8 hown hK hP 22 rfl rfl 13 (by decide) (hts (.fieldLink RX8 25 "CableTesterModel" "nets" "[I") (mm 1 rfl)) (fun _ h9 => h9) rfl dX8_same_26 ?_
        refine lv_iload_n hx hb dX8_same_29 rfl (lv_at hl 1 rfl) ?_
        obtain ⟨g3, h⟩ := gd h
        refine va_iald (D := (dC, dI)) hx hb hK hP 28 17 rfl rfl (inb_ok g3) dX8_same_30 ?_
        refine lv_icmp_ne (tgt := 41) hx hb dX8_same_31 (by decide) (fun c4 => ?_) (fun c4 => ?_)
        · replace h := ie c4 h
          refine lv_iconst (v := (0 : Int32)) hx hb dX8_same_41 (by decide) ?_
          exact hj42 _ _ _ _ _ _ ih _ _ _ hP hD hS (lv_sub hl [0, 1, 2, 4] rfl) h
        · replace h := it c4 h
          refine lv_iconst (v := (1 : Int32)) hx hb dX8_same_34 (by decide) ?_
          refine lv_iload hx hb dX8_same_35 (lv_at hl 4 rfl) ?_
          refine lv_ishl hx hb dX8_same_37 ?_
          refine lv_goto (tgt := 42) hx hb dX8_same_38 (by decide) ?_
          exact hj42 _ _ _ _ _ _ ih _ _ _ hP hD hS (lv_sub hl [0, 1, 2, 4] rfl) h
  rw [mX8_same] at h
  refine lv_iconst (v := (0 : Int32)) hx hb dX8_same_0 (by decide) ?_
  refine lv_istore_n (lv' := [(3, .int (0 : Int32)), (0, .ref (q 22)), (1, .int x1), (2, .int x2)]) hx hb dX8_same_1 rfl hl (by decide) rfl (fun ls hl => ?_)
  refine lv_iconst (v := (0 : Int32)) hx hb dX8_same_2 (by decide) ?_
  refine lv_istore (lv' := [(4, .int (0 : Int32)), (3, .int (0 : Int32)), (0, .ref (q 22)), (1, .int x1), (2, .int x2)]) hx hb dX8_same_3 hl (by decide) rfl (fun ls hl => ?_)
  exact hL5 _ _ _ _ _ _ _ _ hP hD hS (lv_sub hl [2, 3, 4, 1, 0] rfl) h
def mX8_bits_4 (n : Nat)  (x0 : Int32) : Nat → Int32 → Int32 → Option (Int32)
  | 0, _, _ => none
  | k + 1, x1, x2 => (if (16 : Int32) ≤ x2 then (some x1) else (mX8_bits_4 n x0 k (x1 + ((x0 >>> (x2 &&& 31)) &&& (1 : Int32))) (x2 + (1 : Int32))))
def mX8_bits (n : Nat) (x0 : Int32) : Option (Int32) :=
  (mX8_bits_4 n x0 n (0 : Int32) (0 : Int32))
abbrev rmX8_bits : Room := { frames := 0, cells := 0, slots := 0, locals := 0 }
theorem hdX8_bits : yX8_bits.cls ≠ "java/lang/invoke/MethodHandle" ∧ yX8_bits.cls ≠ "java/lang/invoke/VarHandle" ∧ (parseMethodDescriptor yX8_bits.desc).map (fun d => d.parameters.length) = some 1 := by decide +kernel
set_option maxRecDepth 100000 in
set_option maxHeartbeats 8000000 in
theorem ctX8_bits (l : Launch) (dC : Nat → ClassId) (dI : Nat → Nat → Nat) (cq : Nat → ClassId) (q : Nat → Nat) (S : CS) (M : MS) (o : Nat → Int64) (sz : Nat) (n : Nat) (x0 : Int32) (rr : Int32) (h : mX8_bits n x0 = some rr) : CtR_i l yX8_bits wsX8_bits rmX8_bits (fun _ => True) (fun _ => True) dC dI cq q S M o sz [.int x0] rr := by
  refine enR_i (cc := cX8_bits) (maxL := 3) (by decide) rfl (Nat.le_of_ble_eq_true rfl) (fun p e s m args below meth c A Q ls F hA hP hK hD hDm hX hS hl hend => ?_)
  obtain ⟨hx, hb, hml, hown, hts⟩ := id F
  have hown : s.vm.findClass RX8 = some m.cls := hown
  have F : CallFix p m c cX8_bits 3 s args wsX8_bits RX8 := F
  have hl : lv_has ls 3 [(0, .int x0)] := hl
  have hL4 : ∀ (x0 : Int32)  (k : Nat)  (x1 : Int32) (x2 : Int32) (H : Heap) (locs : List Loc) (ls : Array Slot), va_P (dC, dI) vwCl (wA cq q S M o) H → va_D A (wA cq q S M o) → va_S A s.heap H locs → lv_has ls 3 [(0, .int x0), (1, .int x1), (2, .int x2)] → mX8_bits_4 n x0 k x1 x2 = some rr → W p l e rmX8_bits s m args below meth c H locs 0 0 Q (F0 m 4 ls []) := by
    intro x0
    intro k
    induction k with
    | zero =>
      intro x1 x2 H locs ls hP hD hS hl h
      rw [mX8_bits_4] at h
      cases h
    | succ k ih =>
      intro x1 x2 H locs ls hP hD hS hl h
      rw [mX8_bits_4] at h
      refine lv_iload_n hx hb dX8_bits_4 rfl (lv_at hl 2 rfl) ?_
      refine lv_bipush (v := (16 : Int32)) hx hb dX8_bits_5 (by decide) ?_
      refine lv_icmp_ge (tgt := 24) hx hb dX8_bits_7 (by decide) (fun c1 => ?_) (fun c1 => ?_)
      · replace h := it c1 h
        refine lv_iload_n hx hb dX8_bits_24 rfl (lv_at hl 1 rfl) ?_
        exact hend _ _ _ _ _ h hP hD hS dX8_bits_25
      · replace h := ie c1 h
        refine lv_iload_n hx hb dX8_bits_10 rfl (lv_at hl 1 rfl) ?_
        refine lv_iload_n hx hb dX8_bits_11 rfl (lv_at hl 0 rfl) ?_
        refine lv_iload_n hx hb dX8_bits_12 rfl (lv_at hl 2 rfl) ?_
        refine lv_ishr hx hb dX8_bits_13 ?_
        refine lv_iconst (v := (1 : Int32)) hx hb dX8_bits_14 (by decide) ?_
        refine lv_iand hx hb dX8_bits_15 ?_
        refine lv_iadd hx hb dX8_bits_16 ?_
        refine lv_istore_n (lv' := [(1, .int (x1 + ((x0 >>> (x2 &&& 31)) &&& (1 : Int32)))), (0, .int x0), (2, .int x2)]) hx hb dX8_bits_17 rfl hl (by decide) rfl (fun ls hl => ?_)
        refine lv_iinc (v := (x2 + (1 : Int32))) (lv' := [(2, .int (x2 + (1 : Int32))), (1, .int (x1 + ((x0 >>> (x2 &&& 31)) &&& (1 : Int32)))), (0, .int x0)]) hx hb dX8_bits_18 hl (k := 2) rfl rfl (by decide) rfl (fun ls hl => ?_)
        refine lv_goto (tgt := 4) hx hb dX8_bits_21 (by decide) ?_
        exact ih _ _ _ _ _ hP hD hS (lv_sub hl [2, 1, 0] rfl) h
  rw [mX8_bits] at h
  refine lv_iconst (v := (0 : Int32)) hx hb dX8_bits_0 (by decide) ?_
  refine lv_istore_n (lv' := [(1, .int (0 : Int32)), (0, .int x0)]) hx hb dX8_bits_1 rfl hl (by decide) rfl (fun ls hl => ?_)
  refine lv_iconst (v := (0 : Int32)) hx hb dX8_bits_2 (by decide) ?_
  refine lv_istore_n (lv' := [(2, .int (0 : Int32)), (1, .int (0 : Int32)), (0, .int x0)]) hx hb dX8_bits_3 rfl hl (by decide) rfl (fun ls hl => ?_)
  exact hL4 _ _ _ _ _ _ _ hP hD hS (lv_sub hl [2, 1, 0] rfl) h
def mX8_statusNow_30 (n : Nat)  (M : MS)   : Option (Int32) :=
  (some (3 : Int32))
def mX8_statusNow (n : Nat) (M : MS) (x1 : Int32) : Option (Int32) :=
  (bn (mX8_same n M x1 (0 : Int32)) fun r1 => (bn (mX8_same n M x1 (1 : Int32)) fun r3 => (bn (mX8_bits n r1) fun r5 => (if (1 : Int32) < r5 then (mX8_statusNow_30 n M) else (bn (mX8_bits n r3) fun r8 => (if r8 ≤ (1 : Int32) then (if r3 = (0 : Int32) then (some (1 : Int32)) else (if r3 = ((1 : Int32) <<< (x1 &&& 31)) then (some (0 : Int32)) else (some (2 : Int32)))) else (mX8_statusNow_30 n M)))))))
abbrev rmX8_statusNow : Room := { frames := 1, cells := 0, slots := 0, locals := 24 }
theorem hdX8_statusNow : yX8_statusNow.cls = RX8 ∧ yX8_statusNow.cls ≠ "java/lang/invoke/MethodHandle" ∧ yX8_statusNow.cls ≠ "java/lang/invoke/VarHandle" ∧ (parseMethodDescriptor yX8_statusNow.desc).map (fun d => d.parameters.length) = some 1 := by decide +kernel
set_option maxRecDepth 100000 in
set_option maxHeartbeats 8000000 in
theorem ctX8_statusNow (l : Launch) (dC : Nat → ClassId) (dI : Nat → Nat → Nat) (cq : Nat → ClassId) (q : Nat → Nat) (S : CS) (M : MS) (o : Nat → Int64) (sz : Nat) (n : Nat) (x1 : Int32) (rr : Int32) (h : mX8_statusNow n M x1 = some rr) : CtR_i l yX8_statusNow wsX8_statusNow rmX8_statusNow (fun _ => True) (fun _ => True) dC dI cq q S M o sz [.ref (q 22), .int x1] rr := by
  refine enR_i (cc := cX8_statusNow) (maxL := 4) (by decide) rfl (Nat.le_of_ble_eq_true rfl) (fun p e s m args below meth c A Q ls F hA hP hK hD hDm hX hS hl hend => ?_)
  obtain ⟨hx, hb, hml, hown, hts⟩ := id F
  have hown : s.vm.findClass RX8 = some m.cls := hown
  have F : CallFix p m c cX8_statusNow 4 s args wsX8_statusNow RX8 := F
  have hl : lv_has ls 4 [(0, .ref (q 22)), (1, .int x1)] := hl
  have hj30 : ∀     (H : Heap) (locs : List Loc) (ls : Array Slot), va_P (dC, dI) vwCl (wA cq q S M o) H → va_D A (wA cq q S M o) → va_S A s.heap H locs → lv_has ls 4 [] → mX8_statusNow_30 n M = some rr → W p l e rmX8_statusNow s m args below meth c H locs 0 0 Q (F0 m 30 ls []) := by
    intro  H locs ls hP hD hS hl h
    rw [mX8_statusNow_30] at h
    refine lv_iconst (v := (3 : Int32)) hx hb dX8_statusNow_30 (by decide) ?_
    refine lv_goto (tgt := 54) hx hb dX8_statusNow_31 (by decide) ?_
    exact hend _ _ _ _ _ h hP hD hS dX8_statusNow_54
  rw [mX8_statusNow] at h
  refine lv_aload_n hx hb dX8_statusNow_0 rfl (lv_at hl 0 rfl) ?_
  refine lv_iload_n hx hb dX8_statusNow_1 rfl (lv_at hl 1 rfl) ?_
  refine lv_iconst (v := (0 : Int32)) hx hb dX8_statusNow_2 (by decide) ?_
  obtain ⟨r1, e2, h⟩ := bo h
  refine caVR_i (As := [.int x1, .int (0 : Int32)]) (rest := []) (ctX8_same l dC dI cq q S M o _ _ _ _ _ e2) F (cwV 2 hts gX8_statusNow_X8_same rfl rfl rfl hdX8_same ⟨Nat.le_of_ble_eq_true rfl, Nat.le_of_ble_eq_true rfl⟩) hK hP hD hDm hS hA (fun _ _ _ _ _ => trivial) (fun _ _ _ => trivial) (va_recv hK hP (ci := 9) (q0 := 22) rfl rfl) rfl hl.1 rfl (Nat.le_of_ble_eq_true rfl) dX8_statusNow_3 ⟨Nat.zero_le _, Nat.zero_le _⟩ (fun H locs hP hD hS => ?_)
  refine lv_istore_n (lv' := [(2, .int r1), (0, .ref (q 22)), (1, .int x1)]) hx hb dX8_statusNow_6 rfl hl (by decide) rfl (fun ls hl => ?_)
  refine lv_aload_n hx hb dX8_statusNow_7 rfl (lv_at hl 1 rfl) ?_
  refine lv_iload_n hx hb dX8_statusNow_8 rfl (lv_at hl 2 rfl) ?_
  refine lv_iconst (v := (1 : Int32)) hx hb dX8_statusNow_9 (by decide) ?_
  obtain ⟨r3, e4, h⟩ := bo h
  refine caVR_i (As := [.int x1, .int (1 : Int32)]) (rest := []) (ctX8_same l dC dI cq q S M o _ _ _ _ _ e4) F (cwV 2 hts gX8_statusNow_X8_same rfl rfl rfl hdX8_same ⟨Nat.le_of_ble_eq_true rfl, Nat.le_of_ble_eq_true rfl⟩) hK hP hD hDm hS hA (fun _ _ _ _ _ => trivial) (fun _ _ _ => trivial) (va_recv hK hP (ci := 9) (q0 := 22) rfl rfl) rfl hl.1 rfl (Nat.le_of_ble_eq_true rfl) dX8_statusNow_10 ⟨Nat.zero_le _, Nat.zero_le _⟩ (fun H locs hP hD hS => ?_)
  refine lv_istore_n (lv' := [(3, .int r3), (2, .int r1), (0, .ref (q 22)), (1, .int x1)]) hx hb dX8_statusNow_13 rfl hl (by decide) rfl (fun ls hl => ?_)
  refine lv_iload_n hx hb dX8_statusNow_14 rfl (lv_at hl 1 rfl) ?_
  obtain ⟨r5, e6, h⟩ := bo h
  refine caSR_i (As := [.int r1]) (rest := []) (ctX8_bits l dC dI cq q S M o _ _ _ _ e6) F (va_cwS 1 hts gX8_statusNow_X8_bits rfl rfl rfl hdX8_bits ⟨Nat.le_of_ble_eq_true rfl, Nat.le_of_ble_eq_true rfl⟩) hK hP hD hDm hS hA (fun _ _ _ _ _ => trivial) (fun _ _ _ => trivial) rfl hl.1 rfl (Nat.le_of_ble_eq_true rfl) dX8_statusNow_15 ⟨Nat.zero_le _, Nat.zero_le _⟩ (fun H locs hP hD hS => ?_)
  refine lv_iconst (v := (1 : Int32)) hx hb dX8_statusNow_18 (by decide) ?_
  refine lv_icmp_gt (tgt := 30) hx hb dX8_statusNow_19 (by decide) (fun c7 => ?_) (fun c7 => ?_)
  · replace h := it c7 h
    exact hj30 _ _ _ hP hD hS (lv_sub hl [] rfl) h
  · replace h := ie c7 h
    refine lv_iload_n hx hb dX8_statusNow_22 rfl (lv_at hl 0 rfl) ?_
    obtain ⟨r8, e9, h⟩ := bo h
    refine caSR_i (As := [.int r3]) (rest := []) (ctX8_bits l dC dI cq q S M o _ _ _ _ e9) F (va_cwS 1 hts gX8_statusNow_X8_bits rfl rfl rfl hdX8_bits ⟨Nat.le_of_ble_eq_true rfl, Nat.le_of_ble_eq_true rfl⟩) hK hP hD hDm hS hA (fun _ _ _ _ _ => trivial) (fun _ _ _ => trivial) rfl hl.1 rfl (Nat.le_of_ble_eq_true rfl) dX8_statusNow_23 ⟨Nat.zero_le _, Nat.zero_le _⟩ (fun H locs hP hD hS => ?_)
    refine lv_iconst (v := (1 : Int32)) hx hb dX8_statusNow_26 (by decide) ?_
    refine lv_icmp_le (tgt := 34) hx hb dX8_statusNow_27 (by decide) (fun c10 => ?_) (fun c10 => ?_)
    · replace h := it c10 h
      refine lv_iload_n hx hb dX8_statusNow_34 rfl (lv_at hl 0 rfl) ?_
      refine lv_if_ne (tgt := 42) hx hb dX8_statusNow_35 (by decide) (fun c11 => ?_) (fun c11 => ?_)
      · replace h := ie c11 h
        refine lv_iload_n hx hb dX8_statusNow_42 rfl (lv_at hl 0 rfl) ?_
        refine lv_iconst (v := (1 : Int32)) hx hb dX8_statusNow_43 (by decide) ?_
        refine lv_iload_n hx hb dX8_statusNow_44 rfl (lv_at hl 3 rfl) ?_
        refine lv_ishl hx hb dX8_statusNow_45 ?_
        refine lv_icmp_eq (tgt := 53) hx hb dX8_statusNow_46 (by decide) (fun c12 => ?_) (fun c12 => ?_)
        · replace h := it c12 h
          refine lv_iconst (v := (0 : Int32)) hx hb dX8_statusNow_53 (by decide) ?_
          exact hend _ _ _ _ _ h hP hD hS dX8_statusNow_54
        · replace h := ie c12 h
          refine lv_iconst (v := (2 : Int32)) hx hb dX8_statusNow_49 (by decide) ?_
          refine lv_goto (tgt := 54) hx hb dX8_statusNow_50 (by decide) ?_
          exact hend _ _ _ _ _ h hP hD hS dX8_statusNow_54
      · replace h := it c11 h
        refine lv_iconst (v := (1 : Int32)) hx hb dX8_statusNow_38 (by decide) ?_
        refine lv_goto (tgt := 54) hx hb dX8_statusNow_39 (by decide) ?_
        exact hend _ _ _ _ _ h hP hD hS dX8_statusNow_54
    · replace h := ie c10 h
      exact hj30 _ _ _ hP hD hS (lv_sub hl [] rfl) h
def mX8_wrong_31 (n : Nat) (K9 : MS → Int32 → Int32 → Option (Int32 × MS)) (M : MS) (x3 : Int32) (t0 : Int32) (t1 : Int32) : Option (Int32 × MS) :=
  (K9 M (t1 ||| t0) (x3 + (1 : Int32)))
def mX8_wrong_9 (n : Nat)   : Nat → MS → Int32 → Int32 → Option (Int32 × MS)
  | 0, _, _, _ => none
  | k + 1, M, x2, x3 => (if (8 : Int32) ≤ x3 then (some (x2, M)) else (bn (mX8_statusNow n M x3) fun r5 => (if r5 = (0 : Int32) then (mX8_wrong_31 n (mX8_wrong_9 n k) M x3 (0 : Int32) x2) else (mX8_wrong_31 n (mX8_wrong_9 n k) M x3 ((1 : Int32) <<< (x3 &&& 31)) x2))))
def mX8_wrong (n : Nat) (M : MS) (x1 : Int32) : Option (Int32 × MS) :=
  (bn (mX8_layNets n M x1) fun M3 => (mX8_wrong_9 n n M3 (0 : Int32) (0 : Int32)))
abbrev rmX8_wrong : Room := { frames := 5, cells := 0, slots := 0, locals := 115 }
theorem hdX8_wrong : yX8_wrong.cls = RX8 ∧ yX8_wrong.cls ≠ "java/lang/invoke/MethodHandle" ∧ yX8_wrong.cls ≠ "java/lang/invoke/VarHandle" ∧ (parseMethodDescriptor yX8_wrong.desc).map (fun d => d.parameters.length) = some 1 := by decide +kernel
set_option maxRecDepth 100000 in
set_option maxHeartbeats 8000000 in
theorem ctX8_wrong (l : Launch) (dC : Nat → ClassId) (dI : Nat → Nat → Nat) (cq : Nat → ClassId) (q : Nat → Nat) (S : CS) (M : MS) (o : Nat → Int64) (sz : Nat) (n : Nat) (x1 : Int32) (rr : Int32) (MM : MS) (h : mX8_wrong n M x1 = some (rr, MM)) : CtM_i l yX8_wrong wsX8_wrong rmX8_wrong (fun _ => True) (fun _ => True) dC dI cq q S M o sz [.ref (q 22), .int x1] rr MM := by
  refine enM_i (cc := cX8_wrong) (maxL := 4) (by decide) rfl (Nat.le_of_ble_eq_true rfl) (fun p e s m args below meth c A Q ls F hA hP hK hD hDm hX hS hl hend => ?_)
  obtain ⟨hx, hb, hml, hown, hts⟩ := id F
  have hown : s.vm.findClass RX8 = some m.cls := hown
  have F : CallFix p m c cX8_wrong 4 s args wsX8_wrong RX8 := F
  have hl : lv_has ls 4 [(0, .ref (q 22)), (1, .int x1)] := hl
  have hj31 : ∀ (M : MS) (x3 : Int32) (t0 : Int32) (t1 : Int32) (K9 : MS → Int32 → Int32 → Option (Int32 × MS)) (hK9 : ∀ (M9 : MS) (y2 : Int32) (y3 : Int32) (H : Heap) (locs : List Loc) (ls : Array Slot), va_P (dC, dI) vwCl (wA cq q S M9 o) H → va_D A (wA cq q S M9 o) → va_S A s.heap H locs → lv_has ls 4 [(0, .ref (q 22)), (2, .int y2), (3, .int y3)] → K9 M9 y2 y3 = some (rr, MM) → W p l e rmX8_wrong s m args below meth c H locs 0 0 Q (F0 m 9 ls [])) (H : Heap) (locs : List Loc) (ls : Array Slot), va_P (dC, dI) vwCl (wA cq q S M o) H → va_D A (wA cq q S M o) → va_S A s.heap H locs → lv_has ls 4 [(0, .ref (q 22)), (3, .int x3)] → mX8_wrong_31 n K9 M x3 t0 t1 = some (rr, MM) → W p l e rmX8_wrong s m args below meth c H locs 0 0 Q (F0 m 31 ls [.int t0, .int t1]) := by
    intro M x3 t0 t1 K9 hK9 H locs ls hP hD hS hl h
    rw [mX8_wrong_31] at h
    refine lv_ior hx hb dX8_wrong_31 ?_
    refine lv_istore_n (lv' := [(2, .int (t1 ||| t0)), (0, .ref (q 22)), (3, .int x3)]) hx hb dX8_wrong_32 rfl hl (by decide) rfl (fun ls hl => ?_)
    refine lv_iinc (v := (x3 + (1 : Int32))) (lv' := [(3, .int (x3 + (1 : Int32))), (2, .int (t1 ||| t0)), (0, .ref (q 22))]) hx hb dX8_wrong_33 hl (k := 2) rfl rfl (by decide) rfl (fun ls hl => ?_)
    refine lv_goto (tgt := 9) hx hb dX8_wrong_36 (by decide) ?_
    exact hK9 _ _ _ _ _ _ hP hD hS (lv_sub hl [2, 1, 0] rfl) h
  have hL9 : ∀   (k : Nat) (M : MS) (x2 : Int32) (x3 : Int32) (H : Heap) (locs : List Loc) (ls : Array Slot), va_P (dC, dI) vwCl (wA cq q S M o) H → va_D A (wA cq q S M o) → va_S A s.heap H locs → lv_has ls 4 [(0, .ref (q 22)), (2, .int x2), (3, .int x3)] → mX8_wrong_9 n k M x2 x3 = some (rr, MM) → W p l e rmX8_wrong s m args below meth c H locs 0 0 Q (F0 m 9 ls []) := by
    intro k
    induction k with
    | zero =>
      intro M x2 x3 H locs ls hP hD hS hl h
      rw [mX8_wrong_9] at h
      cases h
    | succ k ih =>
      intro M x2 x3 H locs ls hP hD hS hl h
      rw [mX8_wrong_9] at h
      refine lv_iload_n hx hb dX8_wrong_9 rfl (lv_at hl 2 rfl) ?_
      refine lv_bipush (v := (8 : Int32)) hx hb dX8_wrong_10 (by decide) ?_
      refine lv_icmp_ge (tgt := 39) hx hb dX8_wrong_12 (by decide) (fun c4 => ?_) (fun c4 => ?_)
      · replace h := it c4 h
        refine lv_iload_n hx hb dX8_wrong_39 rfl (lv_at hl 1 rfl) ?_
        exact hend _ _ _ _ _ _ h hP hD hS dX8_wrong_40
      · replace h := ie c4 h
        refine lv_iload_n hx hb dX8_wrong_15 rfl (lv_at hl 1 rfl) ?_
        refine lv_aload_n hx hb dX8_wrong_16 rfl (lv_at hl 0 rfl) ?_
        refine lv_iload_n hx hb dX8_wrong_17 rfl (lv_at hl 2 rfl) ?_
        obtain ⟨r5, e6, h⟩ := bo h
        refine caVR_i (As := [.int x3]) (rest := [.int x2]) (ctX8_statusNow l dC dI cq q S M o _ _ _ _ e6) F (cwV 1 hts gX8_wrong_X8_statusNow rfl rfl rfl hdX8_statusNow ⟨Nat.le_of_ble_eq_true rfl, Nat.le_of_ble_eq_true rfl⟩) hK hP hD hDm hS hA (fun _ _ _ _ _ => trivial) (fun _ _ _ => trivial) (va_recv hK hP (ci := 9) (q0 := 22) rfl rfl) rfl hl.1 rfl (Nat.le_of_ble_eq_true rfl) dX8_wrong_18 ⟨Nat.zero_le _, Nat.zero_le _⟩ (fun H locs hP hD hS => ?_)
        refine lv_if_eq (tgt := 30) hx hb dX8_wrong_21 (by decide) (fun c7 => ?_) (fun c7 => ?_)
        · replace h := it c7 h
          refine lv_iconst (v := (0 : Int32)) hx hb dX8_wrong_30 (by decide) ?_
          exact hj31 _ _ _ _ _ ih _ _ _ hP hD hS (lv_sub hl [0, 2] rfl) h
        · replace h := ie c7 h
          refine lv_iconst (v := (1 : Int32)) hx hb dX8_wrong_24 (by decide) ?_
          refine lv_iload_n hx hb dX8_wrong_25 rfl (lv_at hl 2 rfl) ?_
          refine lv_ishl hx hb dX8_wrong_26 ?_
          refine lv_goto (tgt := 31) hx hb dX8_wrong_27 (by decide) ?_
          exact hj31 _ _ _ _ _ ih _ _ _ hP hD hS (lv_sub hl [0, 2] rfl) h
  rw [mX8_wrong] at h
  refine lv_aload_n hx hb dX8_wrong_0 rfl (lv_at hl 0 rfl) ?_
  refine lv_iload_n hx hb dX8_wrong_1 rfl (lv_at hl 1 rfl) ?_
  obtain ⟨M3, e2, h⟩ := bo h
  refine caVM_v (As := [.int x1]) (rest := []) (ctX8_layNets l dC dI cq q S M o _ _ _ _ e2) F (cwV 1 hts gX8_wrong_X8_layNets rfl rfl rfl hdX8_layNets ⟨Nat.le_of_ble_eq_true rfl, Nat.le_of_ble_eq_true rfl⟩) hK hP hD hDm hS hA (fun _ _ _ _ _ => trivial) (fun _ _ _ => trivial) (va_recv hK hP (ci := 9) (q0 := 22) rfl rfl) rfl hl.1 rfl (Nat.le_of_ble_eq_true rfl) dX8_wrong_2 ⟨Nat.zero_le _, Nat.zero_le _⟩ (fun H locs hP hD hS => ?_)
  refine lv_iconst (v := (0 : Int32)) hx hb dX8_wrong_5 (by decide) ?_
  refine lv_istore_n (lv' := [(2, .int (0 : Int32)), (0, .ref (q 22)), (1, .int x1)]) hx hb dX8_wrong_6 rfl hl (by decide) rfl (fun ls hl => ?_)
  refine lv_iconst (v := (0 : Int32)) hx hb dX8_wrong_7 (by decide) ?_
  refine lv_istore_n (lv' := [(3, .int (0 : Int32)), (2, .int (0 : Int32)), (0, .ref (q 22)), (1, .int x1)]) hx hb dX8_wrong_8 rfl hl (by decide) rfl (fun ls hl => ?_)
  exact hL9 _ _ _ _ _ _ _ hP hD hS (lv_sub hl [2, 1, 0] rfl) h
def mX8_begin_28 (n : Nat)  (M : MS) (x1 : Int32) (x2 : Int32) (t0 : Int32) : Option (Int32 × MS) :=
  (if ((sG M 0 t0).1 0) ≤ (0 : Int32) then (bn (mX8_fresh n (sG M 0 t0) x1 x2) fun M7 => (some (((sG M 0 t0).1 1), M7))) else (some ((0 : Int32), (sG M 0 t0))))
def mX8_begin_27 (n : Nat)  (M : MS) (x1 : Int32) (x2 : Int32)  : Option (Int32 × MS) :=
  (mX8_begin_28 n M x1 x2 (1 : Int32))
def mX8_begin (n : Nat) (M : MS) (x1 : Int32) (x2 : Int32) : Option (Int32 × MS) :=
  (bn (mX8_within x1 (2 : Int32) (999 : Int32)) fun r1 => (if r1 = (0 : Int32) then (mX8_begin_27 n M x1 x2) else (bn (mX8_within x2 (50 : Int32) (99 : Int32)) fun r8 => (if r8 = (0 : Int32) then (mX8_begin_27 n M x1 x2) else (mX8_begin_28 n M x1 x2 (0 : Int32))))))
abbrev rmX8_begin : Room := { frames := 1, cells := 0, slots := 0, locals := 23 }
theorem hdX8_begin : yX8_begin.cls = RX8 ∧ yX8_begin.cls ≠ "java/lang/invoke/MethodHandle" ∧ yX8_begin.cls ≠ "java/lang/invoke/VarHandle" ∧ (parseMethodDescriptor yX8_begin.desc).map (fun d => d.parameters.length) = some 2 := by decide +kernel
set_option maxRecDepth 100000 in
set_option maxHeartbeats 8000000 in
theorem ctX8_begin (l : Launch) (dC : Nat → ClassId) (dI : Nat → Nat → Nat) (cq : Nat → ClassId) (q : Nat → Nat) (S : CS) (M : MS) (o : Nat → Int64) (sz : Nat) (n : Nat) (x1 : Int32) (x2 : Int32) (rr : Int32) (MM : MS) (h : mX8_begin n M x1 x2 = some (rr, MM)) : CtM_i l yX8_begin wsX8_begin rmX8_begin (fun _ => True) (fun _ => True) dC dI cq q S M o sz [.ref (q 22), .int x1, .int x2] rr MM := by
  refine enM_i (cc := cX8_begin) (maxL := 4) (by decide) rfl (Nat.le_of_ble_eq_true rfl) (fun p e s m args below meth c A Q ls F hA hP hK hD hDm hX hS hl hend => ?_)
  obtain ⟨hx, hb, hml, hown, hts⟩ := id F
  have hown : s.vm.findClass RX8 = some m.cls := hown
  have F : CallFix p m c cX8_begin 4 s args wsX8_begin RX8 := F
  have hl : lv_has ls 4 [(0, .ref (q 22)), (1, .int x1), (2, .int x2)] := hl
  have hinX8 : ∀ w ∈ u_ws RX8 TX8 29, w ∈ wsX8_begin := fun w h => List.mem_cons_of_mem _ (List.mem_append_right _ h)
  have hj28 : ∀ (M : MS) (x1 : Int32) (x2 : Int32) (t0 : Int32)  (H : Heap) (locs : List Loc) (ls : Array Slot), va_P (dC, dI) vwCl (wA cq q S M o) H → va_D A (wA cq q S M o) → va_S A s.heap H locs → lv_has ls 4 [(0, .ref (q 22)), (1, .int x1), (2, .int x2)] → mX8_begin_28 n M x1 x2 t0 = some (rr, MM) → W p l e rmX8_begin s m args below meth c H locs 0 0 Q (F0 m 28 ls [.int t0, .ref (q 22)]) := by
    intro M x1 x2 t0 H locs ls hP hD hS hl h
    rw [mX8_begin_28] at h
    refine pt_22_0 F hinX8 (hts (.fieldLink RX8 44 "CableTesterModel" "thrown" "I") (mm 1 rfl)) hK hP hD hS dX8_begin_28 (fun H locs hP hD hS => ?_)
    refine lv_aload_n hx hb dX8_begin_31 rfl (lv_at hl 0 rfl) ?_
    refine va_get (D := (dC, dI)) (ci := 9) (v := .int ((sG M 0 t0).1 0)) (C := RX8) (T := TX8) (N := 29) hx hb hts hinX8 hown hK hP 22 rfl rfl 0 (by decide) (hts (.fieldLink RX8 44 "CableTesterModel" "thrown" "I") (mm 1 rfl)) (fun _ h9 => h9) rfl dX8_begin_32 ?_
    refine lv_if_le (tgt := 40) hx hb dX8_begin_35 (by decide) (fun c4 => ?_) (fun c4 => ?_)
    · replace h := it c4 h
      refine lv_aload_n hx hb dX8_begin_40 rfl (lv_at hl 0 rfl) ?_
      refine va_get (D := (dC, dI)) (ci := 9) (v := .int ((sG M 0 t0).1 1)) (C := RX8) (T := TX8) (N := 29) hx hb hts hinX8 hown hK hP 22 rfl rfl 1 (by decide) (hts (.fieldLink RX8 52 "CableTesterModel" "length" "I") (mm 2 rfl)) (fun _ h9 => h9) rfl dX8_begin_41 ?_
      refine lv_istore_n (lv' := [(3, .int ((sG M 0 t0).1 1)), (0, .ref (q 22)), (1, .int x1), (2, .int x2)]) hx hb dX8_begin_44 rfl hl (by decide) rfl (fun ls hl => ?_)
      refine lv_aload_n hx hb dX8_begin_45 rfl (lv_at hl 1 rfl) ?_
      refine lv_iload_n hx hb dX8_begin_46 rfl (lv_at hl 2 rfl) ?_
      refine lv_iload_n hx hb dX8_begin_47 rfl (lv_at hl 3 rfl) ?_
      obtain ⟨M7, e6, h⟩ := bo h
      refine caVM_v (As := [.int x1, .int x2]) (rest := []) (ctX8_fresh l dC dI cq q S (sG M 0 t0) o _ _ _ _ _ e6) F (cwV 2 hts gX8_begin_X8_fresh rfl rfl rfl hdX8_fresh ⟨Nat.le_of_ble_eq_true rfl, Nat.le_of_ble_eq_true rfl⟩) hK hP hD hDm hS hA (fun _ _ _ _ _ => trivial) (fun _ _ _ => trivial) (va_recv hK hP (ci := 9) (q0 := 22) rfl rfl) rfl hl.1 rfl (Nat.le_of_ble_eq_true rfl) dX8_begin_48 ⟨Nat.zero_le _, Nat.zero_le _⟩ (fun H locs hP hD hS => ?_)
      refine lv_iload_n hx hb dX8_begin_51 rfl (lv_at hl 0 rfl) ?_
      exact hend _ _ _ _ _ _ h hP hD hS dX8_begin_52
    · replace h := ie c4 h
      refine lv_iconst (v := (0 : Int32)) hx hb dX8_begin_38 (by decide) ?_
      exact hend _ _ _ _ _ _ h hP hD hS dX8_begin_39
  have hj27 : ∀ (M : MS) (x1 : Int32) (x2 : Int32)   (H : Heap) (locs : List Loc) (ls : Array Slot), va_P (dC, dI) vwCl (wA cq q S M o) H → va_D A (wA cq q S M o) → va_S A s.heap H locs → lv_has ls 4 [(0, .ref (q 22)), (1, .int x1), (2, .int x2)] → mX8_begin_27 n M x1 x2 = some (rr, MM) → W p l e rmX8_begin s m args below meth c H locs 0 0 Q (F0 m 27 ls [.ref (q 22)]) := by
    intro M x1 x2 H locs ls hP hD hS hl h
    rw [mX8_begin_27] at h
    refine lv_iconst (v := (1 : Int32)) hx hb dX8_begin_27 (by decide) ?_
    exact hj28 _ _ _ _ _ _ _ hP hD hS (lv_sub hl [0, 1, 2] rfl) h
  rw [mX8_begin] at h
  refine lv_aload_n hx hb dX8_begin_0 rfl (lv_at hl 0 rfl) ?_
  refine lv_iload_n hx hb dX8_begin_1 rfl (lv_at hl 1 rfl) ?_
  refine lv_iconst (v := (2 : Int32)) hx hb dX8_begin_2 (by decide) ?_
  refine lv_sipush (v := (999 : Int32)) hx hb dX8_begin_3 (by decide) ?_
  obtain ⟨r1, e2, h⟩ := bo h
  refine caSR_i (As := [.int x1, .int (2 : Int32), .int (999 : Int32)]) (rest := [.ref (q 22)]) (ctX8_within l dC dI cq q S M o _ _ _ _ _ e2) F (va_cwS 3 hts gX8_begin_X8_within rfl rfl rfl hdX8_within ⟨Nat.le_of_ble_eq_true rfl, Nat.le_of_ble_eq_true rfl⟩) hK hP hD hDm hS hA (fun _ _ _ _ _ => trivial) (fun _ _ _ => trivial) rfl hl.1 rfl (Nat.le_of_ble_eq_true rfl) dX8_begin_6 ⟨Nat.zero_le _, Nat.zero_le _⟩ (fun H locs hP hD hS => ?_)
  refine lv_if_eq (tgt := 27) hx hb dX8_begin_9 (by decide) (fun c3 => ?_) (fun c3 => ?_)
  · replace h := it c3 h
    exact hj27 _ _ _ _ _ _ hP hD hS (lv_sub hl [0, 1, 2] rfl) h
  · replace h := ie c3 h
    refine lv_iload_n hx hb dX8_begin_12 rfl (lv_at hl 2 rfl) ?_
    refine lv_bipush (v := (50 : Int32)) hx hb dX8_begin_13 (by decide) ?_
    refine lv_bipush (v := (99 : Int32)) hx hb dX8_begin_15 (by decide) ?_
    obtain ⟨r8, e9, h⟩ := bo h
    refine caSR_i (As := [.int x2, .int (50 : Int32), .int (99 : Int32)]) (rest := [.ref (q 22)]) (ctX8_within l dC dI cq q S M o _ _ _ _ _ e9) F (va_cwS 3 hts gX8_begin_X8_within rfl rfl rfl hdX8_within ⟨Nat.le_of_ble_eq_true rfl, Nat.le_of_ble_eq_true rfl⟩) hK hP hD hDm hS hA (fun _ _ _ _ _ => trivial) (fun _ _ _ => trivial) rfl hl.1 rfl (Nat.le_of_ble_eq_true rfl) dX8_begin_17 ⟨Nat.zero_le _, Nat.zero_le _⟩ (fun H locs hP hD hS => ?_)
    refine lv_if_eq (tgt := 27) hx hb dX8_begin_20 (by decide) (fun c10 => ?_) (fun c10 => ?_)
    · replace h := it c10 h
      exact hj27 _ _ _ _ _ _ hP hD hS (lv_sub hl [0, 1, 2] rfl) h
    · replace h := ie c10 h
      refine lv_iconst (v := (0 : Int32)) hx hb dX8_begin_23 (by decide) ?_
      refine lv_goto (tgt := 28) hx hb dX8_begin_24 (by decide) ?_
      exact hj28 _ _ _ _ _ _ _ hP hD hS (lv_sub hl [0, 1, 2] rfl) h
