def mX5_membersWith (S : CS) (x1 : Int32) : Option (Int32) :=
  (if x1 < (0 : Int32) then (some (0 : Int32)) else (if (16 : Int32) ≤ x1 then (some (0 : Int32)) else (if inb x1 16 then (some (S.2.1 12 x1.toNatClampNeg)) else none)))
abbrev rmX5_membersWith : Room := { frames := 0, cells := 0, slots := 0, locals := 0 }
theorem hdX5_membersWith : yX5_membersWith.cls = RX5 ∧ yX5_membersWith.cls ≠ "java/lang/invoke/MethodHandle" ∧ yX5_membersWith.cls ≠ "java/lang/invoke/VarHandle" ∧ (parseMethodDescriptor yX5_membersWith.desc).map (fun d => d.parameters.length) = some 1 := by decide +kernel
set_option maxRecDepth 100000 in
set_option maxHeartbeats 8000000 in
theorem ctX5_membersWith (l : Launch) (dC : Nat → ClassId) (dI : Nat → Nat → Nat) (cq : Nat → ClassId) (q : Nat → Nat) (S : CS) (M : MS) (o : Nat → Int64) (sz : Nat) (h0 : Nat) (x1 : Int32) (rr : Int32) (h : mX5_membersWith S x1 = some rr) : CtR_i l yX5_membersWith wsX5_membersWith rmX5_membersWith (fun a => h0 ≤ a) (EV h0 q) dC dI cq q S M o sz [.ref (q 6), .int x1] rr := by
  refine enR_i (cc := cX5_membersWith) (maxL := 2) (by decide) rfl (Nat.le_of_ble_eq_true rfl) (fun p e s m args below meth c A Q ls F hA hP hK hD hDm hX hS hl hend => ?_)
  obtain ⟨hx, hb, hml, hown, hts⟩ := id F
  have hown : s.vm.findClass RX5 = some m.cls := hown
  have F : CallFix p m c cX5_membersWith 2 s args wsX5_membersWith RX5 := F
  have hl : lv_has ls 2 [(0, .ref (q 6)), (1, .int x1)] := hl
  have hinX5 : ∀ w ∈ u_ws RX5 TX5 8, w ∈ wsX5_membersWith := fun w h => List.mem_cons_of_mem _ (List.mem_append_right _ h)
  rw [mX5_membersWith] at h
  refine lv_iload_n hx hb dX5_membersWith_0 rfl (lv_at hl 1 rfl) ?_
  refine lv_if_lt (tgt := 22) hx hb dX5_membersWith_1 (by decide) (fun c1 => ?_) (fun c1 => ?_)
  · replace h := it c1 h
    refine lv_iconst (v := (0 : Int32)) hx hb dX5_membersWith_22 (by decide) ?_
    exact hend _ _ _ _ _ h hP hD hS dX5_membersWith_23
  · replace h := ie c1 h
    refine lv_iload_n hx hb dX5_membersWith_4 rfl (lv_at hl 1 rfl) ?_
    refine lv_aload_n hx hb dX5_membersWith_5 rfl (lv_at hl 0 rfl) ?_
    refine va_get (D := (dC, dI)) (ci := 6) (v := .ref (q 12)) (C := RX5) (T := TX5) (N := 8) hx hb hts hinX5 hown hK hP 6 rfl rfl 7 (by decide) (hts (.fieldLink RX5 30 "CableTester$Nets" "members" "[I") (mm 1 rfl)) (fun _ h9 => h9) rfl dX5_membersWith_6 ?_
    refine va_alen (D := (dC, dI)) hx hb hK hP 12 6 rfl rfl (v := (16 : Int32)) rfl dX5_membersWith_9 ?_
    refine lv_icmp_ge (tgt := 22) hx hb dX5_membersWith_10 (by decide) (fun c2 => ?_) (fun c2 => ?_)
    · replace h := it c2 h
      refine lv_iconst (v := (0 : Int32)) hx hb dX5_membersWith_22 (by decide) ?_
      exact hend _ _ _ _ _ h hP hD hS dX5_membersWith_23
    · replace h := ie c2 h
      refine lv_aload_n hx hb dX5_membersWith_13 rfl (lv_at hl 0 rfl) ?_
      refine va_get (D := (dC, dI)) (ci := 6) (v := .ref (q 12)) (C := RX5) (T := TX5) (N := 8) hx hb hts hinX5 hown hK hP 6 rfl rfl 7 (by decide) (hts (.fieldLink RX5 30 "CableTester$Nets" "members" "[I") (mm 1 rfl)) (fun _ h9 => h9) rfl dX5_membersWith_14 ?_
      refine lv_iload_n hx hb dX5_membersWith_17 rfl (lv_at hl 1 rfl) ?_
      obtain ⟨g3, h⟩ := gd h
      refine va_iald (D := (dC, dI)) hx hb hK hP 12 6 rfl rfl (inb_ok g3) dX5_membersWith_18 ?_
      refine lv_goto (tgt := 23) hx hb dX5_membersWith_19 (by decide) ?_
      exact hend _ _ _ _ _ h hP hD hS dX5_membersWith_23
def mX5_farPinsWith (S : CS) (x1 : Int32) (x2 : Int32) : Option (Int32) :=
  (bn (mX5_membersWith S ((x1 * (8 : Int32)) + x2)) fun r1 => (some (r1 >>> ((8 : Int32) &&& 31))))
abbrev rmX5_farPinsWith : Room := { frames := 1, cells := 0, slots := 0, locals := 21 }
theorem hdX5_farPinsWith : yX5_farPinsWith.cls = RX5 ∧ yX5_farPinsWith.cls ≠ "java/lang/invoke/MethodHandle" ∧ yX5_farPinsWith.cls ≠ "java/lang/invoke/VarHandle" ∧ (parseMethodDescriptor yX5_farPinsWith.desc).map (fun d => d.parameters.length) = some 2 := by decide +kernel
set_option maxRecDepth 100000 in
set_option maxHeartbeats 8000000 in
theorem ctX5_farPinsWith (l : Launch) (dC : Nat → ClassId) (dI : Nat → Nat → Nat) (cq : Nat → ClassId) (q : Nat → Nat) (S : CS) (M : MS) (o : Nat → Int64) (sz : Nat) (h0 : Nat) (x1 : Int32) (x2 : Int32) (rr : Int32) (h : mX5_farPinsWith S x1 x2 = some rr) : CtR_i l yX5_farPinsWith wsX5_farPinsWith rmX5_farPinsWith (fun a => h0 ≤ a) (EV h0 q) dC dI cq q S M o sz [.ref (q 6), .int x1, .int x2] rr := by
  refine enR_i (cc := cX5_farPinsWith) (maxL := 3) (by decide) rfl (Nat.le_of_ble_eq_true rfl) (fun p e s m args below meth c A Q ls F hA hP hK hD hDm hX hS hl hend => ?_)
  obtain ⟨hx, hb, hml, hown, hts⟩ := id F
  have hown : s.vm.findClass RX5 = some m.cls := hown
  have F : CallFix p m c cX5_farPinsWith 3 s args wsX5_farPinsWith RX5 := F
  have hl : lv_has ls 3 [(0, .ref (q 6)), (1, .int x1), (2, .int x2)] := hl
  rw [mX5_farPinsWith] at h
  refine lv_aload_n hx hb dX5_farPinsWith_0 rfl (lv_at hl 0 rfl) ?_
  refine lv_iload_n hx hb dX5_farPinsWith_1 rfl (lv_at hl 1 rfl) ?_
  refine lv_bipush (v := (8 : Int32)) hx hb dX5_farPinsWith_2 (by decide) ?_
  refine lv_imul hx hb dX5_farPinsWith_4 ?_
  refine lv_iload_n hx hb dX5_farPinsWith_5 rfl (lv_at hl 2 rfl) ?_
  refine lv_iadd hx hb dX5_farPinsWith_6 ?_
  obtain ⟨r1, e2, h⟩ := bo h
  refine caVR_i (As := [.int ((x1 * (8 : Int32)) + x2)]) (rest := []) (ctX5_membersWith l dC dI cq q S M o _ _ _ _ e2) F (cwV 1 hts gX5_farPinsWith_X5_membersWith rfl rfl rfl hdX5_membersWith ⟨Nat.le_of_ble_eq_true rfl, Nat.le_of_ble_eq_true rfl⟩) hK hP hD hDm hS hA EV.blind (fun U hU hW => EV.call hX hS hDm hU hW) (va_recv hK hP (ci := 6) (q0 := 6) rfl rfl) rfl hl.1 rfl (Nat.le_of_ble_eq_true rfl) dX5_farPinsWith_7 ⟨Nat.zero_le _, Nat.zero_le _⟩ (fun H locs hP hD hS => ?_)
  refine lv_bipush (v := (8 : Int32)) hx hb dX5_farPinsWith_10 (by decide) ?_
  refine lv_ishr hx hb dX5_farPinsWith_12 ?_
  exact hend _ _ _ _ _ h hP hD hS dX5_farPinsWith_13
def mX5_nearPinsWith (S : CS) (x1 : Int32) (x2 : Int32) : Option (Int32) :=
  (bn (mX5_membersWith S ((x1 * (8 : Int32)) + x2)) fun r1 => (some (r1 &&& (255 : Int32))))
abbrev rmX5_nearPinsWith : Room := { frames := 1, cells := 0, slots := 0, locals := 21 }
theorem hdX5_nearPinsWith : yX5_nearPinsWith.cls = RX5 ∧ yX5_nearPinsWith.cls ≠ "java/lang/invoke/MethodHandle" ∧ yX5_nearPinsWith.cls ≠ "java/lang/invoke/VarHandle" ∧ (parseMethodDescriptor yX5_nearPinsWith.desc).map (fun d => d.parameters.length) = some 2 := by decide +kernel
set_option maxRecDepth 100000 in
set_option maxHeartbeats 8000000 in
theorem ctX5_nearPinsWith (l : Launch) (dC : Nat → ClassId) (dI : Nat → Nat → Nat) (cq : Nat → ClassId) (q : Nat → Nat) (S : CS) (M : MS) (o : Nat → Int64) (sz : Nat) (h0 : Nat) (x1 : Int32) (x2 : Int32) (rr : Int32) (h : mX5_nearPinsWith S x1 x2 = some rr) : CtR_i l yX5_nearPinsWith wsX5_nearPinsWith rmX5_nearPinsWith (fun a => h0 ≤ a) (EV h0 q) dC dI cq q S M o sz [.ref (q 6), .int x1, .int x2] rr := by
  refine enR_i (cc := cX5_nearPinsWith) (maxL := 3) (by decide) rfl (Nat.le_of_ble_eq_true rfl) (fun p e s m args below meth c A Q ls F hA hP hK hD hDm hX hS hl hend => ?_)
  obtain ⟨hx, hb, hml, hown, hts⟩ := id F
  have hown : s.vm.findClass RX5 = some m.cls := hown
  have F : CallFix p m c cX5_nearPinsWith 3 s args wsX5_nearPinsWith RX5 := F
  have hl : lv_has ls 3 [(0, .ref (q 6)), (1, .int x1), (2, .int x2)] := hl
  rw [mX5_nearPinsWith] at h
  refine lv_aload_n hx hb dX5_nearPinsWith_0 rfl (lv_at hl 0 rfl) ?_
  refine lv_iload_n hx hb dX5_nearPinsWith_1 rfl (lv_at hl 1 rfl) ?_
  refine lv_bipush (v := (8 : Int32)) hx hb dX5_nearPinsWith_2 (by decide) ?_
  refine lv_imul hx hb dX5_nearPinsWith_4 ?_
  refine lv_iload_n hx hb dX5_nearPinsWith_5 rfl (lv_at hl 2 rfl) ?_
  refine lv_iadd hx hb dX5_nearPinsWith_6 ?_
  obtain ⟨r1, e2, h⟩ := bo h
  refine caVR_i (As := [.int ((x1 * (8 : Int32)) + x2)]) (rest := []) (ctX5_membersWith l dC dI cq q S M o _ _ _ _ e2) F (cwV 1 hts gX5_nearPinsWith_X5_membersWith rfl rfl rfl hdX5_membersWith ⟨Nat.le_of_ble_eq_true rfl, Nat.le_of_ble_eq_true rfl⟩) hK hP hD hDm hS hA EV.blind (fun U hU hW => EV.call hX hS hDm hU hW) (va_recv hK hP (ci := 6) (q0 := 6) rfl rfl) rfl hl.1 rfl (Nat.le_of_ble_eq_true rfl) dX5_nearPinsWith_7 ⟨Nat.zero_le _, Nat.zero_le _⟩ (fun H locs hP hD hS => ?_)
  refine lv_sipush (v := (255 : Int32)) hx hb dX5_nearPinsWith_10 (by decide) ?_
  refine lv_iand hx hb dX5_nearPinsWith_13 ?_
  exact hend _ _ _ _ _ h hP hD hS dX5_nearPinsWith_14
def mX5_statusOf (S : CS) (x1 : Int32) : Option (Int32) :=
  (bn (mX5_farPinsWith S (0 : Int32) x1) fun r1 => (bn (mX5_nearPinsWith S (0 : Int32) x1) fun r3 => (bn (mJ6_bitCount_0f7a4 r3) fun r5 => (if (1 : Int32) < r5 then (some (3 : Int32)) else (bn (mJ6_bitCount_0f7a4 r1) fun r8 => (if r8 ≤ (1 : Int32) then (if r1 = (0 : Int32) then (some (1 : Int32)) else (if r1 = ((1 : Int32) <<< (x1 &&& 31)) then (some (0 : Int32)) else (some (2 : Int32)))) else (some (3 : Int32))))))))
abbrev rmX5_statusOf : Room := { frames := 2, cells := 0, slots := 0, locals := 43 }
theorem hdX5_statusOf : yX5_statusOf.cls = RX5 ∧ yX5_statusOf.cls ≠ "java/lang/invoke/MethodHandle" ∧ yX5_statusOf.cls ≠ "java/lang/invoke/VarHandle" ∧ (parseMethodDescriptor yX5_statusOf.desc).map (fun d => d.parameters.length) = some 1 := by decide +kernel
set_option maxRecDepth 100000 in
set_option maxHeartbeats 8000000 in
theorem ctX5_statusOf (l : Launch) (dC : Nat → ClassId) (dI : Nat → Nat → Nat) (cq : Nat → ClassId) (q : Nat → Nat) (S : CS) (M : MS) (o : Nat → Int64) (sz : Nat) (h0 : Nat) (x1 : Int32) (rr : Int32) (h : mX5_statusOf S x1 = some rr) : CtR_i l yX5_statusOf wsX5_statusOf rmX5_statusOf (fun a => h0 ≤ a) (EV h0 q) dC dI cq q S M o sz [.ref (q 6), .int x1] rr := by
  refine enR_i (cc := cX5_statusOf) (maxL := 3) (by decide) rfl (Nat.le_of_ble_eq_true rfl) (fun p e s m args below meth c A Q ls F hA hP hK hD hDm hX hS hl hend => ?_)
  obtain ⟨hx, hb, hml, hown, hts⟩ := id F
  have hown : s.vm.findClass RX5 = some m.cls := hown
  have F : CallFix p m c cX5_statusOf 3 s args wsX5_statusOf RX5 := F
  have hl : lv_has ls 3 [(0, .ref (q 6)), (1, .int x1)] := hl
  rw [mX5_statusOf] at h
  refine lv_aload_n hx hb dX5_statusOf_0 rfl (lv_at hl 0 rfl) ?_
  refine lv_iconst (v := (0 : Int32)) hx hb dX5_statusOf_1 (by decide) ?_
  refine lv_iload_n hx hb dX5_statusOf_2 rfl (lv_at hl 1 rfl) ?_
  obtain ⟨r1, e2, h⟩ := bo h
  refine caVR_i (As := [.int (0 : Int32), .int x1]) (rest := []) (ctX5_farPinsWith l dC dI cq q S M o _ _ _ _ _ e2) F (cwV 2 hts gX5_statusOf_X5_farPinsWith rfl rfl rfl hdX5_farPinsWith ⟨Nat.le_of_ble_eq_true rfl, Nat.le_of_ble_eq_true rfl⟩) hK hP hD hDm hS hA EV.blind (fun U hU hW => EV.call hX hS hDm hU hW) (va_recv hK hP (ci := 6) (q0 := 6) rfl rfl) rfl hl.1 rfl (Nat.le_of_ble_eq_true rfl) dX5_statusOf_3 ⟨Nat.zero_le _, Nat.zero_le _⟩ (fun H locs hP hD hS => ?_)
  refine lv_istore_n (lv' := [(2, .int r1), (0, .ref (q 6)), (1, .int x1)]) hx hb dX5_statusOf_6 rfl hl (by decide) rfl (fun ls hl => ?_)
  refine lv_aload_n hx hb dX5_statusOf_7 rfl (lv_at hl 1 rfl) ?_
  refine lv_iconst (v := (0 : Int32)) hx hb dX5_statusOf_8 (by decide) ?_
  refine lv_iload_n hx hb dX5_statusOf_9 rfl (lv_at hl 2 rfl) ?_
  obtain ⟨r3, e4, h⟩ := bo h
  refine caVR_i (As := [.int (0 : Int32), .int x1]) (rest := []) (ctX5_nearPinsWith l dC dI cq q S M o _ _ _ _ _ e4) F (cwV 2 hts gX5_statusOf_X5_nearPinsWith rfl rfl rfl hdX5_nearPinsWith ⟨Nat.le_of_ble_eq_true rfl, Nat.le_of_ble_eq_true rfl⟩) hK hP hD hDm hS hA EV.blind (fun U hU hW => EV.call hX hS hDm hU hW) (va_recv hK hP (ci := 6) (q0 := 6) rfl rfl) rfl hl.1 rfl (Nat.le_of_ble_eq_true rfl) dX5_statusOf_10 ⟨Nat.zero_le _, Nat.zero_le _⟩ (fun H locs hP hD hS => ?_)
  obtain ⟨r5, e6, h⟩ := bo h
  refine caSR_i (As := [.int r3]) (rest := []) (ctJ6_bitCount_0f7a4 l dC dI cq q S M o _ _ _ _ e6) F (va_cwS 1 hts gX5_statusOf_J6_bitCount_0f7a4 rfl rfl rfl hdJ6_bitCount_0f7a4 ⟨Nat.le_of_ble_eq_true rfl, Nat.le_of_ble_eq_true rfl⟩) hK hP hD hDm hS hA EV.blind (fun U hU hW => EV.call hX hS hDm hU hW) rfl hl.1 rfl (Nat.le_of_ble_eq_true rfl) dX5_statusOf_13 ⟨Nat.zero_le _, Nat.zero_le _⟩ (fun H locs hP hD hS => ?_)
  refine lv_iconst (v := (1 : Int32)) hx hb dX5_statusOf_16 (by decide) ?_
  refine lv_icmp_gt (tgt := 28) hx hb dX5_statusOf_17 (by decide) (fun c7 => ?_) (fun c7 => ?_)
  · replace h := it c7 h
    refine lv_iconst (v := (3 : Int32)) hx hb dX5_statusOf_28 (by decide) ?_
    exact hend _ _ _ _ _ h hP hD hS dX5_statusOf_29
  · replace h := ie c7 h
    refine lv_iload_n hx hb dX5_statusOf_20 rfl (lv_at hl 0 rfl) ?_
    obtain ⟨r8, e9, h⟩ := bo h
    refine caSR_i (As := [.int r1]) (rest := []) (ctJ6_bitCount_0f7a4 l dC dI cq q S M o _ _ _ _ e9) F (va_cwS 1 hts gX5_statusOf_J6_bitCount_0f7a4 rfl rfl rfl hdJ6_bitCount_0f7a4 ⟨Nat.le_of_ble_eq_true rfl, Nat.le_of_ble_eq_true rfl⟩) hK hP hD hDm hS hA EV.blind (fun U hU hW => EV.call hX hS hDm hU hW) rfl hl.1 rfl (Nat.le_of_ble_eq_true rfl) dX5_statusOf_21 ⟨Nat.zero_le _, Nat.zero_le _⟩ (fun H locs hP hD hS => ?_)
    refine lv_iconst (v := (1 : Int32)) hx hb dX5_statusOf_24 (by decide) ?_
    refine lv_icmp_le (tgt := 30) hx hb dX5_statusOf_25 (by decide) (fun c10 => ?_) (fun c10 => ?_)
    · replace h := it c10 h
      refine lv_iload_n hx hb dX5_statusOf_30 rfl (lv_at hl 0 rfl) ?_
      refine lv_if_ne (tgt := 36) hx hb dX5_statusOf_31 (by decide) (fun c11 => ?_) (fun c11 => ?_)
      · replace h := ie c11 h
        refine lv_iload_n hx hb dX5_statusOf_36 rfl (lv_at hl 0 rfl) ?_
        refine lv_iconst (v := (1 : Int32)) hx hb dX5_statusOf_37 (by decide) ?_
        refine lv_iload_n hx hb dX5_statusOf_38 rfl (lv_at hl 2 rfl) ?_
        refine lv_ishl hx hb dX5_statusOf_39 ?_
        refine lv_icmp_ne (tgt := 47) hx hb dX5_statusOf_40 (by decide) (fun c12 => ?_) (fun c12 => ?_)
        · replace h := ie c12 h
          refine lv_iconst (v := (2 : Int32)) hx hb dX5_statusOf_47 (by decide) ?_
          exact hend _ _ _ _ _ h hP hD hS dX5_statusOf_48
        · replace h := it c12 h
          refine lv_iconst (v := (0 : Int32)) hx hb dX5_statusOf_43 (by decide) ?_
          refine lv_goto (tgt := 48) hx hb dX5_statusOf_44 (by decide) ?_
          exact hend _ _ _ _ _ h hP hD hS dX5_statusOf_48
      · replace h := it c11 h
        refine lv_iconst (v := (1 : Int32)) hx hb dX5_statusOf_34 (by decide) ?_
        exact hend _ _ _ _ _ h hP hD hS dX5_statusOf_35
    · replace h := ie c10 h
      refine lv_iconst (v := (3 : Int32)) hx hb dX5_statusOf_28 (by decide) ?_
      exact hend _ _ _ _ _ h hP hD hS dX5_statusOf_29
def mX5_collectWrongPins_33 (n : Nat) (K7 : CS → Int32 → Option (CS)) (S : CS) (x1 : Int32)  : Option (CS) :=
  (K7 S (x1 + (1 : Int32)))
def mX5_collectWrongPins_7 (n : Nat)   : Nat → CS → Int32 → Option (CS)
  | 0, _, _ => none
  | k + 1, S, x1 => (if (8 : Int32) ≤ x1 then (some S) else (bn (mX5_statusOf S x1) fun r2 => (if r2 = (0 : Int32) then (mX5_collectWrongPins_33 n (mX5_collectWrongPins_7 n k) S x1) else (mX5_collectWrongPins_33 n (mX5_collectWrongPins_7 n k) (sF S 6 ((S.1 6) ||| ((1 : Int32) <<< (x1 &&& 31)))) x1))))
def mX5_collectWrongPins (n : Nat) (S : CS)  : Option (CS) :=
  (mX5_collectWrongPins_7 n n (sF S 6 (0 : Int32)) (0 : Int32))
abbrev rmX5_collectWrongPins : Room := { frames := 3, cells := 0, slots := 0, locals := 65 }
theorem hdX5_collectWrongPins : yX5_collectWrongPins.cls = RX5 ∧ yX5_collectWrongPins.cls ≠ "java/lang/invoke/MethodHandle" ∧ yX5_collectWrongPins.cls ≠ "java/lang/invoke/VarHandle" ∧ (parseMethodDescriptor yX5_collectWrongPins.desc).map (fun d => d.parameters.length) = some 0 := by decide +kernel
set_option maxRecDepth 100000 in
set_option maxHeartbeats 8000000 in
theorem ctX5_collectWrongPins (l : Launch) (dC : Nat → ClassId) (dI : Nat → Nat → Nat) (cq : Nat → ClassId) (q : Nat → Nat) (S : CS) (M : MS) (o : Nat → Int64) (sz : Nat) (h0 : Nat) (n : Nat)  (SS : CS) (h : mX5_collectWrongPins n S = some SS) : CtC_v l yX5_collectWrongPins wsX5_collectWrongPins rmX5_collectWrongPins (fun a => h0 ≤ a) (EV h0 q) dC dI cq q S M o sz [.ref (q 6)] SS := by
  refine enC_v (cc := cX5_collectWrongPins) (maxL := 2) (by decide) rfl (Nat.le_of_ble_eq_true rfl) (fun p e s m args below meth c A Q ls F hA hP hK hD hDm hX hS hl hend => ?_)
  obtain ⟨hx, hb, hml, hown, hts⟩ := id F
  have hown : s.vm.findClass RX5 = some m.cls := hown
  have F : CallFix p m c cX5_collectWrongPins 2 s args wsX5_collectWrongPins RX5 := F
  have hl : lv_has ls 2 [(0, .ref (q 6))] := hl
  have hinX5 : ∀ w ∈ u_ws RX5 TX5 8, w ∈ wsX5_collectWrongPins := fun w h => List.mem_cons_of_mem _ (List.mem_append_right _ h)
  have hj33 : ∀ (S : CS) (x1 : Int32)   (K7 : CS → Int32 → Option (CS)) (hK7 : ∀ (S9 : CS) (y1 : Int32) (H : Heap) (locs : List Loc) (ls : Array Slot), va_P (dC, dI) vwCl (wA cq q S9 M o) H → va_D A (wA cq q S9 M o) → va_S A s.heap H locs → lv_has ls 2 [(0, .ref (q 6)), (1, .int y1)] → K7 S9 y1 = some SS → W p l e rmX5_collectWrongPins s m args below meth c H locs 0 0 Q (F0 m 7 ls [])) (H : Heap) (locs : List Loc) (ls : Array Slot), va_P (dC, dI) vwCl (wA cq q S M o) H → va_D A (wA cq q S M o) → va_S A s.heap H locs → lv_has ls 2 [(0, .ref (q 6)), (1, .int x1)] → mX5_collectWrongPins_33 n K7 S x1 = some SS → W p l e rmX5_collectWrongPins s m args below meth c H locs 0 0 Q (F0 m 33 ls []) := by
    intro S x1 K7 hK7 H locs ls hP hD hS hl h
    rw [mX5_collectWrongPins_33] at h
    refine lv_iinc (v := (x1 + (1 : Int32))) (lv' := [(1, .int (x1 + (1 : Int32))), (0, .ref (q 6))]) hx hb dX5_collectWrongPins_33 hl (k := 1) rfl rfl (by decide) rfl (fun ls hl => ?_)
    refine lv_goto (tgt := 7) hx hb dX5_collectWrongPins_36 (by decide) ?_
    exact hK7 _ _ _ _ _ hP hD hS (lv_sub hl [1, 0] rfl) h
  have hL7 : ∀   (k : Nat) (S : CS) (x1 : Int32) (H : Heap) (locs : List Loc) (ls : Array Slot), va_P (dC, dI) vwCl (wA cq q S M o) H → va_D A (wA cq q S M o) → va_S A s.heap H locs → lv_has ls 2 [(0, .ref (q 6)), (1, .int x1)] → mX5_collectWrongPins_7 n k S x1 = some SS → W p l e rmX5_collectWrongPins s m args below meth c H locs 0 0 Q (F0 m 7 ls []) := by
    intro k
    induction k with
    | zero =>
      intro S x1 H locs ls hP hD hS hl h
      rw [mX5_collectWrongPins_7] at h
      cases h
    | succ k ih =>
      intro S x1 H locs ls hP hD hS hl h
      rw [mX5_collectWrongPins_7] at h
      refine lv_iload_n hx hb dX5_collectWrongPins_7 rfl (lv_at hl 1 rfl) ?_
      refine lv_bipush (v := (8 : Int32)) hx hb dX5_collectWrongPins_8 (by decide) ?_
      refine lv_icmp_ge (tgt := 39) hx hb dX5_collectWrongPins_10 (by decide) (fun c1 => ?_) (fun c1 => ?_)
      · replace h := it c1 h
        exact hend _ _ _ _ _ h hP hD hS dX5_collectWrongPins_39
      · replace h := ie c1 h
        refine lv_aload_n hx hb dX5_collectWrongPins_13 rfl (lv_at hl 0 rfl) ?_
        refine lv_iload_n hx hb dX5_collectWrongPins_14 rfl (lv_at hl 1 rfl) ?_
        obtain ⟨r2, e3, h⟩ := bo h
        refine caVR_i (As := [.int x1]) (rest := []) (ctX5_statusOf l dC dI cq q S M o _ _ _ _ e3) F (cwV 1 hts gX5_collectWrongPins_X5_statusOf rfl rfl rfl hdX5_statusOf ⟨Nat.le_of_ble_eq_true rfl, Nat.le_of_ble_eq_true rfl⟩) hK hP hD hDm hS hA EV.blind (fun U hU hW => EV.call hX hS hDm hU hW) (va_recv hK hP (ci := 6) (q0 := 6) rfl rfl) rfl hl.1 rfl (Nat.le_of_ble_eq_true rfl) dX5_collectWrongPins_15 ⟨Nat.zero_le _, Nat.zero_le _⟩ (fun H locs hP hD hS => ?_)
        refine lv_if_eq (tgt := 33) hx hb dX5_collectWrongPins_18 (by decide) (fun c4 => ?_) (fun c4 => ?_)
        · replace h := it c4 h
          exact hj33 _ _ _ ih _ _ _ hP hD hS (lv_sub hl [0, 1] rfl) h
        · replace h := ie c4 h
          refine lv_aload_n hx hb dX5_collectWrongPins_21 rfl (lv_at hl 0 rfl) ?_
          refine lv_dup hx hb dX5_collectWrongPins_22 rfl ?_
          refine va_get (D := (dC, dI)) (ci := 6) (v := .int (S.1 6)) (C := RX5) (T := TX5) (N := 8) hx hb hts hinX5 hown hK hP 6 rfl rfl 1 (by decide) (hts (.fieldLink RX5 105 "CableTester$Nets" "wrongPins" "I") (mm 1 rfl)) (fun _ h9 => h9) rfl dX5_collectWrongPins_23 ?_
          refine lv_iconst (v := (1 : Int32)) hx hb dX5_collectWrongPins_26 (by decide) ?_
          refine lv_iload_n hx hb dX5_collectWrongPins_27 rfl (lv_at hl 1 rfl) ?_
          refine lv_ishl hx hb dX5_collectWrongPins_28 ?_
          refine lv_ior hx hb dX5_collectWrongPins_29 ?_
          refine pt_6_1 F hinX5 (hts (.fieldLink RX5 105 "CableTester$Nets" "wrongPins" "I") (mm 1 rfl)) hK hP hD hS dX5_collectWrongPins_30 (fun H locs hP hD hS => ?_)
          exact hj33 _ _ _ ih _ _ _ hP hD hS (lv_sub hl [0, 1] rfl) h
  rw [mX5_collectWrongPins] at h
  refine lv_aload_n hx hb dX5_collectWrongPins_0 rfl (lv_at hl 0 rfl) ?_
  refine lv_iconst (v := (0 : Int32)) hx hb dX5_collectWrongPins_1 (by decide) ?_
  refine pt_6_1 F hinX5 (hts (.fieldLink RX5 105 "CableTester$Nets" "wrongPins" "I") (mm 1 rfl)) hK hP hD hS dX5_collectWrongPins_2 (fun H locs hP hD hS => ?_)
  refine lv_iconst (v := (0 : Int32)) hx hb dX5_collectWrongPins_5 (by decide) ?_
  refine lv_istore_n (lv' := [(1, .int (0 : Int32)), (0, .ref (q 6))]) hx hb dX5_collectWrongPins_6 rfl hl (by decide) rfl (fun ls hl => ?_)
  exact hL7 _ _ _ _ _ _ hP hD hS (lv_sub hl [1, 0] rfl) h
def mX5_measure_17 (n : Nat)   : Nat → CS → Int32 → Option (CS)
  | 0, _, _ => none
  | k + 1, S, x3 => (if (8 : Int32) ≤ x3 then (bn (mX5_collectMembers n S) fun S10 => (bn (mX5_collectWrongPins n S10) fun S13 => (some S13))) else (bn (mX0_wireAt S (0 : Int32) x3) fun r14 => (bn (mX5_pieceAt n S r14 (0 : Int32)) fun r16 => (bn (mX3_groupOf_9 S r16) fun r18 => (if inb x3 16 then (bn (mX0_wireAt (sA S 11 x3.toNatClampNeg r18) (1 : Int32) x3) fun r21 => (bn (mX5_pieceAt n (sA S 11 x3.toNatClampNeg r18) r21 ((sA S 11 x3.toNatClampNeg r18).1 0)) fun r23 => (bn (mX3_groupOf_9 (sA S 11 x3.toNatClampNeg r18) r23) fun r25 => (if inb ((8 : Int32) + x3) 16 then (mX5_measure_17 n k (sA (sA S 11 x3.toNatClampNeg r18) 11 ((8 : Int32) + x3).toNatClampNeg r25) (x3 + (1 : Int32))) else none)))) else none)))))
def mX5_measure (n : Nat) (S : CS) (x2 : Int32) : Option (CS) :=
  (bn (mX5_collectCuts n (sF S 5 x2)) fun S3 => (bn (mX5_uniteShortedPieces n S3) fun S6 => (mX5_measure_17 n n S6 (0 : Int32))))
abbrev rmX5_measure : Room := { frames := 4, cells := 0, slots := 0, locals := 87 }
theorem hdX5_measure : yX5_measure.cls = RX5 ∧ yX5_measure.cls ≠ "java/lang/invoke/MethodHandle" ∧ yX5_measure.cls ≠ "java/lang/invoke/VarHandle" ∧ (parseMethodDescriptor yX5_measure.desc).map (fun d => d.parameters.length) = some 2 := by decide +kernel
set_option maxRecDepth 100000 in
set_option maxHeartbeats 8000000 in
theorem ctX5_measure (l : Launch) (dC : Nat → ClassId) (dI : Nat → Nat → Nat) (cq : Nat → ClassId) (q : Nat → Nat) (S : CS) (M : MS) (o : Nat → Int64) (sz : Nat) (h0 : Nat) (n : Nat) (x2 : Int32) (SS : CS) (h : mX5_measure n S x2 = some SS) : CtC_v l yX5_measure wsX5_measure rmX5_measure (fun a => h0 ≤ a) (EV h0 q) dC dI cq q S M o sz [.ref (q 6), .ref (q 1), .int x2] SS := by
  refine enC_v (cc := cX5_measure) (maxL := 4) (by decide) rfl (Nat.le_of_ble_eq_true rfl) (fun p e s m args below meth c A Q ls F hA hP hK hD hDm hX hS hl hend => ?_)
  obtain ⟨hx, hb, hml, hown, hts⟩ := id F
  have hown : s.vm.findClass RX5 = some m.cls := hown
  have F : CallFix p m c cX5_measure 4 s args wsX5_measure RX5 := F
  have hl : lv_has ls 4 [(0, .ref (q 6)), (1, .ref (q 1)), (2, .int x2)] := hl
  have hinX0 : ∀ w ∈ u_ws RX0 TX0 7, w ∈ wsX5_measure := fun w h => List.mem_cons_of_mem _ (List.mem_append_left _ (List.mem_append_left _ (List.mem_append_left _ (List.mem_append_right _ h))))
  have hinX5 : ∀ w ∈ u_ws RX5 TX5 8, w ∈ wsX5_measure := fun w h => List.mem_cons_of_mem _ (List.mem_append_left _ (List.mem_append_left _ (List.mem_append_left _ (List.mem_append_left _ (List.mem_append_right _ h)))))
  have hL17 : ∀   (k : Nat) (S : CS) (x3 : Int32) (H : Heap) (locs : List Loc) (ls : Array Slot), va_P (dC, dI) vwCl (wA cq q S M o) H → va_D A (wA cq q S M o) → va_S A s.heap H locs → lv_has ls 4 [(0, .ref (q 6)), (1, .ref (q 1)), (3, .int x3)] → mX5_measure_17 n k S x3 = some SS → W p l e rmX5_measure s m args below meth c H locs 0 0 Q (F0 m 17 ls []) := by
    intro k
    induction k with
    | zero =>
      intro S x3 H locs ls hP hD hS hl h
      rw [mX5_measure_17] at h
      cases h
    | succ k ih =>
      intro S x3 H locs ls hP hD hS hl h
      rw [mX5_measure_17] at h
      refine lv_iload_n hx hb dX5_measure_17 rfl (lv_at hl 2 rfl) ?_
      refine lv_bipush (v := (8 : Int32)) hx hb dX5_measure_18 (by decide) ?_
      refine lv_icmp_ge (tgt := 83) hx hb dX5_measure_20 (by decide) (fun c7 => ?_) (fun c7 => ?_)
      · replace h := it c7 h
        refine lv_aload_n hx hb dX5_measure_83 rfl (lv_at hl 0 rfl) ?_
        obtain ⟨S10, e9, h⟩ := bo h
        refine caVC_v (As := []) (rest := []) (ctX5_collectMembers l dC dI cq q S M o _ _ _ _ e9) F (cwV 0 hts gX5_measure_X5_collectMembers rfl rfl rfl hdX5_collectMembers ⟨Nat.le_of_ble_eq_true rfl, Nat.le_of_ble_eq_true rfl⟩) hK hP hD hDm hS hA EV.blind (fun U hU hW => EV.call hX hS hDm hU hW) (va_recv hK hP (ci := 6) (q0 := 6) rfl rfl) rfl hl.1 rfl (Nat.le_of_ble_eq_true rfl) dX5_measure_84 ⟨Nat.zero_le _, Nat.zero_le _⟩ (fun H locs hP hD hS => ?_)
        refine lv_aload_n hx hb dX5_measure_87 rfl (lv_at hl 0 rfl) ?_
        obtain ⟨S13, e12, h⟩ := bo h
        refine caVC_v (As := []) (rest := []) (ctX5_collectWrongPins l dC dI cq q S10 M o _ _ _ _ e12) F (cwV 0 hts gX5_measure_X5_collectWrongPins rfl rfl rfl hdX5_collectWrongPins ⟨Nat.le_of_ble_eq_true rfl, Nat.le_of_ble_eq_true rfl⟩) hK hP hD hDm hS hA EV.blind (fun U hU hW => EV.call hX hS hDm hU hW) (va_recv hK hP (ci := 6) (q0 := 6) rfl rfl) rfl hl.1 rfl (Nat.le_of_ble_eq_true rfl) dX5_measure_88 ⟨Nat.zero_le _, Nat.zero_le _⟩ (fun H locs hP hD hS => ?_)
        exact hend _ _ _ _ _ h hP hD hS dX5_measure_91
      · replace h := ie c7 h
        refine lv_aload_n hx hb dX5_measure_23 rfl (lv_at hl 0 rfl) ?_
        refine va_get (D := (dC, dI)) (ci := 6) (v := .ref (q 11)) (C := RX5) (T := TX5) (N := 8) hx hb hts hinX5 hown hK hP 6 rfl rfl 6 (by decide) (hts (.fieldLink RX5 27 "CableTester$Nets" "netOf" "[I") (mm 2 rfl)) (fun _ h9 => h9) rfl dX5_measure_24 ?_
        refine lv_iload_n hx hb dX5_measure_27 rfl (lv_at hl 2 rfl) ?_
        refine lv_aload_n hx hb dX5_measure_28 rfl (lv_at hl 0 rfl) ?_
        refine va_get (D := (dC, dI)) (ci := 6) (v := .ref (q 9)) (C := RX5) (T := TX5) (N := 8) hx hb hts hinX5 hown hK hP 6 rfl rfl 5 (by decide) (hts (.fieldLink RX5 23 "CableTester$Nets" "pieces" "LCableTester$Groups;") (mm 3 rfl)) (fun _ h9 => h9) rfl dX5_measure_29 ?_
        refine lv_aload_n hx hb dX5_measure_32 rfl (lv_at hl 0 rfl) ?_
        refine lv_aload_n hx hb dX5_measure_33 rfl (lv_at hl 1 rfl) ?_
        refine lv_iconst (v := (0 : Int32)) hx hb dX5_measure_34 (by decide) ?_
        refine lv_iload_n hx hb dX5_measure_35 rfl (lv_at hl 2 rfl) ?_
        obtain ⟨r14, e15, h⟩ := bo h
        refine caVR_i (As := [.int (0 : Int32), .int x3]) (rest := [.ref (q 6), .ref (q 9), .int x3, .ref (q 11)]) (ctX0_wireAt l dC dI cq q S M o _ _ _ _ _ e15) F (cwV 2 hts gX5_measure_X0_wireAt rfl rfl rfl hdX0_wireAt ⟨Nat.le_of_ble_eq_true rfl, Nat.le_of_ble_eq_true rfl⟩) hK hP hD hDm hS hA EV.blind (fun U hU hW => EV.call hX hS hDm hU hW) (va_recv hK hP (ci := 1) (q0 := 1) rfl rfl) rfl hl.1 rfl (Nat.le_of_ble_eq_true rfl) dX5_measure_36 ⟨Nat.zero_le _, Nat.zero_le _⟩ (fun H locs hP hD hS => ?_)
        refine lv_iconst (v := (0 : Int32)) hx hb dX5_measure_39 (by decide) ?_
        obtain ⟨r16, e17, h⟩ := bo h
        refine caVR_i (As := [.int r14, .int (0 : Int32)]) (rest := [.ref (q 9), .int x3, .ref (q 11)]) (ctX5_pieceAt l dC dI cq q S M o _ _ _ _ _ _ e17) F (cwV 2 hts gX5_measure_X5_pieceAt rfl rfl rfl hdX5_pieceAt ⟨Nat.le_of_ble_eq_true rfl, Nat.le_of_ble_eq_true rfl⟩) hK hP hD hDm hS hA EV.blind (fun U hU hW => EV.call hX hS hDm hU hW) (va_recv hK hP (ci := 6) (q0 := 6) rfl rfl) rfl hl.1 rfl (Nat.le_of_ble_eq_true rfl) dX5_measure_40 ⟨Nat.zero_le _, Nat.zero_le _⟩ (fun H locs hP hD hS => ?_)
        obtain ⟨r18, e19, h⟩ := bo h
        refine caVR_i (As := [.int r16]) (rest := [.int x3, .ref (q 11)]) (ctX3_groupOf_9 l dC dI cq q S M o _ _ _ _ e19) F (cwV 1 hts gX5_measure_X3_groupOf rfl rfl rfl hdX3_groupOf ⟨Nat.le_of_ble_eq_true rfl, Nat.le_of_ble_eq_true rfl⟩) hK hP hD hDm hS hA EV.blind (fun U hU hW => EV.call hX hS hDm hU hW) (va_recv hK hP (ci := 4) (q0 := 9) rfl rfl) rfl hl.1 rfl (Nat.le_of_ble_eq_true rfl) dX5_measure_43 ⟨Nat.zero_le _, Nat.zero_le _⟩ (fun H locs hP hD hS => ?_)
        obtain ⟨g20, h⟩ := gd h
        refine as_11 F hK hP hD hS (inb_ok g20) dX5_measure_46 (fun H locs hP hD hS => ?_)
        refine lv_aload_n hx hb dX5_measure_47 rfl (lv_at hl 0 rfl) ?_
        refine va_get (D := (dC, dI)) (ci := 6) (v := .ref (q 11)) (C := RX5) (T := TX5) (N := 8) hx hb hts hinX5 hown hK hP 6 rfl rfl 6 (by decide) (hts (.fieldLink RX5 27 "CableTester$Nets" "netOf" "[I") (mm 2 rfl)) (fun _ h9 => h9) rfl dX5_measure_48 ?_
        refine lv_bipush (v := (8 : Int32)) hx hb dX5_measure_51 (by decide) ?_
        refine lv_iload_n hx hb dX5_measure_53 rfl (lv_at hl 2 rfl) ?_
        refine lv_iadd hx hb dX5_measure_54 ?_
        refine lv_aload_n hx hb dX5_measure_55 rfl (lv_at hl 0 rfl) ?_
        refine va_get (D := (dC, dI)) (ci := 6) (v := .ref (q 9)) (C := RX5) (T := TX5) (N := 8) hx hb hts hinX5 hown hK hP 6 rfl rfl 5 (by decide) (hts (.fieldLink RX5 23 "CableTester$Nets" "pieces" "LCableTester$Groups;") (mm 3 rfl)) (fun _ h9 => h9) rfl dX5_measure_56 ?_
        refine lv_aload_n hx hb dX5_measure_59 rfl (lv_at hl 0 rfl) ?_
        refine lv_aload_n hx hb dX5_measure_60 rfl (lv_at hl 1 rfl) ?_
        refine lv_iconst (v := (1 : Int32)) hx hb dX5_measure_61 (by decide) ?_
        refine lv_iload_n hx hb dX5_measure_62 rfl (lv_at hl 2 rfl) ?_
        obtain ⟨r21, e22, h⟩ := bo h
        refine caVR_i (As := [.int (1 : Int32), .int x3]) (rest := [.ref (q 6), .ref (q 9), .int ((8 : Int32) + x3), .ref (q 11)]) (ctX0_wireAt l dC dI cq q (sA S 11 x3.toNatClampNeg r18) M o _ _ _ _ _ e22) F (cwV 2 hts gX5_measure_X0_wireAt rfl rfl rfl hdX0_wireAt ⟨Nat.le_of_ble_eq_true rfl, Nat.le_of_ble_eq_true rfl⟩) hK hP hD hDm hS hA EV.blind (fun U hU hW => EV.call hX hS hDm hU hW) (va_recv hK hP (ci := 1) (q0 := 1) rfl rfl) rfl hl.1 rfl (Nat.le_of_ble_eq_true rfl) dX5_measure_63 ⟨Nat.zero_le _, Nat.zero_le _⟩ (fun H locs hP hD hS => ?_)
        refine lv_aload_n hx hb dX5_measure_66 rfl (lv_at hl 1 rfl) ?_
        refine va_getN (D := (dC, dI)) (ci := 1) (v := .int ((sA S 11 x3.toNatClampNeg r18).1 0)) (C := RX0) (T := TX0) (N := 7) hx hb hts hinX0 hown hK hP 1 rfl rfl 0 (by decide) (va_Nw.use rfl hX.1.2.1) (fun _ h9 => h9) rfl dX5_measure_67 ?_
        obtain ⟨r23, e24, h⟩ := bo h
        refine caVR_i (As := [.int r21, .int ((sA S 11 x3.toNatClampNeg r18).1 0)]) (rest := [.ref (q 9), .int ((8 : Int32) + x3), .ref (q 11)]) (ctX5_pieceAt l dC dI cq q (sA S 11 x3.toNatClampNeg r18) M o _ _ _ _ _ _ e24) F (cwV 2 hts gX5_measure_X5_pieceAt rfl rfl rfl hdX5_pieceAt ⟨Nat.le_of_ble_eq_true rfl, Nat.le_of_ble_eq_true rfl⟩) hK hP hD hDm hS hA EV.blind (fun U hU hW => EV.call hX hS hDm hU hW) (va_recv hK hP (ci := 6) (q0 := 6) rfl rfl) rfl hl.1 rfl (Nat.le_of_ble_eq_true rfl) dX5_measure_70 ⟨Nat.zero_le _, Nat.zero_le _⟩ (fun H locs hP hD hS => ?_)
        obtain ⟨r25, e26, h⟩ := bo h
        refine caVR_i (As := [.int r23]) (rest := [.int ((8 : Int32) + x3), .ref (q 11)]) (ctX3_groupOf_9 l dC dI cq q (sA S 11 x3.toNatClampNeg r18) M o _ _ _ _ e26) F (cwV 1 hts gX5_measure_X3_groupOf rfl rfl rfl hdX3_groupOf ⟨Nat.le_of_ble_eq_true rfl, Nat.le_of_ble_eq_true rfl⟩) hK hP hD hDm hS hA EV.blind (fun U hU hW => EV.call hX hS hDm hU hW) (va_recv hK hP (ci := 4) (q0 := 9) rfl rfl) rfl hl.1 rfl (Nat.le_of_ble_eq_true rfl) dX5_measure_73 ⟨Nat.zero_le _, Nat.zero_le _⟩ (fun H locs hP hD hS => ?_)
        obtain ⟨g27, h⟩ := gd h
        refine as_11 F hK hP hD hS (inb_ok g27) dX5_measure_76 (fun H locs hP hD hS => ?_)
        refine lv_iinc (v := (x3 + (1 : Int32))) (lv' := [(3, .int (x3 + (1 : Int32))), (0, .ref (q 6)), (1, .ref (q 1))]) hx hb dX5_measure_77 hl (k := 2) rfl rfl (by decide) rfl (fun ls hl => ?_)
        refine lv_goto (tgt := 17) hx hb dX5_measure_80 (by decide) ?_
        exact ih _ _ _ _ _ hP hD hS (lv_sub hl [1, 2, 0] rfl) h
  rw [mX5_measure] at h
  refine lv_aload_n hx hb dX5_measure_0 rfl (lv_at hl 0 rfl) ?_
  refine lv_iload_n hx hb dX5_measure_1 rfl (lv_at hl 2 rfl) ?_
  refine pt_6_0 F hinX5 (hts (.fieldLink RX5 33 "CableTester$Nets" "present" "I") (mm 1 rfl)) hK hP hD hS dX5_measure_2 (fun H locs hP hD hS => ?_)
  refine lv_aload_n hx hb dX5_measure_5 rfl (lv_at hl 0 rfl) ?_
  refine lv_aload_n hx hb dX5_measure_6 rfl (lv_at hl 1 rfl) ?_
  obtain ⟨S3, e2, h⟩ := bo h
  refine caVC_v (As := [.ref (q 1)]) (rest := []) (ctX5_collectCuts l dC dI cq q (sF S 5 x2) M o _ _ _ _ e2) F (cwV 1 hts gX5_measure_X5_collectCuts rfl rfl rfl hdX5_collectCuts ⟨Nat.le_of_ble_eq_true rfl, Nat.le_of_ble_eq_true rfl⟩) hK hP hD hDm hS hA EV.blind (fun U hU hW => EV.call hX hS hDm hU hW) (va_recv hK hP (ci := 6) (q0 := 6) rfl rfl) rfl hl.1 rfl (Nat.le_of_ble_eq_true rfl) dX5_measure_7 ⟨Nat.zero_le _, Nat.zero_le _⟩ (fun H locs hP hD hS => ?_)
  refine lv_aload_n hx hb dX5_measure_10 rfl (lv_at hl 0 rfl) ?_
  refine lv_aload_n hx hb dX5_measure_11 rfl (lv_at hl 1 rfl) ?_
  obtain ⟨S6, e5, h⟩ := bo h
  refine caVC_v (As := [.ref (q 1)]) (rest := []) (ctX5_uniteShortedPieces l dC dI cq q S3 M o _ _ _ _ e5) F (cwV 1 hts gX5_measure_X5_uniteShortedPieces rfl rfl rfl hdX5_uniteShortedPieces ⟨Nat.le_of_ble_eq_true rfl, Nat.le_of_ble_eq_true rfl⟩) hK hP hD hDm hS hA EV.blind (fun U hU hW => EV.call hX hS hDm hU hW) (va_recv hK hP (ci := 6) (q0 := 6) rfl rfl) rfl hl.1 rfl (Nat.le_of_ble_eq_true rfl) dX5_measure_12 ⟨Nat.zero_le _, Nat.zero_le _⟩ (fun H locs hP hD hS => ?_)
  refine lv_iconst (v := (0 : Int32)) hx hb dX5_measure_15 (by decide) ?_
  refine lv_istore_n (lv' := [(3, .int (0 : Int32)), (0, .ref (q 6)), (1, .ref (q 1)), (2, .int x2)]) hx hb dX5_measure_16 rfl hl (by decide) rfl (fun ls hl => ?_)
  exact hL17 _ _ _ _ _ _ hP hD hS (lv_sub hl [1, 2, 0] rfl) h
def mX5_joinedPins_19  (S : CS) (x1 : Int32) (x2 : Int32) (x3 : Int32) (t0 : Int32) : Option (Int32) :=
  (if x1 = x3 then (some (t0 &&& (((1 : Int32) <<< (x2 &&& 31)) ^^^ (-1 : Int32)))) else (some t0))
def mX5_joinedPins (S : CS) (x1 : Int32) (x2 : Int32) (x3 : Int32) : Option (Int32) :=
  (if x3 = (0 : Int32) then (bn (mX5_nearPinsWith S x1 x2) fun r5 => (mX5_joinedPins_19 S x1 x2 x3 r5)) else (bn (mX5_farPinsWith S x1 x2) fun r2 => (mX5_joinedPins_19 S x1 x2 x3 r2)))
abbrev rmX5_joinedPins : Room := { frames := 2, cells := 0, slots := 0, locals := 43 }
theorem hdX5_joinedPins : yX5_joinedPins.cls = RX5 ∧ yX5_joinedPins.cls ≠ "java/lang/invoke/MethodHandle" ∧ yX5_joinedPins.cls ≠ "java/lang/invoke/VarHandle" ∧ (parseMethodDescriptor yX5_joinedPins.desc).map (fun d => d.parameters.length) = some 3 := by decide +kernel
set_option maxRecDepth 100000 in
set_option maxHeartbeats 8000000 in
theorem ctX5_joinedPins (l : Launch) (dC : Nat → ClassId) (dI : Nat → Nat → Nat) (cq : Nat → ClassId) (q : Nat → Nat) (S : CS) (M : MS) (o : Nat → Int64) (sz : Nat) (h0 : Nat) (x1 : Int32) (x2 : Int32) (x3 : Int32) (rr : Int32) (h : mX5_joinedPins S x1 x2 x3 = some rr) : CtR_i l yX5_joinedPins wsX5_joinedPins rmX5_joinedPins (fun a => h0 ≤ a) (EV h0 q) dC dI cq q S M o sz [.ref (q 6), .int x1, .int x2, .int x3] rr := by
  refine enR_i (cc := cX5_joinedPins) (maxL := 5) (by decide) rfl (Nat.le_of_ble_eq_true rfl) (fun p e s m args below meth c A Q ls F hA hP hK hD hDm hX hS hl hend => ?_)
  obtain ⟨hx, hb, hml, hown, hts⟩ := id F
  have hown : s.vm.findClass RX5 = some m.cls := hown
  have F : CallFix p m c cX5_joinedPins 5 s args wsX5_joinedPins RX5 := F
  have hl : lv_has ls 5 [(0, .ref (q 6)), (1, .int x1), (2, .int x2), (3, .int x3)] := hl
  have hj19 : ∀  (x1 : Int32) (x2 : Int32) (x3 : Int32) (t0 : Int32)   (H : Heap) (locs : List Loc) (ls : Array Slot), va_P (dC, dI) vwCl (wA cq q S M o) H → va_D A (wA cq q S M o) → va_S A s.heap H locs → lv_has ls 5 [(1, .int x1), (2, .int x2), (3, .int x3)] → mX5_joinedPins_19 S x1 x2 x3 t0 = some rr → W p l e rmX5_joinedPins s m args below meth c H locs 0 0 Q (F0 m 19 ls [.int t0]) := by
    intro x1 x2 x3 t0 H locs ls hP hD hS hl h
    rw [mX5_joinedPins_19] at h
    refine lv_istore (lv' := [(4, .int t0), (1, .int x1), (2, .int x2), (3, .int x3)]) hx hb dX5_joinedPins_19 hl (by decide) rfl (fun ls hl => ?_)
    refine lv_iload_n hx hb dX5_joinedPins_21 rfl (lv_at hl 1 rfl) ?_
    refine lv_iload_n hx hb dX5_joinedPins_22 rfl (lv_at hl 3 rfl) ?_
    refine lv_icmp_ne (tgt := 37) hx hb dX5_joinedPins_23 (by decide) (fun c4 => ?_) (fun c4 => ?_)
    · replace h := ie c4 h
      refine lv_iload hx hb dX5_joinedPins_37 (lv_at hl 0 rfl) ?_
      exact hend _ _ _ _ _ h hP hD hS dX5_joinedPins_39
    · replace h := it c4 h
      refine lv_iload hx hb dX5_joinedPins_26 (lv_at hl 0 rfl) ?_
      refine lv_iconst (v := (1 : Int32)) hx hb dX5_joinedPins_28 (by decide) ?_
      refine lv_iload_n hx hb dX5_joinedPins_29 rfl (lv_at hl 2 rfl) ?_
      refine lv_ishl hx hb dX5_joinedPins_30 ?_
      refine lv_iconst (v := (-1 : Int32)) hx hb dX5_joinedPins_31 (by decide) ?_
      refine lv_ixor hx hb dX5_joinedPins_32 ?_
      refine lv_iand hx hb dX5_joinedPins_33 ?_
      refine lv_goto (tgt := 39) hx hb dX5_joinedPins_34 (by decide) ?_
      exact hend _ _ _ _ _ h hP hD hS dX5_joinedPins_39
  rw [mX5_joinedPins] at h
  refine lv_iload_n hx hb dX5_joinedPins_0 rfl (lv_at hl 3 rfl) ?_
  refine lv_if_ne (tgt := 13) hx hb dX5_joinedPins_1 (by decide) (fun c1 => ?_) (fun c1 => ?_)
  · replace h := ie c1 h
    refine lv_aload_n hx hb dX5_joinedPins_13 rfl (lv_at hl 0 rfl) ?_
    refine lv_iload_n hx hb dX5_joinedPins_14 rfl (lv_at hl 1 rfl) ?_
    refine lv_iload_n hx hb dX5_joinedPins_15 rfl (lv_at hl 2 rfl) ?_
    obtain ⟨r2, e3, h⟩ := bo h
    refine caVR_i (As := [.int x1, .int x2]) (rest := []) (ctX5_farPinsWith l dC dI cq q S M o _ _ _ _ _ e3) F (cwV 2 hts gX5_joinedPins_X5_farPinsWith rfl rfl rfl hdX5_farPinsWith ⟨Nat.le_of_ble_eq_true rfl, Nat.le_of_ble_eq_true rfl⟩) hK hP hD hDm hS hA EV.blind (fun U hU hW => EV.call hX hS hDm hU hW) (va_recv hK hP (ci := 6) (q0 := 6) rfl rfl) rfl hl.1 rfl (Nat.le_of_ble_eq_true rfl) dX5_joinedPins_16 ⟨Nat.zero_le _, Nat.zero_le _⟩ (fun H locs hP hD hS => ?_)
    exact hj19 _ _ _ _ _ _ _ hP hD hS (lv_sub hl [1, 2, 3] rfl) h
  · replace h := it c1 h
    refine lv_aload_n hx hb dX5_joinedPins_4 rfl (lv_at hl 0 rfl) ?_
    refine lv_iload_n hx hb dX5_joinedPins_5 rfl (lv_at hl 1 rfl) ?_
    refine lv_iload_n hx hb dX5_joinedPins_6 rfl (lv_at hl 2 rfl) ?_
    obtain ⟨r5, e6, h⟩ := bo h
    refine caVR_i (As := [.int x1, .int x2]) (rest := []) (ctX5_nearPinsWith l dC dI cq q S M o _ _ _ _ _ e6) F (cwV 2 hts gX5_joinedPins_X5_nearPinsWith rfl rfl rfl hdX5_nearPinsWith ⟨Nat.le_of_ble_eq_true rfl, Nat.le_of_ble_eq_true rfl⟩) hK hP hD hDm hS hA EV.blind (fun U hU hW => EV.call hX hS hDm hU hW) (va_recv hK hP (ci := 6) (q0 := 6) rfl rfl) rfl hl.1 rfl (Nat.le_of_ble_eq_true rfl) dX5_joinedPins_7 ⟨Nat.zero_le _, Nat.zero_le _⟩ (fun H locs hP hD hS => ?_)
    refine lv_goto (tgt := 19) hx hb dX5_joinedPins_10 (by decide) ?_
    exact hj19 _ _ _ _ _ _ _ hP hD hS (lv_sub hl [1, 2, 3] rfl) h
def mX5_isFirstOfNet (S : CS) (x1 : Int32) : Option (Int32) :=
  (bn (mX5_membersWith S x1) fun r1 => (if (r1 &&& (((1 : Int32) <<< (x1 &&& 31)) - (1 : Int32))) = (0 : Int32) then (some (1 : Int32)) else (some (0 : Int32))))
abbrev rmX5_isFirstOfNet : Room := { frames := 1, cells := 0, slots := 0, locals := 21 }
theorem hdX5_isFirstOfNet : yX5_isFirstOfNet.cls = RX5 ∧ yX5_isFirstOfNet.cls ≠ "java/lang/invoke/MethodHandle" ∧ yX5_isFirstOfNet.cls ≠ "java/lang/invoke/VarHandle" ∧ (parseMethodDescriptor yX5_isFirstOfNet.desc).map (fun d => d.parameters.length) = some 1 := by decide +kernel
set_option maxRecDepth 100000 in
set_option maxHeartbeats 8000000 in
theorem ctX5_isFirstOfNet (l : Launch) (dC : Nat → ClassId) (dI : Nat → Nat → Nat) (cq : Nat → ClassId) (q : Nat → Nat) (S : CS) (M : MS) (o : Nat → Int64) (sz : Nat) (h0 : Nat) (x1 : Int32) (rr : Int32) (h : mX5_isFirstOfNet S x1 = some rr) : CtR_i l yX5_isFirstOfNet wsX5_isFirstOfNet rmX5_isFirstOfNet (fun a => h0 ≤ a) (EV h0 q) dC dI cq q S M o sz [.ref (q 6), .int x1] rr := by
  refine enR_z (cc := cX5_isFirstOfNet) (maxL := 2) (by decide) rfl (Nat.le_of_ble_eq_true rfl) (fun p e s m args below meth c A Q ls F hA hP hK hD hDm hX hS hl hend => ?_)
  obtain ⟨hx, hb, hml, hown, hts⟩ := id F
  have hown : s.vm.findClass RX5 = some m.cls := hown
  have F : CallFix p m c cX5_isFirstOfNet 2 s args wsX5_isFirstOfNet RX5 := F
  have hl : lv_has ls 2 [(0, .ref (q 6)), (1, .int x1)] := hl
  rw [mX5_isFirstOfNet] at h
  refine lv_aload_n hx hb dX5_isFirstOfNet_0 rfl (lv_at hl 0 rfl) ?_
  refine lv_iload_n hx hb dX5_isFirstOfNet_1 rfl (lv_at hl 1 rfl) ?_
  obtain ⟨r1, e2, h⟩ := bo h
  refine caVR_i (As := [.int x1]) (rest := []) (ctX5_membersWith l dC dI cq q S M o _ _ _ _ e2) F (cwV 1 hts gX5_isFirstOfNet_X5_membersWith rfl rfl rfl hdX5_membersWith ⟨Nat.le_of_ble_eq_true rfl, Nat.le_of_ble_eq_true rfl⟩) hK hP hD hDm hS hA EV.blind (fun U hU hW => EV.call hX hS hDm hU hW) (va_recv hK hP (ci := 6) (q0 := 6) rfl rfl) rfl hl.1 rfl (Nat.le_of_ble_eq_true rfl) dX5_isFirstOfNet_2 ⟨Nat.zero_le _, Nat.zero_le _⟩ (fun H locs hP hD hS => ?_)
  refine lv_iconst (v := (1 : Int32)) hx hb dX5_isFirstOfNet_5 (by decide) ?_
  refine lv_iload_n hx hb dX5_isFirstOfNet_6 rfl (lv_at hl 1 rfl) ?_
  refine lv_ishl hx hb dX5_isFirstOfNet_7 ?_
  refine lv_iconst (v := (1 : Int32)) hx hb dX5_isFirstOfNet_8 (by decide) ?_
  refine lv_isub hx hb dX5_isFirstOfNet_9 ?_
  refine lv_iand hx hb dX5_isFirstOfNet_10 ?_
  refine lv_if_ne (tgt := 18) hx hb dX5_isFirstOfNet_11 (by decide) (fun c3 => ?_) (fun c3 => ?_)
  · replace h := ie c3 h
    refine lv_iconst (v := (0 : Int32)) hx hb dX5_isFirstOfNet_18 (by decide) ?_
    exact hend _ _ _ _ _ h hP hD hS dX5_isFirstOfNet_19 (by decide)
  · replace h := it c3 h
    refine lv_iconst (v := (1 : Int32)) hx hb dX5_isFirstOfNet_14 (by decide) ?_
    refine lv_goto (tgt := 19) hx hb dX5_isFirstOfNet_15 (by decide) ?_
    exact hend _ _ _ _ _ h hP hD hS dX5_isFirstOfNet_19 (by decide)
def mX5_size_21 (n : Nat) (K4 : Int32 → Int32 → Option (Int32)) (S : CS) (x1 : Int32) (x2 : Int32)  : Option (Int32) :=
  (K4 x1 (x2 + (1 : Int32)))
def mX5_size_4 (n : Nat)  (S : CS)  : Nat → Int32 → Int32 → Option (Int32)
  | 0, _, _ => none
  | k + 1, x1, x2 => (if (16 : Int32) ≤ x2 then (some x1) else (bn (mX5_isFirstOfNet S x2) fun r2 => (if r2 = (0 : Int32) then (mX5_size_21 n (mX5_size_4 n S k) S x1 x2) else (mX5_size_21 n (mX5_size_4 n S k) S (x1 + (1 : Int32)) x2))))
def mX5_size (n : Nat) (S : CS)  : Option (Int32) :=
  (mX5_size_4 n S n (0 : Int32) (0 : Int32))
abbrev rmX5_size : Room := { frames := 2, cells := 0, slots := 0, locals := 42 }
theorem hdX5_size : yX5_size.cls = RX5 ∧ yX5_size.cls ≠ "java/lang/invoke/MethodHandle" ∧ yX5_size.cls ≠ "java/lang/invoke/VarHandle" ∧ (parseMethodDescriptor yX5_size.desc).map (fun d => d.parameters.length) = some 0 := by decide +kernel
set_option maxRecDepth 100000 in
set_option maxHeartbeats 8000000 in
theorem ctX5_size (l : Launch) (dC : Nat → ClassId) (dI : Nat → Nat → Nat) (cq : Nat → ClassId) (q : Nat → Nat) (S : CS) (M : MS) (o : Nat → Int64) (sz : Nat) (h0 : Nat) (n : Nat)  (rr : Int32) (h : mX5_size n S = some rr) : CtR_i l yX5_size wsX5_size rmX5_size (fun a => h0 ≤ a) (EV h0 q) dC dI cq q S M o sz [.ref (q 6)] rr := by
  refine enR_i (cc := cX5_size) (maxL := 3) (by decide) rfl (Nat.le_of_ble_eq_true rfl) (fun p e s m args below meth c A Q ls F hA hP hK hD hDm hX hS hl hend => ?_)
  obtain ⟨hx, hb, hml, hown, hts⟩ := id F
  have hown : s.vm.findClass RX5 = some m.cls := hown
  have F : CallFix p m c cX5_size 3 s args wsX5_size RX5 := F
  have hl : lv_has ls 3 [(0, .ref (q 6))] := hl
  have hj21 : ∀  (x1 : Int32) (x2 : Int32)   (K4 : Int32 → Int32 → Option (Int32)) (hK4 : ∀ (y1 : Int32) (y2 : Int32) (H : Heap) (locs : List Loc) (ls : Array Slot), va_P (dC, dI) vwCl (wA cq q S M o) H → va_D A (wA cq q S M o) → va_S A s.heap H locs → lv_has ls 3 [(0, .ref (q 6)), (1, .int y1), (2, .int y2)] → K4 y1 y2 = some rr → W p l e rmX5_size s m args below meth c H locs 0 0 Q (F0 m 4 ls [])) (H : Heap) (locs : List Loc) (ls : Array Slot), va_P (dC, dI) vwCl (wA cq q S M o) H → va_D A (wA cq q S M o) → va_S A s.heap H locs → lv_has ls 3 [(0, .ref (q 6)), (1, .int x1), (2, .int x2)] → mX5_size_21 n K4 S x1 x2 = some rr → W p l e rmX5_size s m args below meth c H locs 0 0 Q (F0 m 21 ls []) := by
    intro x1 x2 K4 hK4 H locs ls hP hD hS hl h
    rw [mX5_size_21] at h
    refine lv_iinc (v := (x2 + (1 : Int32))) (lv' := [(2, .int (x2 + (1 : Int32))), (0, .ref (q 6)), (1, .int x1)]) hx hb dX5_size_21 hl (k := 2) rfl rfl (by decide) rfl (fun ls hl => ?_)
    refine lv_goto (tgt := 4) hx hb dX5_size_24 (by decide) ?_
    exact hK4 _ _ _ _ _ hP hD hS (lv_sub hl [1, 2, 0] rfl) h
  have hL4 : ∀   (k : Nat)  (x1 : Int32) (x2 : Int32) (H : Heap) (locs : List Loc) (ls : Array Slot), va_P (dC, dI) vwCl (wA cq q S M o) H → va_D A (wA cq q S M o) → va_S A s.heap H locs → lv_has ls 3 [(0, .ref (q 6)), (1, .int x1), (2, .int x2)] → mX5_size_4 n S k x1 x2 = some rr → W p l e rmX5_size s m args below meth c H locs 0 0 Q (F0 m 4 ls []) := by
    intro k
    induction k with
    | zero =>
      intro x1 x2 H locs ls hP hD hS hl h
      rw [mX5_size_4] at h
      cases h
    | succ k ih =>
      intro x1 x2 H locs ls hP hD hS hl h
      rw [mX5_size_4] at h
      refine lv_iload_n hx hb dX5_size_4 rfl (lv_at hl 2 rfl) ?_
      refine lv_bipush (v := (16 : Int32)) hx hb dX5_size_5 (by decide) ?_
      refine lv_icmp_ge (tgt := 27) hx hb dX5_size_7 (by decide) (fun c1 => ?_) (fun c1 => ?_)
      · replace h := it c1 h
        refine lv_iload_n hx hb dX5_size_27 rfl (lv_at hl 1 rfl) ?_
        exact hend _ _ _ _ _ h hP hD hS dX5_size_28
      · replace h := ie c1 h
        refine lv_aload_n hx hb dX5_size_10 rfl (lv_at hl 0 rfl) ?_
        refine lv_iload_n hx hb dX5_size_11 rfl (lv_at hl 2 rfl) ?_
        obtain ⟨r2, e3, h⟩ := bo h
        refine caVR_i (As := [.int x2]) (rest := []) (ctX5_isFirstOfNet l dC dI cq q S M o _ _ _ _ e3) F (cwV 1 hts gX5_size_X5_isFirstOfNet rfl rfl rfl hdX5_isFirstOfNet ⟨Nat.le_of_ble_eq_true rfl, Nat.le_of_ble_eq_true rfl⟩) hK hP hD hDm hS hA EV.blind (fun U hU hW => EV.call hX hS hDm hU hW) (va_recv hK hP (ci := 6) (q0 := 6) rfl rfl) rfl hl.1 rfl (Nat.le_of_ble_eq_true rfl) dX5_size_12 ⟨Nat.zero_le _, Nat.zero_le _⟩ (fun H locs hP hD hS => ?_)
        refine lv_if_eq (tgt := 21) hx hb dX5_size_15 (by decide) (fun c4 => ?_) (fun c4 => ?_)
        · replace h := it c4 h
          exact hj21 _ _ _ ih _ _ _ hP hD hS (lv_sub hl [0, 1, 2] rfl) h
        · replace h := ie c4 h
          refine lv_iinc (v := (x1 + (1 : Int32))) (lv' := [(1, .int (x1 + (1 : Int32))), (0, .ref (q 6)), (2, .int x2)]) hx hb dX5_size_18 hl (k := 1) rfl rfl (by decide) rfl (fun ls hl => ?_)
          exact hj21 _ _ _ ih _ _ _ hP hD hS (lv_sub hl [1, 0, 2] rfl) h
  rw [mX5_size] at h
  refine lv_iconst (v := (0 : Int32)) hx hb dX5_size_0 (by decide) ?_
  refine lv_istore_n (lv' := [(1, .int (0 : Int32)), (0, .ref (q 6))]) hx hb dX5_size_1 rfl hl (by decide) rfl (fun ls hl => ?_)
  refine lv_iconst (v := (0 : Int32)) hx hb dX5_size_2 (by decide) ?_
  refine lv_istore_n (lv' := [(2, .int (0 : Int32)), (1, .int (0 : Int32)), (0, .ref (q 6))]) hx hb dX5_size_3 rfl hl (by decide) rfl (fun ls hl => ?_)
  exact hL4 _ _ _ _ _ _ hP hD hS (lv_sub hl [2, 1, 0] rfl) h
def mX5_shortsNeeded_57 (n : Nat) (K4 : Int32 → Int32 → Option (Int32)) (S : CS) (x1 : Int32) (x2 : Int32)  : Option (Int32) :=
  (K4 x1 (x2 + (1 : Int32)))
def mX5_shortsNeeded_4 (n : Nat)  (S : CS)  : Nat → Int32 → Int32 → Option (Int32)
  | 0, _, _ => none
  | k + 1, x1, x2 => (if (16 : Int32) ≤ x2 then (some x1) else (bn (mX5_isFirstOfNet S x2) fun r2 => (if r2 = (0 : Int32) then (mX5_shortsNeeded_57 n (mX5_shortsNeeded_4 n S k) S x1 x2) else (if inb x2 16 then (bn (mJ6_bitCount_0f7a4 ((S.2.1 12 x2.toNatClampNeg) &&& (255 : Int32))) fun r6 => (if inb x2 16 then (bn (mJ6_bitCount_0f7a4 ((S.2.1 12 x2.toNatClampNeg) >>> ((8 : Int32) &&& 31))) fun r9 => (mX5_shortsNeeded_57 n (mX5_shortsNeeded_4 n S k) S (x1 + ((if r6 < r9 then r9 else r6) - (1 : Int32))) x2)) else none)) else none))))
def mX5_shortsNeeded (n : Nat) (S : CS)  : Option (Int32) :=
  (mX5_shortsNeeded_4 n S n (0 : Int32) (0 : Int32))
abbrev rmX5_shortsNeeded : Room := { frames := 2, cells := 0, slots := 0, locals := 42 }
theorem hdX5_shortsNeeded : yX5_shortsNeeded.cls = RX5 ∧ yX5_shortsNeeded.cls ≠ "java/lang/invoke/MethodHandle" ∧ yX5_shortsNeeded.cls ≠ "java/lang/invoke/VarHandle" ∧ (parseMethodDescriptor yX5_shortsNeeded.desc).map (fun d => d.parameters.length) = some 0 := by decide +kernel
set_option maxRecDepth 100000 in
set_option maxHeartbeats 8000000 in
theorem ctX5_shortsNeeded (l : Launch) (dC : Nat → ClassId) (dI : Nat → Nat → Nat) (cq : Nat → ClassId) (q : Nat → Nat) (S : CS) (M : MS) (o : Nat → Int64) (sz : Nat) (h0 : Nat) (n : Nat)  (rr : Int32) (h : mX5_shortsNeeded n S = some rr) : CtR_i l yX5_shortsNeeded wsX5_shortsNeeded rmX5_shortsNeeded (fun a => h0 ≤ a) (EV h0 q) dC dI cq q S M o sz [.ref (q 6)] rr := by
  refine enR_i (cc := cX5_shortsNeeded) (maxL := 5) (by decide) rfl (Nat.le_of_ble_eq_true rfl) (fun p e s m args below meth c A Q ls F hA hP hK hD hDm hX hS hl hend => ?_)
  obtain ⟨hx, hb, hml, hown, hts⟩ := id F
  have hown : s.vm.findClass RX5 = some m.cls := hown
  have F : CallFix p m c cX5_shortsNeeded 5 s args wsX5_shortsNeeded RX5 := F
  have hl : lv_has ls 5 [(0, .ref (q 6))] := hl
  have hinX5 : ∀ w ∈ u_ws RX5 TX5 8, w ∈ wsX5_shortsNeeded := fun w h => List.mem_cons_of_mem _ (List.mem_append_right _ h)
  have hj57 : ∀  (x1 : Int32) (x2 : Int32)   (K4 : Int32 → Int32 → Option (Int32)) (hK4 : ∀ (y1 : Int32) (y2 : Int32) (H : Heap) (locs : List Loc) (ls : Array Slot), va_P (dC, dI) vwCl (wA cq q S M o) H → va_D A (wA cq q S M o) → va_S A s.heap H locs → lv_has ls 5 [(0, .ref (q 6)), (1, .int y1), (2, .int y2)] → K4 y1 y2 = some rr → W p l e rmX5_shortsNeeded s m args below meth c H locs 0 0 Q (F0 m 4 ls [])) (H : Heap) (locs : List Loc) (ls : Array Slot), va_P (dC, dI) vwCl (wA cq q S M o) H → va_D A (wA cq q S M o) → va_S A s.heap H locs → lv_has ls 5 [(0, .ref (q 6)), (1, .int x1), (2, .int x2)] → mX5_shortsNeeded_57 n K4 S x1 x2 = some rr → W p l e rmX5_shortsNeeded s m args below meth c H locs 0 0 Q (F0 m 57 ls []) := by
    intro x1 x2 K4 hK4 H locs ls hP hD hS hl h
    rw [mX5_shortsNeeded_57] at h
    refine lv_iinc (v := (x2 + (1 : Int32))) (lv' := [(2, .int (x2 + (1 : Int32))), (0, .ref (q 6)), (1, .int x1)]) hx hb dX5_shortsNeeded_57 hl (k := 2) rfl rfl (by decide) rfl (fun ls hl => ?_)
    refine lv_goto (tgt := 4) hx hb dX5_shortsNeeded_60 (by decide) ?_
    exact hK4 _ _ _ _ _ hP hD hS (lv_sub hl [1, 2, 0] rfl) h
  have hL4 : ∀   (k : Nat)  (x1 : Int32) (x2 : Int32) (H : Heap) (locs : List Loc) (ls : Array Slot), va_P (dC, dI) vwCl (wA cq q S M o) H → va_D A (wA cq q S M o) → va_S A s.heap H locs → lv_has ls 5 [(0, .ref (q 6)), (1, .int x1), (2, .int x2)] → mX5_shortsNeeded_4 n S k x1 x2 = some rr → W p l e rmX5_shortsNeeded s m args below meth c H locs 0 0 Q (F0 m 4 ls []) := by
    intro k
    induction k with
    | zero =>
      intro x1 x2 H locs ls hP hD hS hl h
      rw [mX5_shortsNeeded_4] at h
      cases h
    | succ k ih =>
      intro x1 x2 H locs ls hP hD hS hl h
      rw [mX5_shortsNeeded_4] at h
      refine lv_iload_n hx hb dX5_shortsNeeded_4 rfl (lv_at hl 2 rfl) ?_
      refine lv_bipush (v := (16 : Int32)) hx hb dX5_shortsNeeded_5 (by decide) ?_
      refine lv_icmp_ge (tgt := 63) hx hb dX5_shortsNeeded_7 (by decide) (fun c1 => ?_) (fun c1 => ?_)
      · replace h := it c1 h
        refine lv_iload_n hx hb dX5_shortsNeeded_63 rfl (lv_at hl 1 rfl) ?_
        exact hend _ _ _ _ _ h hP hD hS dX5_shortsNeeded_64
      · replace h := ie c1 h
        refine lv_aload_n hx hb dX5_shortsNeeded_10 rfl (lv_at hl 0 rfl) ?_
        refine lv_iload_n hx hb dX5_shortsNeeded_11 rfl (lv_at hl 2 rfl) ?_
        obtain ⟨r2, e3, h⟩ := bo h
        refine caVR_i (As := [.int x2]) (rest := []) (ctX5_isFirstOfNet l dC dI cq q S M o _ _ _ _ e3) F (cwV 1 hts gX5_shortsNeeded_X5_isFirstOfNet rfl rfl rfl hdX5_isFirstOfNet ⟨Nat.le_of_ble_eq_true rfl, Nat.le_of_ble_eq_true rfl⟩) hK hP hD hDm hS hA EV.blind (fun U hU hW => EV.call hX hS hDm hU hW) (va_recv hK hP (ci := 6) (q0 := 6) rfl rfl) rfl hl.1 rfl (Nat.le_of_ble_eq_true rfl) dX5_shortsNeeded_12 ⟨Nat.zero_le _, Nat.zero_le _⟩ (fun H locs hP hD hS => ?_)
        refine lv_if_eq (tgt := 57) hx hb dX5_shortsNeeded_15 (by decide) (fun c4 => ?_) (fun c4 => ?_)
        · replace h := it c4 h
          exact hj57 _ _ _ ih _ _ _ hP hD hS (lv_sub hl [0, 1, 2] rfl) h
        · replace h := ie c4 h
          refine lv_aload_n hx hb dX5_shortsNeeded_18 rfl (lv_at hl 0 rfl) ?_
          refine va_get (D := (dC, dI)) (ci := 6) (v := .ref (q 12)) (C := RX5) (T := TX5) (N := 8) hx hb hts hinX5 hown hK hP 6 rfl rfl 7 (by decide) (hts (.fieldLink RX5 30 "CableTester$Nets" "members" "[I") (mm 1 rfl)) (fun _ h9 => h9) rfl dX5_shortsNeeded_19 ?_
          refine lv_iload_n hx hb dX5_shortsNeeded_22 rfl (lv_at hl 2 rfl) ?_
          obtain ⟨g5, h⟩ := gd h
          refine va_iald (D := (dC, dI)) hx hb hK hP 12 6 rfl rfl (inb_ok g5) dX5_shortsNeeded_23 ?_
          refine lv_sipush (v := (255 : Int32)) hx hb dX5_shortsNeeded_24 (by decide) ?_
          refine lv_iand hx hb dX5_shortsNeeded_27 ?_
          obtain ⟨r6, e7, h⟩ := bo h
          refine caSR_i (As := [.int ((S.2.1 12 x2.toNatClampNeg) &&& (255 : Int32))]) (rest := []) (ctJ6_bitCount_0f7a4 l dC dI cq q S M o _ _ _ _ e7) F (va_cwS 1 hts gX5_shortsNeeded_J6_bitCount_0f7a4 rfl rfl rfl hdJ6_bitCount_0f7a4 ⟨Nat.le_of_ble_eq_true rfl, Nat.le_of_ble_eq_true rfl⟩) hK hP hD hDm hS hA EV.blind (fun U hU hW => EV.call hX hS hDm hU hW) rfl hl.1 rfl (Nat.le_of_ble_eq_true rfl) dX5_shortsNeeded_28 ⟨Nat.zero_le _, Nat.zero_le _⟩ (fun H locs hP hD hS => ?_)
          refine lv_istore_n (lv' := [(3, .int r6), (0, .ref (q 6)), (1, .int x1), (2, .int x2)]) hx hb dX5_shortsNeeded_31 rfl hl (by decide) rfl (fun ls hl => ?_)
          refine lv_aload_n hx hb dX5_shortsNeeded_32 rfl (lv_at hl 1 rfl) ?_
          refine va_get (D := (dC, dI)) (ci := 6) (v := .ref (q 12)) (C := RX5) (T := TX5) (N := 8) hx hb hts hinX5 hown hK hP 6 rfl rfl 7 (by decide) (hts (.fieldLink RX5 30 "CableTester$Nets" "members" "[I") (mm 1 rfl)) (fun _ h9 => h9) rfl dX5_shortsNeeded_33 ?_
          refine lv_iload_n hx hb dX5_shortsNeeded_36 rfl (lv_at hl 3 rfl) ?_
          obtain ⟨g8, h⟩ := gd h
          refine va_iald (D := (dC, dI)) hx hb hK hP 12 6 rfl rfl (inb_ok g8) dX5_shortsNeeded_37 ?_
          refine lv_bipush (v := (8 : Int32)) hx hb dX5_shortsNeeded_38 (by decide) ?_
          refine lv_ishr hx hb dX5_shortsNeeded_40 ?_
          obtain ⟨r9, e10, h⟩ := bo h
          refine caSR_i (As := [.int ((S.2.1 12 x2.toNatClampNeg) >>> ((8 : Int32) &&& 31))]) (rest := []) (ctJ6_bitCount_0f7a4 l dC dI cq q S M o _ _ _ _ e10) F (va_cwS 1 hts gX5_shortsNeeded_J6_bitCount_0f7a4 rfl rfl rfl hdJ6_bitCount_0f7a4 ⟨Nat.le_of_ble_eq_true rfl, Nat.le_of_ble_eq_true rfl⟩) hK hP hD hDm hS hA EV.blind (fun U hU hW => EV.call hX hS hDm hU hW) rfl hl.1 rfl (Nat.le_of_ble_eq_true rfl) dX5_shortsNeeded_41 ⟨Nat.zero_le _, Nat.zero_le _⟩ (fun H locs hP hD hS => ?_)
          refine lv_istore (lv' := [(4, .int r9), (3, .int r6), (0, .ref (q 6)), (1, .int x1), (2, .int x2)]) hx hb dX5_shortsNeeded_44 hl (by decide) rfl (fun ls hl => ?_)
          refine lv_iload_n hx hb dX5_shortsNeeded_46 rfl (lv_at hl 3 rfl) ?_
          refine lv_iload_n hx hb dX5_shortsNeeded_47 rfl (lv_at hl 1 rfl) ?_
          refine lv_iload hx hb dX5_shortsNeeded_48 (lv_at hl 0 rfl) ?_
          refine va_mmax hx hb (hml.trans hl.1.symm) hown (hts (.methodLink RX5 129 Lib.Math.max.name) (mm 2 rfl)) (hts (.static Lib.Math.max.name) (mm 3 rfl)) (hts (.initialized "java/lang/Math") (mm 4 rfl)) (hts (.code Lib.Math.max.name Lib.Math.max.code 2 (some .int)) (mm 5 rfl)) (Nat.le_of_ble_eq_true rfl) (Nat.le_of_ble_eq_true rfl) (Nat.zero_le _) (Nat.zero_le _) dX5_shortsNeeded_50 ?_
          refine lv_iconst (v := (1 : Int32)) hx hb dX5_shortsNeeded_53 (by decide) ?_
          refine lv_isub hx hb dX5_shortsNeeded_54 ?_
          refine lv_iadd hx hb dX5_shortsNeeded_55 ?_
          refine lv_istore_n (lv' := [(1, .int (x1 + ((if r6 < r9 then r9 else r6) - (1 : Int32)))), (4, .int r9), (3, .int r6), (0, .ref (q 6)), (2, .int x2)]) hx hb dX5_shortsNeeded_56 rfl hl (by decide) rfl (fun ls hl => ?_)
          exact hj57 _ _ _ ih _ _ _ hP hD hS (lv_sub hl [3, 0, 4] rfl) h
  rw [mX5_shortsNeeded] at h
  refine lv_iconst (v := (0 : Int32)) hx hb dX5_shortsNeeded_0 (by decide) ?_
  refine lv_istore_n (lv' := [(1, .int (0 : Int32)), (0, .ref (q 6))]) hx hb dX5_shortsNeeded_1 rfl hl (by decide) rfl (fun ls hl => ?_)
  refine lv_iconst (v := (0 : Int32)) hx hb dX5_shortsNeeded_2 (by decide) ?_
  refine lv_istore_n (lv' := [(2, .int (0 : Int32)), (1, .int (0 : Int32)), (0, .ref (q 6))]) hx hb dX5_shortsNeeded_3 rfl hl (by decide) rfl (fun ls hl => ?_)
  exact hL4 _ _ _ _ _ _ hP hD hS (lv_sub hl [2, 1, 0] rfl) h
def mX1_allowFewestCuts_126 (n : Nat) (K49 : CS → Int32 → Option (CS)) (S : CS) (x2 : Int32) (x3 : Int32) (t0 : Int32) (t1 : Int32) : Option (CS) :=
  (if inb t1 8 then (K49 (sA S 15 t1.toNatClampNeg t0) (x3 + (1 : Int32))) else none)
def mX1_allowFewestCuts_97 (n : Nat) (K49 : CS → Int32 → Option (CS)) (S : CS) (x2 : Int32) (x3 : Int32) (t0 : Int32) : Option (CS) :=
  (if t0 = (0 : Int32) then (if inb x3 8 then (mX1_allowFewestCuts_126 n (K49) S x2 x3 (S.2.1 14 x3.toNatClampNeg) x3) else none) else (if inb x3 8 then (mX1_allowFewestCuts_126 n (K49) S x2 x3 ((S.2.1 14 x3.toNatClampNeg) ||| x2) x3) else none))
def mX1_allowFewestCuts_49 (n : Nat)  (x2 : Int32) : Nat → CS → Int32 → Option (CS)
  | 0, _, _ => none
  | k + 1, S, x3 => (if (8 : Int32) ≤ x3 then (some S) else (bn (mX5_nearPinsWith S (0 : Int32) x3) fun r3 => (bn (mJ6_bitCount_0f7a4 r3) fun r5 => (bn (mX5_farPinsWith S (0 : Int32) x3) fun r7 => (if inb x3 8 then (if inb x3 8 then (bn (mJ6_bitCount_0f7a4 ((sA S 14 x3.toNatClampNeg r7).2.1 14 x3.toNatClampNeg)) fun r11 => (if r5 ≤ r11 then (mX1_allowFewestCuts_97 n (mX1_allowFewestCuts_49 n x2 k) (sA S 14 x3.toNatClampNeg r7) x2 x3 (0 : Int32)) else (mX1_allowFewestCuts_97 n (mX1_allowFewestCuts_49 n x2 k) (sA S 14 x3.toNatClampNeg r7) x2 x3 (1 : Int32)))) else none) else none)))))
def mX1_allowFewestCuts_41 (n : Nat) (K4 : CS → Int32 → Int32 → Option (CS)) (S : CS) (x2 : Int32) (x3 : Int32)  : Option (CS) :=
  (K4 S x2 (x3 + (1 : Int32)))
def mX1_allowFewestCuts_4 (n : Nat)   : Nat → CS → Int32 → Int32 → Option (CS)
  | 0, _, _, _ => none
  | k + 1, S, x2, x3 => (if (8 : Int32) ≤ x3 then (mX1_allowFewestCuts_49 n x2 n S (0 : Int32)) else (bn (mX5_nearPinsWith S (1 : Int32) x3) fun r18 => (bn (mJ6_bitCount_0f7a4 r18) fun r20 => (bn (mX5_farPinsWith S (1 : Int32) x3) fun r22 => (bn (mJ6_bitCount_0f7a4 r22) fun r24 => (if r24 ≤ r20 then (mX1_allowFewestCuts_41 n (mX1_allowFewestCuts_4 n k) S x2 x3) else (mX1_allowFewestCuts_41 n (mX1_allowFewestCuts_4 n k) S (x2 ||| ((1 : Int32) <<< (x3 &&& 31))) x3)))))))
def mX1_allowFewestCuts (n : Nat) (S : CS)  : Option (CS) :=
  (mX1_allowFewestCuts_4 n n S (0 : Int32) (0 : Int32))
abbrev rmX1_allowFewestCuts : Room := { frames := 2, cells := 0, slots := 0, locals := 43 }
theorem hdX1_allowFewestCuts : yX1_allowFewestCuts.cls = RX1 ∧ yX1_allowFewestCuts.cls ≠ "java/lang/invoke/MethodHandle" ∧ yX1_allowFewestCuts.cls ≠ "java/lang/invoke/VarHandle" ∧ (parseMethodDescriptor yX1_allowFewestCuts.desc).map (fun d => d.parameters.length) = some 1 := by decide +kernel
set_option maxRecDepth 100000 in
set_option maxHeartbeats 8000000 in
theorem ctX1_allowFewestCuts (l : Launch) (dC : Nat → ClassId) (dI : Nat → Nat → Nat) (cq : Nat → ClassId) (q : Nat → Nat) (S : CS) (M : MS) (o : Nat → Int64) (sz : Nat) (h0 : Nat) (n : Nat)  (SS : CS) (h : mX1_allowFewestCuts n S = some SS) : CtC_v l yX1_allowFewestCuts wsX1_allowFewestCuts rmX1_allowFewestCuts (fun a => h0 ≤ a) (EV h0 q) dC dI cq q S M o sz [.ref (q 13), .ref (q 6)] SS := by
  refine enC_v (cc := cX1_allowFewestCuts) (maxL := 6) (by decide) rfl (Nat.le_of_ble_eq_true rfl) (fun p e s m args below meth c A Q ls F hA hP hK hD hDm hX hS hl hend => ?_)
  obtain ⟨hx, hb, hml, hown, hts⟩ := id F
  have hown : s.vm.findClass RX1 = some m.cls := hown
  have F : CallFix p m c cX1_allowFewestCuts 6 s args wsX1_allowFewestCuts RX1 := F
  have hl : lv_has ls 6 [(0, .ref (q 13)), (1, .ref (q 6))] := hl
  have hinX1 : ∀ w ∈ u_ws RX1 TX1 5, w ∈ wsX1_allowFewestCuts := fun w h => List.mem_cons_of_mem _ (List.mem_append_left _ (List.mem_append_right _ h))
  have hj126 : ∀ (S : CS) (x2 : Int32) (x3 : Int32) (t0 : Int32) (t1 : Int32)  (K49 : CS → Int32 → Option (CS)) (hK49 : ∀ (S9 : CS) (y3 : Int32) (H : Heap) (locs : List Loc) (ls : Array Slot), va_P (dC, dI) vwCl (wA cq q S9 M o) H → va_D A (wA cq q S9 M o) → va_S A s.heap H locs → lv_has ls 6 [(0, .ref (q 13)), (1, .ref (q 6)), (2, .int x2), (3, .int y3)] → K49 S9 y3 = some SS → W p l e rmX1_allowFewestCuts s m args below meth c H locs 0 0 Q (F0 m 49 ls [])) (H : Heap) (locs : List Loc) (ls : Array Slot), va_P (dC, dI) vwCl (wA cq q S M o) H → va_D A (wA cq q S M o) → va_S A s.heap H locs → lv_has ls 6 [(0, .ref (q 13)), (1, .ref (q 6)), (2, .int x2), (3, .int x3)] → mX1_allowFewestCuts_126 n K49 S x2 x3 t0 t1 = some SS → W p l e rmX1_allowFewestCuts s m args below meth c H locs 0 0 Q (F0 m 126 ls [.int t0, .int t1, .ref (q 15)]) := by
    intro S x2 x3 t0 t1 K49 hK49 H locs ls hP hD hS hl h
    rw [mX1_allowFewestCuts_126] at h
    obtain ⟨g16, h⟩ := gd h
    refine as_15 F hK hP hD hS (inb_ok g16) dX1_allowFewestCuts_126 (fun H locs hP hD hS => ?_)
    refine lv_iinc (v := (x3 + (1 : Int32))) (lv' := [(3, .int (x3 + (1 : Int32))), (0, .ref (q 13)), (1, .ref (q 6)), (2, .int x2)]) hx hb dX1_allowFewestCuts_127 hl (k := 3) rfl rfl (by decide) rfl (fun ls hl => ?_)
    refine lv_goto (tgt := 49) hx hb dX1_allowFewestCuts_130 (by decide) ?_
    exact hK49 _ _ _ _ _ hP hD hS (lv_sub hl [1, 2, 3, 0] rfl) h
  have hj97 : ∀ (S : CS) (x2 : Int32) (x3 : Int32) (t0 : Int32)  (K49 : CS → Int32 → Option (CS)) (hK49 : ∀ (S9 : CS) (y3 : Int32) (H : Heap) (locs : List Loc) (ls : Array Slot), va_P (dC, dI) vwCl (wA cq q S9 M o) H → va_D A (wA cq q S9 M o) → va_S A s.heap H locs → lv_has ls 6 [(0, .ref (q 13)), (1, .ref (q 6)), (2, .int x2), (3, .int y3)] → K49 S9 y3 = some SS → W p l e rmX1_allowFewestCuts s m args below meth c H locs 0 0 Q (F0 m 49 ls [])) (H : Heap) (locs : List Loc) (ls : Array Slot), va_P (dC, dI) vwCl (wA cq q S M o) H → va_D A (wA cq q S M o) → va_S A s.heap H locs → lv_has ls 6 [(0, .ref (q 13)), (1, .ref (q 6)), (2, .int x2), (3, .int x3)] → mX1_allowFewestCuts_97 n K49 S x2 x3 t0 = some SS → W p l e rmX1_allowFewestCuts s m args below meth c H locs 0 0 Q (F0 m 97 ls [.int t0]) := by
    intro S x2 x3 t0 K49 hK49 H locs ls hP hD hS hl h
    rw [mX1_allowFewestCuts_97] at h
    refine lv_istore (lv' := [(5, .int t0), (0, .ref (q 13)), (1, .ref (q 6)), (2, .int x2), (3, .int x3)]) hx hb dX1_allowFewestCuts_97 hl (by decide) rfl (fun ls hl => ?_)
    refine lv_aload_n hx hb dX1_allowFewestCuts_99 rfl (lv_at hl 1 rfl) ?_
    refine va_get (D := (dC, dI)) (ci := 2) (v := .ref (q 15)) (C := RX1) (T := TX1) (N := 5) hx hb hts hinX1 hown hK hP 13 rfl rfl 1 (by decide) (hts (.fieldLink RX1 15 "CableTester$Explainer" "allowed" "[I") (mm 2 rfl)) (fun _ h9 => h9) rfl dX1_allowFewestCuts_100 ?_
    refine lv_iload_n hx hb dX1_allowFewestCuts_103 rfl (lv_at hl 4 rfl) ?_
    refine lv_iload hx hb dX1_allowFewestCuts_104 (lv_at hl 0 rfl) ?_
    refine lv_if_eq (tgt := 120) hx hb dX1_allowFewestCuts_106 (by decide) (fun c14 => ?_) (fun c14 => ?_)
    · replace h := it c14 h
      refine lv_aload_n hx hb dX1_allowFewestCuts_120 rfl (lv_at hl 1 rfl) ?_
      refine va_get (D := (dC, dI)) (ci := 2) (v := .ref (q 14)) (C := RX1) (T := TX1) (N := 5) hx hb hts hinX1 hown hK hP 13 rfl rfl 0 (by decide) (hts (.fieldLink RX1 9 "CableTester$Explainer" "uncut" "[I") (mm 1 rfl)) (fun _ h9 => h9) rfl dX1_allowFewestCuts_121 ?_
      refine lv_iload_n hx hb dX1_allowFewestCuts_124 rfl (lv_at hl 4 rfl) ?_
      obtain ⟨g15, h⟩ := gd h
      refine va_iald (D := (dC, dI)) hx hb hK hP 14 7 rfl rfl (inb_ok g15) dX1_allowFewestCuts_125 ?_
      exact hj126 _ _ _ _ _ _ hK49 _ _ _ hP hD hS (lv_sub hl [1, 2, 3, 4] rfl) h
    · replace h := ie c14 h
      refine lv_aload_n hx hb dX1_allowFewestCuts_109 rfl (lv_at hl 1 rfl) ?_
      refine va_get (D := (dC, dI)) (ci := 2) (v := .ref (q 14)) (C := RX1) (T := TX1) (N := 5) hx hb hts hinX1 hown hK hP 13 rfl rfl 0 (by decide) (hts (.fieldLink RX1 9 "CableTester$Explainer" "uncut" "[I") (mm 1 rfl)) (fun _ h9 => h9) rfl dX1_allowFewestCuts_110 ?_
      refine lv_iload_n hx hb dX1_allowFewestCuts_113 rfl (lv_at hl 4 rfl) ?_
      obtain ⟨g17, h⟩ := gd h
      refine va_iald (D := (dC, dI)) hx hb hK hP 14 7 rfl rfl (inb_ok g17) dX1_allowFewestCuts_114 ?_
      refine lv_iload_n hx hb dX1_allowFewestCuts_115 rfl (lv_at hl 3 rfl) ?_
      refine lv_ior hx hb dX1_allowFewestCuts_116 ?_
      refine lv_goto (tgt := 126) hx hb dX1_allowFewestCuts_117 (by decide) ?_
      exact hj126 _ _ _ _ _ _ hK49 _ _ _ hP hD hS (lv_sub hl [1, 2, 3, 4] rfl) h
  have hL49 : ∀ (x2 : Int32)  (k : Nat) (S : CS) (x3 : Int32) (H : Heap) (locs : List Loc) (ls : Array Slot), va_P (dC, dI) vwCl (wA cq q S M o) H → va_D A (wA cq q S M o) → va_S A s.heap H locs → lv_has ls 6 [(0, .ref (q 13)), (1, .ref (q 6)), (2, .int x2), (3, .int x3)] → mX1_allowFewestCuts_49 n x2 k S x3 = some SS → W p l e rmX1_allowFewestCuts s m args below meth c H locs 0 0 Q (F0 m 49 ls []) := by
    intro x2
    intro k
    induction k with
    | zero =>
      intro S x3 H locs ls hP hD hS hl h
      rw [mX1_allowFewestCuts_49] at h
      cases h
    | succ k ih =>
      intro S x3 H locs ls hP hD hS hl h
      rw [mX1_allowFewestCuts_49] at h
      refine lv_iload_n hx hb dX1_allowFewestCuts_49 rfl (lv_at hl 3 rfl) ?_
      refine lv_bipush (v := (8 : Int32)) hx hb dX1_allowFewestCuts_50 (by decide) ?_
      refine lv_icmp_ge (tgt := 133) hx hb dX1_allowFewestCuts_52 (by decide) (fun c2 => ?_) (fun c2 => ?_)
      · replace h := it c2 h
        exact hend _ _ _ _ _ h hP hD hS dX1_allowFewestCuts_133
      · replace h := ie c2 h
        refine lv_aload_n hx hb dX1_allowFewestCuts_55 rfl (lv_at hl 1 rfl) ?_
        refine lv_iconst (v := (0 : Int32)) hx hb dX1_allowFewestCuts_56 (by decide) ?_
        refine lv_iload_n hx hb dX1_allowFewestCuts_57 rfl (lv_at hl 3 rfl) ?_
        obtain ⟨r3, e4, h⟩ := bo h
        refine caVR_i (As := [.int (0 : Int32), .int x3]) (rest := []) (ctX5_nearPinsWith l dC dI cq q S M o _ _ _ _ _ e4) F (cwV 2 hts gX1_allowFewestCuts_X5_nearPinsWith rfl rfl rfl hdX5_nearPinsWith ⟨Nat.le_of_ble_eq_true rfl, Nat.le_of_ble_eq_true rfl⟩) hK hP hD hDm hS hA EV.blind (fun U hU hW => EV.call hX hS hDm hU hW) (va_recv hK hP (ci := 6) (q0 := 6) rfl rfl) rfl hl.1 rfl (Nat.le_of_ble_eq_true rfl) dX1_allowFewestCuts_58 ⟨Nat.zero_le _, Nat.zero_le _⟩ (fun H locs hP hD hS => ?_)
        obtain ⟨r5, e6, h⟩ := bo h
        refine caSR_i (As := [.int r3]) (rest := []) (ctJ6_bitCount_0f7a4 l dC dI cq q S M o _ _ _ _ e6) F (va_cwS 1 hts gX1_allowFewestCuts_J6_bitCount_0f7a4 rfl rfl rfl hdJ6_bitCount_0f7a4 ⟨Nat.le_of_ble_eq_true rfl, Nat.le_of_ble_eq_true rfl⟩) hK hP hD hDm hS hA EV.blind (fun U hU hW => EV.call hX hS hDm hU hW) rfl hl.1 rfl (Nat.le_of_ble_eq_true rfl) dX1_allowFewestCuts_61 ⟨Nat.zero_le _, Nat.zero_le _⟩ (fun H locs hP hD hS => ?_)
        refine lv_istore (lv' := [(4, .int r5), (0, .ref (q 13)), (1, .ref (q 6)), (2, .int x2), (3, .int x3)]) hx hb dX1_allowFewestCuts_64 hl (by decide) rfl (fun ls hl => ?_)
        refine lv_aload_n hx hb dX1_allowFewestCuts_66 rfl (lv_at hl 1 rfl) ?_
        refine va_get (D := (dC, dI)) (ci := 2) (v := .ref (q 14)) (C := RX1) (T := TX1) (N := 5) hx hb hts hinX1 hown hK hP 13 rfl rfl 0 (by decide) (hts (.fieldLink RX1 9 "CableTester$Explainer" "uncut" "[I") (mm 1 rfl)) (fun _ h9 => h9) rfl dX1_allowFewestCuts_67 ?_
        refine lv_iload_n hx hb dX1_allowFewestCuts_70 rfl (lv_at hl 4 rfl) ?_
        refine lv_aload_n hx hb dX1_allowFewestCuts_71 rfl (lv_at hl 2 rfl) ?_
        refine lv_iconst (v := (0 : Int32)) hx hb dX1_allowFewestCuts_72 (by decide) ?_
        refine lv_iload_n hx hb dX1_allowFewestCuts_73 rfl (lv_at hl 4 rfl) ?_
        obtain ⟨r7, e8, h⟩ := bo h
        refine caVR_i (As := [.int (0 : Int32), .int x3]) (rest := [.int x3, .ref (q 14)]) (ctX5_farPinsWith l dC dI cq q S M o _ _ _ _ _ e8) F (cwV 2 hts gX1_allowFewestCuts_X5_farPinsWith rfl rfl rfl hdX5_farPinsWith ⟨Nat.le_of_ble_eq_true rfl, Nat.le_of_ble_eq_true rfl⟩) hK hP hD hDm hS hA EV.blind (fun U hU hW => EV.call hX hS hDm hU hW) (va_recv hK hP (ci := 6) (q0 := 6) rfl rfl) rfl hl.1 rfl (Nat.le_of_ble_eq_true rfl) dX1_allowFewestCuts_74 ⟨Nat.zero_le _, Nat.zero_le _⟩ (fun H locs hP hD hS => ?_)
        obtain ⟨g9, h⟩ := gd h
        refine as_14 F hK hP hD hS (inb_ok g9) dX1_allowFewestCuts_77 (fun H locs hP hD hS => ?_)
        refine lv_iload hx hb dX1_allowFewestCuts_78 (lv_at hl 0 rfl) ?_
        refine lv_aload_n hx hb dX1_allowFewestCuts_80 rfl (lv_at hl 1 rfl) ?_
        refine va_get (D := (dC, dI)) (ci := 2) (v := .ref (q 14)) (C := RX1) (T := TX1) (N := 5) hx hb hts hinX1 hown hK hP 13 rfl rfl 0 (by decide) (hts (.fieldLink RX1 9 "CableTester$Explainer" "uncut" "[I") (mm 1 rfl)) (fun _ h9 => h9) rfl dX1_allowFewestCuts_81 ?_
        refine lv_iload_n hx hb dX1_allowFewestCuts_84 rfl (lv_at hl 4 rfl) ?_
        obtain ⟨g10, h⟩ := gd h
        refine va_iald (D := (dC, dI)) hx hb hK hP 14 7 rfl rfl (inb_ok g10) dX1_allowFewestCuts_85 ?_
        obtain ⟨r11, e12, h⟩ := bo h
        refine caSR_i (As := [.int ((sA S 14 x3.toNatClampNeg r7).2.1 14 x3.toNatClampNeg)]) (rest := [.int r5]) (ctJ6_bitCount_0f7a4 l dC dI cq q (sA S 14 x3.toNatClampNeg r7) M o _ _ _ _ e12) F (va_cwS 1 hts gX1_allowFewestCuts_J6_bitCount_0f7a4 rfl rfl rfl hdJ6_bitCount_0f7a4 ⟨Nat.le_of_ble_eq_true rfl, Nat.le_of_ble_eq_true rfl⟩) hK hP hD hDm hS hA EV.blind (fun U hU hW => EV.call hX hS hDm hU hW) rfl hl.1 rfl (Nat.le_of_ble_eq_true rfl) dX1_allowFewestCuts_86 ⟨Nat.zero_le _, Nat.zero_le _⟩ (fun H locs hP hD hS => ?_)
        refine lv_icmp_le (tgt := 96) hx hb dX1_allowFewestCuts_89 (by decide) (fun c13 => ?_) (fun c13 => ?_)
        · replace h := it c13 h
          refine lv_iconst (v := (0 : Int32)) hx hb dX1_allowFewestCuts_96 (by decide) ?_
          exact hj97 _ _ _ _ _ ih _ _ _ hP hD hS (lv_sub hl [1, 2, 3, 4] rfl) h
        · replace h := ie c13 h
          refine lv_iconst (v := (1 : Int32)) hx hb dX1_allowFewestCuts_92 (by decide) ?_
          refine lv_goto (tgt := 97) hx hb dX1_allowFewestCuts_93 (by decide) ?_
          exact hj97 _ _ _ _ _ ih _ _ _ hP hD hS (lv_sub hl [1, 2, 3, 4] rfl) h
  have hj41 : ∀ (S : CS) (x2 : Int32) (x3 : Int32)   (K4 : CS → Int32 → Int32 → Option (CS)) (hK4 : ∀ (S9 : CS) (y2 : Int32) (y3 : Int32) (H : Heap) (locs : List Loc) (ls : Array Slot), va_P (dC, dI) vwCl (wA cq q S9 M o) H → va_D A (wA cq q S9 M o) → va_S A s.heap H locs → lv_has ls 6 [(0, .ref (q 13)), (1, .ref (q 6)), (2, .int y2), (3, .int y3)] → K4 S9 y2 y3 = some SS → W p l e rmX1_allowFewestCuts s m args below meth c H locs 0 0 Q (F0 m 4 ls [])) (H : Heap) (locs : List Loc) (ls : Array Slot), va_P (dC, dI) vwCl (wA cq q S M o) H → va_D A (wA cq q S M o) → va_S A s.heap H locs → lv_has ls 6 [(0, .ref (q 13)), (1, .ref (q 6)), (2, .int x2), (3, .int x3)] → mX1_allowFewestCuts_41 n K4 S x2 x3 = some SS → W p l e rmX1_allowFewestCuts s m args below meth c H locs 0 0 Q (F0 m 41 ls []) := by
    intro S x2 x3 K4 hK4 H locs ls hP hD hS hl h
    rw [mX1_allowFewestCuts_41] at h
    refine lv_iinc (v := (x3 + (1 : Int32))) (lv' := [(3, .int (x3 + (1 : Int32))), (0, .ref (q 13)), (1, .ref (q 6)), (2, .int x2)]) hx hb dX1_allowFewestCuts_41 hl (k := 3) rfl rfl (by decide) rfl (fun ls hl => ?_)
    refine lv_goto (tgt := 4) hx hb dX1_allowFewestCuts_44 (by decide) ?_
    exact hK4 _ _ _ _ _ _ hP hD hS (lv_sub hl [1, 2, 3, 0] rfl) h
  have hL4 : ∀   (k : Nat) (S : CS) (x2 : Int32) (x3 : Int32) (H : Heap) (locs : List Loc) (ls : Array Slot), va_P (dC, dI) vwCl (wA cq q S M o) H → va_D A (wA cq q S M o) → va_S A s.heap H locs → lv_has ls 6 [(0, .ref (q 13)), (1, .ref (q 6)), (2, .int x2), (3, .int x3)] → mX1_allowFewestCuts_4 n k S x2 x3 = some SS → W p l e rmX1_allowFewestCuts s m args below meth c H locs 0 0 Q (F0 m 4 ls []) := by
    intro k
    induction k with
    | zero =>
      intro S x2 x3 H locs ls hP hD hS hl h
      rw [mX1_allowFewestCuts_4] at h
      cases h
    | succ k ih =>
      intro S x2 x3 H locs ls hP hD hS hl h
      rw [mX1_allowFewestCuts_4] at h
      refine lv_iload_n hx hb dX1_allowFewestCuts_4 rfl (lv_at hl 3 rfl) ?_
      refine lv_bipush (v := (8 : Int32)) hx hb dX1_allowFewestCuts_5 (by decide) ?_
      refine lv_icmp_ge (tgt := 47) hx hb dX1_allowFewestCuts_7 (by decide) (fun c1 => ?_) (fun c1 => ?_)
      · replace h := it c1 h
        refine lv_iconst (v := (0 : Int32)) hx hb dX1_allowFewestCuts_47 (by decide) ?_
        refine lv_istore_n (lv' := [(3, .int (0 : Int32)), (0, .ref (q 13)), (1, .ref (q 6)), (2, .int x2)]) hx hb dX1_allowFewestCuts_48 rfl hl (by decide) rfl (fun ls hl => ?_)
        exact hL49 _ _ _ _ _ _ _ hP hD hS (lv_sub hl [1, 2, 3, 0] rfl) h
      · replace h := ie c1 h
        refine lv_aload_n hx hb dX1_allowFewestCuts_10 rfl (lv_at hl 1 rfl) ?_
        refine lv_iconst (v := (1 : Int32)) hx hb dX1_allowFewestCuts_11 (by decide) ?_
        refine lv_iload_n hx hb dX1_allowFewestCuts_12 rfl (lv_at hl 3 rfl) ?_
        obtain ⟨r18, e19, h⟩ := bo h
        refine caVR_i (As := [.int (1 : Int32), .int x3]) (rest := []) (ctX5_nearPinsWith l dC dI cq q S M o _ _ _ _ _ e19) F (cwV 2 hts gX1_allowFewestCuts_X5_nearPinsWith rfl rfl rfl hdX5_nearPinsWith ⟨Nat.le_of_ble_eq_true rfl, Nat.le_of_ble_eq_true rfl⟩) hK hP hD hDm hS hA EV.blind (fun U hU hW => EV.call hX hS hDm hU hW) (va_recv hK hP (ci := 6) (q0 := 6) rfl rfl) rfl hl.1 rfl (Nat.le_of_ble_eq_true rfl) dX1_allowFewestCuts_13 ⟨Nat.zero_le _, Nat.zero_le _⟩ (fun H locs hP hD hS => ?_)
        obtain ⟨r20, e21, h⟩ := bo h
        refine caSR_i (As := [.int r18]) (rest := []) (ctJ6_bitCount_0f7a4 l dC dI cq q S M o _ _ _ _ e21) F (va_cwS 1 hts gX1_allowFewestCuts_J6_bitCount_0f7a4 rfl rfl rfl hdJ6_bitCount_0f7a4 ⟨Nat.le_of_ble_eq_true rfl, Nat.le_of_ble_eq_true rfl⟩) hK hP hD hDm hS hA EV.blind (fun U hU hW => EV.call hX hS hDm hU hW) rfl hl.1 rfl (Nat.le_of_ble_eq_true rfl) dX1_allowFewestCuts_16 ⟨Nat.zero_le _, Nat.zero_le _⟩ (fun H locs hP hD hS => ?_)
        refine lv_istore (lv' := [(4, .int r20), (0, .ref (q 13)), (1, .ref (q 6)), (2, .int x2), (3, .int x3)]) hx hb dX1_allowFewestCuts_19 hl (by decide) rfl (fun ls hl => ?_)
        refine lv_aload_n hx hb dX1_allowFewestCuts_21 rfl (lv_at hl 2 rfl) ?_
        refine lv_iconst (v := (1 : Int32)) hx hb dX1_allowFewestCuts_22 (by decide) ?_
        refine lv_iload_n hx hb dX1_allowFewestCuts_23 rfl (lv_at hl 4 rfl) ?_
        obtain ⟨r22, e23, h⟩ := bo h
        refine caVR_i (As := [.int (1 : Int32), .int x3]) (rest := []) (ctX5_farPinsWith l dC dI cq q S M o _ _ _ _ _ e23) F (cwV 2 hts gX1_allowFewestCuts_X5_farPinsWith rfl rfl rfl hdX5_farPinsWith ⟨Nat.le_of_ble_eq_true rfl, Nat.le_of_ble_eq_true rfl⟩) hK hP hD hDm hS hA EV.blind (fun U hU hW => EV.call hX hS hDm hU hW) (va_recv hK hP (ci := 6) (q0 := 6) rfl rfl) rfl hl.1 rfl (Nat.le_of_ble_eq_true rfl) dX1_allowFewestCuts_24 ⟨Nat.zero_le _, Nat.zero_le _⟩ (fun H locs hP hD hS => ?_)
        obtain ⟨r24, e25, h⟩ := bo h
        refine caSR_i (As := [.int r22]) (rest := []) (ctJ6_bitCount_0f7a4 l dC dI cq q S M o _ _ _ _ e25) F (va_cwS 1 hts gX1_allowFewestCuts_J6_bitCount_0f7a4 rfl rfl rfl hdJ6_bitCount_0f7a4 ⟨Nat.le_of_ble_eq_true rfl, Nat.le_of_ble_eq_true rfl⟩) hK hP hD hDm hS hA EV.blind (fun U hU hW => EV.call hX hS hDm hU hW) rfl hl.1 rfl (Nat.le_of_ble_eq_true rfl) dX1_allowFewestCuts_27 ⟨Nat.zero_le _, Nat.zero_le _⟩ (fun H locs hP hD hS => ?_)
        refine lv_iload hx hb dX1_allowFewestCuts_30 (lv_at hl 0 rfl) ?_
        refine lv_icmp_le (tgt := 41) hx hb dX1_allowFewestCuts_32 (by decide) (fun c26 => ?_) (fun c26 => ?_)
        · replace h := it c26 h
          exact hj41 _ _ _ _ ih _ _ _ hP hD hS (lv_sub hl [1, 2, 3, 4] rfl) h
        · replace h := ie c26 h
          refine lv_iload_n hx hb dX1_allowFewestCuts_35 rfl (lv_at hl 3 rfl) ?_
          refine lv_iconst (v := (1 : Int32)) hx hb dX1_allowFewestCuts_36 (by decide) ?_
          refine lv_iload_n hx hb dX1_allowFewestCuts_37 rfl (lv_at hl 4 rfl) ?_
          refine lv_ishl hx hb dX1_allowFewestCuts_38 ?_
          refine lv_ior hx hb dX1_allowFewestCuts_39 ?_
          refine lv_istore_n (lv' := [(2, .int (x2 ||| ((1 : Int32) <<< (x3 &&& 31)))), (4, .int r20), (0, .ref (q 13)), (1, .ref (q 6)), (3, .int x3)]) hx hb dX1_allowFewestCuts_40 rfl hl (by decide) rfl (fun ls hl => ?_)
          exact hj41 _ _ _ _ ih _ _ _ hP hD hS (lv_sub hl [2, 3, 0, 4] rfl) h
  rw [mX1_allowFewestCuts] at h
  refine lv_iconst (v := (0 : Int32)) hx hb dX1_allowFewestCuts_0 (by decide) ?_
  refine lv_istore_n (lv' := [(2, .int (0 : Int32)), (0, .ref (q 13)), (1, .ref (q 6))]) hx hb dX1_allowFewestCuts_1 rfl hl (by decide) rfl (fun ls hl => ?_)
  refine lv_iconst (v := (0 : Int32)) hx hb dX1_allowFewestCuts_2 (by decide) ?_
  refine lv_istore_n (lv' := [(3, .int (0 : Int32)), (2, .int (0 : Int32)), (0, .ref (q 13)), (1, .ref (q 6))]) hx hb dX1_allowFewestCuts_3 rfl hl (by decide) rfl (fun ls hl => ?_)
  exact hL4 _ _ _ _ _ _ _ hP hD hS (lv_sub hl [2, 3, 1, 0] rfl) h
def mX1_closesCycle_37 (n : Nat)  (S : CS) (x1 : Int32) (x2 : Int32)  : Option (Int32) :=
  (if x2 = x1 then (some (1 : Int32)) else (some (0 : Int32)))
def mX1_closesCycle_9 (n : Nat)  (S : CS) (x1 : Int32) : Nat → Int32 → Int32 → Option (Int32)
  | 0, _, _ => none
  | k + 1, x2, x3 => (if (8 : Int32) ≤ x3 then (mX1_closesCycle_37 n S x1 x2) else (if x2 < (0 : Int32) then (mX1_closesCycle_37 n S x1 x2) else (if x1 ≤ x2 then (mX1_closesCycle_37 n S x1 x2) else (if inb x2 8 then (mX1_closesCycle_9 n S x1 k (S.2.1 16 x2.toNatClampNeg) (x3 + (1 : Int32))) else none))))
def mX1_closesCycle (n : Nat) (S : CS) (x1 : Int32) : Option (Int32) :=
  (if inb x1 8 then (mX1_closesCycle_9 n S x1 n (S.2.1 16 x1.toNatClampNeg) (0 : Int32)) else none)
abbrev rmX1_closesCycle : Room := { frames := 0, cells := 0, slots := 0, locals := 0 }
theorem hdX1_closesCycle : yX1_closesCycle.cls = RX1 ∧ yX1_closesCycle.cls ≠ "java/lang/invoke/MethodHandle" ∧ yX1_closesCycle.cls ≠ "java/lang/invoke/VarHandle" ∧ (parseMethodDescriptor yX1_closesCycle.desc).map (fun d => d.parameters.length) = some 1 := by decide +kernel
set_option maxRecDepth 100000 in
set_option maxHeartbeats 8000000 in
theorem ctX1_closesCycle (l : Launch) (dC : Nat → ClassId) (dI : Nat → Nat → Nat) (cq : Nat → ClassId) (q : Nat → Nat) (S : CS) (M : MS) (o : Nat → Int64) (sz : Nat) (h0 : Nat) (n : Nat) (x1 : Int32) (rr : Int32) (h : mX1_closesCycle n S x1 = some rr) : CtR_i l yX1_closesCycle wsX1_closesCycle rmX1_closesCycle (fun a => h0 ≤ a) (EV h0 q) dC dI cq q S M o sz [.ref (q 13), .int x1] rr := by
  refine enR_z (cc := cX1_closesCycle) (maxL := 4) (by decide) rfl (Nat.le_of_ble_eq_true rfl) (fun p e s m args below meth c A Q ls F hA hP hK hD hDm hX hS hl hend => ?_)
  obtain ⟨hx, hb, hml, hown, hts⟩ := id F
  have hown : s.vm.findClass RX1 = some m.cls := hown
  have F : CallFix p m c cX1_closesCycle 4 s args wsX1_closesCycle RX1 := F
  have hl : lv_has ls 4 [(0, .ref (q 13)), (1, .int x1)] := hl
  have hinX1 : ∀ w ∈ u_ws RX1 TX1 5, w ∈ wsX1_closesCycle := fun w h => List.mem_cons_of_mem _ (List.mem_append_right _ h)
  have hj37 : ∀  (x1 : Int32) (x2 : Int32)    (H : Heap) (locs : List Loc) (ls : Array Slot), va_P (dC, dI) vwCl (wA cq q S M o) H → va_D A (wA cq q S M o) → va_S A s.heap H locs → lv_has ls 4 [(1, .int x1), (2, .int x2)] → mX1_closesCycle_37 n S x1 x2 = some rr → W p l e rmX1_closesCycle s m args below meth c H locs 0 0 Q (F0 m 37 ls []) := by
    intro x1 x2 H locs ls hP hD hS hl h
    rw [mX1_closesCycle_37] at h
    refine lv_iload_n hx hb dX1_closesCycle_37 rfl (lv_at hl 1 rfl) ?_
    refine lv_iload_n hx hb dX1_closesCycle_38 rfl (lv_at hl 0 rfl) ?_
    refine lv_icmp_ne (tgt := 46) hx hb dX1_closesCycle_39 (by decide) (fun c3 => ?_) (fun c3 => ?_)
    · replace h := ie c3 h
      refine lv_iconst (v := (0 : Int32)) hx hb dX1_closesCycle_46 (by decide) ?_
      exact hend _ _ _ _ _ h hP hD hS dX1_closesCycle_47 (by decide)
    · replace h := it c3 h
      refine lv_iconst (v := (1 : Int32)) hx hb dX1_closesCycle_42 (by decide) ?_
      refine lv_goto (tgt := 47) hx hb dX1_closesCycle_43 (by decide) ?_
      exact hend _ _ _ _ _ h hP hD hS dX1_closesCycle_47 (by decide)
  have hL9 : ∀ (x1 : Int32)  (k : Nat)  (x2 : Int32) (x3 : Int32) (H : Heap) (locs : List Loc) (ls : Array Slot), va_P (dC, dI) vwCl (wA cq q S M o) H → va_D A (wA cq q S M o) → va_S A s.heap H locs → lv_has ls 4 [(0, .ref (q 13)), (1, .int x1), (2, .int x2), (3, .int x3)] → mX1_closesCycle_9 n S x1 k x2 x3 = some rr → W p l e rmX1_closesCycle s m args below meth c H locs 0 0 Q (F0 m 9 ls []) := by
    intro x1
    intro k
    induction k with
    | zero =>
      intro x2 x3 H locs ls hP hD hS hl h
      rw [mX1_closesCycle_9] at h
      cases h
    | succ k ih =>
      intro x2 x3 H locs ls hP hD hS hl h
      rw [mX1_closesCycle_9] at h
      refine lv_iload_n hx hb dX1_closesCycle_9 rfl (lv_at hl 3 rfl) ?_
      refine lv_bipush (v := (8 : Int32)) hx hb dX1_closesCycle_10 (by decide) ?_
      refine lv_icmp_ge (tgt := 37) hx hb dX1_closesCycle_12 (by decide) (fun c2 => ?_) (fun c2 => ?_)
      · replace h := it c2 h
        exact hj37 _ _ _ _ _ hP hD hS (lv_sub hl [1, 2] rfl) h
      · replace h := ie c2 h
        refine lv_iload_n hx hb dX1_closesCycle_15 rfl (lv_at hl 2 rfl) ?_
        refine lv_if_lt (tgt := 37) hx hb dX1_closesCycle_16 (by decide) (fun c4 => ?_) (fun c4 => ?_)
        · replace h := it c4 h
          exact hj37 _ _ _ _ _ hP hD hS (lv_sub hl [1, 2] rfl) h
        · replace h := ie c4 h
          refine lv_iload_n hx hb dX1_closesCycle_19 rfl (lv_at hl 2 rfl) ?_
          refine lv_iload_n hx hb dX1_closesCycle_20 rfl (lv_at hl 1 rfl) ?_
          refine lv_icmp_ge (tgt := 37) hx hb dX1_closesCycle_21 (by decide) (fun c5 => ?_) (fun c5 => ?_)
          · replace h := it c5 h
            exact hj37 _ _ _ _ _ hP hD hS (lv_sub hl [1, 2] rfl) h
          · replace h := ie c5 h
            refine lv_aload_n hx hb dX1_closesCycle_24 rfl (lv_at hl 0 rfl) ?_
            refine va_get (D := (dC, dI)) (ci := 2) (v := .ref (q 16)) (C := RX1) (T := TX1) (N := 5) hx hb hts hinX1 hown hK hP 13 rfl rfl 2 (by decide) (hts (.fieldLink RX1 18 "CableTester$Explainer" "given" "[I") (mm 1 rfl)) (fun _ h9 => h9) rfl dX1_closesCycle_25 ?_
            refine lv_iload_n hx hb dX1_closesCycle_28 rfl (lv_at hl 2 rfl) ?_
            obtain ⟨g6, h⟩ := gd h
            refine va_iald (D := (dC, dI)) hx hb hK hP 16 9 rfl rfl (inb_ok g6) dX1_closesCycle_29 ?_
            refine lv_istore_n (lv' := [(2, .int (S.2.1 16 x2.toNatClampNeg)), (0, .ref (q 13)), (1, .int x1), (3, .int x3)]) hx hb dX1_closesCycle_30 rfl hl (by decide) rfl (fun ls hl => ?_)
            refine lv_iinc (v := (x3 + (1 : Int32))) (lv' := [(3, .int (x3 + (1 : Int32))), (2, .int (S.2.1 16 x2.toNatClampNeg)), (0, .ref (q 13)), (1, .int x1)]) hx hb dX1_closesCycle_31 hl (k := 3) rfl rfl (by decide) rfl (fun ls hl => ?_)
            refine lv_goto (tgt := 9) hx hb dX1_closesCycle_34 (by decide) ?_
            exact ih _ _ _ _ _ hP hD hS (lv_sub hl [2, 3, 1, 0] rfl) h
  rw [mX1_closesCycle] at h
  refine lv_aload_n hx hb dX1_closesCycle_0 rfl (lv_at hl 0 rfl) ?_
  refine va_get (D := (dC, dI)) (ci := 2) (v := .ref (q 16)) (C := RX1) (T := TX1) (N := 5) hx hb hts hinX1 hown hK hP 13 rfl rfl 2 (by decide) (hts (.fieldLink RX1 18 "CableTester$Explainer" "given" "[I") (mm 1 rfl)) (fun _ h9 => h9) rfl dX1_closesCycle_1 ?_
  refine lv_iload_n hx hb dX1_closesCycle_4 rfl (lv_at hl 1 rfl) ?_
  obtain ⟨g1, h⟩ := gd h
  refine va_iald (D := (dC, dI)) hx hb hK hP 16 9 rfl rfl (inb_ok g1) dX1_closesCycle_5 ?_
  refine lv_istore_n (lv' := [(2, .int (S.2.1 16 x1.toNatClampNeg)), (0, .ref (q 13)), (1, .int x1)]) hx hb dX1_closesCycle_6 rfl hl (by decide) rfl (fun ls hl => ?_)
  refine lv_iconst (v := (0 : Int32)) hx hb dX1_closesCycle_7 (by decide) ?_
  refine lv_istore_n (lv' := [(3, .int (0 : Int32)), (2, .int (S.2.1 16 x1.toNatClampNeg)), (0, .ref (q 13)), (1, .int x1)]) hx hb dX1_closesCycle_8 rfl hl (by decide) rfl (fun ls hl => ?_)
  exact hL9 _ _ _ _ _ _ _ hP hD hS (lv_sub hl [2, 3, 1, 0] rfl) h
