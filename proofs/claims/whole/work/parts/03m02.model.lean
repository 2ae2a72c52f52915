def mX8_takesPin_105  (M : MS) (x2 : Int32) (t0 : Int32) : Option (Int32 × MS) :=
  (if bz x2 then (some (x2, (sG M 14 t0))) else none)
def mX8_takesPin_77  (M : MS) (x1 : Int32) (x2 : Int32)  : Option (Int32 × MS) :=
  (if x2 = (0 : Int32) then (if bz x2 then (some (x2, M)) else none) else (if ((sG M 17 (x1 - (48 : Int32))).1 15) = (115 : Int32) then (mX8_takesPin_105 (sG M 17 (x1 - (48 : Int32))) x2 (3 : Int32)) else (mX8_takesPin_105 (sG M 17 (x1 - (48 : Int32))) x2 (7 : Int32))))
def mX8_takesPin_71  (M : MS) (x2 : Int32) (t0 : Int32) : Option (Int32 × MS) :=
  (if bz x2 then (some (x2, (sG M 14 t0))) else none)
def mX8_takesPin_35  (M : MS) (x1 : Int32) (t0 : Int32) : Option (Int32 × MS) :=
  (if t0 = (0 : Int32) then (mX8_takesPin_77 M x1 t0) else (if (M.1 14) = (1 : Int32) then (if ((sG M 16 (x1 - (48 : Int32))).1 15) = (99 : Int32) then (mX8_takesPin_71 (sG M 16 (x1 - (48 : Int32))) t0 (3 : Int32)) else (mX8_takesPin_71 (sG M 16 (x1 - (48 : Int32))) t0 (2 : Int32))) else (mX8_takesPin_77 M x1 t0)))
def mX8_takesPin_34  (M : MS) (x1 : Int32)  : Option (Int32 × MS) :=
  (mX8_takesPin_35 M x1 (0 : Int32))
def mX8_takesPin_30  (M : MS) (x1 : Int32)  : Option (Int32 × MS) :=
  (mX8_takesPin_35 M x1 (1 : Int32))
def mX8_takesPin (M : MS) (x1 : Int32) : Option (Int32 × MS) :=
  (bn (mX8_within x1 (48 : Int32) (55 : Int32)) fun r1 => (if r1 = (0 : Int32) then (mX8_takesPin_34 M x1) else (if (M.1 14) = (1 : Int32) then (mX8_takesPin_30 M x1) else (if (x1 - (48 : Int32)) = (M.1 16) then (mX8_takesPin_34 M x1) else (mX8_takesPin_30 M x1)))))
abbrev rmX8_takesPin : Room := { frames := 1, cells := 0, slots := 0, locals := 22 }
theorem hdX8_takesPin : yX8_takesPin.cls = RX8 ∧ yX8_takesPin.cls ≠ "java/lang/invoke/MethodHandle" ∧ yX8_takesPin.cls ≠ "java/lang/invoke/VarHandle" ∧ (parseMethodDescriptor yX8_takesPin.desc).map (fun d => d.parameters.length) = some 1 := by decide +kernel
set_option maxRecDepth 100000 in
set_option maxHeartbeats 8000000 in
theorem ctX8_takesPin (l : Launch) (dC : Nat → ClassId) (dI : Nat → Nat → Nat) (cq : Nat → ClassId) (q : Nat → Nat) (S : CS) (M : MS) (o : Nat → Int64) (sz : Nat) (x1 : Int32) (rr : Int32) (MM : MS) (h : mX8_takesPin M x1 = some (rr, MM)) : CtM_i l yX8_takesPin wsX8_takesPin rmX8_takesPin (fun _ => True) (fun _ => True) dC dI cq q S M o sz [.ref (q 22), .int x1] rr MM := by
  refine enM_z (cc := cX8_takesPin) (maxL := 3) (by decide) rfl (Nat.le_of_ble_eq_true rfl) (fun p e s m args below meth c A Q ls F hA hP hK hD hDm hX hS hl hend => ?_)
  obtain ⟨hx, hb, hml, hown, hts⟩ := id F
  have hown : s.vm.findClass RX8 = some m.cls := hown
  have F : CallFix p m c cX8_takesPin 3 s args wsX8_takesPin RX8 := F
  have hl : lv_has ls 3 [(0, .ref (q 22)), (1, .int x1)] := hl
  have hinX8 : ∀ w ∈ u_ws RX8 TX8 29, w ∈ wsX8_takesPin := fun w h => List.mem_cons_of_mem _ (List.mem_append_right _ h)
  have hj105 : ∀ (M : MS) (x2 : Int32) (t0 : Int32)  (H : Heap) (locs : List Loc) (ls : Array Slot), va_P (dC, dI) vwCl (wA cq q S M o) H → va_D A (wA cq q S M o) → va_S A s.heap H locs → lv_has ls 3 [(2, .int x2)] → mX8_takesPin_105 M x2 t0 = some (rr, MM) → W p l e rmX8_takesPin s m args below meth c H locs 0 0 Q (F0 m 105 ls [.int t0, .ref (q 22)]) := by
    intro M x2 t0 H locs ls hP hD hS hl h
    rw [mX8_takesPin_105] at h
    refine pt_22_14 F hinX8 (hts (.fieldLink RX8 145 "CableTesterModel" "step" "I") (mm 1 rfl)) hK hP hD hS dX8_takesPin_105 (fun H locs hP hD hS => ?_)
    refine lv_iload_n hx hb dX8_takesPin_108 rfl (lv_at hl 0 rfl) ?_
    obtain ⟨g8, h⟩ := gd h
    exact hend _ _ _ _ _ _ h hP hD hS dX8_takesPin_109 (bz_ok g8)
  have hj77 : ∀ (M : MS) (x1 : Int32) (x2 : Int32)   (H : Heap) (locs : List Loc) (ls : Array Slot), va_P (dC, dI) vwCl (wA cq q S M o) H → va_D A (wA cq q S M o) → va_S A s.heap H locs → lv_has ls 3 [(0, .ref (q 22)), (1, .int x1), (2, .int x2)] → mX8_takesPin_77 M x1 x2 = some (rr, MM) → W p l e rmX8_takesPin s m args below meth c H locs 0 0 Q (F0 m 77 ls []) := by
    intro M x1 x2 H locs ls hP hD hS hl h
    rw [mX8_takesPin_77] at h
    refine lv_iload_n hx hb dX8_takesPin_77 rfl (lv_at hl 2 rfl) ?_
    refine lv_if_eq (tgt := 108) hx hb dX8_takesPin_78 (by decide) (fun c5 => ?_) (fun c5 => ?_)
    · replace h := it c5 h
      refine lv_iload_n hx hb dX8_takesPin_108 rfl (lv_at hl 2 rfl) ?_
      obtain ⟨g6, h⟩ := gd h
      exact hend _ _ _ _ _ _ h hP hD hS dX8_takesPin_109 (bz_ok g6)
    · replace h := ie c5 h
      refine lv_aload_n hx hb dX8_takesPin_81 rfl (lv_at hl 0 rfl) ?_
      refine lv_iload_n hx hb dX8_takesPin_82 rfl (lv_at hl 1 rfl) ?_
      refine lv_bipush (v := (48 : Int32)) hx hb dX8_takesPin_83 (by decide) ?_
      refine lv_isub hx hb dX8_takesPin_85 ?_
      refine pt_22_17 F hinX8 (hts (.fieldLink RX8 133 "CableTesterModel" "other" "I") (mm 4 rfl)) hK hP hD hS dX8_takesPin_86 (fun H locs hP hD hS => ?_)
      refine lv_aload_n hx hb dX8_takesPin_89 rfl (lv_at hl 0 rfl) ?_
      refine lv_aload_n hx hb dX8_takesPin_90 rfl (lv_at hl 0 rfl) ?_
      refine va_get (D := (dC, dI)) (ci := 9) (v := .int ((sG M 17 (x1 - (48 : Int32))).1 15)) (C := RX8) (T := TX8) (N := 29) hx hb hts hinX8 hown hK hP 22 rfl rfl 15 (by decide) (hts (.fieldLink RX8 130 "CableTesterModel" "sign" "I") (mm 3 rfl)) (fun _ h9 => h9) rfl dX8_takesPin_91 ?_
      refine lv_bipush (v := (115 : Int32)) hx hb dX8_takesPin_94 (by decide) ?_
      refine lv_icmp_ne (tgt := 103) hx hb dX8_takesPin_96 (by decide) (fun c7 => ?_) (fun c7 => ?_)
      · replace h := ie c7 h
        refine lv_bipush (v := (7 : Int32)) hx hb dX8_takesPin_103 (by decide) ?_
        exact hj105 _ _ _ _ _ _ hP hD hS (lv_sub hl [2] rfl) h
      · replace h := it c7 h
        refine lv_iconst (v := (3 : Int32)) hx hb dX8_takesPin_99 (by decide) ?_
        refine lv_goto (tgt := 105) hx hb dX8_takesPin_100 (by decide) ?_
        exact hj105 _ _ _ _ _ _ hP hD hS (lv_sub hl [2] rfl) h
  have hj71 : ∀ (M : MS) (x2 : Int32) (t0 : Int32)  (H : Heap) (locs : List Loc) (ls : Array Slot), va_P (dC, dI) vwCl (wA cq q S M o) H → va_D A (wA cq q S M o) → va_S A s.heap H locs → lv_has ls 3 [(2, .int x2)] → mX8_takesPin_71 M x2 t0 = some (rr, MM) → W p l e rmX8_takesPin s m args below meth c H locs 0 0 Q (F0 m 71 ls [.int t0, .ref (q 22)]) := by
    intro M x2 t0 H locs ls hP hD hS hl h
    rw [mX8_takesPin_71] at h
    refine pt_22_14 F hinX8 (hts (.fieldLink RX8 145 "CableTesterModel" "step" "I") (mm 1 rfl)) hK hP hD hS dX8_takesPin_71 (fun H locs hP hD hS => ?_)
    refine lv_goto (tgt := 108) hx hb dX8_takesPin_74 (by decide) ?_
    refine lv_iload_n hx hb dX8_takesPin_108 rfl (lv_at hl 0 rfl) ?_
    obtain ⟨g11, h⟩ := gd h
    exact hend _ _ _ _ _ _ h hP hD hS dX8_takesPin_109 (bz_ok g11)
  have hj35 : ∀ (M : MS) (x1 : Int32) (t0 : Int32)  (H : Heap) (locs : List Loc) (ls : Array Slot), va_P (dC, dI) vwCl (wA cq q S M o) H → va_D A (wA cq q S M o) → va_S A s.heap H locs → lv_has ls 3 [(0, .ref (q 22)), (1, .int x1)] → mX8_takesPin_35 M x1 t0 = some (rr, MM) → W p l e rmX8_takesPin s m args below meth c H locs 0 0 Q (F0 m 35 ls [.int t0]) := by
    intro M x1 t0 H locs ls hP hD hS hl h
    rw [mX8_takesPin_35] at h
    refine lv_istore_n (lv' := [(2, .int t0), (0, .ref (q 22)), (1, .int x1)]) hx hb dX8_takesPin_35 rfl hl (by decide) rfl (fun ls hl => ?_)
    refine lv_iload_n hx hb dX8_takesPin_36 rfl (lv_at hl 0 rfl) ?_
    refine lv_if_eq (tgt := 77) hx hb dX8_takesPin_37 (by decide) (fun c4 => ?_) (fun c4 => ?_)
    · replace h := it c4 h
      exact hj77 _ _ _ _ _ _ hP hD hS (lv_sub hl [1, 2, 0] rfl) h
    · replace h := ie c4 h
      refine lv_aload_n hx hb dX8_takesPin_40 rfl (lv_at hl 1 rfl) ?_
      refine va_get (D := (dC, dI)) (ci := 9) (v := .int (M.1 14)) (C := RX8) (T := TX8) (N := 29) hx hb hts hinX8 hown hK hP 22 rfl rfl 14 (by decide) (hts (.fieldLink RX8 145 "CableTesterModel" "step" "I") (mm 1 rfl)) (fun _ h9 => h9) rfl dX8_takesPin_41 ?_
      refine lv_iconst (v := (1 : Int32)) hx hb dX8_takesPin_44 (by decide) ?_
      refine lv_icmp_ne (tgt := 77) hx hb dX8_takesPin_45 (by decide) (fun c9 => ?_) (fun c9 => ?_)
      · replace h := ie c9 h
        exact hj77 _ _ _ _ _ _ hP hD hS (lv_sub hl [1, 2, 0] rfl) h
      · replace h := it c9 h
        refine lv_aload_n hx hb dX8_takesPin_48 rfl (lv_at hl 1 rfl) ?_
        refine lv_iload_n hx hb dX8_takesPin_49 rfl (lv_at hl 2 rfl) ?_
        refine lv_bipush (v := (48 : Int32)) hx hb dX8_takesPin_50 (by decide) ?_
        refine lv_isub hx hb dX8_takesPin_52 ?_
        refine pt_22_16 F hinX8 (hts (.fieldLink RX8 148 "CableTesterModel" "one" "I") (mm 2 rfl)) hK hP hD hS dX8_takesPin_53 (fun H locs hP hD hS => ?_)
        refine lv_aload_n hx hb dX8_takesPin_56 rfl (lv_at hl 1 rfl) ?_
        refine lv_aload_n hx hb dX8_takesPin_57 rfl (lv_at hl 1 rfl) ?_
        refine va_get (D := (dC, dI)) (ci := 9) (v := .int ((sG M 16 (x1 - (48 : Int32))).1 15)) (C := RX8) (T := TX8) (N := 29) hx hb hts hinX8 hown hK hP 22 rfl rfl 15 (by decide) (hts (.fieldLink RX8 130 "CableTesterModel" "sign" "I") (mm 3 rfl)) (fun _ h9 => h9) rfl dX8_takesPin_58 ?_
        refine lv_bipush (v := (99 : Int32)) hx hb dX8_takesPin_61 (by decide) ?_
        refine lv_icmp_ne (tgt := 70) hx hb dX8_takesPin_63 (by decide) (fun c10 => ?_) (fun c10 => ?_)
        · replace h := ie c10 h
          refine lv_iconst (v := (2 : Int32)) hx hb dX8_takesPin_70 (by decide) ?_
          exact hj71 _ _ _ _ _ _ hP hD hS (lv_sub hl [0] rfl) h
        · replace h := it c10 h
          refine lv_iconst (v := (3 : Int32)) hx hb dX8_takesPin_66 (by decide) ?_
          refine lv_goto (tgt := 71) hx hb dX8_takesPin_67 (by decide) ?_
          exact hj71 _ _ _ _ _ _ hP hD hS (lv_sub hl [0] rfl) h
  have hj34 : ∀ (M : MS) (x1 : Int32)   (H : Heap) (locs : List Loc) (ls : Array Slot), va_P (dC, dI) vwCl (wA cq q S M o) H → va_D A (wA cq q S M o) → va_S A s.heap H locs → lv_has ls 3 [(0, .ref (q 22)), (1, .int x1)] → mX8_takesPin_34 M x1 = some (rr, MM) → W p l e rmX8_takesPin s m args below meth c H locs 0 0 Q (F0 m 34 ls []) := by
    intro M x1 H locs ls hP hD hS hl h
    rw [mX8_takesPin_34] at h
    refine lv_iconst (v := (0 : Int32)) hx hb dX8_takesPin_34 (by decide) ?_
    exact hj35 _ _ _ _ _ _ hP hD hS (lv_sub hl [0, 1] rfl) h
  have hj30 : ∀ (M : MS) (x1 : Int32)   (H : Heap) (locs : List Loc) (ls : Array Slot), va_P (dC, dI) vwCl (wA cq q S M o) H → va_D A (wA cq q S M o) → va_S A s.heap H locs → lv_has ls 3 [(0, .ref (q 22)), (1, .int x1)] → mX8_takesPin_30 M x1 = some (rr, MM) → W p l e rmX8_takesPin s m args below meth c H locs 0 0 Q (F0 m 30 ls []) := by
    intro M x1 H locs ls hP hD hS hl h
    rw [mX8_takesPin_30] at h
    refine lv_iconst (v := (1 : Int32)) hx hb dX8_takesPin_30 (by decide) ?_
    refine lv_goto (tgt := 35) hx hb dX8_takesPin_31 (by decide) ?_
    exact hj35 _ _ _ _ _ _ hP hD hS (lv_sub hl [0, 1] rfl) h
  rw [mX8_takesPin] at h
  refine lv_iload_n hx hb dX8_takesPin_0 rfl (lv_at hl 1 rfl) ?_
  refine lv_bipush (v := (48 : Int32)) hx hb dX8_takesPin_1 (by decide) ?_
  refine lv_bipush (v := (55 : Int32)) hx hb dX8_takesPin_3 (by decide) ?_
  obtain ⟨r1, e2, h⟩ := bo h
  refine caSR_i (As := [.int x1, .int (48 : Int32), .int (55 : Int32)]) (rest := []) (ctX8_within l dC dI cq q S M o _ _ _ _ _ e2) F (va_cwS 3 hts gX8_takesPin_X8_within rfl rfl rfl hdX8_within ⟨Nat.le_of_ble_eq_true rfl, Nat.le_of_ble_eq_true rfl⟩) hK hP hD hDm hS hA (fun _ _ _ _ _ => trivial) (fun _ _ _ => trivial) rfl hl.1 rfl (Nat.le_of_ble_eq_true rfl) dX8_takesPin_5 ⟨Nat.zero_le _, Nat.zero_le _⟩ (fun H locs hP hD hS => ?_)
  refine lv_if_eq (tgt := 34) hx hb dX8_takesPin_8 (by decide) (fun c3 => ?_) (fun c3 => ?_)
  · replace h := it c3 h
    exact hj34 _ _ _ _ _ hP hD hS (lv_sub hl [0, 1] rfl) h
  · replace h := ie c3 h
    refine lv_aload_n hx hb dX8_takesPin_11 rfl (lv_at hl 0 rfl) ?_
    refine va_get (D := (dC, dI)) (ci := 9) (v := .int (M.1 14)) (C := RX8) (T := TX8) (N := 29) hx hb hts hinX8 hown hK hP 22 rfl rfl 14 (by decide) (hts (.fieldLink RX8 145 "CableTesterModel" "step" "I") (mm 1 rfl)) (fun _ h9 => h9) rfl dX8_takesPin_12 ?_
    refine lv_iconst (v := (1 : Int32)) hx hb dX8_takesPin_15 (by decide) ?_
    refine lv_icmp_eq (tgt := 30) hx hb dX8_takesPin_16 (by decide) (fun c12 => ?_) (fun c12 => ?_)
    · replace h := it c12 h
      exact hj30 _ _ _ _ _ hP hD hS (lv_sub hl [0, 1] rfl) h
    · replace h := ie c12 h
      refine lv_iload_n hx hb dX8_takesPin_19 rfl (lv_at hl 1 rfl) ?_
      refine lv_bipush (v := (48 : Int32)) hx hb dX8_takesPin_20 (by decide) ?_
      refine lv_isub hx hb dX8_takesPin_22 ?_
      refine lv_aload_n hx hb dX8_takesPin_23 rfl (lv_at hl 0 rfl) ?_
      refine va_get (D := (dC, dI)) (ci := 9) (v := .int (M.1 16)) (C := RX8) (T := TX8) (N := 29) hx hb hts hinX8 hown hK hP 22 rfl rfl 16 (by decide) (hts (.fieldLink RX8 148 "CableTesterModel" "one" "I") (mm 2 rfl)) (fun _ h9 => h9) rfl dX8_takesPin_24 ?_
      refine lv_icmp_eq (tgt := 34) hx hb dX8_takesPin_27 (by decide) (fun c13 => ?_) (fun c13 => ?_)
      · replace h := it c13 h
        exact hj34 _ _ _ _ _ hP hD hS (lv_sub hl [0, 1] rfl) h
      · replace h := ie c13 h
        exact hj30 _ _ _ _ _ hP hD hS (lv_sub hl [0, 1] rfl) h
def mX8_limit (M : MS)  : Option (Int32) :=
  (if (M.1 14) = (4 : Int32) then (some (998 : Int32)) else (if (M.1 14) = (5 : Int32) then (some (32 : Int32)) else (some (M.1 20))))
abbrev rmX8_limit : Room := { frames := 0, cells := 0, slots := 0, locals := 0 }
theorem hdX8_limit : yX8_limit.cls = RX8 ∧ yX8_limit.cls ≠ "java/lang/invoke/MethodHandle" ∧ yX8_limit.cls ≠ "java/lang/invoke/VarHandle" ∧ (parseMethodDescriptor yX8_limit.desc).map (fun d => d.parameters.length) = some 0 := by decide +kernel
set_option maxRecDepth 100000 in
set_option maxHeartbeats 8000000 in
theorem ctX8_limit (l : Launch) (dC : Nat → ClassId) (dI : Nat → Nat → Nat) (cq : Nat → ClassId) (q : Nat → Nat) (S : CS) (M : MS) (o : Nat → Int64) (sz : Nat)  (rr : Int32) (h : mX8_limit M = some rr) : CtR_i l yX8_limit wsX8_limit rmX8_limit (fun _ => True) (fun _ => True) dC dI cq q S M o sz [.ref (q 22)] rr := by
  refine enR_i (cc := cX8_limit) (maxL := 1) (by decide) rfl (Nat.le_of_ble_eq_true rfl) (fun p e s m args below meth c A Q ls F hA hP hK hD hDm hX hS hl hend => ?_)
  obtain ⟨hx, hb, hml, hown, hts⟩ := id F
  have hown : s.vm.findClass RX8 = some m.cls := hown
  have F : CallFix p m c cX8_limit 1 s args wsX8_limit RX8 := F
  have hl : lv_has ls 1 [(0, .ref (q 22))] := hl
  have hinX8 : ∀ w ∈ u_ws RX8 TX8 29, w ∈ wsX8_limit := fun w h => List.mem_cons_of_mem _ (List.mem_append_right _ h)
  rw [mX8_limit] at h
  refine lv_aload_n hx hb dX8_limit_0 rfl (lv_at hl 0 rfl) ?_
  refine va_get (D := (dC, dI)) (ci := 9) (v := .int (M.1 14)) (C := RX8) (T := TX8) (N := 29) hx hb hts hinX8 hown hK hP 22 rfl rfl 14 (by decide) (hts (.fieldLink RX8 145 "CableTesterModel" "step" "I") (mm 1 rfl)) (fun _ h9 => h9) rfl dX8_limit_1 ?_
  refine lv_iconst (v := (4 : Int32)) hx hb dX8_limit_4 (by decide) ?_
  refine lv_icmp_ne (tgt := 14) hx hb dX8_limit_5 (by decide) (fun c1 => ?_) (fun c1 => ?_)
  · replace h := ie c1 h
    refine lv_aload_n hx hb dX8_limit_14 rfl (lv_at hl 0 rfl) ?_
    refine va_get (D := (dC, dI)) (ci := 9) (v := .int (M.1 14)) (C := RX8) (T := TX8) (N := 29) hx hb hts hinX8 hown hK hP 22 rfl rfl 14 (by decide) (hts (.fieldLink RX8 145 "CableTesterModel" "step" "I") (mm 1 rfl)) (fun _ h9 => h9) rfl dX8_limit_15 ?_
    refine lv_iconst (v := (5 : Int32)) hx hb dX8_limit_18 (by decide) ?_
    refine lv_icmp_ne (tgt := 27) hx hb dX8_limit_19 (by decide) (fun c2 => ?_) (fun c2 => ?_)
    · replace h := ie c2 h
      refine lv_aload_n hx hb dX8_limit_27 rfl (lv_at hl 0 rfl) ?_
      refine va_get (D := (dC, dI)) (ci := 9) (v := .int (M.1 20)) (C := RX8) (T := TX8) (N := 29) hx hb hts hinX8 hown hK hP 22 rfl rfl 20 (by decide) (hts (.fieldLink RX8 139 "CableTesterModel" "period" "I") (mm 2 rfl)) (fun _ h9 => h9) rfl dX8_limit_28 ?_
      exact hend _ _ _ _ _ h hP hD hS dX8_limit_31
    · replace h := it c2 h
      refine lv_bipush (v := (32 : Int32)) hx hb dX8_limit_22 (by decide) ?_
      refine lv_goto (tgt := 31) hx hb dX8_limit_24 (by decide) ?_
      exact hend _ _ _ _ _ h hP hD hS dX8_limit_31
  · replace h := it c1 h
    refine lv_sipush (v := (998 : Int32)) hx hb dX8_limit_8 (by decide) ?_
    refine lv_goto (tgt := 31) hx hb dX8_limit_11 (by decide) ?_
    exact hend _ _ _ _ _ h hP hD hS dX8_limit_31
def mX8_takesDigit_55  (M : MS) (x3 : Int32) (t0 : Int32) : Option (Int32 × MS) :=
  (if bz x3 then (some (x3, (sG M 18 t0))) else none)
def mX8_takesDigit_41  (M : MS) (x2 : Int32) (t0 : Int32) : Option (Int32 × MS) :=
  (if t0 = (0 : Int32) then (mX8_takesDigit_55 M t0 (M.1 18)) else (mX8_takesDigit_55 M t0 x2))
def mX8_takesDigit_40  (M : MS) (x2 : Int32)  : Option (Int32 × MS) :=
  (mX8_takesDigit_41 M x2 (0 : Int32))
def mX8_takesDigit (M : MS) (x1 : Int32) : Option (Int32 × MS) :=
  (bn (mX8_within x1 (48 : Int32) (57 : Int32)) fun r1 => (if r1 = (0 : Int32) then (mX8_takesDigit_40 M ((((10 : Int32) * (M.1 18)) + x1) - (48 : Int32))) else (bn (mX8_limit M) fun r6 => (bn (mX8_within ((((10 : Int32) * (M.1 18)) + x1) - (48 : Int32)) (1 : Int32) r6) fun r8 => (if r8 = (0 : Int32) then (mX8_takesDigit_40 M ((((10 : Int32) * (M.1 18)) + x1) - (48 : Int32))) else (mX8_takesDigit_41 M ((((10 : Int32) * (M.1 18)) + x1) - (48 : Int32)) (1 : Int32)))))))
abbrev rmX8_takesDigit : Room := { frames := 1, cells := 0, slots := 0, locals := 22 }
theorem hdX8_takesDigit : yX8_takesDigit.cls = RX8 ∧ yX8_takesDigit.cls ≠ "java/lang/invoke/MethodHandle" ∧ yX8_takesDigit.cls ≠ "java/lang/invoke/VarHandle" ∧ (parseMethodDescriptor yX8_takesDigit.desc).map (fun d => d.parameters.length) = some 1 := by decide +kernel
set_option maxRecDepth 100000 in
set_option maxHeartbeats 8000000 in
theorem ctX8_takesDigit (l : Launch) (dC : Nat → ClassId) (dI : Nat → Nat → Nat) (cq : Nat → ClassId) (q : Nat → Nat) (S : CS) (M : MS) (o : Nat → Int64) (sz : Nat) (x1 : Int32) (rr : Int32) (MM : MS) (h : mX8_takesDigit M x1 = some (rr, MM)) : CtM_i l yX8_takesDigit wsX8_takesDigit rmX8_takesDigit (fun _ => True) (fun _ => True) dC dI cq q S M o sz [.ref (q 22), .int x1] rr MM := by
  refine enM_z (cc := cX8_takesDigit) (maxL := 4) (by decide) rfl (Nat.le_of_ble_eq_true rfl) (fun p e s m args below meth c A Q ls F hA hP hK hD hDm hX hS hl hend => ?_)
  obtain ⟨hx, hb, hml, hown, hts⟩ := id F
  have hown : s.vm.findClass RX8 = some m.cls := hown
  have F : CallFix p m c cX8_takesDigit 4 s args wsX8_takesDigit RX8 := F
  have hl : lv_has ls 4 [(0, .ref (q 22)), (1, .int x1)] := hl
  have hinX8 : ∀ w ∈ u_ws RX8 TX8 29, w ∈ wsX8_takesDigit := fun w h => List.mem_cons_of_mem _ (List.mem_append_right _ h)
  have hj55 : ∀ (M : MS) (x3 : Int32) (t0 : Int32)  (H : Heap) (locs : List Loc) (ls : Array Slot), va_P (dC, dI) vwCl (wA cq q S M o) H → va_D A (wA cq q S M o) → va_S A s.heap H locs → lv_has ls 4 [(3, .int x3)] → mX8_takesDigit_55 M x3 t0 = some (rr, MM) → W p l e rmX8_takesDigit s m args below meth c H locs 0 0 Q (F0 m 55 ls [.int t0, .ref (q 22)]) := by
    intro M x3 t0 H locs ls hP hD hS hl h
    rw [mX8_takesDigit_55] at h
    refine pt_22_18 F hinX8 (hts (.fieldLink RX8 142 "CableTesterModel" "number" "I") (mm 1 rfl)) hK hP hD hS dX8_takesDigit_55 (fun H locs hP hD hS => ?_)
    refine lv_iload_n hx hb dX8_takesDigit_58 rfl (lv_at hl 0 rfl) ?_
    obtain ⟨g5, h⟩ := gd h
    exact hend _ _ _ _ _ _ h hP hD hS dX8_takesDigit_59 (bz_ok g5)
  have hj41 : ∀ (M : MS) (x2 : Int32) (t0 : Int32)  (H : Heap) (locs : List Loc) (ls : Array Slot), va_P (dC, dI) vwCl (wA cq q S M o) H → va_D A (wA cq q S M o) → va_S A s.heap H locs → lv_has ls 4 [(0, .ref (q 22)), (2, .int x2)] → mX8_takesDigit_41 M x2 t0 = some (rr, MM) → W p l e rmX8_takesDigit s m args below meth c H locs 0 0 Q (F0 m 41 ls [.int t0]) := by
    intro M x2 t0 H locs ls hP hD hS hl h
    rw [mX8_takesDigit_41] at h
    refine lv_istore_n (lv' := [(3, .int t0), (0, .ref (q 22)), (2, .int x2)]) hx hb dX8_takesDigit_41 rfl hl (by decide) rfl (fun ls hl => ?_)
    refine lv_aload_n hx hb dX8_takesDigit_42 rfl (lv_at hl 1 rfl) ?_
    refine lv_iload_n hx hb dX8_takesDigit_43 rfl (lv_at hl 0 rfl) ?_
    refine lv_if_eq (tgt := 51) hx hb dX8_takesDigit_44 (by decide) (fun c4 => ?_) (fun c4 => ?_)
    · replace h := it c4 h
      refine lv_aload_n hx hb dX8_takesDigit_51 rfl (lv_at hl 1 rfl) ?_
      refine va_get (D := (dC, dI)) (ci := 9) (v := .int (M.1 18)) (C := RX8) (T := TX8) (N := 29) hx hb hts hinX8 hown hK hP 22 rfl rfl 18 (by decide) (hts (.fieldLink RX8 142 "CableTesterModel" "number" "I") (mm 1 rfl)) (fun _ h9 => h9) rfl dX8_takesDigit_52 ?_
      exact hj55 _ _ _ _ _ _ hP hD hS (lv_sub hl [0] rfl) h
    · replace h := ie c4 h
      refine lv_iload_n hx hb dX8_takesDigit_47 rfl (lv_at hl 2 rfl) ?_
      refine lv_goto (tgt := 55) hx hb dX8_takesDigit_48 (by decide) ?_
      exact hj55 _ _ _ _ _ _ hP hD hS (lv_sub hl [0] rfl) h
  have hj40 : ∀ (M : MS) (x2 : Int32)   (H : Heap) (locs : List Loc) (ls : Array Slot), va_P (dC, dI) vwCl (wA cq q S M o) H → va_D A (wA cq q S M o) → va_S A s.heap H locs → lv_has ls 4 [(0, .ref (q 22)), (2, .int x2)] → mX8_takesDigit_40 M x2 = some (rr, MM) → W p l e rmX8_takesDigit s m args below meth c H locs 0 0 Q (F0 m 40 ls []) := by
    intro M x2 H locs ls hP hD hS hl h
    rw [mX8_takesDigit_40] at h
    refine lv_iconst (v := (0 : Int32)) hx hb dX8_takesDigit_40 (by decide) ?_
    exact hj41 _ _ _ _ _ _ hP hD hS (lv_sub hl [0, 1] rfl) h
  rw [mX8_takesDigit] at h
  refine lv_bipush (v := (10 : Int32)) hx hb dX8_takesDigit_0 (by decide) ?_
  refine lv_aload_n hx hb dX8_takesDigit_2 rfl (lv_at hl 0 rfl) ?_
  refine va_get (D := (dC, dI)) (ci := 9) (v := .int (M.1 18)) (C := RX8) (T := TX8) (N := 29) hx hb hts hinX8 hown hK hP 22 rfl rfl 18 (by decide) (hts (.fieldLink RX8 142 "CableTesterModel" "number" "I") (mm 1 rfl)) (fun _ h9 => h9) rfl dX8_takesDigit_3 ?_
  refine lv_imul hx hb dX8_takesDigit_6 ?_
  refine lv_iload_n hx hb dX8_takesDigit_7 rfl (lv_at hl 1 rfl) ?_
  refine lv_iadd hx hb dX8_takesDigit_8 ?_
  refine lv_bipush (v := (48 : Int32)) hx hb dX8_takesDigit_9 (by decide) ?_
  refine lv_isub hx hb dX8_takesDigit_11 ?_
  refine lv_istore_n (lv' := [(2, .int ((((10 : Int32) * (M.1 18)) + x1) - (48 : Int32))), (0, .ref (q 22)), (1, .int x1)]) hx hb dX8_takesDigit_12 rfl hl (by decide) rfl (fun ls hl => ?_)
  refine lv_iload_n hx hb dX8_takesDigit_13 rfl (lv_at hl 2 rfl) ?_
  refine lv_bipush (v := (48 : Int32)) hx hb dX8_takesDigit_14 (by decide) ?_
  refine lv_bipush (v := (57 : Int32)) hx hb dX8_takesDigit_16 (by decide) ?_
  obtain ⟨r1, e2, h⟩ := bo h
  refine caSR_i (As := [.int x1, .int (48 : Int32), .int (57 : Int32)]) (rest := []) (ctX8_within l dC dI cq q S M o _ _ _ _ _ e2) F (va_cwS 3 hts gX8_takesDigit_X8_within rfl rfl rfl hdX8_within ⟨Nat.le_of_ble_eq_true rfl, Nat.le_of_ble_eq_true rfl⟩) hK hP hD hDm hS hA (fun _ _ _ _ _ => trivial) (fun _ _ _ => trivial) rfl hl.1 rfl (Nat.le_of_ble_eq_true rfl) dX8_takesDigit_18 ⟨Nat.zero_le _, Nat.zero_le _⟩ (fun H locs hP hD hS => ?_)
  refine lv_if_eq (tgt := 40) hx hb dX8_takesDigit_21 (by decide) (fun c3 => ?_) (fun c3 => ?_)
  · replace h := it c3 h
    exact hj40 _ _ _ _ _ hP hD hS (lv_sub hl [1, 0] rfl) h
  · replace h := ie c3 h
    refine lv_iload_n hx hb dX8_takesDigit_24 rfl (lv_at hl 0 rfl) ?_
    refine lv_iconst (v := (1 : Int32)) hx hb dX8_takesDigit_25 (by decide) ?_
    refine lv_aload_n hx hb dX8_takesDigit_26 rfl (lv_at hl 1 rfl) ?_
    obtain ⟨r6, e7, h⟩ := bo h
    refine caVR_i (As := []) (rest := [.int (1 : Int32), .int ((((10 : Int32) * (M.1 18)) + x1) - (48 : Int32))]) (ctX8_limit l dC dI cq q S M o _ _ e7) F (cwV 0 hts gX8_takesDigit_X8_limit rfl rfl rfl hdX8_limit ⟨Nat.le_of_ble_eq_true rfl, Nat.le_of_ble_eq_true rfl⟩) hK hP hD hDm hS hA (fun _ _ _ _ _ => trivial) (fun _ _ _ => trivial) (va_recv hK hP (ci := 9) (q0 := 22) rfl rfl) rfl hl.1 rfl (Nat.le_of_ble_eq_true rfl) dX8_takesDigit_27 ⟨Nat.zero_le _, Nat.zero_le _⟩ (fun H locs hP hD hS => ?_)
    obtain ⟨r8, e9, h⟩ := bo h
    refine caSR_i (As := [.int ((((10 : Int32) * (M.1 18)) + x1) - (48 : Int32)), .int (1 : Int32), .int r6]) (rest := []) (ctX8_within l dC dI cq q S M o _ _ _ _ _ e9) F (va_cwS 3 hts gX8_takesDigit_X8_within rfl rfl rfl hdX8_within ⟨Nat.le_of_ble_eq_true rfl, Nat.le_of_ble_eq_true rfl⟩) hK hP hD hDm hS hA (fun _ _ _ _ _ => trivial) (fun _ _ _ => trivial) rfl hl.1 rfl (Nat.le_of_ble_eq_true rfl) dX8_takesDigit_30 ⟨Nat.zero_le _, Nat.zero_le _⟩ (fun H locs hP hD hS => ?_)
    refine lv_if_eq (tgt := 40) hx hb dX8_takesDigit_33 (by decide) (fun c10 => ?_) (fun c10 => ?_)
    · replace h := it c10 h
      exact hj40 _ _ _ _ _ hP hD hS (lv_sub hl [1, 0] rfl) h
    · replace h := ie c10 h
      refine lv_iconst (v := (1 : Int32)) hx hb dX8_takesDigit_36 (by decide) ?_
      refine lv_goto (tgt := 41) hx hb dX8_takesDigit_37 (by decide) ?_
      exact hj41 _ _ _ _ _ _ hP hD hS (lv_sub hl [1, 0] rfl) h
def mX8_canEnd_33  (M : MS)   : Option (Int32) :=
  (some (1 : Int32))
def mX8_canEnd_26  (M : MS)   : Option (Int32) :=
  (if (M.1 18) ≤ (0 : Int32) then (some (0 : Int32)) else (mX8_canEnd_33 M))
def mX8_canEnd (M : MS)  : Option (Int32) :=
  (if (M.1 14) = (7 : Int32) then (mX8_canEnd_33 M) else (if (M.1 14) = (4 : Int32) then (mX8_canEnd_26 M) else (if (M.1 14) = (6 : Int32) then (mX8_canEnd_26 M) else (some (0 : Int32)))))
abbrev rmX8_canEnd : Room := { frames := 0, cells := 0, slots := 0, locals := 0 }
theorem hdX8_canEnd : yX8_canEnd.cls = RX8 ∧ yX8_canEnd.cls ≠ "java/lang/invoke/MethodHandle" ∧ yX8_canEnd.cls ≠ "java/lang/invoke/VarHandle" ∧ (parseMethodDescriptor yX8_canEnd.desc).map (fun d => d.parameters.length) = some 0 := by decide +kernel
set_option maxRecDepth 100000 in
set_option maxHeartbeats 8000000 in
theorem ctX8_canEnd (l : Launch) (dC : Nat → ClassId) (dI : Nat → Nat → Nat) (cq : Nat → ClassId) (q : Nat → Nat) (S : CS) (M : MS) (o : Nat → Int64) (sz : Nat)  (rr : Int32) (h : mX8_canEnd M = some rr) : CtR_i l yX8_canEnd wsX8_canEnd rmX8_canEnd (fun _ => True) (fun _ => True) dC dI cq q S M o sz [.ref (q 22)] rr := by
  refine enR_z (cc := cX8_canEnd) (maxL := 1) (by decide) rfl (Nat.le_of_ble_eq_true rfl) (fun p e s m args below meth c A Q ls F hA hP hK hD hDm hX hS hl hend => ?_)
  obtain ⟨hx, hb, hml, hown, hts⟩ := id F
  have hown : s.vm.findClass RX8 = some m.cls := hown
  have F : CallFix p m c cX8_canEnd 1 s args wsX8_canEnd RX8 := F
  have hl : lv_has ls 1 [(0, .ref (q 22))] := hl
  have hinX8 : ∀ w ∈ u_ws RX8 TX8 29, w ∈ wsX8_canEnd := fun w h => List.mem_cons_of_mem _ (List.mem_append_right _ h)
  have hj33 : ∀     (H : Heap) (locs : List Loc) (ls : Array Slot), va_P (dC, dI) vwCl (wA cq q S M o) H → va_D A (wA cq q S M o) → va_S A s.heap H locs → lv_has ls 1 [] → mX8_canEnd_33 M = some rr → W p l e rmX8_canEnd s m args below meth c H locs 0 0 Q (F0 m 33 ls []) := by
    intro  H locs ls hP hD hS hl h
    rw [mX8_canEnd_33] at h
    refine lv_iconst (v := (1 : Int32)) hx hb dX8_canEnd_33 (by decide) ?_
    refine lv_goto (tgt := 38) hx hb dX8_canEnd_34 (by decide) ?_
    exact hend _ _ _ _ _ h hP hD hS dX8_canEnd_38 (by decide)
  have hj26 : ∀     (H : Heap) (locs : List Loc) (ls : Array Slot), va_P (dC, dI) vwCl (wA cq q S M o) H → va_D A (wA cq q S M o) → va_S A s.heap H locs → lv_has ls 1 [(0, .ref (q 22))] → mX8_canEnd_26 M = some rr → W p l e rmX8_canEnd s m args below meth c H locs 0 0 Q (F0 m 26 ls []) := by
    intro  H locs ls hP hD hS hl h
    rw [mX8_canEnd_26] at h
    refine lv_aload_n hx hb dX8_canEnd_26 rfl (lv_at hl 0 rfl) ?_
    refine va_get (D := (dC, dI)) (ci := 9) (v := .int (M.1 18)) (C := RX8) (T := TX8) (N := 29) hx hb hts hinX8 hown hK hP 22 rfl rfl 18 (by decide) (hts (.fieldLink RX8 142 "CableTesterModel" "number" "I") (mm 2 rfl)) (fun _ h9 => h9) rfl dX8_canEnd_27 ?_
    refine lv_if_le (tgt := 37) hx hb dX8_canEnd_30 (by decide) (fun c3 => ?_) (fun c3 => ?_)
    · replace h := it c3 h
      refine lv_iconst (v := (0 : Int32)) hx hb dX8_canEnd_37 (by decide) ?_
      exact hend _ _ _ _ _ h hP hD hS dX8_canEnd_38 (by decide)
    · replace h := ie c3 h
      exact hj33 _ _ _ hP hD hS (lv_sub hl [] rfl) h
  rw [mX8_canEnd] at h
  refine lv_aload_n hx hb dX8_canEnd_0 rfl (lv_at hl 0 rfl) ?_
  refine va_get (D := (dC, dI)) (ci := 9) (v := .int (M.1 14)) (C := RX8) (T := TX8) (N := 29) hx hb hts hinX8 hown hK hP 22 rfl rfl 14 (by decide) (hts (.fieldLink RX8 145 "CableTesterModel" "step" "I") (mm 1 rfl)) (fun _ h9 => h9) rfl dX8_canEnd_1 ?_
  refine lv_bipush (v := (7 : Int32)) hx hb dX8_canEnd_4 (by decide) ?_
  refine lv_icmp_eq (tgt := 33) hx hb dX8_canEnd_6 (by decide) (fun c1 => ?_) (fun c1 => ?_)
  · replace h := it c1 h
    exact hj33 _ _ _ hP hD hS (lv_sub hl [] rfl) h
  · replace h := ie c1 h
    refine lv_aload_n hx hb dX8_canEnd_9 rfl (lv_at hl 0 rfl) ?_
    refine va_get (D := (dC, dI)) (ci := 9) (v := .int (M.1 14)) (C := RX8) (T := TX8) (N := 29) hx hb hts hinX8 hown hK hP 22 rfl rfl 14 (by decide) (hts (.fieldLink RX8 145 "CableTesterModel" "step" "I") (mm 1 rfl)) (fun _ h9 => h9) rfl dX8_canEnd_10 ?_
    refine lv_iconst (v := (4 : Int32)) hx hb dX8_canEnd_13 (by decide) ?_
    refine lv_icmp_eq (tgt := 26) hx hb dX8_canEnd_14 (by decide) (fun c2 => ?_) (fun c2 => ?_)
    · replace h := it c2 h
      exact hj26 _ _ _ hP hD hS (lv_sub hl [0] rfl) h
    · replace h := ie c2 h
      refine lv_aload_n hx hb dX8_canEnd_17 rfl (lv_at hl 0 rfl) ?_
      refine va_get (D := (dC, dI)) (ci := 9) (v := .int (M.1 14)) (C := RX8) (T := TX8) (N := 29) hx hb hts hinX8 hown hK hP 22 rfl rfl 14 (by decide) (hts (.fieldLink RX8 145 "CableTesterModel" "step" "I") (mm 1 rfl)) (fun _ h9 => h9) rfl dX8_canEnd_18 ?_
      refine lv_bipush (v := (6 : Int32)) hx hb dX8_canEnd_21 (by decide) ?_
      refine lv_icmp_ne (tgt := 37) hx hb dX8_canEnd_23 (by decide) (fun c4 => ?_) (fun c4 => ?_)
      · replace h := ie c4 h
        refine lv_iconst (v := (0 : Int32)) hx hb dX8_canEnd_37 (by decide) ?_
        exact hend _ _ _ _ _ h hP hD hS dX8_canEnd_38 (by decide)
      · replace h := it c4 h
        exact hj26 _ _ _ hP hD hS (lv_sub hl [0] rfl) h
def mX8_endItem_118  (M : MS)  (t0 : Int32) (t1 : Int32) : Option (MS) :=
  (if inb t1 150 then (some (sG (sG (sB M 29 t1.toNatClampNeg t0) 21 (((sB M 29 t1.toNatClampNeg t0).1 21) + (1 : Int32))) 14 (0 : Int32))) else none)
def mX8_endItem_93  (M : MS) (x1 : Int32) (t0 : Int32) (t1 : Int32) : Option (MS) :=
  (if inb t1 150 then (if ((sB M 29 t1.toNatClampNeg t0).1 14) = (6 : Int32) then (mX8_endItem_118 (sB M 29 t1.toNatClampNeg t0) ((sB M 29 t1.toNatClampNeg t0).1 18) (x1 + (5 : Int32))) else (mX8_endItem_118 (sB M 29 t1.toNatClampNeg t0) (1 : Int32) (x1 + (5 : Int32)))) else none)
def mX8_endItem_68  (M : MS) (x1 : Int32) (t0 : Int32) (t1 : Int32) : Option (MS) :=
  (if inb t1 150 then (if ((sB M 29 t1.toNatClampNeg t0).1 14) = (6 : Int32) then (mX8_endItem_93 (sB M 29 t1.toNatClampNeg t0) x1 ((sB M 29 t1.toNatClampNeg t0).1 20) (x1 + (4 : Int32))) else (mX8_endItem_93 (sB M 29 t1.toNatClampNeg t0) x1 (1 : Int32) (x1 + (4 : Int32)))) else none)
def mX8_endItem (M : MS)  : Option (MS) :=
  (if inb ((6 : Int32) * (M.1 21)) 150 then (if inb (((6 : Int32) * (M.1 21)) + (1 : Int32)) 150 then (if inb (((6 : Int32) * (M.1 21)) + (2 : Int32)) 150 then (if ((sB (sB (sB M 29 ((6 : Int32) * (M.1 21)).toNatClampNeg (M.1 15)) 29 (((6 : Int32) * (M.1 21)) + (1 : Int32)).toNatClampNeg ((sB M 29 ((6 : Int32) * (M.1 21)).toNatClampNeg (M.1 15)).1 16)) 29 (((6 : Int32) * (M.1 21)) + (2 : Int32)).toNatClampNeg ((sB (sB M 29 ((6 : Int32) * (M.1 21)).toNatClampNeg (M.1 15)) 29 (((6 : Int32) * (M.1 21)) + (1 : Int32)).toNatClampNeg ((sB M 29 ((6 : Int32) * (M.1 21)).toNatClampNeg (M.1 15)).1 16)).1 17)).1 14) = (4 : Int32) then (mX8_endItem_68 (sB (sB (sB M 29 ((6 : Int32) * (M.1 21)).toNatClampNeg (M.1 15)) 29 (((6 : Int32) * (M.1 21)) + (1 : Int32)).toNatClampNeg ((sB M 29 ((6 : Int32) * (M.1 21)).toNatClampNeg (M.1 15)).1 16)) 29 (((6 : Int32) * (M.1 21)) + (2 : Int32)).toNatClampNeg ((sB (sB M 29 ((6 : Int32) * (M.1 21)).toNatClampNeg (M.1 15)) 29 (((6 : Int32) * (M.1 21)) + (1 : Int32)).toNatClampNeg ((sB M 29 ((6 : Int32) * (M.1 21)).toNatClampNeg (M.1 15)).1 16)).1 17)) ((6 : Int32) * (M.1 21)) ((sB (sB (sB M 29 ((6 : Int32) * (M.1 21)).toNatClampNeg (M.1 15)) 29 (((6 : Int32) * (M.1 21)) + (1 : Int32)).toNatClampNeg ((sB M 29 ((6 : Int32) * (M.1 21)).toNatClampNeg (M.1 15)).1 16)) 29 (((6 : Int32) * (M.1 21)) + (2 : Int32)).toNatClampNeg ((sB (sB M 29 ((6 : Int32) * (M.1 21)).toNatClampNeg (M.1 15)) 29 (((6 : Int32) * (M.1 21)) + (1 : Int32)).toNatClampNeg ((sB M 29 ((6 : Int32) * (M.1 21)).toNatClampNeg (M.1 15)).1 16)).1 17)).1 18) (((6 : Int32) * (M.1 21)) + (3 : Int32))) else (mX8_endItem_68 (sB (sB (sB M 29 ((6 : Int32) * (M.1 21)).toNatClampNeg (M.1 15)) 29 (((6 : Int32) * (M.1 21)) + (1 : Int32)).toNatClampNeg ((sB M 29 ((6 : Int32) * (M.1 21)).toNatClampNeg (M.1 15)).1 16)) 29 (((6 : Int32) * (M.1 21)) + (2 : Int32)).toNatClampNeg ((sB (sB M 29 ((6 : Int32) * (M.1 21)).toNatClampNeg (M.1 15)) 29 (((6 : Int32) * (M.1 21)) + (1 : Int32)).toNatClampNeg ((sB M 29 ((6 : Int32) * (M.1 21)).toNatClampNeg (M.1 15)).1 16)).1 17)) ((6 : Int32) * (M.1 21)) ((sB (sB (sB M 29 ((6 : Int32) * (M.1 21)).toNatClampNeg (M.1 15)) 29 (((6 : Int32) * (M.1 21)) + (1 : Int32)).toNatClampNeg ((sB M 29 ((6 : Int32) * (M.1 21)).toNatClampNeg (M.1 15)).1 16)) 29 (((6 : Int32) * (M.1 21)) + (2 : Int32)).toNatClampNeg ((sB (sB M 29 ((6 : Int32) * (M.1 21)).toNatClampNeg (M.1 15)) 29 (((6 : Int32) * (M.1 21)) + (1 : Int32)).toNatClampNeg ((sB M 29 ((6 : Int32) * (M.1 21)).toNatClampNeg (M.1 15)).1 16)).1 17)).1 19) (((6 : Int32) * (M.1 21)) + (3 : Int32)))) else none) else none) else none)
abbrev rmX8_endItem : Room := { frames := 0, cells := 0, slots := 0, locals := 0 }
theorem hdX8_endItem : yX8_endItem.cls = RX8 ∧ yX8_endItem.cls ≠ "java/lang/invoke/MethodHandle" ∧ yX8_endItem.cls ≠ "java/lang/invoke/VarHandle" ∧ (parseMethodDescriptor yX8_endItem.desc).map (fun d => d.parameters.length) = some 0 := by decide +kernel
set_option maxRecDepth 100000 in
set_option maxHeartbeats 8000000 in
theorem ctX8_endItem (l : Launch) (dC : Nat → ClassId) (dI : Nat → Nat → Nat) (cq : Nat → ClassId) (q : Nat → Nat) (S : CS) (M : MS) (o : Nat → Int64) (sz : Nat)  (MM : MS) (h : mX8_endItem M = some MM) : CtM_v l yX8_endItem wsX8_endItem rmX8_endItem (fun _ => True) (fun _ => True) dC dI cq q S M o sz [.ref (q 22)] MM := by
  refine enM_v (cc := cX8_endItem) (maxL := 2) (by decide) rfl (Nat.le_of_ble_eq_true rfl) (fun p e s m args below meth c A Q ls F hA hP hK hD hDm hX hS hl hend => ?_)
  obtain ⟨hx, hb, hml, hown, hts⟩ := id F
  have hown : s.vm.findClass RX8 = some m.cls := hown
  have F : CallFix p m c cX8_endItem 2 s args wsX8_endItem RX8 := F
  have hl : lv_has ls 2 [(0, .ref (q 22))] := hl
  have hinX8 : ∀ w ∈ u_ws RX8 TX8 29, w ∈ wsX8_endItem := fun w h => List.mem_cons_of_mem _ (List.mem_append_right _ h)
  have hj118 : ∀ (M : MS)  (t0 : Int32) (t1 : Int32)  (H : Heap) (locs : List Loc) (ls : Array Slot), va_P (dC, dI) vwCl (wA cq q S M o) H → va_D A (wA cq q S M o) → va_S A s.heap H locs → lv_has ls 2 [(0, .ref (q 22))] → mX8_endItem_118 M t0 t1 = some MM → W p l e rmX8_endItem s m args below meth c H locs 0 0 Q (F0 m 118 ls [.int t0, .int t1, .ref (q 29)]) := by
    intro M t0 t1 H locs ls hP hD hS hl h
    rw [mX8_endItem_118] at h
    obtain ⟨g9, h⟩ := gd h
    refine as_29 F hK hP hD hS (inb_ok g9) dX8_endItem_118 (fun H locs hP hD hS => ?_)
    refine lv_aload_n hx hb dX8_endItem_119 rfl (lv_at hl 0 rfl) ?_
    refine lv_dup hx hb dX8_endItem_120 rfl ?_
    refine va_get (D := (dC, dI)) (ci := 9) (v := .int ((sB M 29 t1.toNatClampNeg t0).1 21)) (C := RX8) (T := TX8) (N := 29) hx hb hts hinX8 hown hK hP 22 rfl rfl 21 (by decide) (hts (.fieldLink RX8 155 "CableTesterModel" "items" "I") (mm 1 rfl)) (fun _ h9 => h9) rfl dX8_endItem_121 ?_
    refine lv_iconst (v := (1 : Int32)) hx hb dX8_endItem_124 (by decide) ?_
    refine lv_iadd hx hb dX8_endItem_125 ?_
    refine pt_22_21 F hinX8 (hts (.fieldLink RX8 155 "CableTesterModel" "items" "I") (mm 1 rfl)) hK hP hD hS dX8_endItem_126 (fun H locs hP hD hS => ?_)
    refine lv_aload_n hx hb dX8_endItem_129 rfl (lv_at hl 0 rfl) ?_
    refine lv_iconst (v := (0 : Int32)) hx hb dX8_endItem_130 (by decide) ?_
    refine pt_22_14 F hinX8 (hts (.fieldLink RX8 145 "CableTesterModel" "step" "I") (mm 6 rfl)) hK hP hD hS dX8_endItem_131 (fun H locs hP hD hS => ?_)
    exact hend _ _ _ _ _ h hP hD hS dX8_endItem_134
  have hj93 : ∀ (M : MS) (x1 : Int32) (t0 : Int32) (t1 : Int32)  (H : Heap) (locs : List Loc) (ls : Array Slot), va_P (dC, dI) vwCl (wA cq q S M o) H → va_D A (wA cq q S M o) → va_S A s.heap H locs → lv_has ls 2 [(0, .ref (q 22)), (1, .int x1)] → mX8_endItem_93 M x1 t0 t1 = some MM → W p l e rmX8_endItem s m args below meth c H locs 0 0 Q (F0 m 93 ls [.int t0, .int t1, .ref (q 29)]) := by
    intro M x1 t0 t1 H locs ls hP hD hS hl h
    rw [mX8_endItem_93] at h
    obtain ⟨g7, h⟩ := gd h
    refine as_29 F hK hP hD hS (inb_ok g7) dX8_endItem_93 (fun H locs hP hD hS => ?_)
    refine lv_aload_n hx hb dX8_endItem_94 rfl (lv_at hl 0 rfl) ?_
    refine va_get (D := (dC, dI)) (ci := 9) (v := .ref (q 29)) (C := RX8) (T := TX8) (N := 29) hx hb hts hinX8 hown hK hP 22 rfl rfl 22 (by decide) (hts (.fieldLink RX8 28 "CableTesterModel" "read" "[I") (mm 2 rfl)) (fun _ h9 => h9) rfl dX8_endItem_95 ?_
    refine lv_iload_n hx hb dX8_endItem_98 rfl (lv_at hl 1 rfl) ?_
    refine lv_iconst (v := (5 : Int32)) hx hb dX8_endItem_99 (by decide) ?_
    refine lv_iadd hx hb dX8_endItem_100 ?_
    refine lv_aload_n hx hb dX8_endItem_101 rfl (lv_at hl 0 rfl) ?_
    refine va_get (D := (dC, dI)) (ci := 9) (v := .int ((sB M 29 t1.toNatClampNeg t0).1 14)) (C := RX8) (T := TX8) (N := 29) hx hb hts hinX8 hown hK hP 22 rfl rfl 14 (by decide) (hts (.fieldLink RX8 145 "CableTesterModel" "step" "I") (mm 6 rfl)) (fun _ h9 => h9) rfl dX8_endItem_102 ?_
    refine lv_bipush (v := (6 : Int32)) hx hb dX8_endItem_105 (by decide) ?_
    refine lv_icmp_ne (tgt := 117) hx hb dX8_endItem_107 (by decide) (fun c8 => ?_) (fun c8 => ?_)
    · replace h := ie c8 h
      refine lv_iconst (v := (1 : Int32)) hx hb dX8_endItem_117 (by decide) ?_
      exact hj118 _ _ _ _ _ _ hP hD hS (lv_sub hl [0] rfl) h
    · replace h := it c8 h
      refine lv_aload_n hx hb dX8_endItem_110 rfl (lv_at hl 0 rfl) ?_
      refine va_get (D := (dC, dI)) (ci := 9) (v := .int ((sB M 29 t1.toNatClampNeg t0).1 18)) (C := RX8) (T := TX8) (N := 29) hx hb hts hinX8 hown hK hP 22 rfl rfl 18 (by decide) (hts (.fieldLink RX8 142 "CableTesterModel" "number" "I") (mm 7 rfl)) (fun _ h9 => h9) rfl dX8_endItem_111 ?_
      refine lv_goto (tgt := 118) hx hb dX8_endItem_114 (by decide) ?_
      exact hj118 _ _ _ _ _ _ hP hD hS (lv_sub hl [0] rfl) h
  have hj68 : ∀ (M : MS) (x1 : Int32) (t0 : Int32) (t1 : Int32)  (H : Heap) (locs : List Loc) (ls : Array Slot), va_P (dC, dI) vwCl (wA cq q S M o) H → va_D A (wA cq q S M o) → va_S A s.heap H locs → lv_has ls 2 [(0, .ref (q 22)), (1, .int x1)] → mX8_endItem_68 M x1 t0 t1 = some MM → W p l e rmX8_endItem s m args below meth c H locs 0 0 Q (F0 m 68 ls [.int t0, .int t1, .ref (q 29)]) := by
    intro M x1 t0 t1 H locs ls hP hD hS hl h
    rw [mX8_endItem_68] at h
    obtain ⟨g5, h⟩ := gd h
    refine as_29 F hK hP hD hS (inb_ok g5) dX8_endItem_68 (fun H locs hP hD hS => ?_)
    refine lv_aload_n hx hb dX8_endItem_69 rfl (lv_at hl 0 rfl) ?_
    refine va_get (D := (dC, dI)) (ci := 9) (v := .ref (q 29)) (C := RX8) (T := TX8) (N := 29) hx hb hts hinX8 hown hK hP 22 rfl rfl 22 (by decide) (hts (.fieldLink RX8 28 "CableTesterModel" "read" "[I") (mm 2 rfl)) (fun _ h9 => h9) rfl dX8_endItem_70 ?_
    refine lv_iload_n hx hb dX8_endItem_73 rfl (lv_at hl 1 rfl) ?_
    refine lv_iconst (v := (4 : Int32)) hx hb dX8_endItem_74 (by decide) ?_
    refine lv_iadd hx hb dX8_endItem_75 ?_
    refine lv_aload_n hx hb dX8_endItem_76 rfl (lv_at hl 0 rfl) ?_
    refine va_get (D := (dC, dI)) (ci := 9) (v := .int ((sB M 29 t1.toNatClampNeg t0).1 14)) (C := RX8) (T := TX8) (N := 29) hx hb hts hinX8 hown hK hP 22 rfl rfl 14 (by decide) (hts (.fieldLink RX8 145 "CableTesterModel" "step" "I") (mm 6 rfl)) (fun _ h9 => h9) rfl dX8_endItem_77 ?_
    refine lv_bipush (v := (6 : Int32)) hx hb dX8_endItem_80 (by decide) ?_
    refine lv_icmp_ne (tgt := 92) hx hb dX8_endItem_82 (by decide) (fun c6 => ?_) (fun c6 => ?_)
    · replace h := ie c6 h
      refine lv_iconst (v := (1 : Int32)) hx hb dX8_endItem_92 (by decide) ?_
      exact hj93 _ _ _ _ _ _ _ hP hD hS (lv_sub hl [0, 1] rfl) h
    · replace h := it c6 h
      refine lv_aload_n hx hb dX8_endItem_85 rfl (lv_at hl 0 rfl) ?_
      refine va_get (D := (dC, dI)) (ci := 9) (v := .int ((sB M 29 t1.toNatClampNeg t0).1 20)) (C := RX8) (T := TX8) (N := 29) hx hb hts hinX8 hown hK hP 22 rfl rfl 20 (by decide) (hts (.fieldLink RX8 139 "CableTesterModel" "period" "I") (mm 9 rfl)) (fun _ h9 => h9) rfl dX8_endItem_86 ?_
      refine lv_goto (tgt := 93) hx hb dX8_endItem_89 (by decide) ?_
      exact hj93 _ _ _ _ _ _ _ hP hD hS (lv_sub hl [0, 1] rfl) h
  rw [mX8_endItem] at h
  refine lv_bipush (v := (6 : Int32)) hx hb dX8_endItem_0 (by decide) ?_
  refine lv_aload_n hx hb dX8_endItem_2 rfl (lv_at hl 0 rfl) ?_
  refine va_get (D := (dC, dI)) (ci := 9) (v := .int (M.1 21)) (C := RX8) (T := TX8) (N := 29) hx hb hts hinX8 hown hK hP 22 rfl rfl 21 (by decide) (hts (.fieldLink RX8 155 "CableTesterModel" "items" "I") (mm 1 rfl)) (fun _ h9 => h9) rfl dX8_endItem_3 ?_
  refine lv_imul hx hb dX8_endItem_6 ?_
  refine lv_istore_n (lv' := [(1, .int ((6 : Int32) * (M.1 21))), (0, .ref (q 22))]) hx hb dX8_endItem_7 rfl hl (by decide) rfl (fun ls hl => ?_)
  refine lv_aload_n hx hb dX8_endItem_8 rfl (lv_at hl 1 rfl) ?_
  refine va_get (D := (dC, dI)) (ci := 9) (v := .ref (q 29)) (C := RX8) (T := TX8) (N := 29) hx hb hts hinX8 hown hK hP 22 rfl rfl 22 (by decide) (hts (.fieldLink RX8 28 "CableTesterModel" "read" "[I") (mm 2 rfl)) (fun _ h9 => h9) rfl dX8_endItem_9 ?_
  refine lv_iload_n hx hb dX8_endItem_12 rfl (lv_at hl 0 rfl) ?_
  refine lv_aload_n hx hb dX8_endItem_13 rfl (lv_at hl 1 rfl) ?_
  refine va_get (D := (dC, dI)) (ci := 9) (v := .int (M.1 15)) (C := RX8) (T := TX8) (N := 29) hx hb hts hinX8 hown hK hP 22 rfl rfl 15 (by decide) (hts (.fieldLink RX8 130 "CableTesterModel" "sign" "I") (mm 3 rfl)) (fun _ h9 => h9) rfl dX8_endItem_14 ?_
  obtain ⟨g1, h⟩ := gd h
  refine as_29 F hK hP hD hS (inb_ok g1) dX8_endItem_17 (fun H locs hP hD hS => ?_)
  refine lv_aload_n hx hb dX8_endItem_18 rfl (lv_at hl 1 rfl) ?_
  refine va_get (D := (dC, dI)) (ci := 9) (v := .ref (q 29)) (C := RX8) (T := TX8) (N := 29) hx hb hts hinX8 hown hK hP 22 rfl rfl 22 (by decide) (hts (.fieldLink RX8 28 "CableTesterModel" "read" "[I") (mm 2 rfl)) (fun _ h9 => h9) rfl dX8_endItem_19 ?_
  refine lv_iload_n hx hb dX8_endItem_22 rfl (lv_at hl 0 rfl) ?_
  refine lv_iconst (v := (1 : Int32)) hx hb dX8_endItem_23 (by decide) ?_
  refine lv_iadd hx hb dX8_endItem_24 ?_
  refine lv_aload_n hx hb dX8_endItem_25 rfl (lv_at hl 1 rfl) ?_
  refine va_get (D := (dC, dI)) (ci := 9) (v := .int ((sB M 29 ((6 : Int32) * (M.1 21)).toNatClampNeg (M.1 15)).1 16)) (C := RX8) (T := TX8) (N := 29) hx hb hts hinX8 hown hK hP 22 rfl rfl 16 (by decide) (hts (.fieldLink RX8 148 "CableTesterModel" "one" "I") (mm 4 rfl)) (fun _ h9 => h9) rfl dX8_endItem_26 ?_
  obtain ⟨g2, h⟩ := gd h
  refine as_29 F hK hP hD hS (inb_ok g2) dX8_endItem_29 (fun H locs hP hD hS => ?_)
  refine lv_aload_n hx hb dX8_endItem_30 rfl (lv_at hl 1 rfl) ?_
  refine va_get (D := (dC, dI)) (ci := 9) (v := .ref (q 29)) (C := RX8) (T := TX8) (N := 29) hx hb hts hinX8 hown hK hP 22 rfl rfl 22 (by decide) (hts (.fieldLink RX8 28 "CableTesterModel" "read" "[I") (mm 2 rfl)) (fun _ h9 => h9) rfl dX8_endItem_31 ?_
  refine lv_iload_n hx hb dX8_endItem_34 rfl (lv_at hl 0 rfl) ?_
  refine lv_iconst (v := (2 : Int32)) hx hb dX8_endItem_35 (by decide) ?_
  refine lv_iadd hx hb dX8_endItem_36 ?_
  refine lv_aload_n hx hb dX8_endItem_37 rfl (lv_at hl 1 rfl) ?_
  refine va_get (D := (dC, dI)) (ci := 9) (v := .int ((sB (sB M 29 ((6 : Int32) * (M.1 21)).toNatClampNeg (M.1 15)) 29 (((6 : Int32) * (M.1 21)) + (1 : Int32)).toNatClampNeg ((sB M 29 ((6 : Int32) * (M.1 21)).toNatClampNeg (M.1 15)).1 16)).1 17)) (C := RX8) (T := TX8) (N := 29) hx hb hts hinX8 hown hK hP 22 rfl rfl 17 (by decide) (hts (.fieldLink RX8 133 "CableTesterModel" "other" "I") (mm 5 rfl)) (fun _ h9 => h9) rfl dX8_endItem_38 ?_
  obtain ⟨g3, h⟩ := gd h
  refine as_29 F hK hP hD hS (inb_ok g3) dX8_endItem_41 (fun H locs hP hD hS => ?_)
  refine lv_aload_n hx hb dX8_endItem_42 rfl (lv_at hl 1 rfl) ?_
  refine va_get (D := (dC, dI)) (ci := 9) (v := .ref (q 29)) (C := RX8) (T := TX8) (N := 29) hx hb hts hinX8 hown hK hP 22 rfl rfl 22 (by decide) (hts (.fieldLink RX8 28 "CableTesterModel" "read" "[I") (mm 2 rfl)) (fun _ h9 => h9) rfl dX8_endItem_43 ?_
  refine lv_iload_n hx hb dX8_endItem_46 rfl (lv_at hl 0 rfl) ?_
  refine lv_iconst (v := (3 : Int32)) hx hb dX8_endItem_47 (by decide) ?_
  refine lv_iadd hx hb dX8_endItem_48 ?_
  refine lv_aload_n hx hb dX8_endItem_49 rfl (lv_at hl 1 rfl) ?_
  refine va_get (D := (dC, dI)) (ci := 9) (v := .int ((sB (sB (sB M 29 ((6 : Int32) * (M.1 21)).toNatClampNeg (M.1 15)) 29 (((6 : Int32) * (M.1 21)) + (1 : Int32)).toNatClampNeg ((sB M 29 ((6 : Int32) * (M.1 21)).toNatClampNeg (M.1 15)).1 16)) 29 (((6 : Int32) * (M.1 21)) + (2 : Int32)).toNatClampNeg ((sB (sB M 29 ((6 : Int32) * (M.1 21)).toNatClampNeg (M.1 15)) 29 (((6 : Int32) * (M.1 21)) + (1 : Int32)).toNatClampNeg ((sB M 29 ((6 : Int32) * (M.1 21)).toNatClampNeg (M.1 15)).1 16)).1 17)).1 14)) (C := RX8) (T := TX8) (N := 29) hx hb hts hinX8 hown hK hP 22 rfl rfl 14 (by decide) (hts (.fieldLink RX8 145 "CableTesterModel" "step" "I") (mm 6 rfl)) (fun _ h9 => h9) rfl dX8_endItem_50 ?_
  refine lv_iconst (v := (4 : Int32)) hx hb dX8_endItem_53 (by decide) ?_
  refine lv_icmp_ne (tgt := 64) hx hb dX8_endItem_54 (by decide) (fun c4 => ?_) (fun c4 => ?_)
  · replace h := ie c4 h
    refine lv_aload_n hx hb dX8_endItem_64 rfl (lv_at hl 1 rfl) ?_
    refine va_get (D := (dC, dI)) (ci := 9) (v := .int ((sB (sB (sB M 29 ((6 : Int32) * (M.1 21)).toNatClampNeg (M.1 15)) 29 (((6 : Int32) * (M.1 21)) + (1 : Int32)).toNatClampNeg ((sB M 29 ((6 : Int32) * (M.1 21)).toNatClampNeg (M.1 15)).1 16)) 29 (((6 : Int32) * (M.1 21)) + (2 : Int32)).toNatClampNeg ((sB (sB M 29 ((6 : Int32) * (M.1 21)).toNatClampNeg (M.1 15)) 29 (((6 : Int32) * (M.1 21)) + (1 : Int32)).toNatClampNeg ((sB M 29 ((6 : Int32) * (M.1 21)).toNatClampNeg (M.1 15)).1 16)).1 17)).1 19)) (C := RX8) (T := TX8) (N := 29) hx hb hts hinX8 hown hK hP 22 rfl rfl 19 (by decide) (hts (.fieldLink RX8 136 "CableTesterModel" "place" "I") (mm 8 rfl)) (fun _ h9 => h9) rfl dX8_endItem_65 ?_
    exact hj68 _ _ _ _ _ _ _ hP hD hS (lv_sub hl [1, 0] rfl) h
  · replace h := it c4 h
    refine lv_aload_n hx hb dX8_endItem_57 rfl (lv_at hl 1 rfl) ?_
    refine va_get (D := (dC, dI)) (ci := 9) (v := .int ((sB (sB (sB M 29 ((6 : Int32) * (M.1 21)).toNatClampNeg (M.1 15)) 29 (((6 : Int32) * (M.1 21)) + (1 : Int32)).toNatClampNeg ((sB M 29 ((6 : Int32) * (M.1 21)).toNatClampNeg (M.1 15)).1 16)) 29 (((6 : Int32) * (M.1 21)) + (2 : Int32)).toNatClampNeg ((sB (sB M 29 ((6 : Int32) * (M.1 21)).toNatClampNeg (M.1 15)) 29 (((6 : Int32) * (M.1 21)) + (1 : Int32)).toNatClampNeg ((sB M 29 ((6 : Int32) * (M.1 21)).toNatClampNeg (M.1 15)).1 16)).1 17)).1 18)) (C := RX8) (T := TX8) (N := 29) hx hb hts hinX8 hown hK hP 22 rfl rfl 18 (by decide) (hts (.fieldLink RX8 142 "CableTesterModel" "number" "I") (mm 7 rfl)) (fun _ h9 => h9) rfl dX8_endItem_58 ?_
    refine lv_goto (tgt := 68) hx hb dX8_endItem_61 (by decide) ?_
    exact hj68 _ _ _ _ _ _ _ hP hD hS (lv_sub hl [1, 0] rfl) h
def mX8_goes_29  (M : MS) (x1 : Int32) (t0 : Int32) : Option (Int32 × MS) :=
  (if bz x1 then (some (x1, (sG M 18 t0))) else none)
def mX8_goes_13  (M : MS) (x1 : Int32) (t0 : Int32) : Option (Int32 × MS) :=
  (if x1 = (0 : Int32) then (mX8_goes_29 (sG M 14 t0) x1 ((sG M 14 t0).1 18)) else (mX8_goes_29 (sG M 14 t0) x1 (0 : Int32)))
def mX8_goes (M : MS) (x1 : Int32) (x2 : Int32) : Option (Int32 × MS) :=
  (if x1 = (0 : Int32) then (mX8_goes_13 M x1 (M.1 14)) else (mX8_goes_13 M x1 x2))
abbrev rmX8_goes : Room := { frames := 0, cells := 0, slots := 0, locals := 0 }
theorem hdX8_goes : yX8_goes.cls = RX8 ∧ yX8_goes.cls ≠ "java/lang/invoke/MethodHandle" ∧ yX8_goes.cls ≠ "java/lang/invoke/VarHandle" ∧ (parseMethodDescriptor yX8_goes.desc).map (fun d => d.parameters.length) = some 2 := by decide +kernel
set_option maxRecDepth 100000 in
set_option maxHeartbeats 8000000 in
theorem ctX8_goes (l : Launch) (dC : Nat → ClassId) (dI : Nat → Nat → Nat) (cq : Nat → ClassId) (q : Nat → Nat) (S : CS) (M : MS) (o : Nat → Int64) (sz : Nat) (x1 : Int32) (x2 : Int32) (rr : Int32) (MM : MS) (h : mX8_goes M x1 x2 = some (rr, MM)) : CtM_i l yX8_goes wsX8_goes rmX8_goes (fun _ => True) (fun _ => True) dC dI cq q S M o sz [.ref (q 22), .int x1, .int x2] rr MM := by
  refine enM_z (cc := cX8_goes) (maxL := 3) (by decide) rfl (Nat.le_of_ble_eq_true rfl) (fun p e s m args below meth c A Q ls F hA hP hK hD hDm hX hS hl hend => ?_)
  obtain ⟨hx, hb, hml, hown, hts⟩ := id F
  have hown : s.vm.findClass RX8 = some m.cls := hown
  have F : CallFix p m c cX8_goes 3 s args wsX8_goes RX8 := F
  have hl : lv_has ls 3 [(0, .ref (q 22)), (1, .int x1), (2, .int x2)] := hl
  have hinX8 : ∀ w ∈ u_ws RX8 TX8 29, w ∈ wsX8_goes := fun w h => List.mem_cons_of_mem _ (List.mem_append_right _ h)
  have hj29 : ∀ (M : MS) (x1 : Int32) (t0 : Int32)  (H : Heap) (locs : List Loc) (ls : Array Slot), va_P (dC, dI) vwCl (wA cq q S M o) H → va_D A (wA cq q S M o) → va_S A s.heap H locs → lv_has ls 3 [(1, .int x1)] → mX8_goes_29 M x1 t0 = some (rr, MM) → W p l e rmX8_goes s m args below meth c H locs 0 0 Q (F0 m 29 ls [.int t0, .ref (q 22)]) := by
    intro M x1 t0 H locs ls hP hD hS hl h
    rw [mX8_goes_29] at h
    refine pt_22_18 F hinX8 (hts (.fieldLink RX8 142 "CableTesterModel" "number" "I") (mm 2 rfl)) hK hP hD hS dX8_goes_29 (fun H locs hP hD hS => ?_)
    refine lv_iload_n hx hb dX8_goes_32 rfl (lv_at hl 0 rfl) ?_
    obtain ⟨g3, h⟩ := gd h
    exact hend _ _ _ _ _ _ h hP hD hS dX8_goes_33 (bz_ok g3)
  have hj13 : ∀ (M : MS) (x1 : Int32) (t0 : Int32)  (H : Heap) (locs : List Loc) (ls : Array Slot), va_P (dC, dI) vwCl (wA cq q S M o) H → va_D A (wA cq q S M o) → va_S A s.heap H locs → lv_has ls 3 [(0, .ref (q 22)), (1, .int x1)] → mX8_goes_13 M x1 t0 = some (rr, MM) → W p l e rmX8_goes s m args below meth c H locs 0 0 Q (F0 m 13 ls [.int t0, .ref (q 22)]) := by
    intro M x1 t0 H locs ls hP hD hS hl h
    rw [mX8_goes_13] at h
    refine pt_22_14 F hinX8 (hts (.fieldLink RX8 145 "CableTesterModel" "step" "I") (mm 1 rfl)) hK hP hD hS dX8_goes_13 (fun H locs hP hD hS => ?_)
    refine lv_aload_n hx hb dX8_goes_16 rfl (lv_at hl 0 rfl) ?_
    refine lv_iload_n hx hb dX8_goes_17 rfl (lv_at hl 1 rfl) ?_
    refine lv_if_eq (tgt := 25) hx hb dX8_goes_18 (by decide) (fun c2 => ?_) (fun c2 => ?_)
    · replace h := it c2 h
      refine lv_aload_n hx hb dX8_goes_25 rfl (lv_at hl 0 rfl) ?_
      refine va_get (D := (dC, dI)) (ci := 9) (v := .int ((sG M 14 t0).1 18)) (C := RX8) (T := TX8) (N := 29) hx hb hts hinX8 hown hK hP 22 rfl rfl 18 (by decide) (hts (.fieldLink RX8 142 "CableTesterModel" "number" "I") (mm 2 rfl)) (fun _ h9 => h9) rfl dX8_goes_26 ?_
      exact hj29 _ _ _ _ _ _ hP hD hS (lv_sub hl [1] rfl) h
    · replace h := ie c2 h
      refine lv_iconst (v := (0 : Int32)) hx hb dX8_goes_21 (by decide) ?_
      refine lv_goto (tgt := 29) hx hb dX8_goes_22 (by decide) ?_
      exact hj29 _ _ _ _ _ _ hP hD hS (lv_sub hl [1] rfl) h
  rw [mX8_goes] at h
  refine lv_aload_n hx hb dX8_goes_0 rfl (lv_at hl 0 rfl) ?_
  refine lv_iload_n hx hb dX8_goes_1 rfl (lv_at hl 1 rfl) ?_
  refine lv_if_eq (tgt := 9) hx hb dX8_goes_2 (by decide) (fun c1 => ?_) (fun c1 => ?_)
  · replace h := it c1 h
    refine lv_aload_n hx hb dX8_goes_9 rfl (lv_at hl 0 rfl) ?_
    refine va_get (D := (dC, dI)) (ci := 9) (v := .int (M.1 14)) (C := RX8) (T := TX8) (N := 29) hx hb hts hinX8 hown hK hP 22 rfl rfl 14 (by decide) (hts (.fieldLink RX8 145 "CableTesterModel" "step" "I") (mm 1 rfl)) (fun _ h9 => h9) rfl dX8_goes_10 ?_
    exact hj13 _ _ _ _ _ _ hP hD hS (lv_sub hl [0, 1] rfl) h
  · replace h := ie c1 h
    refine lv_iload_n hx hb dX8_goes_5 rfl (lv_at hl 2 rfl) ?_
    refine lv_goto (tgt := 13) hx hb dX8_goes_6 (by decide) ?_
    exact hj13 _ _ _ _ _ _ hP hD hS (lv_sub hl [0, 1] rfl) h
def mX8_takes_70  (M : MS) (x1 : Int32)  : Option (Int32 × MS) :=
  (bm (mX8_takesPin M x1) fun r8 M10 => (if bz r8 then (some (r8, M10)) else none))
def mX8_takes_88  (M : MS)  (t0 : Int32) : Option (Int32 × MS) :=
  (bm (mX8_goes M t0 (4 : Int32)) fun r15 M17 => (if bz r15 then (some (r15, M17)) else none))
def mX8_takes_135  (M : MS)   : Option (Int32 × MS) :=
  (some ((1 : Int32), M))
def mX8_takes_120  (M : MS) (x1 : Int32) (t0 : Int32) : Option (Int32 × MS) :=
  (bm (mX8_goes M t0 (5 : Int32)) fun r21 M23 => (if r21 = (0 : Int32) then (bm (mX8_takesDigit M23 x1) fun r25 M27 => (if r25 = (0 : Int32) then (some ((0 : Int32), M27)) else (mX8_takes_135 M27))) else (mX8_takes_135 M23)))
def mX8_takes_119  (M : MS) (x1 : Int32)  : Option (Int32 × MS) :=
  (mX8_takes_120 M x1 (0 : Int32))
def mX8_takes_184  (M : MS)   : Option (Int32 × MS) :=
  (some ((1 : Int32), M))
def mX8_takes_168  (M : MS) (x1 : Int32) (t0 : Int32) : Option (Int32 × MS) :=
  (bm (mX8_goes M t0 (6 : Int32)) fun r32 M34 => (if r32 = (0 : Int32) then (bm (mX8_takesDigit M34 x1) fun r36 M38 => (if r36 = (0 : Int32) then (some ((0 : Int32), M38)) else (mX8_takes_184 M38))) else (mX8_takes_184 M34)))
def mX8_takes_167  (M : MS) (x1 : Int32)  : Option (Int32 × MS) :=
  (mX8_takes_168 M x1 (0 : Int32))
def mX8_takes_19  (M : MS) (x1 : Int32)  : Option (Int32 × MS) :=
  (if (M.1 14) = (0 : Int32) then (bm (mX8_takesSign M x1) fun r3 M5 => (if bz r3 then (some (r3, M5)) else none)) else (if (M.1 14) = (1 : Int32) then (mX8_takes_70 M x1) else (if (M.1 14) = (2 : Int32) then (mX8_takes_70 M x1) else (if (M.1 14) = (3 : Int32) then (if x1 = (64 : Int32) then (mX8_takes_88 M (1 : Int32)) else (mX8_takes_88 M (0 : Int32))) else (if (M.1 14) = (4 : Int32) then (if x1 = (47 : Int32) then (if ((sG M 19 (M.1 18)).1 18) ≤ (0 : Int32) then (mX8_takes_119 (sG M 19 (M.1 18)) x1) else (mX8_takes_120 (sG M 19 (M.1 18)) x1 (1 : Int32))) else (mX8_takes_119 (sG M 19 (M.1 18)) x1)) else (if (M.1 14) = (5 : Int32) then (if x1 = (58 : Int32) then (if ((sG M 20 (M.1 18)).1 18) ≤ (0 : Int32) then (mX8_takes_167 (sG M 20 (M.1 18)) x1) else (mX8_takes_168 (sG M 20 (M.1 18)) x1 (1 : Int32))) else (mX8_takes_167 (sG M 20 (M.1 18)) x1)) else (if (M.1 14) = (6 : Int32) then (bm (mX8_takesDigit M x1) fun r42 M44 => (if bz r42 then (some (r42, M44)) else none)) else (some ((0 : Int32), M)))))))))
def mX8_takes (M : MS) (x1 : Int32) : Option (Int32 × MS) :=
  (if x1 = (59 : Int32) then (bn (mX8_canEnd M) fun r46 => (if r46 = (0 : Int32) then (mX8_takes_19 M x1) else (bn (mX8_endItem M) fun M51 => (some ((1 : Int32), M51))))) else (mX8_takes_19 M x1))
abbrev rmX8_takes : Room := { frames := 2, cells := 0, slots := 0, locals := 45 }
theorem hdX8_takes : yX8_takes.cls = RX8 ∧ yX8_takes.cls ≠ "java/lang/invoke/MethodHandle" ∧ yX8_takes.cls ≠ "java/lang/invoke/VarHandle" ∧ (parseMethodDescriptor yX8_takes.desc).map (fun d => d.parameters.length) = some 1 := by decide +kernel
set_option maxRecDepth 100000 in
set_option maxHeartbeats 8000000 in
theorem ctX8_takes (l : Launch) (dC : Nat → ClassId) (dI : Nat → Nat → Nat) (cq : Nat → ClassId) (q : Nat → Nat) (S : CS) (M : MS) (o : Nat → Int64) (sz : Nat) (x1 : Int32) (rr : Int32) (MM : MS) (h : mX8_takes M x1 = some (rr, MM)) : CtM_i l yX8_takes wsX8_takes rmX8_takes (fun _ => True) (fun _ => True) dC dI cq q S M o sz [.ref (q 22), .int x1] rr MM := by
  refine enM_z (cc := cX8_takes) (maxL := 2) (by decide) rfl (Nat.le_of_ble_eq_true rfl) (fun p e s m args below meth c A Q ls F hA hP hK hD hDm hX hS hl hend => ?_)
  obtain ⟨hx, hb, hml, hown, hts⟩ := id F
  have hown : s.vm.findClass RX8 = some m.cls := hown
  have F : CallFix p m c cX8_takes 2 s args wsX8_takes RX8 := F
  have hl : lv_has ls 2 [(0, .ref (q 22)), (1, .int x1)] := hl
  have hinX8 : ∀ w ∈ u_ws RX8 TX8 29, w ∈ wsX8_takes := fun w h => List.mem_cons_of_mem _ (List.mem_append_right _ h)
  have hj70 : ∀ (M : MS) (x1 : Int32)   (H : Heap) (locs : List Loc) (ls : Array Slot), va_P (dC, dI) vwCl (wA cq q S M o) H → va_D A (wA cq q S M o) → va_S A s.heap H locs → lv_has ls 2 [(0, .ref (q 22)), (1, .int x1)] → mX8_takes_70 M x1 = some (rr, MM) → W p l e rmX8_takes s m args below meth c H locs 0 0 Q (F0 m 70 ls []) := by
    intro M x1 H locs ls hP hD hS hl h
    rw [mX8_takes_70] at h
    refine lv_aload_n hx hb dX8_takes_70 rfl (lv_at hl 0 rfl) ?_
    refine lv_iload_n hx hb dX8_takes_71 rfl (lv_at hl 1 rfl) ?_
    obtain ⟨r8, M10, e9, h⟩ := bp h
    refine caVM_i (As := [.int x1]) (rest := []) (ctX8_takesPin l dC dI cq q S M o _ _ _ _ e9) F (cwV 1 hts gX8_takes_X8_takesPin rfl rfl rfl hdX8_takesPin ⟨Nat.le_of_ble_eq_true rfl, Nat.le_of_ble_eq_true rfl⟩) hK hP hD hDm hS hA (fun _ _ _ _ _ => trivial) (fun _ _ _ => trivial) (va_recv hK hP (ci := 9) (q0 := 22) rfl rfl) rfl hl.1 rfl (Nat.le_of_ble_eq_true rfl) dX8_takes_72 ⟨Nat.zero_le _, Nat.zero_le _⟩ (fun H locs hP hD hS => ?_)
    obtain ⟨g11, h⟩ := gd h
    exact hend _ _ _ _ _ _ h hP hD hS dX8_takes_75 (bz_ok g11)
  have hj88 : ∀ (M : MS)  (t0 : Int32)  (H : Heap) (locs : List Loc) (ls : Array Slot), va_P (dC, dI) vwCl (wA cq q S M o) H → va_D A (wA cq q S M o) → va_S A s.heap H locs → lv_has ls 2 [] → mX8_takes_88 M t0 = some (rr, MM) → W p l e rmX8_takes s m args below meth c H locs 0 0 Q (F0 m 88 ls [.int t0, .ref (q 22)]) := by
    intro M t0 H locs ls hP hD hS hl h
    rw [mX8_takes_88] at h
    refine lv_iconst (v := (4 : Int32)) hx hb dX8_takes_88 (by decide) ?_
    obtain ⟨r15, M17, e16, h⟩ := bp h
    refine caVM_i (As := [.int t0, .int (4 : Int32)]) (rest := []) (ctX8_goes l dC dI cq q S M o _ _ _ _ _ e16) F (cwV 2 hts gX8_takes_X8_goes rfl rfl rfl hdX8_goes ⟨Nat.le_of_ble_eq_true rfl, Nat.le_of_ble_eq_true rfl⟩) hK hP hD hDm hS hA (fun _ _ _ _ _ => trivial) (fun _ _ _ => trivial) (va_recv hK hP (ci := 9) (q0 := 22) rfl rfl) rfl hl.1 rfl (Nat.le_of_ble_eq_true rfl) dX8_takes_89 ⟨Nat.zero_le _, Nat.zero_le _⟩ (fun H locs hP hD hS => ?_)
    obtain ⟨g18, h⟩ := gd h
    exact hend _ _ _ _ _ _ h hP hD hS dX8_takes_92 (bz_ok g18)
  have hj135 : ∀ (M : MS)    (H : Heap) (locs : List Loc) (ls : Array Slot), va_P (dC, dI) vwCl (wA cq q S M o) H → va_D A (wA cq q S M o) → va_S A s.heap H locs → lv_has ls 2 [] → mX8_takes_135 M = some (rr, MM) → W p l e rmX8_takes s m args below meth c H locs 0 0 Q (F0 m 135 ls []) := by
    intro M H locs ls hP hD hS hl h
    rw [mX8_takes_135] at h
    refine lv_iconst (v := (1 : Int32)) hx hb dX8_takes_135 (by decide) ?_
    refine lv_goto (tgt := 140) hx hb dX8_takes_136 (by decide) ?_
    exact hend _ _ _ _ _ _ h hP hD hS dX8_takes_140 (by decide)
  have hj120 : ∀ (M : MS) (x1 : Int32) (t0 : Int32)  (H : Heap) (locs : List Loc) (ls : Array Slot), va_P (dC, dI) vwCl (wA cq q S M o) H → va_D A (wA cq q S M o) → va_S A s.heap H locs → lv_has ls 2 [(0, .ref (q 22)), (1, .int x1)] → mX8_takes_120 M x1 t0 = some (rr, MM) → W p l e rmX8_takes s m args below meth c H locs 0 0 Q (F0 m 120 ls [.int t0, .ref (q 22)]) := by
    intro M x1 t0 H locs ls hP hD hS hl h
    rw [mX8_takes_120] at h
    refine lv_iconst (v := (5 : Int32)) hx hb dX8_takes_120 (by decide) ?_
    obtain ⟨r21, M23, e22, h⟩ := bp h
    refine caVM_i (As := [.int t0, .int (5 : Int32)]) (rest := []) (ctX8_goes l dC dI cq q S M o _ _ _ _ _ e22) F (cwV 2 hts gX8_takes_X8_goes rfl rfl rfl hdX8_goes ⟨Nat.le_of_ble_eq_true rfl, Nat.le_of_ble_eq_true rfl⟩) hK hP hD hDm hS hA (fun _ _ _ _ _ => trivial) (fun _ _ _ => trivial) (va_recv hK hP (ci := 9) (q0 := 22) rfl rfl) rfl hl.1 rfl (Nat.le_of_ble_eq_true rfl) dX8_takes_121 ⟨Nat.zero_le _, Nat.zero_le _⟩ (fun H locs hP hD hS => ?_)
    refine lv_if_ne (tgt := 135) hx hb dX8_takes_124 (by decide) (fun c24 => ?_) (fun c24 => ?_)
    · replace h := ie c24 h
      exact hj135 _ _ _ _ hP hD hS (lv_sub hl [] rfl) h
    · replace h := it c24 h
      refine lv_aload_n hx hb dX8_takes_127 rfl (lv_at hl 0 rfl) ?_
      refine lv_iload_n hx hb dX8_takes_128 rfl (lv_at hl 1 rfl) ?_
      obtain ⟨r25, M27, e26, h⟩ := bp h
      refine caVM_i (As := [.int x1]) (rest := []) (ctX8_takesDigit l dC dI cq q S M23 o _ _ _ _ e26) F (cwV 1 hts gX8_takes_X8_takesDigit rfl rfl rfl hdX8_takesDigit ⟨Nat.le_of_ble_eq_true rfl, Nat.le_of_ble_eq_true rfl⟩) hK hP hD hDm hS hA (fun _ _ _ _ _ => trivial) (fun _ _ _ => trivial) (va_recv hK hP (ci := 9) (q0 := 22) rfl rfl) rfl hl.1 rfl (Nat.le_of_ble_eq_true rfl) dX8_takes_129 ⟨Nat.zero_le _, Nat.zero_le _⟩ (fun H locs hP hD hS => ?_)
      refine lv_if_eq (tgt := 139) hx hb dX8_takes_132 (by decide) (fun c28 => ?_) (fun c28 => ?_)
      · replace h := it c28 h
        refine lv_iconst (v := (0 : Int32)) hx hb dX8_takes_139 (by decide) ?_
        exact hend _ _ _ _ _ _ h hP hD hS dX8_takes_140 (by decide)
      · replace h := ie c28 h
        exact hj135 _ _ _ _ hP hD hS (lv_sub hl [] rfl) h
  have hj119 : ∀ (M : MS) (x1 : Int32)   (H : Heap) (locs : List Loc) (ls : Array Slot), va_P (dC, dI) vwCl (wA cq q S M o) H → va_D A (wA cq q S M o) → va_S A s.heap H locs → lv_has ls 2 [(0, .ref (q 22)), (1, .int x1)] → mX8_takes_119 M x1 = some (rr, MM) → W p l e rmX8_takes s m args below meth c H locs 0 0 Q (F0 m 119 ls [.ref (q 22)]) := by
    intro M x1 H locs ls hP hD hS hl h
    rw [mX8_takes_119] at h
    refine lv_iconst (v := (0 : Int32)) hx hb dX8_takes_119 (by decide) ?_
    exact hj120 _ _ _ _ _ _ hP hD hS (lv_sub hl [0, 1] rfl) h
  have hj184 : ∀ (M : MS)    (H : Heap) (locs : List Loc) (ls : Array Slot), va_P (dC, dI) vwCl (wA cq q S M o) H → va_D A (wA cq q S M o) → va_S A s.heap H locs → lv_has ls 2 [] → mX8_takes_184 M = some (rr, MM) → W p l e rmX8_takes s m args below meth c H locs 0 0 Q (F0 m 184 ls []) := by
    intro M H locs ls hP hD hS hl h
    rw [mX8_takes_184] at h
    refine lv_iconst (v := (1 : Int32)) hx hb dX8_takes_184 (by decide) ?_
    refine lv_goto (tgt := 189) hx hb dX8_takes_185 (by decide) ?_
    exact hend _ _ _ _ _ _ h hP hD hS dX8_takes_189 (by decide)
  have hj168 : ∀ (M : MS) (x1 : Int32) (t0 : Int32)  (H : Heap) (locs : List Loc) (ls : Array Slot), va_P (dC, dI) vwCl (wA cq q S M o) H → va_D A (wA cq q S M o) → va_S A s.heap H locs → lv_has ls 2 [(0, .ref (q 22)), (1, .int x1)] → mX8_takes_168 M x1 t0 = some (rr, MM) → W p l e rmX8_takes s m args below meth c H locs 0 0 Q (F0 m 168 ls [.int t0, .ref (q 22)]) := by
    intro M x1 t0 H locs ls hP hD hS hl h
    rw [mX8_takes_168] at h
    refine lv_bipush (v := (6 : Int32)) hx hb dX8_takes_168 (by decide) ?_
    obtain ⟨r32, M34, e33, h⟩ := bp h
    refine caVM_i (As := [.int t0, .int (6 : Int32)]) (rest := []) (ctX8_goes l dC dI cq q S M o _ _ _ _ _ e33) F (cwV 2 hts gX8_takes_X8_goes rfl rfl rfl hdX8_goes ⟨Nat.le_of_ble_eq_true rfl, Nat.le_of_ble_eq_true rfl⟩) hK hP hD hDm hS hA (fun _ _ _ _ _ => trivial) (fun _ _ _ => trivial) (va_recv hK hP (ci := 9) (q0 := 22) rfl rfl) rfl hl.1 rfl (Nat.le_of_ble_eq_true rfl) dX8_takes_170 ⟨Nat.zero_le _, Nat.zero_le _⟩ (fun H locs hP hD hS => ?_)
    refine lv_if_ne (tgt := 184) hx hb dX8_takes_173 (by decide) (fun c35 => ?_) (fun c35 => ?_)
    · replace h := ie c35 h
      exact hj184 _ _ _ _ hP hD hS (lv_sub hl [] rfl) h
    · replace h := it c35 h
      refine lv_aload_n hx hb dX8_takes_176 rfl (lv_at hl 0 rfl) ?_
      refine lv_iload_n hx hb dX8_takes_177 rfl (lv_at hl 1 rfl) ?_
      obtain ⟨r36, M38, e37, h⟩ := bp h
      refine caVM_i (As := [.int x1]) (rest := []) (ctX8_takesDigit l dC dI cq q S M34 o _ _ _ _ e37) F (cwV 1 hts gX8_takes_X8_takesDigit rfl rfl rfl hdX8_takesDigit ⟨Nat.le_of_ble_eq_true rfl, Nat.le_of_ble_eq_true rfl⟩) hK hP hD hDm hS hA (fun _ _ _ _ _ => trivial) (fun _ _ _ => trivial) (va_recv hK hP (ci := 9) (q0 := 22) rfl rfl) rfl hl.1 rfl (Nat.le_of_ble_eq_true rfl) dX8_takes_178 ⟨Nat.zero_le _, Nat.zero_le _⟩ (fun H locs hP hD hS => ?_)
      refine lv_if_eq (tgt := 188) hx hb dX8_takes_181 (by decide) (fun c39 => ?_) (fun c39 => ?_)
      · replace h := it c39 h
        refine lv_iconst (v := (0 : Int32)) hx hb dX8_takes_188 (by decide) ?_
        exact hend _ _ _ _ _ _ h hP hD hS dX8_takes_189 (by decide)
      · replace h := ie c39 h
        exact hj184 _ _ _ _ hP hD hS (lv_sub hl [] rfl) h
  have hj167 : ∀ (M : MS) (x1 : Int32)   (H : Heap) (locs : List Loc) (ls : Array Slot), va_P (dC, dI) vwCl (wA cq q S M o) H → va_D A (wA cq q S M o) → va_S A s.heap H locs → lv_has ls 2 [(0, .ref (q 22)), (1, .int x1)] → mX8_takes_167 M x1 = some (rr, MM) → W p l e rmX8_takes s m args below meth c H locs 0 0 Q (F0 m 167 ls [.ref (q 22)]) := by
    intro M x1 H locs ls hP hD hS hl h
    rw [mX8_takes_167] at h
    refine lv_iconst (v := (0 : Int32)) hx hb dX8_takes_167 (by decide) ?_
    exact hj168 _ _ _ _ _ _ hP hD hS (lv_sub hl [0, 1] rfl) h
  have hj19 : ∀ (M : MS) (x1 : Int32)   (H : Heap) (locs : List Loc) (ls : Array Slot), va_P (dC, dI) vwCl (wA cq q S M o) H → va_D A (wA cq q S M o) → va_S A s.heap H locs → lv_has ls 2 [(0, .ref (q 22)), (1, .int x1)] → mX8_takes_19 M x1 = some (rr, MM) → W p l e rmX8_takes s m args below meth c H locs 0 0 Q (F0 m 19 ls []) := by
    intro M x1 H locs ls hP hD hS hl h
    rw [mX8_takes_19] at h
    refine lv_aload_n hx hb dX8_takes_19 rfl (lv_at hl 0 rfl) ?_
    refine va_get (D := (dC, dI)) (ci := 9) (v := .int (M.1 14)) (C := RX8) (T := TX8) (N := 29) hx hb hts hinX8 hown hK hP 22 rfl rfl 14 (by decide) (hts (.fieldLink RX8 145 "CableTesterModel" "step" "I") (mm 1 rfl)) (fun _ h9 => h9) rfl dX8_takes_20 ?_
    by_cases c2 : (M.1 14) = (0 : Int32)
    · replace h := it c2 h
      refine lv_tableIn (tgt := 64) (off := 41) hx hb dX8_takes_23 (by rw [c2]; decide) (by rw [c2]; decide) (by rw [c2]; decide) (by decide) ?_
      refine lv_aload_n hx hb dX8_takes_64 rfl (lv_at hl 0 rfl) ?_
      refine lv_iload_n hx hb dX8_takes_65 rfl (lv_at hl 1 rfl) ?_
      obtain ⟨r3, M5, e4, h⟩ := bp h
      refine caVM_i (As := [.int x1]) (rest := []) (ctX8_takesSign l dC dI cq q S M o _ _ _ _ e4) F (cwV 1 hts gX8_takes_X8_takesSign rfl rfl rfl hdX8_takesSign ⟨Nat.le_of_ble_eq_true rfl, Nat.le_of_ble_eq_true rfl⟩) hK hP hD hDm hS hA (fun _ _ _ _ _ => trivial) (fun _ _ _ => trivial) (va_recv hK hP (ci := 9) (q0 := 22) rfl rfl) rfl hl.1 rfl (Nat.le_of_ble_eq_true rfl) dX8_takes_66 ⟨Nat.zero_le _, Nat.zero_le _⟩ (fun H locs hP hD hS => ?_)
      obtain ⟨g6, h⟩ := gd h
      exact hend _ _ _ _ _ _ h hP hD hS dX8_takes_69 (bz_ok g6)
    replace h := ie c2 h
    by_cases c7 : (M.1 14) = (1 : Int32)
    · replace h := it c7 h
      refine lv_tableIn (tgt := 70) (off := 47) hx hb dX8_takes_23 (by rw [c7]; decide) (by rw [c7]; decide) (by rw [c7]; decide) (by decide) ?_
      exact hj70 _ _ _ _ _ hP hD hS (lv_sub hl [0, 1] rfl) h
    replace h := ie c7 h
    by_cases c12 : (M.1 14) = (2 : Int32)
    · replace h := it c12 h
      refine lv_tableIn (tgt := 70) (off := 47) hx hb dX8_takes_23 (by rw [c12]; decide) (by rw [c12]; decide) (by rw [c12]; decide) (by decide) ?_
      exact hj70 _ _ _ _ _ hP hD hS (lv_sub hl [0, 1] rfl) h
    replace h := ie c12 h
    by_cases c13 : (M.1 14) = (3 : Int32)
    · replace h := it c13 h
      refine lv_tableIn (tgt := 76) (off := 53) hx hb dX8_takes_23 (by rw [c13]; decide) (by rw [c13]; decide) (by rw [c13]; decide) (by decide) ?_
      refine lv_aload_n hx hb dX8_takes_76 rfl (lv_at hl 0 rfl) ?_
      refine lv_iload_n hx hb dX8_takes_77 rfl (lv_at hl 1 rfl) ?_
      refine lv_bipush (v := (64 : Int32)) hx hb dX8_takes_78 (by decide) ?_
      refine lv_icmp_ne (tgt := 87) hx hb dX8_takes_80 (by decide) (fun c14 => ?_) (fun c14 => ?_)
      · replace h := ie c14 h
        refine lv_iconst (v := (0 : Int32)) hx hb dX8_takes_87 (by decide) ?_
        exact hj88 _ _ _ _ _ hP hD hS (lv_sub hl [] rfl) h
      · replace h := it c14 h
        refine lv_iconst (v := (1 : Int32)) hx hb dX8_takes_83 (by decide) ?_
        refine lv_goto (tgt := 88) hx hb dX8_takes_84 (by decide) ?_
        exact hj88 _ _ _ _ _ hP hD hS (lv_sub hl [] rfl) h
    replace h := ie c13 h
    by_cases c19 : (M.1 14) = (4 : Int32)
    · replace h := it c19 h
      refine lv_tableIn (tgt := 93) (off := 70) hx hb dX8_takes_23 (by rw [c19]; decide) (by rw [c19]; decide) (by rw [c19]; decide) (by decide) ?_
      refine lv_aload_n hx hb dX8_takes_93 rfl (lv_at hl 0 rfl) ?_
      refine lv_aload_n hx hb dX8_takes_94 rfl (lv_at hl 0 rfl) ?_
      refine va_get (D := (dC, dI)) (ci := 9) (v := .int (M.1 18)) (C := RX8) (T := TX8) (N := 29) hx hb hts hinX8 hown hK hP 22 rfl rfl 18 (by decide) (hts (.fieldLink RX8 142 "CableTesterModel" "number" "I") (mm 2 rfl)) (fun _ h9 => h9) rfl dX8_takes_95 ?_
      refine pt_22_19 F hinX8 (hts (.fieldLink RX8 136 "CableTesterModel" "place" "I") (mm 3 rfl)) hK hP hD hS dX8_takes_98 (fun H locs hP hD hS => ?_)
      refine lv_aload_n hx hb dX8_takes_101 rfl (lv_at hl 0 rfl) ?_
      refine lv_iload_n hx hb dX8_takes_102 rfl (lv_at hl 1 rfl) ?_
      refine lv_bipush (v := (47 : Int32)) hx hb dX8_takes_103 (by decide) ?_
      refine lv_icmp_ne (tgt := 119) hx hb dX8_takes_105 (by decide) (fun c20 => ?_) (fun c20 => ?_)
      · replace h := ie c20 h
        exact hj119 _ _ _ _ _ hP hD hS (lv_sub hl [0, 1] rfl) h
      · replace h := it c20 h
        refine lv_aload_n hx hb dX8_takes_108 rfl (lv_at hl 0 rfl) ?_
        refine va_get (D := (dC, dI)) (ci := 9) (v := .int ((sG M 19 (M.1 18)).1 18)) (C := RX8) (T := TX8) (N := 29) hx hb hts hinX8 hown hK hP 22 rfl rfl 18 (by decide) (hts (.fieldLink RX8 142 "CableTesterModel" "number" "I") (mm 2 rfl)) (fun _ h9 => h9) rfl dX8_takes_109 ?_
        refine lv_if_le (tgt := 119) hx hb dX8_takes_112 (by decide) (fun c29 => ?_) (fun c29 => ?_)
        · replace h := it c29 h
          exact hj119 _ _ _ _ _ hP hD hS (lv_sub hl [0, 1] rfl) h
        · replace h := ie c29 h
          refine lv_iconst (v := (1 : Int32)) hx hb dX8_takes_115 (by decide) ?_
          refine lv_goto (tgt := 120) hx hb dX8_takes_116 (by decide) ?_
          exact hj120 _ _ _ _ _ _ hP hD hS (lv_sub hl [0, 1] rfl) h
    replace h := ie c19 h
    by_cases c30 : (M.1 14) = (5 : Int32)
    · replace h := it c30 h
      refine lv_tableIn (tgt := 141) (off := 118) hx hb dX8_takes_23 (by rw [c30]; decide) (by rw [c30]; decide) (by rw [c30]; decide) (by decide) ?_
      refine lv_aload_n hx hb dX8_takes_141 rfl (lv_at hl 0 rfl) ?_
      refine lv_aload_n hx hb dX8_takes_142 rfl (lv_at hl 0 rfl) ?_
      refine va_get (D := (dC, dI)) (ci := 9) (v := .int (M.1 18)) (C := RX8) (T := TX8) (N := 29) hx hb hts hinX8 hown hK hP 22 rfl rfl 18 (by decide) (hts (.fieldLink RX8 142 "CableTesterModel" "number" "I") (mm 2 rfl)) (fun _ h9 => h9) rfl dX8_takes_143 ?_
      refine pt_22_20 F hinX8 (hts (.fieldLink RX8 139 "CableTesterModel" "period" "I") (mm 4 rfl)) hK hP hD hS dX8_takes_146 (fun H locs hP hD hS => ?_)
      refine lv_aload_n hx hb dX8_takes_149 rfl (lv_at hl 0 rfl) ?_
      refine lv_iload_n hx hb dX8_takes_150 rfl (lv_at hl 1 rfl) ?_
      refine lv_bipush (v := (58 : Int32)) hx hb dX8_takes_151 (by decide) ?_
      refine lv_icmp_ne (tgt := 167) hx hb dX8_takes_153 (by decide) (fun c31 => ?_) (fun c31 => ?_)
      · replace h := ie c31 h
        exact hj167 _ _ _ _ _ hP hD hS (lv_sub hl [0, 1] rfl) h
      · replace h := it c31 h
        refine lv_aload_n hx hb dX8_takes_156 rfl (lv_at hl 0 rfl) ?_
        refine va_get (D := (dC, dI)) (ci := 9) (v := .int ((sG M 20 (M.1 18)).1 18)) (C := RX8) (T := TX8) (N := 29) hx hb hts hinX8 hown hK hP 22 rfl rfl 18 (by decide) (hts (.fieldLink RX8 142 "CableTesterModel" "number" "I") (mm 2 rfl)) (fun _ h9 => h9) rfl dX8_takes_157 ?_
        refine lv_if_le (tgt := 167) hx hb dX8_takes_160 (by decide) (fun c40 => ?_) (fun c40 => ?_)
        · replace h := it c40 h
          exact hj167 _ _ _ _ _ hP hD hS (lv_sub hl [0, 1] rfl) h
        · replace h := ie c40 h
          refine lv_iconst (v := (1 : Int32)) hx hb dX8_takes_163 (by decide) ?_
          refine lv_goto (tgt := 168) hx hb dX8_takes_164 (by decide) ?_
          exact hj168 _ _ _ _ _ _ hP hD hS (lv_sub hl [0, 1] rfl) h
    replace h := ie c30 h
    by_cases c41 : (M.1 14) = (6 : Int32)
    · replace h := it c41 h
      refine lv_tableIn (tgt := 190) (off := 167) hx hb dX8_takes_23 (by rw [c41]; decide) (by rw [c41]; decide) (by rw [c41]; decide) (by decide) ?_
      refine lv_aload_n hx hb dX8_takes_190 rfl (lv_at hl 0 rfl) ?_
      refine lv_iload_n hx hb dX8_takes_191 rfl (lv_at hl 1 rfl) ?_
      obtain ⟨r42, M44, e43, h⟩ := bp h
      refine caVM_i (As := [.int x1]) (rest := []) (ctX8_takesDigit l dC dI cq q S M o _ _ _ _ e43) F (cwV 1 hts gX8_takes_X8_takesDigit rfl rfl rfl hdX8_takesDigit ⟨Nat.le_of_ble_eq_true rfl, Nat.le_of_ble_eq_true rfl⟩) hK hP hD hDm hS hA (fun _ _ _ _ _ => trivial) (fun _ _ _ => trivial) (va_recv hK hP (ci := 9) (q0 := 22) rfl rfl) rfl hl.1 rfl (Nat.le_of_ble_eq_true rfl) dX8_takes_192 ⟨Nat.zero_le _, Nat.zero_le _⟩ (fun H locs hP hD hS => ?_)
      obtain ⟨g45, h⟩ := gd h
      exact hend _ _ _ _ _ _ h hP hD hS dX8_takes_195 (bz_ok g45)
    replace h := ie c41 h
    refine lv_tableOut (tgt := 196) hx hb dX8_takes_23 (by have z0 := ne_i (n := 0) rfl c2; have z1 := ne_i (n := 1) rfl c7; have z2 := ne_i (n := 2) rfl c12; have z3 := ne_i (n := 3) rfl c13; have z4 := ne_i (n := 4) rfl c19; have z5 := ne_i (n := 5) rfl c30; have z6 := ne_i (n := 6) rfl c41; omega) (by decide) ?_
    refine lv_iconst (v := (0 : Int32)) hx hb dX8_takes_196 (by decide) ?_
    exact hend _ _ _ _ _ _ h hP hD hS dX8_takes_197 (by decide)
  rw [mX8_takes] at h
  refine lv_iload_n hx hb dX8_takes_0 rfl (lv_at hl 1 rfl) ?_
  refine lv_bipush (v := (59 : Int32)) hx hb dX8_takes_1 (by decide) ?_
  refine lv_icmp_ne (tgt := 19) hx hb dX8_takes_3 (by decide) (fun c1 => ?_) (fun c1 => ?_)
  · replace h := ie c1 h
    exact hj19 _ _ _ _ _ hP hD hS (lv_sub hl [0, 1] rfl) h
  · replace h := it c1 h
    refine lv_aload_n hx hb dX8_takes_6 rfl (lv_at hl 0 rfl) ?_
    obtain ⟨r46, e47, h⟩ := bo h
    refine caVR_i (As := []) (rest := []) (ctX8_canEnd l dC dI cq q S M o _ _ e47) F (cwV 0 hts gX8_takes_X8_canEnd rfl rfl rfl hdX8_canEnd ⟨Nat.le_of_ble_eq_true rfl, Nat.le_of_ble_eq_true rfl⟩) hK hP hD hDm hS hA (fun _ _ _ _ _ => trivial) (fun _ _ _ => trivial) (va_recv hK hP (ci := 9) (q0 := 22) rfl rfl) rfl hl.1 rfl (Nat.le_of_ble_eq_true rfl) dX8_takes_7 ⟨Nat.zero_le _, Nat.zero_le _⟩ (fun H locs hP hD hS => ?_)
    refine lv_if_eq (tgt := 19) hx hb dX8_takes_10 (by decide) (fun c48 => ?_) (fun c48 => ?_)
    · replace h := it c48 h
      exact hj19 _ _ _ _ _ hP hD hS (lv_sub hl [0, 1] rfl) h
    · replace h := ie c48 h
      refine lv_aload_n hx hb dX8_takes_13 rfl (lv_at hl 0 rfl) ?_
      obtain ⟨M51, e50, h⟩ := bo h
      refine caVM_v (As := []) (rest := []) (ctX8_endItem l dC dI cq q S M o _ _ e50) F (cwV 0 hts gX8_takes_X8_endItem rfl rfl rfl hdX8_endItem ⟨Nat.le_of_ble_eq_true rfl, Nat.le_of_ble_eq_true rfl⟩) hK hP hD hDm hS hA (fun _ _ _ _ _ => trivial) (fun _ _ _ => trivial) (va_recv hK hP (ci := 9) (q0 := 22) rfl rfl) rfl hl.1 rfl (Nat.le_of_ble_eq_true rfl) dX8_takes_14 ⟨Nat.zero_le _, Nat.zero_le _⟩ (fun H locs hP hD hS => ?_)
      refine lv_iconst (v := (1 : Int32)) hx hb dX8_takes_17 (by decide) ?_
      exact hend _ _ _ _ _ _ h hP hD hS dX8_takes_18 (by decide)
def mX8_readText_12 (n : Nat)   : Nat → MS → Int32 → Option (Int32 × MS)
  | 0, _, _ => none
  | k + 1, M, x1 => (if (M.1 10) ≤ x1 then (some (x1, M)) else (if inb x1 50 then (bm (mX8_takes M (M.2.1 26 x1.toNatClampNeg)) fun r3 M5 => (if r3 = (0 : Int32) then (some (x1, M5)) else (mX8_readText_12 n k M5 (x1 + (1 : Int32))))) else none))
def mX8_readText (n : Nat) (M : MS)  : Option (Int32 × MS) :=
  (mX8_readText_12 n n (sG (sG M 14 (0 : Int32)) 21 (0 : Int32)) (0 : Int32))
abbrev rmX8_readText : Room := { frames := 3, cells := 0, slots := 0, locals := 66 }
theorem hdX8_readText : yX8_readText.cls = RX8 ∧ yX8_readText.cls ≠ "java/lang/invoke/MethodHandle" ∧ yX8_readText.cls ≠ "java/lang/invoke/VarHandle" ∧ (parseMethodDescriptor yX8_readText.desc).map (fun d => d.parameters.length) = some 0 := by decide +kernel
set_option maxRecDepth 100000 in
set_option maxHeartbeats 8000000 in
theorem ctX8_readText (l : Launch) (dC : Nat → ClassId) (dI : Nat → Nat → Nat) (cq : Nat → ClassId) (q : Nat → Nat) (S : CS) (M : MS) (o : Nat → Int64) (sz : Nat) (n : Nat)  (rr : Int32) (MM : MS) (h : mX8_readText n M = some (rr, MM)) : CtM_i l yX8_readText wsX8_readText rmX8_readText (fun _ => True) (fun _ => True) dC dI cq q S M o sz [.ref (q 22)] rr MM := by
  refine enM_i (cc := cX8_readText) (maxL := 2) (by decide) rfl (Nat.le_of_ble_eq_true rfl) (fun p e s m args below meth c A Q ls F hA hP hK hD hDm hX hS hl hend => ?_)
  obtain ⟨hx, hb, hml, hown, hts⟩ := id F
  have hown : s.vm.findClass RX8 = some m.cls := hown
  have F : CallFix p m c cX8_readText 2 s args wsX8_readText RX8 := F
  have hl : lv_has ls 2 [(0, .ref (q 22))] := hl
  have hinX8 : ∀ w ∈ u_ws RX8 TX8 29, w ∈ wsX8_readText := fun w h => List.mem_cons_of_mem _ (List.mem_append_right _ h)
  have hL12 : ∀   (k : Nat) (M : MS) (x1 : Int32) (H : Heap) (locs : List Loc) (ls : Array Slot), va_P (dC, dI) vwCl (wA cq q S M o) H → va_D A (wA cq q S M o) → va_S A s.heap H locs → lv_has ls 2 [(0, .ref (q 22)), (1, .int x1)] → mX8_readText_12 n k M x1 = some (rr, MM) → W p l e rmX8_readText s m args below meth c H locs 0 0 Q (F0 m 12 ls []) := by
    intro k
    induction k with
    | zero =>
      intro M x1 H locs ls hP hD hS hl h
      rw [mX8_readText_12] at h
      cases h
    | succ k ih =>
      intro M x1 H locs ls hP hD hS hl h
      rw [mX8_readText_12] at h
      refine lv_iload_n hx hb dX8_readText_12 rfl (lv_at hl 1 rfl) ?_
      refine lv_aload_n hx hb dX8_readText_13 rfl (lv_at hl 0 rfl) ?_
      refine va_get (D := (dC, dI)) (ci := 9) (v := .int (M.1 10)) (C := RX8) (T := TX8) (N := 29) hx hb hts hinX8 hown hK hP 22 rfl rfl 10 (by decide) (hts (.fieldLink RX8 127 "CableTesterModel" "letters" "I") (mm 3 rfl)) (fun _ h9 => h9) rfl dX8_readText_14 ?_
      refine lv_icmp_ge (tgt := 39) hx hb dX8_readText_17 (by decide) (fun c1 => ?_) (fun c1 => ?_)
      · replace h := it c1 h
        refine lv_iload_n hx hb dX8_readText_39 rfl (lv_at hl 1 rfl) ?_
        exact hend _ _ _ _ _ _ h hP hD hS dX8_readText_40
      · replace h := ie c1 h
        refine lv_aload_n hx hb dX8_readText_20 rfl (lv_at hl 0 rfl) ?_
        refine lv_aload_n hx hb dX8_readText_21 rfl (lv_at hl 0 rfl) ?_
        refine va_get (D := (dC, dI)) (ci := 9) (v := .ref (q 26)) (C := RX8) (T := TX8) (N := 29) hx hb hts hinX8 hown hK hP 22 rfl rfl 11 (by decide) (hts (.fieldLink RX8 19 "CableTesterModel" "text" "[I") (mm 4 rfl)) (fun _ h9 => h9) rfl dX8_readText_22 ?_
        refine lv_iload_n hx hb dX8_readText_25 rfl (lv_at hl 1 rfl) ?_
        obtain ⟨g2, h⟩ := gd h
        refine va_iald (D := (dC, dI)) hx hb hK hP 26 15 rfl rfl (inb_ok g2) dX8_readText_26 ?_
        obtain ⟨r3, M5, e4, h⟩ := bp h
        refine caVM_i (As := [.int (M.2.1 26 x1.toNatClampNeg)]) (rest := []) (ctX8_takes l dC dI cq q S M o _ _ _ _ e4) F (cwV 1 hts gX8_readText_X8_takes rfl rfl rfl hdX8_takes ⟨Nat.le_of_ble_eq_true rfl, Nat.le_of_ble_eq_true rfl⟩) hK hP hD hDm hS hA (fun _ _ _ _ _ => trivial) (fun _ _ _ => trivial) (va_recv hK hP (ci := 9) (q0 := 22) rfl rfl) rfl hl.1 rfl (Nat.le_of_ble_eq_true rfl) dX8_readText_27 ⟨Nat.zero_le _, Nat.zero_le _⟩ (fun H locs hP hD hS => ?_)
        refine lv_if_eq (tgt := 39) hx hb dX8_readText_30 (by decide) (fun c6 => ?_) (fun c6 => ?_)
        · replace h := it c6 h
          refine lv_iload_n hx hb dX8_readText_39 rfl (lv_at hl 1 rfl) ?_
          exact hend _ _ _ _ _ _ h hP hD hS dX8_readText_40
        · replace h := ie c6 h
          refine lv_iinc (v := (x1 + (1 : Int32))) (lv' := [(1, .int (x1 + (1 : Int32))), (0, .ref (q 22))]) hx hb dX8_readText_33 hl (k := 1) rfl rfl (by decide) rfl (fun ls hl => ?_)
          refine lv_goto (tgt := 12) hx hb dX8_readText_36 (by decide) ?_
          exact ih _ _ _ _ _ hP hD hS (lv_sub hl [1, 0] rfl) h
  rw [mX8_readText] at h
  refine lv_aload_n hx hb dX8_readText_0 rfl (lv_at hl 0 rfl) ?_
  refine lv_iconst (v := (0 : Int32)) hx hb dX8_readText_1 (by decide) ?_
  refine pt_22_14 F hinX8 (hts (.fieldLink RX8 145 "CableTesterModel" "step" "I") (mm 1 rfl)) hK hP hD hS dX8_readText_2 (fun H locs hP hD hS => ?_)
  refine lv_aload_n hx hb dX8_readText_5 rfl (lv_at hl 0 rfl) ?_
  refine lv_iconst (v := (0 : Int32)) hx hb dX8_readText_6 (by decide) ?_
  refine pt_22_21 F hinX8 (hts (.fieldLink RX8 155 "CableTesterModel" "items" "I") (mm 2 rfl)) hK hP hD hS dX8_readText_7 (fun H locs hP hD hS => ?_)
  refine lv_iconst (v := (0 : Int32)) hx hb dX8_readText_10 (by decide) ?_
  refine lv_istore_n (lv' := [(1, .int (0 : Int32)), (0, .ref (q 22))]) hx hb dX8_readText_11 rfl hl (by decide) rfl (fun ls hl => ?_)
  exact hL12 _ _ _ _ _ _ hP hD hS (lv_sub hl [1, 0] rfl) h
def mX8_firstError (n : Nat) (M : MS)  : Option (Int32 × MS) :=
  (bm (mX8_readText n (sG M 0 (0 : Int32))) fun r1 M3 => (some (r1, M3)))
abbrev rmX8_firstError : Room := { frames := 4, cells := 0, slots := 0, locals := 87 }
theorem hdX8_firstError : yX8_firstError.cls = RX8 ∧ yX8_firstError.cls ≠ "java/lang/invoke/MethodHandle" ∧ yX8_firstError.cls ≠ "java/lang/invoke/VarHandle" ∧ (parseMethodDescriptor yX8_firstError.desc).map (fun d => d.parameters.length) = some 0 := by decide +kernel
set_option maxRecDepth 100000 in
set_option maxHeartbeats 8000000 in
theorem ctX8_firstError (l : Launch) (dC : Nat → ClassId) (dI : Nat → Nat → Nat) (cq : Nat → ClassId) (q : Nat → Nat) (S : CS) (M : MS) (o : Nat → Int64) (sz : Nat) (n : Nat)  (rr : Int32) (MM : MS) (h : mX8_firstError n M = some (rr, MM)) : CtM_i l yX8_firstError wsX8_firstError rmX8_firstError (fun _ => True) (fun _ => True) dC dI cq q S M o sz [.ref (q 22)] rr MM := by
  refine enM_i (cc := cX8_firstError) (maxL := 1) (by decide) rfl (Nat.le_of_ble_eq_true rfl) (fun p e s m args below meth c A Q ls F hA hP hK hD hDm hX hS hl hend => ?_)
  obtain ⟨hx, hb, hml, hown, hts⟩ := id F
  have hown : s.vm.findClass RX8 = some m.cls := hown
  have F : CallFix p m c cX8_firstError 1 s args wsX8_firstError RX8 := F
  have hl : lv_has ls 1 [(0, .ref (q 22))] := hl
  have hinX8 : ∀ w ∈ u_ws RX8 TX8 29, w ∈ wsX8_firstError := fun w h => List.mem_cons_of_mem _ (List.mem_append_right _ h)
  rw [mX8_firstError] at h
  refine lv_aload_n hx hb dX8_firstError_0 rfl (lv_at hl 0 rfl) ?_
  refine lv_iconst (v := (0 : Int32)) hx hb dX8_firstError_1 (by decide) ?_
  refine pt_22_0 F hinX8 (hts (.fieldLink RX8 44 "CableTesterModel" "thrown" "I") (mm 1 rfl)) hK hP hD hS dX8_firstError_2 (fun H locs hP hD hS => ?_)
  refine lv_aload_n hx hb dX8_firstError_5 rfl (lv_at hl 0 rfl) ?_
  obtain ⟨r1, M3, e2, h⟩ := bp h
  refine caVM_i (As := []) (rest := []) (ctX8_readText l dC dI cq q S (sG M 0 (0 : Int32)) o _ _ _ _ e2) F (cwV 0 hts gX8_firstError_X8_readText rfl rfl rfl hdX8_readText ⟨Nat.le_of_ble_eq_true rfl, Nat.le_of_ble_eq_true rfl⟩) hK hP hD hDm hS hA (fun _ _ _ _ _ => trivial) (fun _ _ _ => trivial) (va_recv hK hP (ci := 9) (q0 := 22) rfl rfl) rfl hl.1 rfl (Nat.le_of_ble_eq_true rfl) dX8_firstError_6 ⟨Nat.zero_le _, Nat.zero_le _⟩ (fun H locs hP hD hS => ?_)
  exact hend _ _ _ _ _ _ h hP hD hS dX8_firstError_9
def mX8_canLoad_94 (n : Nat) (K6 : Int32 → Int32 → Int32 → Option (Int32)) (M : MS) (x1 : Int32) (x3 : Int32) (t0 : Int32) : Option (Int32) :=
  (K6 x1 t0 (x3 + (1 : Int32)))
def mX8_canLoad_93 (n : Nat) (K6 : Int32 → Int32 → Int32 → Option (Int32)) (M : MS) (x1 : Int32) (x3 : Int32)  : Option (Int32) :=
  (mX8_canLoad_94 n (K6) M x1 x3 (0 : Int32))
def mX8_canLoad_89 (n : Nat) (K6 : Int32 → Int32 → Int32 → Option (Int32)) (M : MS) (x1 : Int32) (x3 : Int32)  : Option (Int32) :=
  (mX8_canLoad_94 n (K6) M x1 x3 (1 : Int32))
def mX8_canLoad_60 (n : Nat) (K6 : Int32 → Int32 → Int32 → Option (Int32)) (M : MS) (x2 : Int32) (x3 : Int32) (x4 : Int32) (t0 : Int32) (t1 : Int32) : Option (Int32) :=
  (if x2 = (0 : Int32) then (mX8_canLoad_93 n (K6) M (t1 + t0) x3) else (if x4 = (0 : Int32) then (mX8_canLoad_89 n (K6) M (t1 + t0) x3) else (if inb (((6 : Int32) * x3) + (3 : Int32)) 150 then (if (M.1 1) ≤ (M.2.1 29 (((6 : Int32) * x3) + (3 : Int32)).toNatClampNeg) then (mX8_canLoad_93 n (K6) M (t1 + t0) x3) else (mX8_canLoad_89 n (K6) M (t1 + t0) x3)) else none)))
def mX8_canLoad_47 (n : Nat) (K6 : Int32 → Int32 → Int32 → Option (Int32)) (M : MS) (x1 : Int32) (x2 : Int32) (x3 : Int32) (t0 : Int32) : Option (Int32) :=
  (if t0 = (0 : Int32) then (mX8_canLoad_60 n (K6) M x2 x3 t0 (0 : Int32) x1) else (mX8_canLoad_60 n (K6) M x2 x3 t0 (1 : Int32) x1))
def mX8_canLoad_42 (n : Nat) (K6 : Int32 → Int32 → Int32 → Option (Int32)) (M : MS) (x1 : Int32) (x2 : Int32) (x3 : Int32)  : Option (Int32) :=
  (mX8_canLoad_47 n (K6) M x1 x2 x3 (1 : Int32))
def mX8_canLoad_6 (n : Nat)  (M : MS)  : Nat → Int32 → Int32 → Int32 → Option (Int32)
  | 0, _, _, _ => none
  | k + 1, x1, x2, x3 => (if (M.1 21) ≤ x3 then (if x2 = (0 : Int32) then (some (0 : Int32)) else (if (10 : Int32) < ((M.1 7) + x1) then (some (0 : Int32)) else (some (1 : Int32)))) else (if inb ((6 : Int32) * x3) 150 then (if (M.2.1 29 ((6 : Int32) * x3).toNatClampNeg) = (99 : Int32) then (mX8_canLoad_42 n (mX8_canLoad_6 n M k) M x1 x2 x3) else (if inb ((6 : Int32) * x3) 150 then (if (M.2.1 29 ((6 : Int32) * x3).toNatClampNeg) = (115 : Int32) then (mX8_canLoad_42 n (mX8_canLoad_6 n M k) M x1 x2 x3) else (mX8_canLoad_47 n (mX8_canLoad_6 n M k) M x1 x2 x3 (0 : Int32))) else none)) else none))
def mX8_canLoad (n : Nat) (M : MS)  : Option (Int32) :=
  (mX8_canLoad_6 n M n (0 : Int32) (1 : Int32) (0 : Int32))
abbrev rmX8_canLoad : Room := { frames := 0, cells := 0, slots := 0, locals := 0 }
theorem hdX8_canLoad : yX8_canLoad.cls = RX8 ∧ yX8_canLoad.cls ≠ "java/lang/invoke/MethodHandle" ∧ yX8_canLoad.cls ≠ "java/lang/invoke/VarHandle" ∧ (parseMethodDescriptor yX8_canLoad.desc).map (fun d => d.parameters.length) = some 0 := by decide +kernel
set_option maxRecDepth 100000 in
set_option maxHeartbeats 8000000 in
theorem ctX8_canLoad (l : Launch) (dC : Nat → ClassId) (dI : Nat → Nat → Nat) (cq : Nat → ClassId) (q : Nat → Nat) (S : CS) (M : MS) (o : Nat → Int64) (sz : Nat) (n : Nat)  (rr : Int32) (h : mX8_canLoad n M = some rr) : CtR_i l yX8_canLoad wsX8_canLoad rmX8_canLoad (fun _ => True) (fun _ => True) dC dI cq q S M o sz [.ref (q 22)] rr := by
  refine enR_z (cc := cX8_canLoad) (maxL := 5) (by decide) rfl (Nat.le_of_ble_eq_true rfl) (fun p e s m args below meth c A Q ls F hA hP hK hD hDm hX hS hl hend => ?_)
  obtain ⟨hx, hb, hml, hown, hts⟩ := id F
  have hown : s.vm.findClass RX8 = some m.cls := hown
  have F : CallFix p m c cX8_canLoad 5 s args wsX8_canLoad RX8 := F
  have hl : lv_has ls 5 [(0, .ref (q 22))] := hl
  have hinX8 : ∀ w ∈ u_ws RX8 TX8 29, w ∈ wsX8_canLoad := fun w h => List.mem_cons_of_mem _ (List.mem_append_right _ h)
  have hj94 : ∀  (x1 : Int32) (x3 : Int32) (t0 : Int32) (K6 : Int32 → Int32 → Int32 → Option (Int32)) (hK6 : ∀ (y1 : Int32) (y2 : Int32) (y3 : Int32) (H : Heap) (locs : List Loc) (ls : Array Slot), va_P (dC, dI) vwCl (wA cq q S M o) H → va_D A (wA cq q S M o) → va_S A s.heap H locs → lv_has ls 5 [(0, .ref (q 22)), (1, .int y1), (2, .int y2), (3, .int y3)] → K6 y1 y2 y3 = some rr → W p l e rmX8_canLoad s m args below meth c H locs 0 0 Q (F0 m 6 ls [])) (H : Heap) (locs : List Loc) (ls : Array Slot), va_P (dC, dI) vwCl (wA cq q S M o) H → va_D A (wA cq q S M o) → va_S A s.heap H locs → lv_has ls 5 [(0, .ref (q 22)), (1, .int x1), (3, .int x3)] → mX8_canLoad_94 n K6 M x1 x3 t0 = some rr → W p l e rmX8_canLoad s m args below meth c H locs 0 0 Q (F0 m 94 ls [.int t0]) := by
    intro x1 x3 t0 K6 hK6 H locs ls hP hD hS hl h
    rw [mX8_canLoad_94] at h
    refine lv_istore_n (lv' := [(2, .int t0), (0, .ref (q 22)), (1, .int x1), (3, .int x3)]) hx hb dX8_canLoad_94 rfl hl (by decide) rfl (fun ls hl => ?_)
    refine lv_iinc (v := (x3 + (1 : Int32))) (lv' := [(3, .int (x3 + (1 : Int32))), (2, .int t0), (0, .ref (q 22)), (1, .int x1)]) hx hb dX8_canLoad_95 hl (k := 3) rfl rfl (by decide) rfl (fun ls hl => ?_)
    refine lv_goto (tgt := 6) hx hb dX8_canLoad_98 (by decide) ?_
    exact hK6 _ _ _ _ _ _ hP hD hS (lv_sub hl [2, 3, 1, 0] rfl) h
  have hj93 : ∀  (x1 : Int32) (x3 : Int32)  (K6 : Int32 → Int32 → Int32 → Option (Int32)) (hK6 : ∀ (y1 : Int32) (y2 : Int32) (y3 : Int32) (H : Heap) (locs : List Loc) (ls : Array Slot), va_P (dC, dI) vwCl (wA cq q S M o) H → va_D A (wA cq q S M o) → va_S A s.heap H locs → lv_has ls 5 [(0, .ref (q 22)), (1, .int y1), (2, .int y2), (3, .int y3)] → K6 y1 y2 y3 = some rr → W p l e rmX8_canLoad s m args below meth c H locs 0 0 Q (F0 m 6 ls [])) (H : Heap) (locs : List Loc) (ls : Array Slot), va_P (dC, dI) vwCl (wA cq q S M o) H → va_D A (wA cq q S M o) → va_S A s.heap H locs → lv_has ls 5 [(0, .ref (q 22)), (1, .int x1), (3, .int x3)] → mX8_canLoad_93 n K6 M x1 x3 = some rr → W p l e rmX8_canLoad s m args below meth c H locs 0 0 Q (F0 m 93 ls []) := by
    intro x1 x3 K6 hK6 H locs ls hP hD hS hl h
    rw [mX8_canLoad_93] at h
    refine lv_iconst (v := (0 : Int32)) hx hb dX8_canLoad_93 (by decide) ?_
    exact hj94 _ _ _ _ hK6 _ _ _ hP hD hS (lv_sub hl [0, 1, 2] rfl) h
  have hj89 : ∀  (x1 : Int32) (x3 : Int32)  (K6 : Int32 → Int32 → Int32 → Option (Int32)) (hK6 : ∀ (y1 : Int32) (y2 : Int32) (y3 : Int32) (H : Heap) (locs : List Loc) (ls : Array Slot), va_P (dC, dI) vwCl (wA cq q S M o) H → va_D A (wA cq q S M o) → va_S A s.heap H locs → lv_has ls 5 [(0, .ref (q 22)), (1, .int y1), (2, .int y2), (3, .int y3)] → K6 y1 y2 y3 = some rr → W p l e rmX8_canLoad s m args below meth c H locs 0 0 Q (F0 m 6 ls [])) (H : Heap) (locs : List Loc) (ls : Array Slot), va_P (dC, dI) vwCl (wA cq q S M o) H → va_D A (wA cq q S M o) → va_S A s.heap H locs → lv_has ls 5 [(0, .ref (q 22)), (1, .int x1), (3, .int x3)] → mX8_canLoad_89 n K6 M x1 x3 = some rr → W p l e rmX8_canLoad s m args below meth c H locs 0 0 Q (F0 m 89 ls []) := by
    intro x1 x3 K6 hK6 H locs ls hP hD hS hl h
    rw [mX8_canLoad_89] at h
    refine lv_iconst (v := (1 : Int32)) hx hb dX8_canLoad_89 (by decide) ?_
    refine lv_goto (tgt := 94) hx hb dX8_canLoad_90 (by decide) ?_
    exact hj94 _ _ _ _ hK6 _ _ _ hP hD hS (lv_sub hl [0, 1, 2] rfl) h
  have hj60 : ∀  (x2 : Int32) (x3 : Int32) (x4 : Int32) (t0 : Int32) (t1 : Int32) (K6 : Int32 → Int32 → Int32 → Option (Int32)) (hK6 : ∀ (y1 : Int32) (y2 : Int32) (y3 : Int32) (H : Heap) (locs : List Loc) (ls : Array Slot), va_P (dC, dI) vwCl (wA cq q S M o) H → va_D A (wA cq q S M o) → va_S A s.heap H locs → lv_has ls 5 [(0, .ref (q 22)), (1, .int y1), (2, .int y2), (3, .int y3)] → K6 y1 y2 y3 = some rr → W p l e rmX8_canLoad s m args below meth c H locs 0 0 Q (F0 m 6 ls [])) (H : Heap) (locs : List Loc) (ls : Array Slot), va_P (dC, dI) vwCl (wA cq q S M o) H → va_D A (wA cq q S M o) → va_S A s.heap H locs → lv_has ls 5 [(0, .ref (q 22)), (2, .int x2), (3, .int x3), (4, .int x4)] → mX8_canLoad_60 n K6 M x2 x3 x4 t0 t1 = some rr → W p l e rmX8_canLoad s m args below meth c H locs 0 0 Q (F0 m 60 ls [.int t0, .int t1]) := by
    intro x2 x3 x4 t0 t1 K6 hK6 H locs ls hP hD hS hl h
    rw [mX8_canLoad_60] at h
    refine lv_iadd hx hb dX8_canLoad_60 ?_
    refine lv_istore_n (lv' := [(1, .int (t1 + t0)), (0, .ref (q 22)), (2, .int x2), (3, .int x3), (4, .int x4)]) hx hb dX8_canLoad_61 rfl hl (by decide) rfl (fun ls hl => ?_)
    refine lv_iload_n hx hb dX8_canLoad_62 rfl (lv_at hl 2 rfl) ?_
    refine lv_if_eq (tgt := 93) hx hb dX8_canLoad_63 (by decide) (fun c7 => ?_) (fun c7 => ?_)
    · replace h := it c7 h
      exact hj93 _ _ _ hK6 _ _ _ hP hD hS (lv_sub hl [1, 0, 3] rfl) h
    · replace h := ie c7 h
      refine lv_iload hx hb dX8_canLoad_66 (lv_at hl 4 rfl) ?_
      refine lv_if_eq (tgt := 89) hx hb dX8_canLoad_68 (by decide) (fun c8 => ?_) (fun c8 => ?_)
      · replace h := it c8 h
        exact hj89 _ _ _ hK6 _ _ _ hP hD hS (lv_sub hl [1, 0, 3] rfl) h
      · replace h := ie c8 h
        refine lv_aload_n hx hb dX8_canLoad_71 rfl (lv_at hl 1 rfl) ?_
        refine va_get (D := (dC, dI)) (ci := 9) (v := .ref (q 29)) (C := RX8) (T := TX8) (N := 29) hx hb hts hinX8 hown hK hP 22 rfl rfl 22 (by decide) (hts (.fieldLink RX8 28 "CableTesterModel" "read" "[I") (mm 2 rfl)) (fun _ h9 => h9) rfl dX8_canLoad_72 ?_
        refine lv_bipush (v := (6 : Int32)) hx hb dX8_canLoad_75 (by decide) ?_
        refine lv_iload_n hx hb dX8_canLoad_77 rfl (lv_at hl 3 rfl) ?_
        refine lv_imul hx hb dX8_canLoad_78 ?_
        refine lv_iconst (v := (3 : Int32)) hx hb dX8_canLoad_79 (by decide) ?_
        refine lv_iadd hx hb dX8_canLoad_80 ?_
        obtain ⟨g9, h⟩ := gd h
        refine va_iald (D := (dC, dI)) hx hb hK hP 29 18 rfl rfl (inb_ok g9) dX8_canLoad_81 ?_
        refine lv_aload_n hx hb dX8_canLoad_82 rfl (lv_at hl 1 rfl) ?_
        refine va_get (D := (dC, dI)) (ci := 9) (v := .int (M.1 1)) (C := RX8) (T := TX8) (N := 29) hx hb hts hinX8 hown hK hP 22 rfl rfl 1 (by decide) (hts (.fieldLink RX8 52 "CableTesterModel" "length" "I") (mm 3 rfl)) (fun _ h9 => h9) rfl dX8_canLoad_83 ?_
        refine lv_icmp_ge (tgt := 93) hx hb dX8_canLoad_86 (by decide) (fun c10 => ?_) (fun c10 => ?_)
        · replace h := it c10 h
          exact hj93 _ _ _ hK6 _ _ _ hP hD hS (lv_sub hl [1, 0, 3] rfl) h
        · replace h := ie c10 h
          exact hj89 _ _ _ hK6 _ _ _ hP hD hS (lv_sub hl [1, 0, 3] rfl) h
  have hj47 : ∀  (x1 : Int32) (x2 : Int32) (x3 : Int32) (t0 : Int32) (K6 : Int32 → Int32 → Int32 → Option (Int32)) (hK6 : ∀ (y1 : Int32) (y2 : Int32) (y3 : Int32) (H : Heap) (locs : List Loc) (ls : Array Slot), va_P (dC, dI) vwCl (wA cq q S M o) H → va_D A (wA cq q S M o) → va_S A s.heap H locs → lv_has ls 5 [(0, .ref (q 22)), (1, .int y1), (2, .int y2), (3, .int y3)] → K6 y1 y2 y3 = some rr → W p l e rmX8_canLoad s m args below meth c H locs 0 0 Q (F0 m 6 ls [])) (H : Heap) (locs : List Loc) (ls : Array Slot), va_P (dC, dI) vwCl (wA cq q S M o) H → va_D A (wA cq q S M o) → va_S A s.heap H locs → lv_has ls 5 [(0, .ref (q 22)), (1, .int x1), (2, .int x2), (3, .int x3)] → mX8_canLoad_47 n K6 M x1 x2 x3 t0 = some rr → W p l e rmX8_canLoad s m args below meth c H locs 0 0 Q (F0 m 47 ls [.int t0]) := by
    intro x1 x2 x3 t0 K6 hK6 H locs ls hP hD hS hl h
    rw [mX8_canLoad_47] at h
    refine lv_istore (lv' := [(4, .int t0), (0, .ref (q 22)), (1, .int x1), (2, .int x2), (3, .int x3)]) hx hb dX8_canLoad_47 hl (by decide) rfl (fun ls hl => ?_)
    refine lv_iload_n hx hb dX8_canLoad_49 rfl (lv_at hl 2 rfl) ?_
    refine lv_iload hx hb dX8_canLoad_50 (lv_at hl 0 rfl) ?_
    refine lv_if_eq (tgt := 59) hx hb dX8_canLoad_52 (by decide) (fun c6 => ?_) (fun c6 => ?_)
    · replace h := it c6 h
      refine lv_iconst (v := (0 : Int32)) hx hb dX8_canLoad_59 (by decide) ?_
      exact hj60 _ _ _ _ _ _ hK6 _ _ _ hP hD hS (lv_sub hl [1, 3, 4, 0] rfl) h
    · replace h := ie c6 h
      refine lv_iconst (v := (1 : Int32)) hx hb dX8_canLoad_55 (by decide) ?_
      refine lv_goto (tgt := 60) hx hb dX8_canLoad_56 (by decide) ?_
      exact hj60 _ _ _ _ _ _ hK6 _ _ _ hP hD hS (lv_sub hl [1, 3, 4, 0] rfl) h
  have hj42 : ∀  (x1 : Int32) (x2 : Int32) (x3 : Int32)  (K6 : Int32 → Int32 → Int32 → Option (Int32)) (hK6 : ∀ (y1 : Int32) (y2 : Int32) (y3 : Int32) (H : Heap) (locs : List Loc) (ls : Array Slot), va_P (dC, dI) vwCl (wA cq q S M o) H → va_D A (wA cq q S M o) → va_S A s.heap H locs → lv_has ls 5 [(0, .ref (q 22)), (1, .int y1), (2, .int y2), (3, .int y3)] → K6 y1 y2 y3 = some rr → W p l e rmX8_canLoad s m args below meth c H locs 0 0 Q (F0 m 6 ls [])) (H : Heap) (locs : List Loc) (ls : Array Slot), va_P (dC, dI) vwCl (wA cq q S M o) H → va_D A (wA cq q S M o) → va_S A s.heap H locs → lv_has ls 5 [(0, .ref (q 22)), (1, .int x1), (2, .int x2), (3, .int x3)] → mX8_canLoad_42 n K6 M x1 x2 x3 = some rr → W p l e rmX8_canLoad s m args below meth c H locs 0 0 Q (F0 m 42 ls []) := by
    intro x1 x2 x3 K6 hK6 H locs ls hP hD hS hl h
    rw [mX8_canLoad_42] at h
    refine lv_iconst (v := (1 : Int32)) hx hb dX8_canLoad_42 (by decide) ?_
    refine lv_goto (tgt := 47) hx hb dX8_canLoad_43 (by decide) ?_
    exact hj47 _ _ _ _ _ hK6 _ _ _ hP hD hS (lv_sub hl [0, 1, 2, 3] rfl) h
  have hL6 : ∀   (k : Nat)  (x1 : Int32) (x2 : Int32) (x3 : Int32) (H : Heap) (locs : List Loc) (ls : Array Slot), va_P (dC, dI) vwCl (wA cq q S M o) H → va_D A (wA cq q S M o) → va_S A s.heap H locs → lv_has ls 5 [(0, .ref (q 22)), (1, .int x1), (2, .int x2), (3, .int x3)] → mX8_canLoad_6 n M k x1 x2 x3 = some rr → W p l e rmX8_canLoad s m args below meth c H locs 0 0 Q (F0 m 6 ls []) := by
    intro k
    induction k with
    | zero =>
      intro x1 x2 x3 H locs ls hP hD hS hl h
      rw [mX8_canLoad_6] at h
      cases h
    | succ k ih =>
      intro x1 x2 x3 H locs ls hP hD hS hl h
      rw [mX8_canLoad_6] at h
      refine lv_iload_n hx hb dX8_canLoad_6 rfl (lv_at hl 3 rfl) ?_
      refine lv_aload_n hx hb dX8_canLoad_7 rfl (lv_at hl 0 rfl) ?_
      refine va_get (D := (dC, dI)) (ci := 9) (v := .int (M.1 21)) (C := RX8) (T := TX8) (N := 29) hx hb hts hinX8 hown hK hP 22 rfl rfl 21 (by decide) (hts (.fieldLink RX8 155 "CableTesterModel" "items" "I") (mm 1 rfl)) (fun _ h9 => h9) rfl dX8_canLoad_8 ?_
      refine lv_icmp_ge (tgt := 101) hx hb dX8_canLoad_11 (by decide) (fun c1 => ?_) (fun c1 => ?_)
      · replace h := it c1 h
        refine lv_iload_n hx hb dX8_canLoad_101 rfl (lv_at hl 2 rfl) ?_
        refine lv_if_eq (tgt := 120) hx hb dX8_canLoad_102 (by decide) (fun c2 => ?_) (fun c2 => ?_)
        · replace h := it c2 h
          refine lv_iconst (v := (0 : Int32)) hx hb dX8_canLoad_120 (by decide) ?_
          exact hend _ _ _ _ _ h hP hD hS dX8_canLoad_121 (by decide)
        · replace h := ie c2 h
          refine lv_aload_n hx hb dX8_canLoad_105 rfl (lv_at hl 0 rfl) ?_
          refine va_get (D := (dC, dI)) (ci := 9) (v := .int (M.1 7)) (C := RX8) (T := TX8) (N := 29) hx hb hts hinX8 hown hK hP 22 rfl rfl 7 (by decide) (hts (.fieldLink RX8 64 "CableTesterModel" "many" "I") (mm 4 rfl)) (fun _ h9 => h9) rfl dX8_canLoad_106 ?_
          refine lv_iload_n hx hb dX8_canLoad_109 rfl (lv_at hl 1 rfl) ?_
          refine lv_iadd hx hb dX8_canLoad_110 ?_
          refine lv_bipush (v := (10 : Int32)) hx hb dX8_canLoad_111 (by decide) ?_
          refine lv_icmp_gt (tgt := 120) hx hb dX8_canLoad_113 (by decide) (fun c3 => ?_) (fun c3 => ?_)
          · replace h := it c3 h
            refine lv_iconst (v := (0 : Int32)) hx hb dX8_canLoad_120 (by decide) ?_
            exact hend _ _ _ _ _ h hP hD hS dX8_canLoad_121 (by decide)
          · replace h := ie c3 h
            refine lv_iconst (v := (1 : Int32)) hx hb dX8_canLoad_116 (by decide) ?_
            refine lv_goto (tgt := 121) hx hb dX8_canLoad_117 (by decide) ?_
            exact hend _ _ _ _ _ h hP hD hS dX8_canLoad_121 (by decide)
      · replace h := ie c1 h
        refine lv_aload_n hx hb dX8_canLoad_14 rfl (lv_at hl 0 rfl) ?_
        refine va_get (D := (dC, dI)) (ci := 9) (v := .ref (q 29)) (C := RX8) (T := TX8) (N := 29) hx hb hts hinX8 hown hK hP 22 rfl rfl 22 (by decide) (hts (.fieldLink RX8 28 "CableTesterModel" "read" "[I") (mm 2 rfl)) (fun _ h9 => h9) rfl dX8_canLoad_15 ?_
        refine lv_bipush (v := (6 : Int32)) hx hb dX8_canLoad_18 (by decide) ?_
        refine lv_iload_n hx hb dX8_canLoad_20 rfl (lv_at hl 3 rfl) ?_
        refine lv_imul hx hb dX8_canLoad_21 ?_
        obtain ⟨g4, h⟩ := gd h
        refine va_iald (D := (dC, dI)) hx hb hK hP 29 18 rfl rfl (inb_ok g4) dX8_canLoad_22 ?_
        refine lv_bipush (v := (99 : Int32)) hx hb dX8_canLoad_23 (by decide) ?_
        refine lv_icmp_eq (tgt := 42) hx hb dX8_canLoad_25 (by decide) (fun c5 => ?_) (fun c5 => ?_)
        · replace h := it c5 h
          exact hj42 _ _ _ _ ih _ _ _ hP hD hS (lv_sub hl [0, 1, 2, 3] rfl) h
        · replace h := ie c5 h
          refine lv_aload_n hx hb dX8_canLoad_28 rfl (lv_at hl 0 rfl) ?_
          refine va_get (D := (dC, dI)) (ci := 9) (v := .ref (q 29)) (C := RX8) (T := TX8) (N := 29) hx hb hts hinX8 hown hK hP 22 rfl rfl 22 (by decide) (hts (.fieldLink RX8 28 "CableTesterModel" "read" "[I") (mm 2 rfl)) (fun _ h9 => h9) rfl dX8_canLoad_29 ?_
          refine lv_bipush (v := (6 : Int32)) hx hb dX8_canLoad_32 (by decide) ?_
          refine lv_iload_n hx hb dX8_canLoad_34 rfl (lv_at hl 3 rfl) ?_
          refine lv_imul hx hb dX8_canLoad_35 ?_
          obtain ⟨g11, h⟩ := gd h
          refine va_iald (D := (dC, dI)) hx hb hK hP 29 18 rfl rfl (inb_ok g11) dX8_canLoad_36 ?_
          refine lv_bipush (v := (115 : Int32)) hx hb dX8_canLoad_37 (by decide) ?_
          refine lv_icmp_ne (tgt := 46) hx hb dX8_canLoad_39 (by decide) (fun c12 => ?_) (fun c12 => ?_)
          · replace h := ie c12 h
            refine lv_iconst (v := (0 : Int32)) hx hb dX8_canLoad_46 (by decide) ?_
            exact hj47 _ _ _ _ _ ih _ _ _ hP hD hS (lv_sub hl [0, 1, 2, 3] rfl) h
          · replace h := it c12 h
            exact hj42 _ _ _ _ ih _ _ _ hP hD hS (lv_sub hl [0, 1, 2, 3] rfl) h
  rw [mX8_canLoad] at h
  refine lv_iconst (v := (0 : Int32)) hx hb dX8_canLoad_0 (by decide) ?_
  refine lv_istore_n (lv' := [(1, .int (0 : Int32)), (0, .ref (q 22))]) hx hb dX8_canLoad_1 rfl hl (by decide) rfl (fun ls hl => ?_)
  refine lv_iconst (v := (1 : Int32)) hx hb dX8_canLoad_2 (by decide) ?_
  refine lv_istore_n (lv' := [(2, .int (1 : Int32)), (1, .int (0 : Int32)), (0, .ref (q 22))]) hx hb dX8_canLoad_3 rfl hl (by decide) rfl (fun ls hl => ?_)
  refine lv_iconst (v := (0 : Int32)) hx hb dX8_canLoad_4 (by decide) ?_
  refine lv_istore_n (lv' := [(3, .int (0 : Int32)), (2, .int (1 : Int32)), (1, .int (0 : Int32)), (0, .ref (q 22))]) hx hb dX8_canLoad_5 rfl hl (by decide) rfl (fun ls hl => ?_)
  exact hL6 _ _ _ _ _ _ _ hP hD hS (lv_sub hl [3, 2, 1, 0] rfl) h
