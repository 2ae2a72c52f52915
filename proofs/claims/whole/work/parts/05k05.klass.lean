def mX6_readFirst_23  (S : CS)  (t0 : Int32) : Option (Int32 × CS) :=
  (if ((sF S 12 t0).1 14) < (0 : Int32) then (some ((0 : Int32), (sF S 12 t0))) else (if (8 : Int32) ≤ ((sF S 12 t0).1 14) then (some ((0 : Int32), (sF S 12 t0))) else (some ((1 : Int32), (sF S 12 t0)))))
def mX6_readFirst (S : CS) (x1 : Int32) : Option (Int32 × CS) :=
  (if ((sF S 14 (x1 - (48 : Int32))).1 13) = (99 : Int32) then (mX6_readFirst_23 (sF S 14 (x1 - (48 : Int32))) (3 : Int32)) else (mX6_readFirst_23 (sF S 14 (x1 - (48 : Int32))) (2 : Int32)))
abbrev rmX6_readFirst : Room := { frames := 0, cells := 0, slots := 0, locals := 0 }
theorem hdX6_readFirst : yX6_readFirst.cls = RX6 ∧ yX6_readFirst.cls ≠ "java/lang/invoke/MethodHandle" ∧ yX6_readFirst.cls ≠ "java/lang/invoke/VarHandle" ∧ (parseMethodDescriptor yX6_readFirst.desc).map (fun d => d.parameters.length) = some 1 := by decide +kernel
set_option maxRecDepth 100000 in
set_option maxHeartbeats 8000000 in
theorem ctX6_readFirst (l : Launch) (dC : Nat → ClassId) (dI : Nat → Nat → Nat) (cq : Nat → ClassId) (q : Nat → Nat) (S : CS) (M : MS) (o : Nat → Int64) (sz : Nat) (h0 : Nat) (x1 : Int32) (rr : Int32) (SS : CS) (h : mX6_readFirst S x1 = some (rr, SS)) : CtC_i l yX6_readFirst wsX6_readFirst rmX6_readFirst (fun a => h0 ≤ a) (EV h0 q) dC dI cq q S M o sz [.ref (q 20), .int x1] rr SS := by
  refine enC_z (cc := cX6_readFirst) (maxL := 2) (by decide) rfl (Nat.le_of_ble_eq_true rfl) (fun p e s m args below meth c A Q ls F hA hP hK hD hDm hX hS hl hend => ?_)
  obtain ⟨hx, hb, hml, hown, hts⟩ := id F
  have hown : s.vm.findClass RX6 = some m.cls := hown
  have F : CallFix p m c cX6_readFirst 2 s args wsX6_readFirst RX6 := F
  have hl : lv_has ls 2 [(0, .ref (q 20)), (1, .int x1)] := hl
  have hinX6 : ∀ w ∈ u_ws RX6 TX6 10, w ∈ wsX6_readFirst := fun w h => List.mem_cons_of_mem _ (List.mem_append_right _ h)
  have hj23 : ∀ (S : CS)  (t0 : Int32)   (H : Heap) (locs : List Loc) (ls : Array Slot), va_P (dC, dI) vwCl (wA cq q S M o) H → va_D A (wA cq q S M o) → va_S A s.heap H locs → lv_has ls 2 [(0, .ref (q 20))] → mX6_readFirst_23 S t0 = some (rr, SS) → W p l e rmX6_readFirst s m args below meth c H locs 0 0 Q (F0 m 23 ls [.int t0, .ref (q 20)]) := by
    intro S t0 H locs ls hP hD hS hl h
    rw [mX6_readFirst_23] at h
    refine pt_20_3 F hinX6 (hts (.fieldLink RX6 22 "CableTester$Text" "state" "I") (mm 3 rfl)) hK hP hD hS dX6_readFirst_23 (fun H locs hP hD hS => ?_)
    refine lv_aload_n hx hb dX6_readFirst_26 rfl (lv_at hl 0 rfl) ?_
    refine va_get (D := (dC, dI)) (ci := 7) (v := .int ((sF S 12 t0).1 14)) (C := RX6) (T := TX6) (N := 10) hx hb hts hinX6 hown hK hP 20 rfl rfl 5 (by decide) (hts (.fieldLink RX6 83 "CableTester$Text" "first" "I") (mm 1 rfl)) (fun _ h9 => h9) rfl dX6_readFirst_27 ?_
    refine lv_if_lt (tgt := 46) hx hb dX6_readFirst_30 (by decide) (fun c2 => ?_) (fun c2 => ?_)
    · replace h := it c2 h
      refine lv_iconst (v := (0 : Int32)) hx hb dX6_readFirst_46 (by decide) ?_
      exact hend _ _ _ _ _ _ h hP hD hS dX6_readFirst_47 (by decide)
    · replace h := ie c2 h
      refine lv_aload_n hx hb dX6_readFirst_33 rfl (lv_at hl 0 rfl) ?_
      refine va_get (D := (dC, dI)) (ci := 7) (v := .int ((sF S 12 t0).1 14)) (C := RX6) (T := TX6) (N := 10) hx hb hts hinX6 hown hK hP 20 rfl rfl 5 (by decide) (hts (.fieldLink RX6 83 "CableTester$Text" "first" "I") (mm 1 rfl)) (fun _ h9 => h9) rfl dX6_readFirst_34 ?_
      refine lv_bipush (v := (8 : Int32)) hx hb dX6_readFirst_37 (by decide) ?_
      refine lv_icmp_ge (tgt := 46) hx hb dX6_readFirst_39 (by decide) (fun c3 => ?_) (fun c3 => ?_)
      · replace h := it c3 h
        refine lv_iconst (v := (0 : Int32)) hx hb dX6_readFirst_46 (by decide) ?_
        exact hend _ _ _ _ _ _ h hP hD hS dX6_readFirst_47 (by decide)
      · replace h := ie c3 h
        refine lv_iconst (v := (1 : Int32)) hx hb dX6_readFirst_42 (by decide) ?_
        refine lv_goto (tgt := 47) hx hb dX6_readFirst_43 (by decide) ?_
        exact hend _ _ _ _ _ _ h hP hD hS dX6_readFirst_47 (by decide)
  rw [mX6_readFirst] at h
  refine lv_aload_n hx hb dX6_readFirst_0 rfl (lv_at hl 0 rfl) ?_
  refine lv_iload_n hx hb dX6_readFirst_1 rfl (lv_at hl 1 rfl) ?_
  refine lv_bipush (v := (48 : Int32)) hx hb dX6_readFirst_2 (by decide) ?_
  refine lv_isub hx hb dX6_readFirst_4 ?_
  refine pt_20_5 F hinX6 (hts (.fieldLink RX6 83 "CableTester$Text" "first" "I") (mm 1 rfl)) hK hP hD hS dX6_readFirst_5 (fun H locs hP hD hS => ?_)
  refine lv_aload_n hx hb dX6_readFirst_8 rfl (lv_at hl 0 rfl) ?_
  refine lv_aload_n hx hb dX6_readFirst_9 rfl (lv_at hl 0 rfl) ?_
  refine va_get (D := (dC, dI)) (ci := 7) (v := .int ((sF S 14 (x1 - (48 : Int32))).1 13)) (C := RX6) (T := TX6) (N := 10) hx hb hts hinX6 hown hK hP 20 rfl rfl 4 (by decide) (hts (.fieldLink RX6 44 "CableTester$Text" "letter" "I") (mm 2 rfl)) (fun _ h9 => h9) rfl dX6_readFirst_10 ?_
  refine lv_bipush (v := (99 : Int32)) hx hb dX6_readFirst_13 (by decide) ?_
  refine lv_icmp_ne (tgt := 22) hx hb dX6_readFirst_15 (by decide) (fun c1 => ?_) (fun c1 => ?_)
  · replace h := ie c1 h
    refine lv_iconst (v := (2 : Int32)) hx hb dX6_readFirst_22 (by decide) ?_
    exact hj23 _ _ _ _ _ hP hD hS (lv_sub hl [0] rfl) h
  · replace h := it c1 h
    refine lv_iconst (v := (3 : Int32)) hx hb dX6_readFirst_18 (by decide) ?_
    refine lv_goto (tgt := 23) hx hb dX6_readFirst_19 (by decide) ?_
    exact hj23 _ _ _ _ _ hP hD hS (lv_sub hl [0] rfl) h
def mX6_readSecond_24  (S : CS)  (t0 : Int32) : Option (Int32 × CS) :=
  (if ((sF S 12 t0).1 15) < (0 : Int32) then (some ((0 : Int32), (sF S 12 t0))) else (if (8 : Int32) ≤ ((sF S 12 t0).1 15) then (some ((0 : Int32), (sF S 12 t0))) else (if ((sF S 12 t0).1 15) = ((sF S 12 t0).1 14) then (some ((0 : Int32), (sF S 12 t0))) else (some ((1 : Int32), (sF S 12 t0))))))
def mX6_readSecond (S : CS) (x1 : Int32) : Option (Int32 × CS) :=
  (if ((sF S 15 (x1 - (48 : Int32))).1 13) = (115 : Int32) then (mX6_readSecond_24 (sF S 15 (x1 - (48 : Int32))) (3 : Int32)) else (mX6_readSecond_24 (sF S 15 (x1 - (48 : Int32))) (7 : Int32)))
abbrev rmX6_readSecond : Room := { frames := 0, cells := 0, slots := 0, locals := 0 }
theorem hdX6_readSecond : yX6_readSecond.cls = RX6 ∧ yX6_readSecond.cls ≠ "java/lang/invoke/MethodHandle" ∧ yX6_readSecond.cls ≠ "java/lang/invoke/VarHandle" ∧ (parseMethodDescriptor yX6_readSecond.desc).map (fun d => d.parameters.length) = some 1 := by decide +kernel
set_option maxRecDepth 100000 in
set_option maxHeartbeats 8000000 in
theorem ctX6_readSecond (l : Launch) (dC : Nat → ClassId) (dI : Nat → Nat → Nat) (cq : Nat → ClassId) (q : Nat → Nat) (S : CS) (M : MS) (o : Nat → Int64) (sz : Nat) (h0 : Nat) (x1 : Int32) (rr : Int32) (SS : CS) (h : mX6_readSecond S x1 = some (rr, SS)) : CtC_i l yX6_readSecond wsX6_readSecond rmX6_readSecond (fun a => h0 ≤ a) (EV h0 q) dC dI cq q S M o sz [.ref (q 20), .int x1] rr SS := by
  refine enC_z (cc := cX6_readSecond) (maxL := 2) (by decide) rfl (Nat.le_of_ble_eq_true rfl) (fun p e s m args below meth c A Q ls F hA hP hK hD hDm hX hS hl hend => ?_)
  obtain ⟨hx, hb, hml, hown, hts⟩ := id F
  have hown : s.vm.findClass RX6 = some m.cls := hown
  have F : CallFix p m c cX6_readSecond 2 s args wsX6_readSecond RX6 := F
  have hl : lv_has ls 2 [(0, .ref (q 20)), (1, .int x1)] := hl
  have hinX6 : ∀ w ∈ u_ws RX6 TX6 10, w ∈ wsX6_readSecond := fun w h => List.mem_cons_of_mem _ (List.mem_append_right _ h)
  have hj24 : ∀ (S : CS)  (t0 : Int32)   (H : Heap) (locs : List Loc) (ls : Array Slot), va_P (dC, dI) vwCl (wA cq q S M o) H → va_D A (wA cq q S M o) → va_S A s.heap H locs → lv_has ls 2 [(0, .ref (q 20))] → mX6_readSecond_24 S t0 = some (rr, SS) → W p l e rmX6_readSecond s m args below meth c H locs 0 0 Q (F0 m 24 ls [.int t0, .ref (q 20)]) := by
    intro S t0 H locs ls hP hD hS hl h
    rw [mX6_readSecond_24] at h
    refine pt_20_3 F hinX6 (hts (.fieldLink RX6 22 "CableTester$Text" "state" "I") (mm 3 rfl)) hK hP hD hS dX6_readSecond_24 (fun H locs hP hD hS => ?_)
    refine lv_aload_n hx hb dX6_readSecond_27 rfl (lv_at hl 0 rfl) ?_
    refine va_get (D := (dC, dI)) (ci := 7) (v := .int ((sF S 12 t0).1 15)) (C := RX6) (T := TX6) (N := 10) hx hb hts hinX6 hown hK hP 20 rfl rfl 6 (by decide) (hts (.fieldLink RX6 74 "CableTester$Text" "second" "I") (mm 1 rfl)) (fun _ h9 => h9) rfl dX6_readSecond_28 ?_
    refine lv_if_lt (tgt := 58) hx hb dX6_readSecond_31 (by decide) (fun c2 => ?_) (fun c2 => ?_)
    · replace h := it c2 h
      refine lv_iconst (v := (0 : Int32)) hx hb dX6_readSecond_58 (by decide) ?_
      exact hend _ _ _ _ _ _ h hP hD hS dX6_readSecond_59 (by decide)
    · replace h := ie c2 h
      refine lv_aload_n hx hb dX6_readSecond_34 rfl (lv_at hl 0 rfl) ?_
      refine va_get (D := (dC, dI)) (ci := 7) (v := .int ((sF S 12 t0).1 15)) (C := RX6) (T := TX6) (N := 10) hx hb hts hinX6 hown hK hP 20 rfl rfl 6 (by decide) (hts (.fieldLink RX6 74 "CableTester$Text" "second" "I") (mm 1 rfl)) (fun _ h9 => h9) rfl dX6_readSecond_35 ?_
      refine lv_bipush (v := (8 : Int32)) hx hb dX6_readSecond_38 (by decide) ?_
      refine lv_icmp_ge (tgt := 58) hx hb dX6_readSecond_40 (by decide) (fun c3 => ?_) (fun c3 => ?_)
      · replace h := it c3 h
        refine lv_iconst (v := (0 : Int32)) hx hb dX6_readSecond_58 (by decide) ?_
        exact hend _ _ _ _ _ _ h hP hD hS dX6_readSecond_59 (by decide)
      · replace h := ie c3 h
        refine lv_aload_n hx hb dX6_readSecond_43 rfl (lv_at hl 0 rfl) ?_
        refine va_get (D := (dC, dI)) (ci := 7) (v := .int ((sF S 12 t0).1 15)) (C := RX6) (T := TX6) (N := 10) hx hb hts hinX6 hown hK hP 20 rfl rfl 6 (by decide) (hts (.fieldLink RX6 74 "CableTester$Text" "second" "I") (mm 1 rfl)) (fun _ h9 => h9) rfl dX6_readSecond_44 ?_
        refine lv_aload_n hx hb dX6_readSecond_47 rfl (lv_at hl 0 rfl) ?_
        refine va_get (D := (dC, dI)) (ci := 7) (v := .int ((sF S 12 t0).1 14)) (C := RX6) (T := TX6) (N := 10) hx hb hts hinX6 hown hK hP 20 rfl rfl 5 (by decide) (hts (.fieldLink RX6 83 "CableTester$Text" "first" "I") (mm 4 rfl)) (fun _ h9 => h9) rfl dX6_readSecond_48 ?_
        refine lv_icmp_eq (tgt := 58) hx hb dX6_readSecond_51 (by decide) (fun c4 => ?_) (fun c4 => ?_)
        · replace h := it c4 h
          refine lv_iconst (v := (0 : Int32)) hx hb dX6_readSecond_58 (by decide) ?_
          exact hend _ _ _ _ _ _ h hP hD hS dX6_readSecond_59 (by decide)
        · replace h := ie c4 h
          refine lv_iconst (v := (1 : Int32)) hx hb dX6_readSecond_54 (by decide) ?_
          refine lv_goto (tgt := 59) hx hb dX6_readSecond_55 (by decide) ?_
          exact hend _ _ _ _ _ _ h hP hD hS dX6_readSecond_59 (by decide)
  rw [mX6_readSecond] at h
  refine lv_aload_n hx hb dX6_readSecond_0 rfl (lv_at hl 0 rfl) ?_
  refine lv_iload_n hx hb dX6_readSecond_1 rfl (lv_at hl 1 rfl) ?_
  refine lv_bipush (v := (48 : Int32)) hx hb dX6_readSecond_2 (by decide) ?_
  refine lv_isub hx hb dX6_readSecond_4 ?_
  refine pt_20_6 F hinX6 (hts (.fieldLink RX6 74 "CableTester$Text" "second" "I") (mm 1 rfl)) hK hP hD hS dX6_readSecond_5 (fun H locs hP hD hS => ?_)
  refine lv_aload_n hx hb dX6_readSecond_8 rfl (lv_at hl 0 rfl) ?_
  refine lv_aload_n hx hb dX6_readSecond_9 rfl (lv_at hl 0 rfl) ?_
  refine va_get (D := (dC, dI)) (ci := 7) (v := .int ((sF S 15 (x1 - (48 : Int32))).1 13)) (C := RX6) (T := TX6) (N := 10) hx hb hts hinX6 hown hK hP 20 rfl rfl 4 (by decide) (hts (.fieldLink RX6 44 "CableTester$Text" "letter" "I") (mm 2 rfl)) (fun _ h9 => h9) rfl dX6_readSecond_10 ?_
  refine lv_bipush (v := (115 : Int32)) hx hb dX6_readSecond_13 (by decide) ?_
  refine lv_icmp_ne (tgt := 22) hx hb dX6_readSecond_15 (by decide) (fun c1 => ?_) (fun c1 => ?_)
  · replace h := ie c1 h
    refine lv_bipush (v := (7 : Int32)) hx hb dX6_readSecond_22 (by decide) ?_
    exact hj24 _ _ _ _ _ hP hD hS (lv_sub hl [0] rfl) h
  · replace h := it c1 h
    refine lv_iconst (v := (3 : Int32)) hx hb dX6_readSecond_18 (by decide) ?_
    refine lv_goto (tgt := 24) hx hb dX6_readSecond_19 (by decide) ?_
    exact hj24 _ _ _ _ _ hP hD hS (lv_sub hl [0] rfl) h
def mX6_readSign (S : CS) (x1 : Int32) : Option (Int32 × CS) :=
  (if x1 = (64 : Int32) then (some ((1 : Int32), (sF S 12 (4 : Int32)))) else (some ((0 : Int32), (sF S 12 (4 : Int32)))))
abbrev rmX6_readSign : Room := { frames := 0, cells := 0, slots := 0, locals := 0 }
theorem hdX6_readSign : yX6_readSign.cls = RX6 ∧ yX6_readSign.cls ≠ "java/lang/invoke/MethodHandle" ∧ yX6_readSign.cls ≠ "java/lang/invoke/VarHandle" ∧ (parseMethodDescriptor yX6_readSign.desc).map (fun d => d.parameters.length) = some 1 := by decide +kernel
set_option maxRecDepth 100000 in
set_option maxHeartbeats 8000000 in
theorem ctX6_readSign (l : Launch) (dC : Nat → ClassId) (dI : Nat → Nat → Nat) (cq : Nat → ClassId) (q : Nat → Nat) (S : CS) (M : MS) (o : Nat → Int64) (sz : Nat) (h0 : Nat) (x1 : Int32) (rr : Int32) (SS : CS) (h : mX6_readSign S x1 = some (rr, SS)) : CtC_i l yX6_readSign wsX6_readSign rmX6_readSign (fun a => h0 ≤ a) (EV h0 q) dC dI cq q S M o sz [.ref (q 20), .int x1] rr SS := by
  refine enC_z (cc := cX6_readSign) (maxL := 2) (by decide) rfl (Nat.le_of_ble_eq_true rfl) (fun p e s m args below meth c A Q ls F hA hP hK hD hDm hX hS hl hend => ?_)
  obtain ⟨hx, hb, hml, hown, hts⟩ := id F
  have hown : s.vm.findClass RX6 = some m.cls := hown
  have F : CallFix p m c cX6_readSign 2 s args wsX6_readSign RX6 := F
  have hl : lv_has ls 2 [(0, .ref (q 20)), (1, .int x1)] := hl
  have hinX6 : ∀ w ∈ u_ws RX6 TX6 10, w ∈ wsX6_readSign := fun w h => List.mem_cons_of_mem _ (List.mem_append_right _ h)
  rw [mX6_readSign] at h
  refine lv_aload_n hx hb dX6_readSign_0 rfl (lv_at hl 0 rfl) ?_
  refine lv_iconst (v := (4 : Int32)) hx hb dX6_readSign_1 (by decide) ?_
  refine pt_20_3 F hinX6 (hts (.fieldLink RX6 22 "CableTester$Text" "state" "I") (mm 1 rfl)) hK hP hD hS dX6_readSign_2 (fun H locs hP hD hS => ?_)
  refine lv_iload_n hx hb dX6_readSign_5 rfl (lv_at hl 1 rfl) ?_
  refine lv_bipush (v := (64 : Int32)) hx hb dX6_readSign_6 (by decide) ?_
  refine lv_icmp_ne (tgt := 15) hx hb dX6_readSign_8 (by decide) (fun c1 => ?_) (fun c1 => ?_)
  · replace h := ie c1 h
    refine lv_iconst (v := (0 : Int32)) hx hb dX6_readSign_15 (by decide) ?_
    exact hend _ _ _ _ _ _ h hP hD hS dX6_readSign_16 (by decide)
  · replace h := it c1 h
    refine lv_iconst (v := (1 : Int32)) hx hb dX6_readSign_11 (by decide) ?_
    refine lv_goto (tgt := 16) hx hb dX6_readSign_12 (by decide) ?_
    exact hend _ _ _ _ _ _ h hP hD hS dX6_readSign_16 (by decide)
def mX6_longerNumber (x0 : Int32) (x1 : Int32) (x2 : Int32) : Option (Int32) :=
  (if x1 < (48 : Int32) then (some (-1 : Int32)) else (if x1 ≤ (57 : Int32) then (if ((((10 : Int32) * x0) + x1) - (48 : Int32)) < (1 : Int32) then (some (-1 : Int32)) else (if x2 < ((((10 : Int32) * x0) + x1) - (48 : Int32)) then (some (-1 : Int32)) else (some ((((10 : Int32) * x0) + x1) - (48 : Int32))))) else (some (-1 : Int32))))
abbrev rmX6_longerNumber : Room := { frames := 0, cells := 0, slots := 0, locals := 0 }
theorem hdX6_longerNumber : yX6_longerNumber.cls ≠ "java/lang/invoke/MethodHandle" ∧ yX6_longerNumber.cls ≠ "java/lang/invoke/VarHandle" ∧ (parseMethodDescriptor yX6_longerNumber.desc).map (fun d => d.parameters.length) = some 3 := by decide +kernel
set_option maxRecDepth 100000 in
set_option maxHeartbeats 8000000 in
theorem ctX6_longerNumber (l : Launch) (dC : Nat → ClassId) (dI : Nat → Nat → Nat) (cq : Nat → ClassId) (q : Nat → Nat) (S : CS) (M : MS) (o : Nat → Int64) (sz : Nat) (h0 : Nat) (x0 : Int32) (x1 : Int32) (x2 : Int32) (rr : Int32) (h : mX6_longerNumber x0 x1 x2 = some rr) : CtR_i l yX6_longerNumber wsX6_longerNumber rmX6_longerNumber (fun a => h0 ≤ a) (EV h0 q) dC dI cq q S M o sz [.int x0, .int x1, .int x2] rr := by
  refine enR_i (cc := cX6_longerNumber) (maxL := 4) (by decide) rfl (Nat.le_of_ble_eq_true rfl) (fun p e s m args below meth c A Q ls F hA hP hK hD hDm hX hS hl hend => ?_)
  obtain ⟨hx, hb, hml, hown, hts⟩ := id F
  have hown : s.vm.findClass RX6 = some m.cls := hown
  have F : CallFix p m c cX6_longerNumber 4 s args wsX6_longerNumber RX6 := F
  have hl : lv_has ls 4 [(0, .int x0), (1, .int x1), (2, .int x2)] := hl
  rw [mX6_longerNumber] at h
  refine lv_iload_n hx hb dX6_longerNumber_0 rfl (lv_at hl 1 rfl) ?_
  refine lv_bipush (v := (48 : Int32)) hx hb dX6_longerNumber_1 (by decide) ?_
  refine lv_icmp_lt (tgt := 12) hx hb dX6_longerNumber_3 (by decide) (fun c1 => ?_) (fun c1 => ?_)
  · replace h := it c1 h
    refine lv_iconst (v := (-1 : Int32)) hx hb dX6_longerNumber_12 (by decide) ?_
    exact hend _ _ _ _ _ h hP hD hS dX6_longerNumber_13
  · replace h := ie c1 h
    refine lv_iload_n hx hb dX6_longerNumber_6 rfl (lv_at hl 1 rfl) ?_
    refine lv_bipush (v := (57 : Int32)) hx hb dX6_longerNumber_7 (by decide) ?_
    refine lv_icmp_le (tgt := 14) hx hb dX6_longerNumber_9 (by decide) (fun c2 => ?_) (fun c2 => ?_)
    · replace h := it c2 h
      refine lv_bipush (v := (10 : Int32)) hx hb dX6_longerNumber_14 (by decide) ?_
      refine lv_iload_n hx hb dX6_longerNumber_16 rfl (lv_at hl 0 rfl) ?_
      refine lv_imul hx hb dX6_longerNumber_17 ?_
      refine lv_iload_n hx hb dX6_longerNumber_18 rfl (lv_at hl 1 rfl) ?_
      refine lv_iadd hx hb dX6_longerNumber_19 ?_
      refine lv_bipush (v := (48 : Int32)) hx hb dX6_longerNumber_20 (by decide) ?_
      refine lv_isub hx hb dX6_longerNumber_22 ?_
      refine lv_istore_n (lv' := [(3, .int ((((10 : Int32) * x0) + x1) - (48 : Int32))), (0, .int x0), (1, .int x1), (2, .int x2)]) hx hb dX6_longerNumber_23 rfl hl (by decide) rfl (fun ls hl => ?_)
      refine lv_iload_n hx hb dX6_longerNumber_24 rfl (lv_at hl 0 rfl) ?_
      refine lv_iconst (v := (1 : Int32)) hx hb dX6_longerNumber_25 (by decide) ?_
      refine lv_icmp_lt (tgt := 38) hx hb dX6_longerNumber_26 (by decide) (fun c3 => ?_) (fun c3 => ?_)
      · replace h := it c3 h
        refine lv_iconst (v := (-1 : Int32)) hx hb dX6_longerNumber_38 (by decide) ?_
        exact hend _ _ _ _ _ h hP hD hS dX6_longerNumber_39
      · replace h := ie c3 h
        refine lv_iload_n hx hb dX6_longerNumber_29 rfl (lv_at hl 0 rfl) ?_
        refine lv_iload_n hx hb dX6_longerNumber_30 rfl (lv_at hl 3 rfl) ?_
        refine lv_icmp_gt (tgt := 38) hx hb dX6_longerNumber_31 (by decide) (fun c4 => ?_) (fun c4 => ?_)
        · replace h := it c4 h
          refine lv_iconst (v := (-1 : Int32)) hx hb dX6_longerNumber_38 (by decide) ?_
          exact hend _ _ _ _ _ h hP hD hS dX6_longerNumber_39
        · replace h := ie c4 h
          refine lv_iload_n hx hb dX6_longerNumber_34 rfl (lv_at hl 0 rfl) ?_
          refine lv_goto (tgt := 39) hx hb dX6_longerNumber_35 (by decide) ?_
          exact hend _ _ _ _ _ h hP hD hS dX6_longerNumber_39
    · replace h := ie c2 h
      refine lv_iconst (v := (-1 : Int32)) hx hb dX6_longerNumber_12 (by decide) ?_
      exact hend _ _ _ _ _ h hP hD hS dX6_longerNumber_13
def mX6_readPlace_30  (S : CS) (x1 : Int32)  : Option (Int32 × CS) :=
  (bn (mX6_longerNumber (S.1 16) x1 (998 : Int32)) fun r2 => (if ((sF S 16 r2).1 16) = (-1 : Int32) then (some ((0 : Int32), (sF S 16 r2))) else (some ((1 : Int32), (sF S 16 r2)))))
def mX6_readPlace (S : CS) (x1 : Int32) : Option (Int32 × CS) :=
  (if x1 = (47 : Int32) then (if (S.1 16) ≤ (0 : Int32) then (mX6_readPlace_30 S x1) else (some ((1 : Int32), (sF (sF (sF S 12 (5 : Int32)) 17 (0 : Int32)) 18 (0 : Int32))))) else (mX6_readPlace_30 S x1))
abbrev rmX6_readPlace : Room := { frames := 1, cells := 0, slots := 0, locals := 23 }
theorem hdX6_readPlace : yX6_readPlace.cls = RX6 ∧ yX6_readPlace.cls ≠ "java/lang/invoke/MethodHandle" ∧ yX6_readPlace.cls ≠ "java/lang/invoke/VarHandle" ∧ (parseMethodDescriptor yX6_readPlace.desc).map (fun d => d.parameters.length) = some 1 := by decide +kernel
set_option maxRecDepth 100000 in
set_option maxHeartbeats 8000000 in
theorem ctX6_readPlace (l : Launch) (dC : Nat → ClassId) (dI : Nat → Nat → Nat) (cq : Nat → ClassId) (q : Nat → Nat) (S : CS) (M : MS) (o : Nat → Int64) (sz : Nat) (h0 : Nat) (x1 : Int32) (rr : Int32) (SS : CS) (h : mX6_readPlace S x1 = some (rr, SS)) : CtC_i l yX6_readPlace wsX6_readPlace rmX6_readPlace (fun a => h0 ≤ a) (EV h0 q) dC dI cq q S M o sz [.ref (q 20), .int x1] rr SS := by
  refine enC_z (cc := cX6_readPlace) (maxL := 2) (by decide) rfl (Nat.le_of_ble_eq_true rfl) (fun p e s m args below meth c A Q ls F hA hP hK hD hDm hX hS hl hend => ?_)
  obtain ⟨hx, hb, hml, hown, hts⟩ := id F
  have hown : s.vm.findClass RX6 = some m.cls := hown
  have F : CallFix p m c cX6_readPlace 2 s args wsX6_readPlace RX6 := F
  have hl : lv_has ls 2 [(0, .ref (q 20)), (1, .int x1)] := hl
  have hinX6 : ∀ w ∈ u_ws RX6 TX6 10, w ∈ wsX6_readPlace := fun w h => List.mem_cons_of_mem _ (List.mem_append_right _ h)
  have hj30 : ∀ (S : CS) (x1 : Int32)    (H : Heap) (locs : List Loc) (ls : Array Slot), va_P (dC, dI) vwCl (wA cq q S M o) H → va_D A (wA cq q S M o) → va_S A s.heap H locs → lv_has ls 2 [(0, .ref (q 20)), (1, .int x1)] → mX6_readPlace_30 S x1 = some (rr, SS) → W p l e rmX6_readPlace s m args below meth c H locs 0 0 Q (F0 m 30 ls []) := by
    intro S x1 H locs ls hP hD hS hl h
    rw [mX6_readPlace_30] at h
    refine lv_aload_n hx hb dX6_readPlace_30 rfl (lv_at hl 0 rfl) ?_
    refine lv_aload_n hx hb dX6_readPlace_31 rfl (lv_at hl 0 rfl) ?_
    refine va_get (D := (dC, dI)) (ci := 7) (v := .int (S.1 16)) (C := RX6) (T := TX6) (N := 10) hx hb hts hinX6 hown hK hP 20 rfl rfl 7 (by decide) (hts (.fieldLink RX6 47 "CableTester$Text" "place" "I") (mm 1 rfl)) (fun _ h9 => h9) rfl dX6_readPlace_32 ?_
    refine lv_iload_n hx hb dX6_readPlace_35 rfl (lv_at hl 1 rfl) ?_
    refine lv_sipush (v := (998 : Int32)) hx hb dX6_readPlace_36 (by decide) ?_
    obtain ⟨r2, e3, h⟩ := bo h
    refine caSR_i (As := [.int (S.1 16), .int x1, .int (998 : Int32)]) (rest := [.ref (q 20)]) (ctX6_longerNumber l dC dI cq q S M o _ _ _ _ _ _ e3) F (va_cwS 3 hts gX6_readPlace_X6_longerNumber rfl rfl rfl hdX6_longerNumber ⟨Nat.le_of_ble_eq_true rfl, Nat.le_of_ble_eq_true rfl⟩) hK hP hD hDm hS hA EV.blind (fun U hU hW => EV.call hX hS hDm hU hW) rfl hl.1 rfl (Nat.le_of_ble_eq_true rfl) dX6_readPlace_39 ⟨Nat.zero_le _, Nat.zero_le _⟩ (fun H locs hP hD hS => ?_)
    refine pt_20_7 F hinX6 (hts (.fieldLink RX6 47 "CableTester$Text" "place" "I") (mm 1 rfl)) hK hP hD hS dX6_readPlace_42 (fun H locs hP hD hS => ?_)
    refine lv_aload_n hx hb dX6_readPlace_45 rfl (lv_at hl 0 rfl) ?_
    refine va_get (D := (dC, dI)) (ci := 7) (v := .int ((sF S 16 r2).1 16)) (C := RX6) (T := TX6) (N := 10) hx hb hts hinX6 hown hK hP 20 rfl rfl 7 (by decide) (hts (.fieldLink RX6 47 "CableTester$Text" "place" "I") (mm 1 rfl)) (fun _ h9 => h9) rfl dX6_readPlace_46 ?_
    refine lv_iconst (v := (-1 : Int32)) hx hb dX6_readPlace_49 (by decide) ?_
    refine lv_icmp_eq (tgt := 57) hx hb dX6_readPlace_50 (by decide) (fun c4 => ?_) (fun c4 => ?_)
    · replace h := it c4 h
      refine lv_iconst (v := (0 : Int32)) hx hb dX6_readPlace_57 (by decide) ?_
      exact hend _ _ _ _ _ _ h hP hD hS dX6_readPlace_58 (by decide)
    · replace h := ie c4 h
      refine lv_iconst (v := (1 : Int32)) hx hb dX6_readPlace_53 (by decide) ?_
      refine lv_goto (tgt := 58) hx hb dX6_readPlace_54 (by decide) ?_
      exact hend _ _ _ _ _ _ h hP hD hS dX6_readPlace_58 (by decide)
  rw [mX6_readPlace] at h
  refine lv_iload_n hx hb dX6_readPlace_0 rfl (lv_at hl 1 rfl) ?_
  refine lv_bipush (v := (47 : Int32)) hx hb dX6_readPlace_1 (by decide) ?_
  refine lv_icmp_ne (tgt := 30) hx hb dX6_readPlace_3 (by decide) (fun c1 => ?_) (fun c1 => ?_)
  · replace h := ie c1 h
    exact hj30 _ _ _ _ _ hP hD hS (lv_sub hl [0, 1] rfl) h
  · replace h := it c1 h
    refine lv_aload_n hx hb dX6_readPlace_6 rfl (lv_at hl 0 rfl) ?_
    refine va_get (D := (dC, dI)) (ci := 7) (v := .int (S.1 16)) (C := RX6) (T := TX6) (N := 10) hx hb hts hinX6 hown hK hP 20 rfl rfl 7 (by decide) (hts (.fieldLink RX6 47 "CableTester$Text" "place" "I") (mm 1 rfl)) (fun _ h9 => h9) rfl dX6_readPlace_7 ?_
    refine lv_if_le (tgt := 30) hx hb dX6_readPlace_10 (by decide) (fun c5 => ?_) (fun c5 => ?_)
    · replace h := it c5 h
      exact hj30 _ _ _ _ _ hP hD hS (lv_sub hl [0, 1] rfl) h
    · replace h := ie c5 h
      refine lv_aload_n hx hb dX6_readPlace_13 rfl (lv_at hl 0 rfl) ?_
      refine lv_iconst (v := (5 : Int32)) hx hb dX6_readPlace_14 (by decide) ?_
      refine pt_20_3 F hinX6 (hts (.fieldLink RX6 22 "CableTester$Text" "state" "I") (mm 2 rfl)) hK hP hD hS dX6_readPlace_15 (fun H locs hP hD hS => ?_)
      refine lv_aload_n hx hb dX6_readPlace_18 rfl (lv_at hl 0 rfl) ?_
      refine lv_iconst (v := (0 : Int32)) hx hb dX6_readPlace_19 (by decide) ?_
      refine pt_20_8 F hinX6 (hts (.fieldLink RX6 77 "CableTester$Text" "period" "I") (mm 3 rfl)) hK hP hD hS dX6_readPlace_20 (fun H locs hP hD hS => ?_)
      refine lv_aload_n hx hb dX6_readPlace_23 rfl (lv_at hl 0 rfl) ?_
      refine lv_iconst (v := (0 : Int32)) hx hb dX6_readPlace_24 (by decide) ?_
      refine pt_20_9 F hinX6 (hts (.fieldLink RX6 50 "CableTester$Text" "duration" "I") (mm 4 rfl)) hK hP hD hS dX6_readPlace_25 (fun H locs hP hD hS => ?_)
      refine lv_iconst (v := (1 : Int32)) hx hb dX6_readPlace_28 (by decide) ?_
      exact hend _ _ _ _ _ _ h hP hD hS dX6_readPlace_29 (by decide)
def mX6_readPeriod_21  (S : CS) (x1 : Int32)  : Option (Int32 × CS) :=
  (bn (mX6_longerNumber (S.1 17) x1 (32 : Int32)) fun r2 => (if ((sF S 17 r2).1 17) = (-1 : Int32) then (some ((0 : Int32), (sF S 17 r2))) else (some ((1 : Int32), (sF S 17 r2)))))
def mX6_readPeriod (S : CS) (x1 : Int32) : Option (Int32 × CS) :=
  (if x1 = (58 : Int32) then (if (S.1 17) ≤ (0 : Int32) then (mX6_readPeriod_21 S x1) else (some ((1 : Int32), (sF S 12 (6 : Int32))))) else (mX6_readPeriod_21 S x1))
abbrev rmX6_readPeriod : Room := { frames := 1, cells := 0, slots := 0, locals := 23 }
theorem hdX6_readPeriod : yX6_readPeriod.cls = RX6 ∧ yX6_readPeriod.cls ≠ "java/lang/invoke/MethodHandle" ∧ yX6_readPeriod.cls ≠ "java/lang/invoke/VarHandle" ∧ (parseMethodDescriptor yX6_readPeriod.desc).map (fun d => d.parameters.length) = some 1 := by decide +kernel
set_option maxRecDepth 100000 in
set_option maxHeartbeats 8000000 in
theorem ctX6_readPeriod (l : Launch) (dC : Nat → ClassId) (dI : Nat → Nat → Nat) (cq : Nat → ClassId) (q : Nat → Nat) (S : CS) (M : MS) (o : Nat → Int64) (sz : Nat) (h0 : Nat) (x1 : Int32) (rr : Int32) (SS : CS) (h : mX6_readPeriod S x1 = some (rr, SS)) : CtC_i l yX6_readPeriod wsX6_readPeriod rmX6_readPeriod (fun a => h0 ≤ a) (EV h0 q) dC dI cq q S M o sz [.ref (q 20), .int x1] rr SS := by
  refine enC_z (cc := cX6_readPeriod) (maxL := 2) (by decide) rfl (Nat.le_of_ble_eq_true rfl) (fun p e s m args below meth c A Q ls F hA hP hK hD hDm hX hS hl hend => ?_)
  obtain ⟨hx, hb, hml, hown, hts⟩ := id F
  have hown : s.vm.findClass RX6 = some m.cls := hown
  have F : CallFix p m c cX6_readPeriod 2 s args wsX6_readPeriod RX6 := F
  have hl : lv_has ls 2 [(0, .ref (q 20)), (1, .int x1)] := hl
  have hinX6 : ∀ w ∈ u_ws RX6 TX6 10, w ∈ wsX6_readPeriod := fun w h => List.mem_cons_of_mem _ (List.mem_append_right _ h)
  have hj21 : ∀ (S : CS) (x1 : Int32)    (H : Heap) (locs : List Loc) (ls : Array Slot), va_P (dC, dI) vwCl (wA cq q S M o) H → va_D A (wA cq q S M o) → va_S A s.heap H locs → lv_has ls 2 [(0, .ref (q 20)), (1, .int x1)] → mX6_readPeriod_21 S x1 = some (rr, SS) → W p l e rmX6_readPeriod s m args below meth c H locs 0 0 Q (F0 m 21 ls []) := by
    intro S x1 H locs ls hP hD hS hl h
    rw [mX6_readPeriod_21] at h
    refine lv_aload_n hx hb dX6_readPeriod_21 rfl (lv_at hl 0 rfl) ?_
    refine lv_aload_n hx hb dX6_readPeriod_22 rfl (lv_at hl 0 rfl) ?_
    refine va_get (D := (dC, dI)) (ci := 7) (v := .int (S.1 17)) (C := RX6) (T := TX6) (N := 10) hx hb hts hinX6 hown hK hP 20 rfl rfl 8 (by decide) (hts (.fieldLink RX6 77 "CableTester$Text" "period" "I") (mm 1 rfl)) (fun _ h9 => h9) rfl dX6_readPeriod_23 ?_
    refine lv_iload_n hx hb dX6_readPeriod_26 rfl (lv_at hl 1 rfl) ?_
    refine lv_bipush (v := (32 : Int32)) hx hb dX6_readPeriod_27 (by decide) ?_
    obtain ⟨r2, e3, h⟩ := bo h
    refine caSR_i (As := [.int (S.1 17), .int x1, .int (32 : Int32)]) (rest := [.ref (q 20)]) (ctX6_longerNumber l dC dI cq q S M o _ _ _ _ _ _ e3) F (va_cwS 3 hts gX6_readPeriod_X6_longerNumber rfl rfl rfl hdX6_longerNumber ⟨Nat.le_of_ble_eq_true rfl, Nat.le_of_ble_eq_true rfl⟩) hK hP hD hDm hS hA EV.blind (fun U hU hW => EV.call hX hS hDm hU hW) rfl hl.1 rfl (Nat.le_of_ble_eq_true rfl) dX6_readPeriod_29 ⟨Nat.zero_le _, Nat.zero_le _⟩ (fun H locs hP hD hS => ?_)
    refine pt_20_8 F hinX6 (hts (.fieldLink RX6 77 "CableTester$Text" "period" "I") (mm 1 rfl)) hK hP hD hS dX6_readPeriod_32 (fun H locs hP hD hS => ?_)
    refine lv_aload_n hx hb dX6_readPeriod_35 rfl (lv_at hl 0 rfl) ?_
    refine va_get (D := (dC, dI)) (ci := 7) (v := .int ((sF S 17 r2).1 17)) (C := RX6) (T := TX6) (N := 10) hx hb hts hinX6 hown hK hP 20 rfl rfl 8 (by decide) (hts (.fieldLink RX6 77 "CableTester$Text" "period" "I") (mm 1 rfl)) (fun _ h9 => h9) rfl dX6_readPeriod_36 ?_
    refine lv_iconst (v := (-1 : Int32)) hx hb dX6_readPeriod_39 (by decide) ?_
    refine lv_icmp_eq (tgt := 47) hx hb dX6_readPeriod_40 (by decide) (fun c4 => ?_) (fun c4 => ?_)
    · replace h := it c4 h
      refine lv_iconst (v := (0 : Int32)) hx hb dX6_readPeriod_47 (by decide) ?_
      exact hend _ _ _ _ _ _ h hP hD hS dX6_readPeriod_48 (by decide)
    · replace h := ie c4 h
      refine lv_iconst (v := (1 : Int32)) hx hb dX6_readPeriod_43 (by decide) ?_
      refine lv_goto (tgt := 48) hx hb dX6_readPeriod_44 (by decide) ?_
      exact hend _ _ _ _ _ _ h hP hD hS dX6_readPeriod_48 (by decide)
  rw [mX6_readPeriod] at h
  refine lv_iload_n hx hb dX6_readPeriod_0 rfl (lv_at hl 1 rfl) ?_
  refine lv_bipush (v := (58 : Int32)) hx hb dX6_readPeriod_1 (by decide) ?_
  refine lv_icmp_ne (tgt := 21) hx hb dX6_readPeriod_3 (by decide) (fun c1 => ?_) (fun c1 => ?_)
  · replace h := ie c1 h
    exact hj21 _ _ _ _ _ hP hD hS (lv_sub hl [0, 1] rfl) h
  · replace h := it c1 h
    refine lv_aload_n hx hb dX6_readPeriod_6 rfl (lv_at hl 0 rfl) ?_
    refine va_get (D := (dC, dI)) (ci := 7) (v := .int (S.1 17)) (C := RX6) (T := TX6) (N := 10) hx hb hts hinX6 hown hK hP 20 rfl rfl 8 (by decide) (hts (.fieldLink RX6 77 "CableTester$Text" "period" "I") (mm 1 rfl)) (fun _ h9 => h9) rfl dX6_readPeriod_7 ?_
    refine lv_if_le (tgt := 21) hx hb dX6_readPeriod_10 (by decide) (fun c5 => ?_) (fun c5 => ?_)
    · replace h := it c5 h
      exact hj21 _ _ _ _ _ hP hD hS (lv_sub hl [0, 1] rfl) h
    · replace h := ie c5 h
      refine lv_aload_n hx hb dX6_readPeriod_13 rfl (lv_at hl 0 rfl) ?_
      refine lv_bipush (v := (6 : Int32)) hx hb dX6_readPeriod_14 (by decide) ?_
      refine pt_20_3 F hinX6 (hts (.fieldLink RX6 22 "CableTester$Text" "state" "I") (mm 2 rfl)) hK hP hD hS dX6_readPeriod_16 (fun H locs hP hD hS => ?_)
      refine lv_iconst (v := (1 : Int32)) hx hb dX6_readPeriod_19 (by decide) ?_
      exact hend _ _ _ _ _ _ h hP hD hS dX6_readPeriod_20 (by decide)
def mX6_readDuration (S : CS) (x1 : Int32) : Option (Int32 × CS) :=
  (bn (mX6_longerNumber (S.1 18) x1 (S.1 17)) fun r1 => (if ((sF S 18 r1).1 18) = (-1 : Int32) then (some ((0 : Int32), (sF S 18 r1))) else (some ((1 : Int32), (sF S 18 r1)))))
abbrev rmX6_readDuration : Room := { frames := 1, cells := 0, slots := 0, locals := 23 }
theorem hdX6_readDuration : yX6_readDuration.cls = RX6 ∧ yX6_readDuration.cls ≠ "java/lang/invoke/MethodHandle" ∧ yX6_readDuration.cls ≠ "java/lang/invoke/VarHandle" ∧ (parseMethodDescriptor yX6_readDuration.desc).map (fun d => d.parameters.length) = some 1 := by decide +kernel
set_option maxRecDepth 100000 in
set_option maxHeartbeats 8000000 in
theorem ctX6_readDuration (l : Launch) (dC : Nat → ClassId) (dI : Nat → Nat → Nat) (cq : Nat → ClassId) (q : Nat → Nat) (S : CS) (M : MS) (o : Nat → Int64) (sz : Nat) (h0 : Nat) (x1 : Int32) (rr : Int32) (SS : CS) (h : mX6_readDuration S x1 = some (rr, SS)) : CtC_i l yX6_readDuration wsX6_readDuration rmX6_readDuration (fun a => h0 ≤ a) (EV h0 q) dC dI cq q S M o sz [.ref (q 20), .int x1] rr SS := by
  refine enC_z (cc := cX6_readDuration) (maxL := 2) (by decide) rfl (Nat.le_of_ble_eq_true rfl) (fun p e s m args below meth c A Q ls F hA hP hK hD hDm hX hS hl hend => ?_)
  obtain ⟨hx, hb, hml, hown, hts⟩ := id F
  have hown : s.vm.findClass RX6 = some m.cls := hown
  have F : CallFix p m c cX6_readDuration 2 s args wsX6_readDuration RX6 := F
  have hl : lv_has ls 2 [(0, .ref (q 20)), (1, .int x1)] := hl
  have hinX6 : ∀ w ∈ u_ws RX6 TX6 10, w ∈ wsX6_readDuration := fun w h => List.mem_cons_of_mem _ (List.mem_append_right _ h)
  rw [mX6_readDuration] at h
  refine lv_aload_n hx hb dX6_readDuration_0 rfl (lv_at hl 0 rfl) ?_
  refine lv_aload_n hx hb dX6_readDuration_1 rfl (lv_at hl 0 rfl) ?_
  refine va_get (D := (dC, dI)) (ci := 7) (v := .int (S.1 18)) (C := RX6) (T := TX6) (N := 10) hx hb hts hinX6 hown hK hP 20 rfl rfl 9 (by decide) (hts (.fieldLink RX6 50 "CableTester$Text" "duration" "I") (mm 1 rfl)) (fun _ h9 => h9) rfl dX6_readDuration_2 ?_
  refine lv_iload_n hx hb dX6_readDuration_5 rfl (lv_at hl 1 rfl) ?_
  refine lv_aload_n hx hb dX6_readDuration_6 rfl (lv_at hl 0 rfl) ?_
  refine va_get (D := (dC, dI)) (ci := 7) (v := .int (S.1 17)) (C := RX6) (T := TX6) (N := 10) hx hb hts hinX6 hown hK hP 20 rfl rfl 8 (by decide) (hts (.fieldLink RX6 77 "CableTester$Text" "period" "I") (mm 2 rfl)) (fun _ h9 => h9) rfl dX6_readDuration_7 ?_
  obtain ⟨r1, e2, h⟩ := bo h
  refine caSR_i (As := [.int (S.1 18), .int x1, .int (S.1 17)]) (rest := [.ref (q 20)]) (ctX6_longerNumber l dC dI cq q S M o _ _ _ _ _ _ e2) F (va_cwS 3 hts gX6_readDuration_X6_longerNumber rfl rfl rfl hdX6_longerNumber ⟨Nat.le_of_ble_eq_true rfl, Nat.le_of_ble_eq_true rfl⟩) hK hP hD hDm hS hA EV.blind (fun U hU hW => EV.call hX hS hDm hU hW) rfl hl.1 rfl (Nat.le_of_ble_eq_true rfl) dX6_readDuration_10 ⟨Nat.zero_le _, Nat.zero_le _⟩ (fun H locs hP hD hS => ?_)
  refine pt_20_9 F hinX6 (hts (.fieldLink RX6 50 "CableTester$Text" "duration" "I") (mm 1 rfl)) hK hP hD hS dX6_readDuration_13 (fun H locs hP hD hS => ?_)
  refine lv_aload_n hx hb dX6_readDuration_16 rfl (lv_at hl 0 rfl) ?_
  refine va_get (D := (dC, dI)) (ci := 7) (v := .int ((sF S 18 r1).1 18)) (C := RX6) (T := TX6) (N := 10) hx hb hts hinX6 hown hK hP 20 rfl rfl 9 (by decide) (hts (.fieldLink RX6 50 "CableTester$Text" "duration" "I") (mm 1 rfl)) (fun _ h9 => h9) rfl dX6_readDuration_17 ?_
  refine lv_iconst (v := (-1 : Int32)) hx hb dX6_readDuration_20 (by decide) ?_
  refine lv_icmp_eq (tgt := 28) hx hb dX6_readDuration_21 (by decide) (fun c3 => ?_) (fun c3 => ?_)
  · replace h := it c3 h
    refine lv_iconst (v := (0 : Int32)) hx hb dX6_readDuration_28 (by decide) ?_
    exact hend _ _ _ _ _ _ h hP hD hS dX6_readDuration_29 (by decide)
  · replace h := ie c3 h
    refine lv_iconst (v := (1 : Int32)) hx hb dX6_readDuration_24 (by decide) ?_
    refine lv_goto (tgt := 29) hx hb dX6_readDuration_25 (by decide) ?_
    exact hend _ _ _ _ _ _ h hP hD hS dX6_readDuration_29 (by decide)
def mX6_read (S : CS) (x1 : Int32) : Option (Int32 × CS) :=
  (if x1 = (59 : Int32) then (bn (mX6_isItemWhole S) fun r37 => (if bz r37 then (some (r37, (sF S 12 (0 : Int32)))) else none)) else (if (S.1 12) = (0 : Int32) then (bm (mX6_readLetter S x1) fun r3 S5 => (if bz r3 then (some (r3, S5)) else none)) else (if (S.1 12) = (1 : Int32) then (bm (mX6_readFirst S x1) fun r8 S10 => (if bz r8 then (some (r8, S10)) else none)) else (if (S.1 12) = (2 : Int32) then (bm (mX6_readSecond S x1) fun r13 S15 => (if bz r13 then (some (r13, S15)) else none)) else (if (S.1 12) = (3 : Int32) then (bm (mX6_readSign S x1) fun r18 S20 => (if bz r18 then (some (r18, S20)) else none)) else (if (S.1 12) = (4 : Int32) then (bm (mX6_readPlace S x1) fun r23 S25 => (if bz r23 then (some (r23, S25)) else none)) else (if (S.1 12) = (5 : Int32) then (bm (mX6_readPeriod S x1) fun r28 S30 => (if bz r28 then (some (r28, S30)) else none)) else (if (S.1 12) = (6 : Int32) then (bm (mX6_readDuration S x1) fun r33 S35 => (if bz r33 then (some (r33, S35)) else none)) else (some ((0 : Int32), S))))))))))
abbrev rmX6_read : Room := { frames := 2, cells := 0, slots := 0, locals := 44 }
theorem hdX6_read : yX6_read.cls = RX6 ∧ yX6_read.cls ≠ "java/lang/invoke/MethodHandle" ∧ yX6_read.cls ≠ "java/lang/invoke/VarHandle" ∧ (parseMethodDescriptor yX6_read.desc).map (fun d => d.parameters.length) = some 1 := by decide +kernel
set_option maxRecDepth 100000 in
set_option maxHeartbeats 8000000 in
theorem ctX6_read (l : Launch) (dC : Nat → ClassId) (dI : Nat → Nat → Nat) (cq : Nat → ClassId) (q : Nat → Nat) (S : CS) (M : MS) (o : Nat → Int64) (sz : Nat) (h0 : Nat) (x1 : Int32) (rr : Int32) (SS : CS) (h : mX6_read S x1 = some (rr, SS)) : CtC_i l yX6_read wsX6_read rmX6_read (fun a => h0 ≤ a) (EV h0 q) dC dI cq q S M o sz [.ref (q 20), .int x1] rr SS := by
  refine enC_z (cc := cX6_read) (maxL := 3) (by decide) rfl (Nat.le_of_ble_eq_true rfl) (fun p e s m args below meth c A Q ls F hA hP hK hD hDm hX hS hl hend => ?_)
  obtain ⟨hx, hb, hml, hown, hts⟩ := id F
  have hown : s.vm.findClass RX6 = some m.cls := hown
  have F : CallFix p m c cX6_read 3 s args wsX6_read RX6 := F
  have hl : lv_has ls 3 [(0, .ref (q 20)), (1, .int x1)] := hl
  have hinX6 : ∀ w ∈ u_ws RX6 TX6 10, w ∈ wsX6_read := fun w h => List.mem_cons_of_mem _ (List.mem_append_right _ h)
  rw [mX6_read] at h
  refine lv_iload_n hx hb dX6_read_0 rfl (lv_at hl 1 rfl) ?_
  refine lv_bipush (v := (59 : Int32)) hx hb dX6_read_1 (by decide) ?_
  refine lv_icmp_ne (tgt := 18) hx hb dX6_read_3 (by decide) (fun c1 => ?_) (fun c1 => ?_)
  · replace h := ie c1 h
    refine lv_aload_n hx hb dX6_read_18 rfl (lv_at hl 0 rfl) ?_
    refine va_get (D := (dC, dI)) (ci := 7) (v := .int (S.1 12)) (C := RX6) (T := TX6) (N := 10) hx hb hts hinX6 hown hK hP 20 rfl rfl 3 (by decide) (hts (.fieldLink RX6 22 "CableTester$Text" "state" "I") (mm 1 rfl)) (fun _ h9 => h9) rfl dX6_read_19 ?_
    by_cases c2 : (S.1 12) = (0 : Int32)
    · replace h := it c2 h
      refine lv_tableIn (tgt := 64) (off := 42) hx hb dX6_read_22 (by rw [c2]; decide) (by rw [c2]; decide) (by rw [c2]; decide) (by decide) ?_
      refine lv_aload_n hx hb dX6_read_64 rfl (lv_at hl 0 rfl) ?_
      refine lv_iload_n hx hb dX6_read_65 rfl (lv_at hl 1 rfl) ?_
      obtain ⟨r3, S5, e4, h⟩ := bp h
      refine caVC_i (As := [.int x1]) (rest := []) (ctX6_readLetter l dC dI cq q S M o _ _ _ _ _ e4) F (cwV 1 hts gX6_read_X6_readLetter rfl rfl rfl hdX6_readLetter ⟨Nat.le_of_ble_eq_true rfl, Nat.le_of_ble_eq_true rfl⟩) hK hP hD hDm hS hA EV.blind (fun U hU hW => EV.call hX hS hDm hU hW) (va_recv hK hP (ci := 7) (q0 := 20) rfl rfl) rfl hl.1 rfl (Nat.le_of_ble_eq_true rfl) dX6_read_66 ⟨Nat.zero_le _, Nat.zero_le _⟩ (fun H locs hP hD hS => ?_)
      obtain ⟨g6, h⟩ := gd h
      exact hend _ _ _ _ _ _ h hP hD hS dX6_read_69 (bz_ok g6)
    replace h := ie c2 h
    by_cases c7 : (S.1 12) = (1 : Int32)
    · replace h := it c7 h
      refine lv_tableIn (tgt := 70) (off := 48) hx hb dX6_read_22 (by rw [c7]; decide) (by rw [c7]; decide) (by rw [c7]; decide) (by decide) ?_
      refine lv_aload_n hx hb dX6_read_70 rfl (lv_at hl 0 rfl) ?_
      refine lv_iload_n hx hb dX6_read_71 rfl (lv_at hl 1 rfl) ?_
      obtain ⟨r8, S10, e9, h⟩ := bp h
      refine caVC_i (As := [.int x1]) (rest := []) (ctX6_readFirst l dC dI cq q S M o _ _ _ _ _ e9) F (cwV 1 hts gX6_read_X6_readFirst rfl rfl rfl hdX6_readFirst ⟨Nat.le_of_ble_eq_true rfl, Nat.le_of_ble_eq_true rfl⟩) hK hP hD hDm hS hA EV.blind (fun U hU hW => EV.call hX hS hDm hU hW) (va_recv hK hP (ci := 7) (q0 := 20) rfl rfl) rfl hl.1 rfl (Nat.le_of_ble_eq_true rfl) dX6_read_72 ⟨Nat.zero_le _, Nat.zero_le _⟩ (fun H locs hP hD hS => ?_)
      obtain ⟨g11, h⟩ := gd h
      exact hend _ _ _ _ _ _ h hP hD hS dX6_read_75 (bz_ok g11)
    replace h := ie c7 h
    by_cases c12 : (S.1 12) = (2 : Int32)
    · replace h := it c12 h
      refine lv_tableIn (tgt := 76) (off := 54) hx hb dX6_read_22 (by rw [c12]; decide) (by rw [c12]; decide) (by rw [c12]; decide) (by decide) ?_
      refine lv_aload_n hx hb dX6_read_76 rfl (lv_at hl 0 rfl) ?_
      refine lv_iload_n hx hb dX6_read_77 rfl (lv_at hl 1 rfl) ?_
      obtain ⟨r13, S15, e14, h⟩ := bp h
      refine caVC_i (As := [.int x1]) (rest := []) (ctX6_readSecond l dC dI cq q S M o _ _ _ _ _ e14) F (cwV 1 hts gX6_read_X6_readSecond rfl rfl rfl hdX6_readSecond ⟨Nat.le_of_ble_eq_true rfl, Nat.le_of_ble_eq_true rfl⟩) hK hP hD hDm hS hA EV.blind (fun U hU hW => EV.call hX hS hDm hU hW) (va_recv hK hP (ci := 7) (q0 := 20) rfl rfl) rfl hl.1 rfl (Nat.le_of_ble_eq_true rfl) dX6_read_78 ⟨Nat.zero_le _, Nat.zero_le _⟩ (fun H locs hP hD hS => ?_)
      obtain ⟨g16, h⟩ := gd h
      exact hend _ _ _ _ _ _ h hP hD hS dX6_read_81 (bz_ok g16)
    replace h := ie c12 h
    by_cases c17 : (S.1 12) = (3 : Int32)
    · replace h := it c17 h
      refine lv_tableIn (tgt := 82) (off := 60) hx hb dX6_read_22 (by rw [c17]; decide) (by rw [c17]; decide) (by rw [c17]; decide) (by decide) ?_
      refine lv_aload_n hx hb dX6_read_82 rfl (lv_at hl 0 rfl) ?_
      refine lv_iload_n hx hb dX6_read_83 rfl (lv_at hl 1 rfl) ?_
      obtain ⟨r18, S20, e19, h⟩ := bp h
      refine caVC_i (As := [.int x1]) (rest := []) (ctX6_readSign l dC dI cq q S M o _ _ _ _ _ e19) F (cwV 1 hts gX6_read_X6_readSign rfl rfl rfl hdX6_readSign ⟨Nat.le_of_ble_eq_true rfl, Nat.le_of_ble_eq_true rfl⟩) hK hP hD hDm hS hA EV.blind (fun U hU hW => EV.call hX hS hDm hU hW) (va_recv hK hP (ci := 7) (q0 := 20) rfl rfl) rfl hl.1 rfl (Nat.le_of_ble_eq_true rfl) dX6_read_84 ⟨Nat.zero_le _, Nat.zero_le _⟩ (fun H locs hP hD hS => ?_)
      obtain ⟨g21, h⟩ := gd h
      exact hend _ _ _ _ _ _ h hP hD hS dX6_read_87 (bz_ok g21)
    replace h := ie c17 h
    by_cases c22 : (S.1 12) = (4 : Int32)
    · replace h := it c22 h
      refine lv_tableIn (tgt := 88) (off := 66) hx hb dX6_read_22 (by rw [c22]; decide) (by rw [c22]; decide) (by rw [c22]; decide) (by decide) ?_
      refine lv_aload_n hx hb dX6_read_88 rfl (lv_at hl 0 rfl) ?_
      refine lv_iload_n hx hb dX6_read_89 rfl (lv_at hl 1 rfl) ?_
      obtain ⟨r23, S25, e24, h⟩ := bp h
      refine caVC_i (As := [.int x1]) (rest := []) (ctX6_readPlace l dC dI cq q S M o _ _ _ _ _ e24) F (cwV 1 hts gX6_read_X6_readPlace rfl rfl rfl hdX6_readPlace ⟨Nat.le_of_ble_eq_true rfl, Nat.le_of_ble_eq_true rfl⟩) hK hP hD hDm hS hA EV.blind (fun U hU hW => EV.call hX hS hDm hU hW) (va_recv hK hP (ci := 7) (q0 := 20) rfl rfl) rfl hl.1 rfl (Nat.le_of_ble_eq_true rfl) dX6_read_90 ⟨Nat.zero_le _, Nat.zero_le _⟩ (fun H locs hP hD hS => ?_)
      obtain ⟨g26, h⟩ := gd h
      exact hend _ _ _ _ _ _ h hP hD hS dX6_read_93 (bz_ok g26)
    replace h := ie c22 h
    by_cases c27 : (S.1 12) = (5 : Int32)
    · replace h := it c27 h
      refine lv_tableIn (tgt := 94) (off := 72) hx hb dX6_read_22 (by rw [c27]; decide) (by rw [c27]; decide) (by rw [c27]; decide) (by decide) ?_
      refine lv_aload_n hx hb dX6_read_94 rfl (lv_at hl 0 rfl) ?_
      refine lv_iload_n hx hb dX6_read_95 rfl (lv_at hl 1 rfl) ?_
      obtain ⟨r28, S30, e29, h⟩ := bp h
      refine caVC_i (As := [.int x1]) (rest := []) (ctX6_readPeriod l dC dI cq q S M o _ _ _ _ _ e29) F (cwV 1 hts gX6_read_X6_readPeriod rfl rfl rfl hdX6_readPeriod ⟨Nat.le_of_ble_eq_true rfl, Nat.le_of_ble_eq_true rfl⟩) hK hP hD hDm hS hA EV.blind (fun U hU hW => EV.call hX hS hDm hU hW) (va_recv hK hP (ci := 7) (q0 := 20) rfl rfl) rfl hl.1 rfl (Nat.le_of_ble_eq_true rfl) dX6_read_96 ⟨Nat.zero_le _, Nat.zero_le _⟩ (fun H locs hP hD hS => ?_)
      obtain ⟨g31, h⟩ := gd h
      exact hend _ _ _ _ _ _ h hP hD hS dX6_read_99 (bz_ok g31)
    replace h := ie c27 h
    by_cases c32 : (S.1 12) = (6 : Int32)
    · replace h := it c32 h
      refine lv_tableIn (tgt := 100) (off := 78) hx hb dX6_read_22 (by rw [c32]; decide) (by rw [c32]; decide) (by rw [c32]; decide) (by decide) ?_
      refine lv_aload_n hx hb dX6_read_100 rfl (lv_at hl 0 rfl) ?_
      refine lv_iload_n hx hb dX6_read_101 rfl (lv_at hl 1 rfl) ?_
      obtain ⟨r33, S35, e34, h⟩ := bp h
      refine caVC_i (As := [.int x1]) (rest := []) (ctX6_readDuration l dC dI cq q S M o _ _ _ _ _ e34) F (cwV 1 hts gX6_read_X6_readDuration rfl rfl rfl hdX6_readDuration ⟨Nat.le_of_ble_eq_true rfl, Nat.le_of_ble_eq_true rfl⟩) hK hP hD hDm hS hA EV.blind (fun U hU hW => EV.call hX hS hDm hU hW) (va_recv hK hP (ci := 7) (q0 := 20) rfl rfl) rfl hl.1 rfl (Nat.le_of_ble_eq_true rfl) dX6_read_102 ⟨Nat.zero_le _, Nat.zero_le _⟩ (fun H locs hP hD hS => ?_)
      obtain ⟨g36, h⟩ := gd h
      exact hend _ _ _ _ _ _ h hP hD hS dX6_read_105 (bz_ok g36)
    replace h := ie c32 h
    refine lv_tableOut (tgt := 106) hx hb dX6_read_22 (by have z0 := ne_i (n := 0) rfl c2; have z1 := ne_i (n := 1) rfl c7; have z2 := ne_i (n := 2) rfl c12; have z3 := ne_i (n := 3) rfl c17; have z4 := ne_i (n := 4) rfl c22; have z5 := ne_i (n := 5) rfl c27; have z6 := ne_i (n := 6) rfl c32; omega) (by decide) ?_
    refine lv_iconst (v := (0 : Int32)) hx hb dX6_read_106 (by decide) ?_
    exact hend _ _ _ _ _ _ h hP hD hS dX6_read_107 (by decide)
  · replace h := it c1 h
    refine lv_aload_n hx hb dX6_read_6 rfl (lv_at hl 0 rfl) ?_
    obtain ⟨r37, e38, h⟩ := bo h
    refine caVR_i (As := []) (rest := []) (ctX6_isItemWhole l dC dI cq q S M o _ _ _ e38) F (cwV 0 hts gX6_read_X6_isItemWhole rfl rfl rfl hdX6_isItemWhole ⟨Nat.le_of_ble_eq_true rfl, Nat.le_of_ble_eq_true rfl⟩) hK hP hD hDm hS hA EV.blind (fun U hU hW => EV.call hX hS hDm hU hW) (va_recv hK hP (ci := 7) (q0 := 20) rfl rfl) rfl hl.1 rfl (Nat.le_of_ble_eq_true rfl) dX6_read_7 ⟨Nat.zero_le _, Nat.zero_le _⟩ (fun H locs hP hD hS => ?_)
    refine lv_istore_n (lv' := [(2, .int r37), (0, .ref (q 20)), (1, .int x1)]) hx hb dX6_read_10 rfl hl (by decide) rfl (fun ls hl => ?_)
    refine lv_aload_n hx hb dX6_read_11 rfl (lv_at hl 1 rfl) ?_
    refine lv_iconst (v := (0 : Int32)) hx hb dX6_read_12 (by decide) ?_
    refine pt_20_3 F hinX6 (hts (.fieldLink RX6 22 "CableTester$Text" "state" "I") (mm 1 rfl)) hK hP hD hS dX6_read_13 (fun H locs hP hD hS => ?_)
    refine lv_iload_n hx hb dX6_read_16 rfl (lv_at hl 0 rfl) ?_
    obtain ⟨g39, h⟩ := gd h
    exact hend _ _ _ _ _ _ h hP hD hS dX6_read_17 (bz_ok g39)
def mX6_errorIndex_6 (n : Nat)   : Nat → CS → Int32 → Option (Int32 × CS)
  | 0, _, _ => none
  | k + 1, S, x1 => (if (S.1 10) ≤ x1 then (some ((S.1 10), S)) else (bn (mX6_codeAt S x1) fun r5 => (bm (mX6_read S r5) fun r7 S9 => (if r7 = (0 : Int32) then (some (x1, S9)) else (mX6_errorIndex_6 n k S9 (x1 + (1 : Int32)))))))
def mX6_errorIndex (n : Nat) (S : CS)  : Option (Int32 × CS) :=
  (bn (mX6_rewind S) fun S3 => (mX6_errorIndex_6 n n S3 (0 : Int32)))
abbrev rmX6_errorIndex : Room := { frames := 3, cells := 0, slots := 0, locals := 66 }
theorem hdX6_errorIndex : yX6_errorIndex.cls = RX6 ∧ yX6_errorIndex.cls ≠ "java/lang/invoke/MethodHandle" ∧ yX6_errorIndex.cls ≠ "java/lang/invoke/VarHandle" ∧ (parseMethodDescriptor yX6_errorIndex.desc).map (fun d => d.parameters.length) = some 0 := by decide +kernel
set_option maxRecDepth 100000 in
set_option maxHeartbeats 8000000 in
theorem ctX6_errorIndex (l : Launch) (dC : Nat → ClassId) (dI : Nat → Nat → Nat) (cq : Nat → ClassId) (q : Nat → Nat) (S : CS) (M : MS) (o : Nat → Int64) (sz : Nat) (h0 : Nat) (n : Nat)  (rr : Int32) (SS : CS) (h : mX6_errorIndex n S = some (rr, SS)) : CtC_i l yX6_errorIndex wsX6_errorIndex rmX6_errorIndex (fun a => h0 ≤ a) (EV h0 q) dC dI cq q S M o sz [.ref (q 20)] rr SS := by
  refine enC_i (cc := cX6_errorIndex) (maxL := 2) (by decide) rfl (Nat.le_of_ble_eq_true rfl) (fun p e s m args below meth c A Q ls F hA hP hK hD hDm hX hS hl hend => ?_)
  obtain ⟨hx, hb, hml, hown, hts⟩ := id F
  have hown : s.vm.findClass RX6 = some m.cls := hown
  have F : CallFix p m c cX6_errorIndex 2 s args wsX6_errorIndex RX6 := F
  have hl : lv_has ls 2 [(0, .ref (q 20))] := hl
  have hinX6 : ∀ w ∈ u_ws RX6 TX6 10, w ∈ wsX6_errorIndex := fun w h => List.mem_cons_of_mem _ (List.mem_append_right _ h)
  have hL6 : ∀   (k : Nat) (S : CS) (x1 : Int32) (H : Heap) (locs : List Loc) (ls : Array Slot), va_P (dC, dI) vwCl (wA cq q S M o) H → va_D A (wA cq q S M o) → va_S A s.heap H locs → lv_has ls 2 [(0, .ref (q 20)), (1, .int x1)] → mX6_errorIndex_6 n k S x1 = some (rr, SS) → W p l e rmX6_errorIndex s m args below meth c H locs 0 0 Q (F0 m 6 ls []) := by
    intro k
    induction k with
    | zero =>
      intro S x1 H locs ls hP hD hS hl h
      rw [mX6_errorIndex_6] at h
      cases h
    | succ k ih =>
      intro S x1 H locs ls hP hD hS hl h
      rw [mX6_errorIndex_6] at h
      refine lv_iload_n hx hb dX6_errorIndex_6 rfl (lv_at hl 1 rfl) ?_
      refine lv_aload_n hx hb dX6_errorIndex_7 rfl (lv_at hl 0 rfl) ?_
      refine va_get (D := (dC, dI)) (ci := 7) (v := .int (S.1 10)) (C := RX6) (T := TX6) (N := 10) hx hb hts hinX6 hown hK hP 20 rfl rfl 1 (by decide) (hts (.fieldLink RX6 15 "CableTester$Text" "length" "I") (mm 1 rfl)) (fun _ h9 => h9) rfl dX6_errorIndex_8 ?_
      refine lv_icmp_ge (tgt := 34) hx hb dX6_errorIndex_11 (by decide) (fun c4 => ?_) (fun c4 => ?_)
      · replace h := it c4 h
        refine lv_aload_n hx hb dX6_errorIndex_34 rfl (lv_at hl 0 rfl) ?_
        refine va_get (D := (dC, dI)) (ci := 7) (v := .int (S.1 10)) (C := RX6) (T := TX6) (N := 10) hx hb hts hinX6 hown hK hP 20 rfl rfl 1 (by decide) (hts (.fieldLink RX6 15 "CableTester$Text" "length" "I") (mm 1 rfl)) (fun _ h9 => h9) rfl dX6_errorIndex_35 ?_
        exact hend _ _ _ _ _ _ h hP hD hS dX6_errorIndex_38
      · replace h := ie c4 h
        refine lv_aload_n hx hb dX6_errorIndex_14 rfl (lv_at hl 0 rfl) ?_
        refine lv_aload_n hx hb dX6_errorIndex_15 rfl (lv_at hl 0 rfl) ?_
        refine lv_iload_n hx hb dX6_errorIndex_16 rfl (lv_at hl 1 rfl) ?_
        obtain ⟨r5, e6, h⟩ := bo h
        refine caVR_i (As := [.int x1]) (rest := [.ref (q 20)]) (ctX6_codeAt l dC dI cq q S M o _ _ _ _ e6) F (cwV 1 hts gX6_errorIndex_X6_codeAt rfl rfl rfl hdX6_codeAt ⟨Nat.le_of_ble_eq_true rfl, Nat.le_of_ble_eq_true rfl⟩) hK hP hD hDm hS hA EV.blind (fun U hU hW => EV.call hX hS hDm hU hW) (va_recv hK hP (ci := 7) (q0 := 20) rfl rfl) rfl hl.1 rfl (Nat.le_of_ble_eq_true rfl) dX6_errorIndex_17 ⟨Nat.zero_le _, Nat.zero_le _⟩ (fun H locs hP hD hS => ?_)
        obtain ⟨r7, S9, e8, h⟩ := bp h
        refine caVC_i (As := [.int r5]) (rest := []) (ctX6_read l dC dI cq q S M o _ _ _ _ _ e8) F (cwV 1 hts gX6_errorIndex_X6_read rfl rfl rfl hdX6_read ⟨Nat.le_of_ble_eq_true rfl, Nat.le_of_ble_eq_true rfl⟩) hK hP hD hDm hS hA EV.blind (fun U hU hW => EV.call hX hS hDm hU hW) (va_recv hK hP (ci := 7) (q0 := 20) rfl rfl) rfl hl.1 rfl (Nat.le_of_ble_eq_true rfl) dX6_errorIndex_20 ⟨Nat.zero_le _, Nat.zero_le _⟩ (fun H locs hP hD hS => ?_)
        refine lv_if_ne (tgt := 28) hx hb dX6_errorIndex_23 (by decide) (fun c10 => ?_) (fun c10 => ?_)
        · replace h := ie c10 h
          refine lv_iinc (v := (x1 + (1 : Int32))) (lv' := [(1, .int (x1 + (1 : Int32))), (0, .ref (q 20))]) hx hb dX6_errorIndex_28 hl (k := 1) rfl rfl (by decide) rfl (fun ls hl => ?_)
          refine lv_goto (tgt := 6) hx hb dX6_errorIndex_31 (by decide) ?_
          exact ih _ _ _ _ _ hP hD hS (lv_sub hl [1, 0] rfl) h
        · replace h := it c10 h
          refine lv_iload_n hx hb dX6_errorIndex_26 rfl (lv_at hl 1 rfl) ?_
          exact hend _ _ _ _ _ _ h hP hD hS dX6_errorIndex_27
  rw [mX6_errorIndex] at h
  refine lv_aload_n hx hb dX6_errorIndex_0 rfl (lv_at hl 0 rfl) ?_
  obtain ⟨S3, e2, h⟩ := bo h
  refine caVC_v (As := []) (rest := []) (ctX6_rewind l dC dI cq q S M o _ _ _ e2) F (cwV 0 hts gX6_errorIndex_X6_rewind rfl rfl rfl hdX6_rewind ⟨Nat.le_of_ble_eq_true rfl, Nat.le_of_ble_eq_true rfl⟩) hK hP hD hDm hS hA EV.blind (fun U hU hW => EV.call hX hS hDm hU hW) (va_recv hK hP (ci := 7) (q0 := 20) rfl rfl) rfl hl.1 rfl (Nat.le_of_ble_eq_true rfl) dX6_errorIndex_1 ⟨Nat.zero_le _, Nat.zero_le _⟩ (fun H locs hP hD hS => ?_)
  refine lv_iconst (v := (0 : Int32)) hx hb dX6_errorIndex_4 (by decide) ?_
  refine lv_istore_n (lv' := [(1, .int (0 : Int32)), (0, .ref (q 20))]) hx hb dX6_errorIndex_5 rfl hl (by decide) rfl (fun ls hl => ?_)
  exact hL6 _ _ _ _ _ _ hP hD hS (lv_sub hl [1, 0] rfl) h
def mX6_isComplete (n : Nat) (S : CS)  : Option (Int32 × CS) :=
  (bm (mX6_errorIndex n S) fun r1 S3 => (if r1 = (S3.1 10) then (bn (mX6_isItemWhole S3) fun r5 => (if r5 = (0 : Int32) then (some ((0 : Int32), S3)) else (some ((1 : Int32), S3)))) else (some ((0 : Int32), S3))))
abbrev rmX6_isComplete : Room := { frames := 4, cells := 0, slots := 0, locals := 87 }
theorem hdX6_isComplete : yX6_isComplete.cls = RX6 ∧ yX6_isComplete.cls ≠ "java/lang/invoke/MethodHandle" ∧ yX6_isComplete.cls ≠ "java/lang/invoke/VarHandle" ∧ (parseMethodDescriptor yX6_isComplete.desc).map (fun d => d.parameters.length) = some 0 := by decide +kernel
set_option maxRecDepth 100000 in
set_option maxHeartbeats 8000000 in
theorem ctX6_isComplete (l : Launch) (dC : Nat → ClassId) (dI : Nat → Nat → Nat) (cq : Nat → ClassId) (q : Nat → Nat) (S : CS) (M : MS) (o : Nat → Int64) (sz : Nat) (h0 : Nat) (n : Nat)  (rr : Int32) (SS : CS) (h : mX6_isComplete n S = some (rr, SS)) : CtC_i l yX6_isComplete wsX6_isComplete rmX6_isComplete (fun a => h0 ≤ a) (EV h0 q) dC dI cq q S M o sz [.ref (q 20)] rr SS := by
  refine enC_z (cc := cX6_isComplete) (maxL := 1) (by decide) rfl (Nat.le_of_ble_eq_true rfl) (fun p e s m args below meth c A Q ls F hA hP hK hD hDm hX hS hl hend => ?_)
  obtain ⟨hx, hb, hml, hown, hts⟩ := id F
  have hown : s.vm.findClass RX6 = some m.cls := hown
  have F : CallFix p m c cX6_isComplete 1 s args wsX6_isComplete RX6 := F
  have hl : lv_has ls 1 [(0, .ref (q 20))] := hl
  have hinX6 : ∀ w ∈ u_ws RX6 TX6 10, w ∈ wsX6_isComplete := fun w h => List.mem_cons_of_mem _ (List.mem_append_right _ h)
  rw [mX6_isComplete] at h
  refine lv_aload_n hx hb dX6_isComplete_0 rfl (lv_at hl 0 rfl) ?_
  obtain ⟨r1, S3, e2, h⟩ := bp h
  refine caVC_i (As := []) (rest := []) (ctX6_errorIndex l dC dI cq q S M o _ _ _ _ _ e2) F (cwV 0 hts gX6_isComplete_X6_errorIndex rfl rfl rfl hdX6_errorIndex ⟨Nat.le_of_ble_eq_true rfl, Nat.le_of_ble_eq_true rfl⟩) hK hP hD hDm hS hA EV.blind (fun U hU hW => EV.call hX hS hDm hU hW) (va_recv hK hP (ci := 7) (q0 := 20) rfl rfl) rfl hl.1 rfl (Nat.le_of_ble_eq_true rfl) dX6_isComplete_1 ⟨Nat.zero_le _, Nat.zero_le _⟩ (fun H locs hP hD hS => ?_)
  refine lv_aload_n hx hb dX6_isComplete_4 rfl (lv_at hl 0 rfl) ?_
  refine va_get (D := (dC, dI)) (ci := 7) (v := .int (S3.1 10)) (C := RX6) (T := TX6) (N := 10) hx hb hts hinX6 hown hK hP 20 rfl rfl 1 (by decide) (hts (.fieldLink RX6 15 "CableTester$Text" "length" "I") (mm 1 rfl)) (fun _ h9 => h9) rfl dX6_isComplete_5 ?_
  refine lv_icmp_ne (tgt := 22) hx hb dX6_isComplete_8 (by decide) (fun c4 => ?_) (fun c4 => ?_)
  · replace h := ie c4 h
    refine lv_iconst (v := (0 : Int32)) hx hb dX6_isComplete_22 (by decide) ?_
    exact hend _ _ _ _ _ _ h hP hD hS dX6_isComplete_23 (by decide)
  · replace h := it c4 h
    refine lv_aload_n hx hb dX6_isComplete_11 rfl (lv_at hl 0 rfl) ?_
    obtain ⟨r5, e6, h⟩ := bo h
    refine caVR_i (As := []) (rest := []) (ctX6_isItemWhole l dC dI cq q S3 M o _ _ _ e6) F (cwV 0 hts gX6_isComplete_X6_isItemWhole rfl rfl rfl hdX6_isItemWhole ⟨Nat.le_of_ble_eq_true rfl, Nat.le_of_ble_eq_true rfl⟩) hK hP hD hDm hS hA EV.blind (fun U hU hW => EV.call hX hS hDm hU hW) (va_recv hK hP (ci := 7) (q0 := 20) rfl rfl) rfl hl.1 rfl (Nat.le_of_ble_eq_true rfl) dX6_isComplete_12 ⟨Nat.zero_le _, Nat.zero_le _⟩ (fun H locs hP hD hS => ?_)
    refine lv_if_eq (tgt := 22) hx hb dX6_isComplete_15 (by decide) (fun c7 => ?_) (fun c7 => ?_)
    · replace h := it c7 h
      refine lv_iconst (v := (0 : Int32)) hx hb dX6_isComplete_22 (by decide) ?_
      exact hend _ _ _ _ _ _ h hP hD hS dX6_isComplete_23 (by decide)
    · replace h := ie c7 h
      refine lv_iconst (v := (1 : Int32)) hx hb dX6_isComplete_18 (by decide) ?_
      refine lv_goto (tgt := 23) hx hb dX6_isComplete_19 (by decide) ?_
      exact hend _ _ _ _ _ _ h hP hD hS dX6_isComplete_23 (by decide)
def mX6_readItem_61 (n : Nat) (K15 : CS → Int32 → Option (Int32 × CS)) (S : CS)  (t0 : Int32) : Option (Int32 × CS) :=
  (K15 (sF S 11 ((S.1 11) + (1 : Int32))) t0)
def mX6_readItem_15 (n : Nat)   : Nat → CS → Int32 → Option (Int32 × CS)
  | 0, _, _ => none
  | k + 1, S, x1 => (if (S.1 10) ≤ (S.1 11) then (some ((1 : Int32), S)) else (if x1 = (0 : Int32) then (bn (mX6_codeAt S (S.1 11)) fun r4 => (bm (mX6_read S r4) fun r6 S8 => (bn (mX6_codeAt S8 (S8.1 11)) fun r9 => (if r9 = (59 : Int32) then (mX6_readItem_61 n (mX6_readItem_15 n k) S8 (1 : Int32)) else (mX6_readItem_61 n (mX6_readItem_15 n k) S8 (0 : Int32)))))) else (some ((1 : Int32), S))))
def mX6_readItem (n : Nat) (S : CS)  : Option (Int32 × CS) :=
  (if (S.1 11) < (S.1 10) then (mX6_readItem_15 n n S (0 : Int32)) else (some ((0 : Int32), S)))
abbrev rmX6_readItem : Room := { frames := 3, cells := 0, slots := 0, locals := 66 }
theorem hdX6_readItem : yX6_readItem.cls = RX6 ∧ yX6_readItem.cls ≠ "java/lang/invoke/MethodHandle" ∧ yX6_readItem.cls ≠ "java/lang/invoke/VarHandle" ∧ (parseMethodDescriptor yX6_readItem.desc).map (fun d => d.parameters.length) = some 0 := by decide +kernel
set_option maxRecDepth 100000 in
set_option maxHeartbeats 8000000 in
theorem ctX6_readItem (l : Launch) (dC : Nat → ClassId) (dI : Nat → Nat → Nat) (cq : Nat → ClassId) (q : Nat → Nat) (S : CS) (M : MS) (o : Nat → Int64) (sz : Nat) (h0 : Nat) (n : Nat)  (rr : Int32) (SS : CS) (h : mX6_readItem n S = some (rr, SS)) : CtC_i l yX6_readItem wsX6_readItem rmX6_readItem (fun a => h0 ≤ a) (EV h0 q) dC dI cq q S M o sz [.ref (q 20)] rr SS := by
  refine enC_z (cc := cX6_readItem) (maxL := 2) (by decide) rfl (Nat.le_of_ble_eq_true rfl) (fun p e s m args below meth c A Q ls F hA hP hK hD hDm hX hS hl hend => ?_)
  obtain ⟨hx, hb, hml, hown, hts⟩ := id F
  have hown : s.vm.findClass RX6 = some m.cls := hown
  have F : CallFix p m c cX6_readItem 2 s args wsX6_readItem RX6 := F
  have hl : lv_has ls 2 [(0, .ref (q 20))] := hl
  have hinX6 : ∀ w ∈ u_ws RX6 TX6 10, w ∈ wsX6_readItem := fun w h => List.mem_cons_of_mem _ (List.mem_append_right _ h)
  have hj61 : ∀ (S : CS)  (t0 : Int32)  (K15 : CS → Int32 → Option (Int32 × CS)) (hK15 : ∀ (S9 : CS) (y1 : Int32) (H : Heap) (locs : List Loc) (ls : Array Slot), va_P (dC, dI) vwCl (wA cq q S9 M o) H → va_D A (wA cq q S9 M o) → va_S A s.heap H locs → lv_has ls 2 [(0, .ref (q 20)), (1, .int y1)] → K15 S9 y1 = some (rr, SS) → W p l e rmX6_readItem s m args below meth c H locs 0 0 Q (F0 m 15 ls [])) (H : Heap) (locs : List Loc) (ls : Array Slot), va_P (dC, dI) vwCl (wA cq q S M o) H → va_D A (wA cq q S M o) → va_S A s.heap H locs → lv_has ls 2 [(0, .ref (q 20))] → mX6_readItem_61 n K15 S t0 = some (rr, SS) → W p l e rmX6_readItem s m args below meth c H locs 0 0 Q (F0 m 61 ls [.int t0]) := by
    intro S t0 K15 hK15 H locs ls hP hD hS hl h
    rw [mX6_readItem_61] at h
    refine lv_istore_n (lv' := [(1, .int t0), (0, .ref (q 20))]) hx hb dX6_readItem_61 rfl hl (by decide) rfl (fun ls hl => ?_)
    refine lv_aload_n hx hb dX6_readItem_62 rfl (lv_at hl 1 rfl) ?_
    refine lv_dup hx hb dX6_readItem_63 rfl ?_
    refine va_get (D := (dC, dI)) (ci := 7) (v := .int (S.1 11)) (C := RX6) (T := TX6) (N := 10) hx hb hts hinX6 hown hK hP 20 rfl rfl 2 (by decide) (hts (.fieldLink RX6 19 "CableTester$Text" "position" "I") (mm 1 rfl)) (fun _ h9 => h9) rfl dX6_readItem_64 ?_
    refine lv_iconst (v := (1 : Int32)) hx hb dX6_readItem_67 (by decide) ?_
    refine lv_iadd hx hb dX6_readItem_68 ?_
    refine pt_20_2 F hinX6 (hts (.fieldLink RX6 19 "CableTester$Text" "position" "I") (mm 1 rfl)) hK hP hD hS dX6_readItem_69 (fun H locs hP hD hS => ?_)
    refine lv_goto (tgt := 15) hx hb dX6_readItem_72 (by decide) ?_
    exact hK15 _ _ _ _ _ hP hD hS (lv_sub hl [1, 0] rfl) h
  have hL15 : ∀   (k : Nat) (S : CS) (x1 : Int32) (H : Heap) (locs : List Loc) (ls : Array Slot), va_P (dC, dI) vwCl (wA cq q S M o) H → va_D A (wA cq q S M o) → va_S A s.heap H locs → lv_has ls 2 [(0, .ref (q 20)), (1, .int x1)] → mX6_readItem_15 n k S x1 = some (rr, SS) → W p l e rmX6_readItem s m args below meth c H locs 0 0 Q (F0 m 15 ls []) := by
    intro k
    induction k with
    | zero =>
      intro S x1 H locs ls hP hD hS hl h
      rw [mX6_readItem_15] at h
      cases h
    | succ k ih =>
      intro S x1 H locs ls hP hD hS hl h
      rw [mX6_readItem_15] at h
      refine lv_aload_n hx hb dX6_readItem_15 rfl (lv_at hl 0 rfl) ?_
      refine va_get (D := (dC, dI)) (ci := 7) (v := .int (S.1 11)) (C := RX6) (T := TX6) (N := 10) hx hb hts hinX6 hown hK hP 20 rfl rfl 2 (by decide) (hts (.fieldLink RX6 19 "CableTester$Text" "position" "I") (mm 1 rfl)) (fun _ h9 => h9) rfl dX6_readItem_16 ?_
      refine lv_aload_n hx hb dX6_readItem_19 rfl (lv_at hl 0 rfl) ?_
      refine va_get (D := (dC, dI)) (ci := 7) (v := .int (S.1 10)) (C := RX6) (T := TX6) (N := 10) hx hb hts hinX6 hown hK hP 20 rfl rfl 1 (by decide) (hts (.fieldLink RX6 15 "CableTester$Text" "length" "I") (mm 2 rfl)) (fun _ h9 => h9) rfl dX6_readItem_20 ?_
      refine lv_icmp_ge (tgt := 75) hx hb dX6_readItem_23 (by decide) (fun c2 => ?_) (fun c2 => ?_)
      · replace h := it c2 h
        refine lv_iconst (v := (1 : Int32)) hx hb dX6_readItem_75 (by decide) ?_
        exact hend _ _ _ _ _ _ h hP hD hS dX6_readItem_76 (by decide)
      · replace h := ie c2 h
        refine lv_iload_n hx hb dX6_readItem_26 rfl (lv_at hl 1 rfl) ?_
        refine lv_if_ne (tgt := 75) hx hb dX6_readItem_27 (by decide) (fun c3 => ?_) (fun c3 => ?_)
        · replace h := ie c3 h
          refine lv_iconst (v := (1 : Int32)) hx hb dX6_readItem_75 (by decide) ?_
          exact hend _ _ _ _ _ _ h hP hD hS dX6_readItem_76 (by decide)
        · replace h := it c3 h
          refine lv_aload_n hx hb dX6_readItem_30 rfl (lv_at hl 0 rfl) ?_
          refine lv_aload_n hx hb dX6_readItem_31 rfl (lv_at hl 0 rfl) ?_
          refine lv_aload_n hx hb dX6_readItem_32 rfl (lv_at hl 0 rfl) ?_
          refine va_get (D := (dC, dI)) (ci := 7) (v := .int (S.1 11)) (C := RX6) (T := TX6) (N := 10) hx hb hts hinX6 hown hK hP 20 rfl rfl 2 (by decide) (hts (.fieldLink RX6 19 "CableTester$Text" "position" "I") (mm 1 rfl)) (fun _ h9 => h9) rfl dX6_readItem_33 ?_
          obtain ⟨r4, e5, h⟩ := bo h
          refine caVR_i (As := [.int (S.1 11)]) (rest := [.ref (q 20)]) (ctX6_codeAt l dC dI cq q S M o _ _ _ _ e5) F (cwV 1 hts gX6_readItem_X6_codeAt rfl rfl rfl hdX6_codeAt ⟨Nat.le_of_ble_eq_true rfl, Nat.le_of_ble_eq_true rfl⟩) hK hP hD hDm hS hA EV.blind (fun U hU hW => EV.call hX hS hDm hU hW) (va_recv hK hP (ci := 7) (q0 := 20) rfl rfl) rfl hl.1 rfl (Nat.le_of_ble_eq_true rfl) dX6_readItem_36 ⟨Nat.zero_le _, Nat.zero_le _⟩ (fun H locs hP hD hS => ?_)
          obtain ⟨r6, S8, e7, h⟩ := bp h
          refine caVC_i (As := [.int r4]) (rest := []) (ctX6_read l dC dI cq q S M o _ _ _ _ _ e7) F (cwV 1 hts gX6_readItem_X6_read rfl rfl rfl hdX6_read ⟨Nat.le_of_ble_eq_true rfl, Nat.le_of_ble_eq_true rfl⟩) hK hP hD hDm hS hA EV.blind (fun U hU hW => EV.call hX hS hDm hU hW) (va_recv hK hP (ci := 7) (q0 := 20) rfl rfl) rfl hl.1 rfl (Nat.le_of_ble_eq_true rfl) dX6_readItem_39 ⟨Nat.zero_le _, Nat.zero_le _⟩ (fun H locs hP hD hS => ?_)
          refine lv_pop hx hb dX6_readItem_42 rfl ?_
          refine lv_aload_n hx hb dX6_readItem_43 rfl (lv_at hl 0 rfl) ?_
          refine lv_aload_n hx hb dX6_readItem_44 rfl (lv_at hl 0 rfl) ?_
          refine va_get (D := (dC, dI)) (ci := 7) (v := .int (S8.1 11)) (C := RX6) (T := TX6) (N := 10) hx hb hts hinX6 hown hK hP 20 rfl rfl 2 (by decide) (hts (.fieldLink RX6 19 "CableTester$Text" "position" "I") (mm 1 rfl)) (fun _ h9 => h9) rfl dX6_readItem_45 ?_
          obtain ⟨r9, e10, h⟩ := bo h
          refine caVR_i (As := [.int (S8.1 11)]) (rest := []) (ctX6_codeAt l dC dI cq q S8 M o _ _ _ _ e10) F (cwV 1 hts gX6_readItem_X6_codeAt rfl rfl rfl hdX6_codeAt ⟨Nat.le_of_ble_eq_true rfl, Nat.le_of_ble_eq_true rfl⟩) hK hP hD hDm hS hA EV.blind (fun U hU hW => EV.call hX hS hDm hU hW) (va_recv hK hP (ci := 7) (q0 := 20) rfl rfl) rfl hl.1 rfl (Nat.le_of_ble_eq_true rfl) dX6_readItem_48 ⟨Nat.zero_le _, Nat.zero_le _⟩ (fun H locs hP hD hS => ?_)
          refine lv_bipush (v := (59 : Int32)) hx hb dX6_readItem_51 (by decide) ?_
          refine lv_icmp_ne (tgt := 60) hx hb dX6_readItem_53 (by decide) (fun c11 => ?_) (fun c11 => ?_)
          · replace h := ie c11 h
            refine lv_iconst (v := (0 : Int32)) hx hb dX6_readItem_60 (by decide) ?_
            exact hj61 _ _ _ ih _ _ _ hP hD hS (lv_sub hl [0] rfl) h
          · replace h := it c11 h
            refine lv_iconst (v := (1 : Int32)) hx hb dX6_readItem_56 (by decide) ?_
            refine lv_goto (tgt := 61) hx hb dX6_readItem_57 (by decide) ?_
            exact hj61 _ _ _ ih _ _ _ hP hD hS (lv_sub hl [0] rfl) h
  rw [mX6_readItem] at h
  refine lv_aload_n hx hb dX6_readItem_0 rfl (lv_at hl 0 rfl) ?_
  refine va_get (D := (dC, dI)) (ci := 7) (v := .int (S.1 11)) (C := RX6) (T := TX6) (N := 10) hx hb hts hinX6 hown hK hP 20 rfl rfl 2 (by decide) (hts (.fieldLink RX6 19 "CableTester$Text" "position" "I") (mm 1 rfl)) (fun _ h9 => h9) rfl dX6_readItem_1 ?_
  refine lv_aload_n hx hb dX6_readItem_4 rfl (lv_at hl 0 rfl) ?_
  refine va_get (D := (dC, dI)) (ci := 7) (v := .int (S.1 10)) (C := RX6) (T := TX6) (N := 10) hx hb hts hinX6 hown hK hP 20 rfl rfl 1 (by decide) (hts (.fieldLink RX6 15 "CableTester$Text" "length" "I") (mm 2 rfl)) (fun _ h9 => h9) rfl dX6_readItem_5 ?_
  refine lv_icmp_lt (tgt := 13) hx hb dX6_readItem_8 (by decide) (fun c1 => ?_) (fun c1 => ?_)
  · replace h := it c1 h
    refine lv_iconst (v := (0 : Int32)) hx hb dX6_readItem_13 (by decide) ?_
    refine lv_istore_n (lv' := [(1, .int (0 : Int32)), (0, .ref (q 20))]) hx hb dX6_readItem_14 rfl hl (by decide) rfl (fun ls hl => ?_)
    exact hL15 _ _ _ _ _ _ hP hD hS (lv_sub hl [1, 0] rfl) h
  · replace h := ie c1 h
    refine lv_iconst (v := (0 : Int32)) hx hb dX6_readItem_11 (by decide) ?_
    exact hend _ _ _ _ _ _ h hP hD hS dX6_readItem_12 (by decide)
