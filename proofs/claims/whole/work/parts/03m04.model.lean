def mX8_isPair (x0 : Int32) : Option (Int32) :=
  (bn (mX8_within x0 (0 : Int32) (3 : Int32)) fun r1 => (if bz r1 then (some r1) else none))
abbrev rmX8_isPair : Room := { frames := 1, cells := 0, slots := 0, locals := 22 }
theorem hdX8_isPair : yX8_isPair.cls ≠ "java/lang/invoke/MethodHandle" ∧ yX8_isPair.cls ≠ "java/lang/invoke/VarHandle" ∧ (parseMethodDescriptor yX8_isPair.desc).map (fun d => d.parameters.length) = some 1 := by decide +kernel
set_option maxRecDepth 100000 in
set_option maxHeartbeats 8000000 in
theorem ctX8_isPair (l : Launch) (dC : Nat → ClassId) (dI : Nat → Nat → Nat) (cq : Nat → ClassId) (q : Nat → Nat) (S : CS) (M : MS) (o : Nat → Int64) (sz : Nat) (x0 : Int32) (rr : Int32) (h : mX8_isPair x0 = some rr) : CtR_i l yX8_isPair wsX8_isPair rmX8_isPair (fun _ => True) (fun _ => True) dC dI cq q S M o sz [.int x0] rr := by
  refine enR_z (cc := cX8_isPair) (maxL := 1) (by decide) rfl (Nat.le_of_ble_eq_true rfl) (fun p e s m args below meth c A Q ls F hA hP hK hD hDm hX hS hl hend => ?_)
  obtain ⟨hx, hb, hml, hown, hts⟩ := id F
  have hown : s.vm.findClass RX8 = some m.cls := hown
  have F : CallFix p m c cX8_isPair 1 s args wsX8_isPair RX8 := F
  have hl : lv_has ls 1 [(0, .int x0)] := hl
  rw [mX8_isPair] at h
  refine lv_iload_n hx hb dX8_isPair_0 rfl (lv_at hl 0 rfl) ?_
  refine lv_iconst (v := (0 : Int32)) hx hb dX8_isPair_1 (by decide) ?_
  refine lv_iconst (v := (3 : Int32)) hx hb dX8_isPair_2 (by decide) ?_
  obtain ⟨r1, e2, h⟩ := bo h
  refine caSR_i (As := [.int x0, .int (0 : Int32), .int (3 : Int32)]) (rest := []) (ctX8_within l dC dI cq q S M o _ _ _ _ _ e2) F (va_cwS 3 hts gX8_isPair_X8_within rfl rfl rfl hdX8_within ⟨Nat.le_of_ble_eq_true rfl, Nat.le_of_ble_eq_true rfl⟩) hK hP hD hDm hS hA (fun _ _ _ _ _ => trivial) (fun _ _ _ => trivial) rfl hl.1 rfl (Nat.le_of_ble_eq_true rfl) dX8_isPair_3 ⟨Nat.zero_le _, Nat.zero_le _⟩ (fun H locs hP hD hS => ?_)
  obtain ⟨g3, h⟩ := gd h
  exact hend _ _ _ _ _ h hP hD hS dX8_isPair_6 (bz_ok g3)
def mX8_crosstalk_20 (n : Nat)  (M : MS) (x1 : Int32) (x2 : Int32) (t0 : Int32) : Option (Int32 × MS) :=
  (if ((sG M 0 t0).1 0) ≤ (0 : Int32) then (bn (mX8_talk n (sG M 0 t0) x1 x2) fun r5 => (some (r5, (sG M 0 t0)))) else (some ((0 : Int32), (sG M 0 t0))))
def mX8_crosstalk_19 (n : Nat)  (M : MS) (x1 : Int32) (x2 : Int32)  : Option (Int32 × MS) :=
  (mX8_crosstalk_20 n M x1 x2 (1 : Int32))
def mX8_crosstalk (n : Nat) (M : MS) (x1 : Int32) (x2 : Int32) : Option (Int32 × MS) :=
  (bn (mX8_isPair x1) fun r1 => (if r1 = (0 : Int32) then (mX8_crosstalk_19 n M x1 x2) else (bn (mX8_isPair x2) fun r7 => (if r7 = (0 : Int32) then (mX8_crosstalk_19 n M x1 x2) else (mX8_crosstalk_20 n M x1 x2 (0 : Int32))))))
abbrev rmX8_crosstalk : Room := { frames := 2, cells := 0, slots := 0, locals := 42 }
theorem hdX8_crosstalk : yX8_crosstalk.cls = RX8 ∧ yX8_crosstalk.cls ≠ "java/lang/invoke/MethodHandle" ∧ yX8_crosstalk.cls ≠ "java/lang/invoke/VarHandle" ∧ (parseMethodDescriptor yX8_crosstalk.desc).map (fun d => d.parameters.length) = some 2 := by decide +kernel
set_option maxRecDepth 100000 in
set_option maxHeartbeats 8000000 in
theorem ctX8_crosstalk (l : Launch) (dC : Nat → ClassId) (dI : Nat → Nat → Nat) (cq : Nat → ClassId) (q : Nat → Nat) (S : CS) (M : MS) (o : Nat → Int64) (sz : Nat) (n : Nat) (x1 : Int32) (x2 : Int32) (rr : Int32) (MM : MS) (h : mX8_crosstalk n M x1 x2 = some (rr, MM)) : CtM_i l yX8_crosstalk wsX8_crosstalk rmX8_crosstalk (fun _ => True) (fun _ => True) dC dI cq q S M o sz [.ref (q 22), .int x1, .int x2] rr MM := by
  refine enM_i (cc := cX8_crosstalk) (maxL := 3) (by decide) rfl (Nat.le_of_ble_eq_true rfl) (fun p e s m args below meth c A Q ls F hA hP hK hD hDm hX hS hl hend => ?_)
  obtain ⟨hx, hb, hml, hown, hts⟩ := id F
  have hown : s.vm.findClass RX8 = some m.cls := hown
  have F : CallFix p m c cX8_crosstalk 3 s args wsX8_crosstalk RX8 := F
  have hl : lv_has ls 3 [(0, .ref (q 22)), (1, .int x1), (2, .int x2)] := hl
  have hinX8 : ∀ w ∈ u_ws RX8 TX8 29, w ∈ wsX8_crosstalk := fun w h => List.mem_cons_of_mem _ (List.mem_append_right _ h)
  have hj20 : ∀ (M : MS) (x1 : Int32) (x2 : Int32) (t0 : Int32)  (H : Heap) (locs : List Loc) (ls : Array Slot), va_P (dC, dI) vwCl (wA cq q S M o) H → va_D A (wA cq q S M o) → va_S A s.heap H locs → lv_has ls 3 [(0, .ref (q 22)), (1, .int x1), (2, .int x2)] → mX8_crosstalk_20 n M x1 x2 t0 = some (rr, MM) → W p l e rmX8_crosstalk s m args below meth c H locs 0 0 Q (F0 m 20 ls [.int t0, .ref (q 22)]) := by
    intro M x1 x2 t0 H locs ls hP hD hS hl h
    rw [mX8_crosstalk_20] at h
    refine pt_22_0 F hinX8 (hts (.fieldLink RX8 44 "CableTesterModel" "thrown" "I") (mm 1 rfl)) hK hP hD hS dX8_crosstalk_20 (fun H locs hP hD hS => ?_)
    refine lv_aload_n hx hb dX8_crosstalk_23 rfl (lv_at hl 0 rfl) ?_
    refine va_get (D := (dC, dI)) (ci := 9) (v := .int ((sG M 0 t0).1 0)) (C := RX8) (T := TX8) (N := 29) hx hb hts hinX8 hown hK hP 22 rfl rfl 0 (by decide) (hts (.fieldLink RX8 44 "CableTesterModel" "thrown" "I") (mm 1 rfl)) (fun _ h9 => h9) rfl dX8_crosstalk_24 ?_
    refine lv_if_le (tgt := 34) hx hb dX8_crosstalk_27 (by decide) (fun c4 => ?_) (fun c4 => ?_)
    · replace h := it c4 h
      refine lv_aload_n hx hb dX8_crosstalk_34 rfl (lv_at hl 0 rfl) ?_
      refine lv_iload_n hx hb dX8_crosstalk_35 rfl (lv_at hl 1 rfl) ?_
      refine lv_iload_n hx hb dX8_crosstalk_36 rfl (lv_at hl 2 rfl) ?_
      obtain ⟨r5, e6, h⟩ := bo h
      refine caVR_i (As := [.int x1, .int x2]) (rest := []) (ctX8_talk l dC dI cq q S (sG M 0 t0) o _ _ _ _ _ e6) F (cwV 2 hts gX8_crosstalk_X8_talk rfl rfl rfl hdX8_talk ⟨Nat.le_of_ble_eq_true rfl, Nat.le_of_ble_eq_true rfl⟩) hK hP hD hDm hS hA (fun _ _ _ _ _ => trivial) (fun _ _ _ => trivial) (va_recv hK hP (ci := 9) (q0 := 22) rfl rfl) rfl hl.1 rfl (Nat.le_of_ble_eq_true rfl) dX8_crosstalk_37 ⟨Nat.zero_le _, Nat.zero_le _⟩ (fun H locs hP hD hS => ?_)
      exact hend _ _ _ _ _ _ h hP hD hS dX8_crosstalk_40
    · replace h := ie c4 h
      refine lv_iconst (v := (0 : Int32)) hx hb dX8_crosstalk_30 (by decide) ?_
      refine lv_goto (tgt := 40) hx hb dX8_crosstalk_31 (by decide) ?_
      exact hend _ _ _ _ _ _ h hP hD hS dX8_crosstalk_40
  have hj19 : ∀ (M : MS) (x1 : Int32) (x2 : Int32)   (H : Heap) (locs : List Loc) (ls : Array Slot), va_P (dC, dI) vwCl (wA cq q S M o) H → va_D A (wA cq q S M o) → va_S A s.heap H locs → lv_has ls 3 [(0, .ref (q 22)), (1, .int x1), (2, .int x2)] → mX8_crosstalk_19 n M x1 x2 = some (rr, MM) → W p l e rmX8_crosstalk s m args below meth c H locs 0 0 Q (F0 m 19 ls [.ref (q 22)]) := by
    intro M x1 x2 H locs ls hP hD hS hl h
    rw [mX8_crosstalk_19] at h
    refine lv_iconst (v := (1 : Int32)) hx hb dX8_crosstalk_19 (by decide) ?_
    exact hj20 _ _ _ _ _ _ _ hP hD hS (lv_sub hl [0, 1, 2] rfl) h
  rw [mX8_crosstalk] at h
  refine lv_aload_n hx hb dX8_crosstalk_0 rfl (lv_at hl 0 rfl) ?_
  refine lv_iload_n hx hb dX8_crosstalk_1 rfl (lv_at hl 1 rfl) ?_
  obtain ⟨r1, e2, h⟩ := bo h
  refine caSR_i (As := [.int x1]) (rest := [.ref (q 22)]) (ctX8_isPair l dC dI cq q S M o _ _ _ e2) F (va_cwS 1 hts gX8_crosstalk_X8_isPair rfl rfl rfl hdX8_isPair ⟨Nat.le_of_ble_eq_true rfl, Nat.le_of_ble_eq_true rfl⟩) hK hP hD hDm hS hA (fun _ _ _ _ _ => trivial) (fun _ _ _ => trivial) rfl hl.1 rfl (Nat.le_of_ble_eq_true rfl) dX8_crosstalk_2 ⟨Nat.zero_le _, Nat.zero_le _⟩ (fun H locs hP hD hS => ?_)
  refine lv_if_eq (tgt := 19) hx hb dX8_crosstalk_5 (by decide) (fun c3 => ?_) (fun c3 => ?_)
  · replace h := it c3 h
    exact hj19 _ _ _ _ _ _ hP hD hS (lv_sub hl [0, 1, 2] rfl) h
  · replace h := ie c3 h
    refine lv_iload_n hx hb dX8_crosstalk_8 rfl (lv_at hl 2 rfl) ?_
    obtain ⟨r7, e8, h⟩ := bo h
    refine caSR_i (As := [.int x2]) (rest := [.ref (q 22)]) (ctX8_isPair l dC dI cq q S M o _ _ _ e8) F (va_cwS 1 hts gX8_crosstalk_X8_isPair rfl rfl rfl hdX8_isPair ⟨Nat.le_of_ble_eq_true rfl, Nat.le_of_ble_eq_true rfl⟩) hK hP hD hDm hS hA (fun _ _ _ _ _ => trivial) (fun _ _ _ => trivial) rfl hl.1 rfl (Nat.le_of_ble_eq_true rfl) dX8_crosstalk_9 ⟨Nat.zero_le _, Nat.zero_le _⟩ (fun H locs hP hD hS => ?_)
    refine lv_if_eq (tgt := 19) hx hb dX8_crosstalk_12 (by decide) (fun c9 => ?_) (fun c9 => ?_)
    · replace h := it c9 h
      exact hj19 _ _ _ _ _ _ hP hD hS (lv_sub hl [0, 1, 2] rfl) h
    · replace h := ie c9 h
      refine lv_iconst (v := (0 : Int32)) hx hb dX8_crosstalk_15 (by decide) ?_
      refine lv_goto (tgt := 20) hx hb dX8_crosstalk_16 (by decide) ?_
      exact hj20 _ _ _ _ _ _ _ hP hD hS (lv_sub hl [0, 1, 2] rfl) h
def mX8_isSplit (M : MS) (x1 : Int32) : Option (Int32) :=
  (if inb ((2 : Int32) * x1) 16 then (if inb (((2 : Int32) * x1) + (1 : Int32)) 16 then (if ((M.2.1 23 ((2 : Int32) * x1).toNatClampNeg) / (2 : Int32)) = ((M.2.1 23 (((2 : Int32) * x1) + (1 : Int32)).toNatClampNeg) / (2 : Int32)) then (some (0 : Int32)) else (some (1 : Int32))) else none) else none)
abbrev rmX8_isSplit : Room := { frames := 0, cells := 0, slots := 0, locals := 0 }
theorem hdX8_isSplit : yX8_isSplit.cls = RX8 ∧ yX8_isSplit.cls ≠ "java/lang/invoke/MethodHandle" ∧ yX8_isSplit.cls ≠ "java/lang/invoke/VarHandle" ∧ (parseMethodDescriptor yX8_isSplit.desc).map (fun d => d.parameters.length) = some 1 := by decide +kernel
set_option maxRecDepth 100000 in
set_option maxHeartbeats 8000000 in
theorem ctX8_isSplit (l : Launch) (dC : Nat → ClassId) (dI : Nat → Nat → Nat) (cq : Nat → ClassId) (q : Nat → Nat) (S : CS) (M : MS) (o : Nat → Int64) (sz : Nat) (x1 : Int32) (rr : Int32) (h : mX8_isSplit M x1 = some rr) : CtR_i l yX8_isSplit wsX8_isSplit rmX8_isSplit (fun _ => True) (fun _ => True) dC dI cq q S M o sz [.ref (q 22), .int x1] rr := by
  refine enR_z (cc := cX8_isSplit) (maxL := 2) (by decide) rfl (Nat.le_of_ble_eq_true rfl) (fun p e s m args below meth c A Q ls F hA hP hK hD hDm hX hS hl hend => ?_)
  obtain ⟨hx, hb, hml, hown, hts⟩ := id F
  have hown : s.vm.findClass RX8 = some m.cls := hown
  have F : CallFix p m c cX8_isSplit 2 s args wsX8_isSplit RX8 := F
  have hl : lv_has ls 2 [(0, .ref (q 22)), (1, .int x1)] := hl
  have hinX8 : ∀ w ∈ u_ws RX8 TX8 29, w ∈ wsX8_isSplit := fun w h => List.mem_cons_of_mem _ (List.mem_append_right _ h)
  rw [mX8_isSplit] at h
  refine lv_aload_n hx hb dX8_isSplit_0 rfl (lv_at hl 0 rfl) ?_
  refine va_get (D := (dC, dI)) (ci := 9) (v := .ref (q 23)) (C := RX8) (T := TX8) (N := 29) hx hb hts hinX8 hown hK hP 22 rfl rfl 5 (by decide) (hts (.fieldLink RX8 7 "CableTesterModel" "wires" "[I") (mm 1 rfl)) (fun _ h9 => h9) rfl dX8_isSplit_1 ?_
  refine lv_iconst (v := (2 : Int32)) hx hb dX8_isSplit_4 (by decide) ?_
  refine lv_iload_n hx hb dX8_isSplit_5 rfl (lv_at hl 1 rfl) ?_
  refine lv_imul hx hb dX8_isSplit_6 ?_
  obtain ⟨g1, h⟩ := gd h
  refine va_iald (D := (dC, dI)) hx hb hK hP 23 12 rfl rfl (inb_ok g1) dX8_isSplit_7 ?_
  refine lv_iconst (v := (2 : Int32)) hx hb dX8_isSplit_8 (by decide) ?_
  refine lv_idiv hx hb dX8_isSplit_9 (by decide) ?_
  refine lv_aload_n hx hb dX8_isSplit_10 rfl (lv_at hl 0 rfl) ?_
  refine va_get (D := (dC, dI)) (ci := 9) (v := .ref (q 23)) (C := RX8) (T := TX8) (N := 29) hx hb hts hinX8 hown hK hP 22 rfl rfl 5 (by decide) (hts (.fieldLink RX8 7 "CableTesterModel" "wires" "[I") (mm 1 rfl)) (fun _ h9 => h9) rfl dX8_isSplit_11 ?_
  refine lv_iconst (v := (2 : Int32)) hx hb dX8_isSplit_14 (by decide) ?_
  refine lv_iload_n hx hb dX8_isSplit_15 rfl (lv_at hl 1 rfl) ?_
  refine lv_imul hx hb dX8_isSplit_16 ?_
  refine lv_iconst (v := (1 : Int32)) hx hb dX8_isSplit_17 (by decide) ?_
  refine lv_iadd hx hb dX8_isSplit_18 ?_
  obtain ⟨g2, h⟩ := gd h
  refine va_iald (D := (dC, dI)) hx hb hK hP 23 12 rfl rfl (inb_ok g2) dX8_isSplit_19 ?_
  refine lv_iconst (v := (2 : Int32)) hx hb dX8_isSplit_20 (by decide) ?_
  refine lv_idiv hx hb dX8_isSplit_21 (by decide) ?_
  refine lv_icmp_eq (tgt := 29) hx hb dX8_isSplit_22 (by decide) (fun c3 => ?_) (fun c3 => ?_)
  · replace h := it c3 h
    refine lv_iconst (v := (0 : Int32)) hx hb dX8_isSplit_29 (by decide) ?_
    exact hend _ _ _ _ _ h hP hD hS dX8_isSplit_30 (by decide)
  · replace h := ie c3 h
    refine lv_iconst (v := (1 : Int32)) hx hb dX8_isSplit_25 (by decide) ?_
    refine lv_goto (tgt := 30) hx hb dX8_isSplit_26 (by decide) ?_
    exact hend _ _ _ _ _ h hP hD hS dX8_isSplit_30 (by decide)
def mX8_identified_56 (n : Nat) (K12 : MS → Int32 → Int32 → Option (Int32 × MS)) (M : MS) (x2 : Int32) (t0 : Int32) : Option (Int32 × MS) :=
  (K12 M t0 (x2 + (1 : Int32)))
def mX8_identified_51 (n : Nat) (K12 : MS → Int32 → Int32 → Option (Int32 × MS)) (M : MS) (x2 : Int32)  : Option (Int32 × MS) :=
  (mX8_identified_56 n (K12) M x2 (1 : Int32))
def mX8_identified_55 (n : Nat) (K12 : MS → Int32 → Int32 → Option (Int32 × MS)) (M : MS) (x2 : Int32)  : Option (Int32 × MS) :=
  (mX8_identified_56 n (K12) M x2 (0 : Int32))
def mX8_identified_12 (n : Nat)   : Nat → MS → Int32 → Int32 → Option (Int32 × MS)
  | 0, _, _, _ => none
  | k + 1, M, x1, x2 => (if (4 : Int32) ≤ x2 then (if x1 = (0 : Int32) then (some ((-1 : Int32), M)) else (if (M.1 3) ≤ (0 : Int32) then (some ((-1 : Int32), M)) else (some ((M.1 3), M)))) else (if x1 = (0 : Int32) then (bn (mX8_isSplit M x2) fun r8 => (if r8 = (0 : Int32) then (bn (mX8_statusNow n M ((2 : Int32) * x2)) fun r11 => (if r11 = (0 : Int32) then (bn (mX8_statusNow n M (((2 : Int32) * x2) + (1 : Int32))) fun r14 => (if r14 = (0 : Int32) then (mX8_identified_51 n (mX8_identified_12 n k) M x2) else (mX8_identified_55 n (mX8_identified_12 n k) M x2))) else (mX8_identified_55 n (mX8_identified_12 n k) M x2))) else (mX8_identified_55 n (mX8_identified_12 n k) M x2))) else (mX8_identified_51 n (mX8_identified_12 n k) M x2)))
def mX8_identified (n : Nat) (M : MS)  : Option (Int32 × MS) :=
  (bn (mX8_layNets n M (M.1 4)) fun M3 => (mX8_identified_12 n n M3 (0 : Int32) (0 : Int32)))
abbrev rmX8_identified : Room := { frames := 5, cells := 0, slots := 0, locals := 115 }
theorem hdX8_identified : yX8_identified.cls = RX8 ∧ yX8_identified.cls ≠ "java/lang/invoke/MethodHandle" ∧ yX8_identified.cls ≠ "java/lang/invoke/VarHandle" ∧ (parseMethodDescriptor yX8_identified.desc).map (fun d => d.parameters.length) = some 0 := by decide +kernel
set_option maxRecDepth 100000 in
set_option maxHeartbeats 8000000 in
theorem ctX8_identified (l : Launch) (dC : Nat → ClassId) (dI : Nat → Nat → Nat) (cq : Nat → ClassId) (q : Nat → Nat) (S : CS) (M : MS) (o : Nat → Int64) (sz : Nat) (n : Nat)  (rr : Int32) (MM : MS) (h : mX8_identified n M = some (rr, MM)) : CtM_i l yX8_identified wsX8_identified rmX8_identified (fun _ => True) (fun _ => True) dC dI cq q S M o sz [.ref (q 22)] rr MM := by
  refine enM_i (cc := cX8_identified) (maxL := 3) (by decide) rfl (Nat.le_of_ble_eq_true rfl) (fun p e s m args below meth c A Q ls F hA hP hK hD hDm hX hS hl hend => ?_)
  obtain ⟨hx, hb, hml, hown, hts⟩ := id F
  have hown : s.vm.findClass RX8 = some m.cls := hown
  have F : CallFix p m c cX8_identified 3 s args wsX8_identified RX8 := F
  have hl : lv_has ls 3 [(0, .ref (q 22))] := hl
  have hinX8 : ∀ w ∈ u_ws RX8 TX8 29, w ∈ wsX8_identified := fun w h => List.mem_cons_of_mem _ (List.mem_append_right _ h)
  have hj56 : ∀ (M : MS) (x2 : Int32) (t0 : Int32) (K12 : MS → Int32 → Int32 → Option (Int32 × MS)) (hK12 : ∀ (M9 : MS) (y1 : Int32) (y2 : Int32) (H : Heap) (locs : List Loc) (ls : Array Slot), va_P (dC, dI) vwCl (wA cq q S M9 o) H → va_D A (wA cq q S M9 o) → va_S A s.heap H locs → lv_has ls 3 [(0, .ref (q 22)), (1, .int y1), (2, .int y2)] → K12 M9 y1 y2 = some (rr, MM) → W p l e rmX8_identified s m args below meth c H locs 0 0 Q (F0 m 12 ls [])) (H : Heap) (locs : List Loc) (ls : Array Slot), va_P (dC, dI) vwCl (wA cq q S M o) H → va_D A (wA cq q S M o) → va_S A s.heap H locs → lv_has ls 3 [(0, .ref (q 22)), (2, .int x2)] → mX8_identified_56 n K12 M x2 t0 = some (rr, MM) → W p l e rmX8_identified s m args below meth c H locs 0 0 Q (F0 m 56 ls [.int t0]) := by
    intro M x2 t0 K12 hK12 H locs ls hP hD hS hl h
    rw [mX8_identified_56] at h
    refine lv_istore_n (lv' := [(1, .int t0), (0, .ref (q 22)), (2, .int x2)]) hx hb dX8_identified_56 rfl hl (by decide) rfl (fun ls hl => ?_)
    refine lv_iinc (v := (x2 + (1 : Int32))) (lv' := [(2, .int (x2 + (1 : Int32))), (1, .int t0), (0, .ref (q 22))]) hx hb dX8_identified_57 hl (k := 2) rfl rfl (by decide) rfl (fun ls hl => ?_)
    refine lv_goto (tgt := 12) hx hb dX8_identified_60 (by decide) ?_
    exact hK12 _ _ _ _ _ _ hP hD hS (lv_sub hl [2, 1, 0] rfl) h
  have hj51 : ∀ (M : MS) (x2 : Int32)  (K12 : MS → Int32 → Int32 → Option (Int32 × MS)) (hK12 : ∀ (M9 : MS) (y1 : Int32) (y2 : Int32) (H : Heap) (locs : List Loc) (ls : Array Slot), va_P (dC, dI) vwCl (wA cq q S M9 o) H → va_D A (wA cq q S M9 o) → va_S A s.heap H locs → lv_has ls 3 [(0, .ref (q 22)), (1, .int y1), (2, .int y2)] → K12 M9 y1 y2 = some (rr, MM) → W p l e rmX8_identified s m args below meth c H locs 0 0 Q (F0 m 12 ls [])) (H : Heap) (locs : List Loc) (ls : Array Slot), va_P (dC, dI) vwCl (wA cq q S M o) H → va_D A (wA cq q S M o) → va_S A s.heap H locs → lv_has ls 3 [(0, .ref (q 22)), (2, .int x2)] → mX8_identified_51 n K12 M x2 = some (rr, MM) → W p l e rmX8_identified s m args below meth c H locs 0 0 Q (F0 m 51 ls []) := by
    intro M x2 K12 hK12 H locs ls hP hD hS hl h
    rw [mX8_identified_51] at h
    refine lv_iconst (v := (1 : Int32)) hx hb dX8_identified_51 (by decide) ?_
    refine lv_goto (tgt := 56) hx hb dX8_identified_52 (by decide) ?_
    exact hj56 _ _ _ _ hK12 _ _ _ hP hD hS (lv_sub hl [0, 1] rfl) h
  have hj55 : ∀ (M : MS) (x2 : Int32)  (K12 : MS → Int32 → Int32 → Option (Int32 × MS)) (hK12 : ∀ (M9 : MS) (y1 : Int32) (y2 : Int32) (H : Heap) (locs : List Loc) (ls : Array Slot), va_P (dC, dI) vwCl (wA cq q S M9 o) H → va_D A (wA cq q S M9 o) → va_S A s.heap H locs → lv_has ls 3 [(0, .ref (q 22)), (1, .int y1), (2, .int y2)] → K12 M9 y1 y2 = some (rr, MM) → W p l e rmX8_identified s m args below meth c H locs 0 0 Q (F0 m 12 ls [])) (H : Heap) (locs : List Loc) (ls : Array Slot), va_P (dC, dI) vwCl (wA cq q S M o) H → va_D A (wA cq q S M o) → va_S A s.heap H locs → lv_has ls 3 [(0, .ref (q 22)), (2, .int x2)] → mX8_identified_55 n K12 M x2 = some (rr, MM) → W p l e rmX8_identified s m args below meth c H locs 0 0 Q (F0 m 55 ls []) := by
    intro M x2 K12 hK12 H locs ls hP hD hS hl h
    rw [mX8_identified_55] at h
    refine lv_iconst (v := (0 : Int32)) hx hb dX8_identified_55 (by decide) ?_
    exact hj56 _ _ _ _ hK12 _ _ _ hP hD hS (lv_sub hl [0, 1] rfl) h
  have hL12 : ∀   (k : Nat) (M : MS) (x1 : Int32) (x2 : Int32) (H : Heap) (locs : List Loc) (ls : Array Slot), va_P (dC, dI) vwCl (wA cq q S M o) H → va_D A (wA cq q S M o) → va_S A s.heap H locs → lv_has ls 3 [(0, .ref (q 22)), (1, .int x1), (2, .int x2)] → mX8_identified_12 n k M x1 x2 = some (rr, MM) → W p l e rmX8_identified s m args below meth c H locs 0 0 Q (F0 m 12 ls []) := by
    intro k
    induction k with
    | zero =>
      intro M x1 x2 H locs ls hP hD hS hl h
      rw [mX8_identified_12] at h
      cases h
    | succ k ih =>
      intro M x1 x2 H locs ls hP hD hS hl h
      rw [mX8_identified_12] at h
      refine lv_iload_n hx hb dX8_identified_12 rfl (lv_at hl 2 rfl) ?_
      refine lv_iconst (v := (4 : Int32)) hx hb dX8_identified_13 (by decide) ?_
      refine lv_icmp_ge (tgt := 63) hx hb dX8_identified_14 (by decide) (fun c4 => ?_) (fun c4 => ?_)
      · replace h := it c4 h
        refine lv_iload_n hx hb dX8_identified_63 rfl (lv_at hl 1 rfl) ?_
        refine lv_if_eq (tgt := 81) hx hb dX8_identified_64 (by decide) (fun c5 => ?_) (fun c5 => ?_)
        · replace h := it c5 h
          refine lv_iconst (v := (-1 : Int32)) hx hb dX8_identified_81 (by decide) ?_
          exact hend _ _ _ _ _ _ h hP hD hS dX8_identified_82
        · replace h := ie c5 h
          refine lv_aload_n hx hb dX8_identified_67 rfl (lv_at hl 0 rfl) ?_
          refine va_get (D := (dC, dI)) (ci := 9) (v := .int (M.1 3)) (C := RX8) (T := TX8) (N := 29) hx hb hts hinX8 hown hK hP 22 rfl rfl 3 (by decide) (hts (.fieldLink RX8 58 "CableTesterModel" "remote" "I") (mm 2 rfl)) (fun _ h9 => h9) rfl dX8_identified_68 ?_
          refine lv_if_le (tgt := 81) hx hb dX8_identified_71 (by decide) (fun c6 => ?_) (fun c6 => ?_)
          · replace h := it c6 h
            refine lv_iconst (v := (-1 : Int32)) hx hb dX8_identified_81 (by decide) ?_
            exact hend _ _ _ _ _ _ h hP hD hS dX8_identified_82
          · replace h := ie c6 h
            refine lv_aload_n hx hb dX8_identified_74 rfl (lv_at hl 0 rfl) ?_
            refine va_get (D := (dC, dI)) (ci := 9) (v := .int (M.1 3)) (C := RX8) (T := TX8) (N := 29) hx hb hts hinX8 hown hK hP 22 rfl rfl 3 (by decide) (hts (.fieldLink RX8 58 "CableTesterModel" "remote" "I") (mm 2 rfl)) (fun _ h9 => h9) rfl dX8_identified_75 ?_
            refine lv_goto (tgt := 82) hx hb dX8_identified_78 (by decide) ?_
            exact hend _ _ _ _ _ _ h hP hD hS dX8_identified_82
      · replace h := ie c4 h
        refine lv_iload_n hx hb dX8_identified_17 rfl (lv_at hl 1 rfl) ?_
        refine lv_if_ne (tgt := 51) hx hb dX8_identified_18 (by decide) (fun c7 => ?_) (fun c7 => ?_)
        · replace h := ie c7 h
          exact hj51 _ _ _ ih _ _ _ hP hD hS (lv_sub hl [0, 2] rfl) h
        · replace h := it c7 h
          refine lv_aload_n hx hb dX8_identified_21 rfl (lv_at hl 0 rfl) ?_
          refine lv_iload_n hx hb dX8_identified_22 rfl (lv_at hl 2 rfl) ?_
          obtain ⟨r8, e9, h⟩ := bo h
          refine caVR_i (As := [.int x2]) (rest := []) (ctX8_isSplit l dC dI cq q S M o _ _ _ e9) F (cwV 1 hts gX8_identified_X8_isSplit rfl rfl rfl hdX8_isSplit ⟨Nat.le_of_ble_eq_true rfl, Nat.le_of_ble_eq_true rfl⟩) hK hP hD hDm hS hA (fun _ _ _ _ _ => trivial) (fun _ _ _ => trivial) (va_recv hK hP (ci := 9) (q0 := 22) rfl rfl) rfl hl.1 rfl (Nat.le_of_ble_eq_true rfl) dX8_identified_23 ⟨Nat.zero_le _, Nat.zero_le _⟩ (fun H locs hP hD hS => ?_)
          refine lv_if_ne (tgt := 55) hx hb dX8_identified_26 (by decide) (fun c10 => ?_) (fun c10 => ?_)
          · replace h := ie c10 h
            exact hj55 _ _ _ ih _ _ _ hP hD hS (lv_sub hl [0, 2] rfl) h
          · replace h := it c10 h
            refine lv_aload_n hx hb dX8_identified_29 rfl (lv_at hl 0 rfl) ?_
            refine lv_iconst (v := (2 : Int32)) hx hb dX8_identified_30 (by decide) ?_
            refine lv_iload_n hx hb dX8_identified_31 rfl (lv_at hl 2 rfl) ?_
            refine lv_imul hx hb dX8_identified_32 ?_
            obtain ⟨r11, e12, h⟩ := bo h
            refine caVR_i (As := [.int ((2 : Int32) * x2)]) (rest := []) (ctX8_statusNow l dC dI cq q S M o _ _ _ _ e12) F (cwV 1 hts gX8_identified_X8_statusNow rfl rfl rfl hdX8_statusNow ⟨Nat.le_of_ble_eq_true rfl, Nat.le_of_ble_eq_true rfl⟩) hK hP hD hDm hS hA (fun _ _ _ _ _ => trivial) (fun _ _ _ => trivial) (va_recv hK hP (ci := 9) (q0 := 22) rfl rfl) rfl hl.1 rfl (Nat.le_of_ble_eq_true rfl) dX8_identified_33 ⟨Nat.zero_le _, Nat.zero_le _⟩ (fun H locs hP hD hS => ?_)
            refine lv_if_ne (tgt := 55) hx hb dX8_identified_36 (by decide) (fun c13 => ?_) (fun c13 => ?_)
            · replace h := ie c13 h
              exact hj55 _ _ _ ih _ _ _ hP hD hS (lv_sub hl [0, 2] rfl) h
            · replace h := it c13 h
              refine lv_aload_n hx hb dX8_identified_39 rfl (lv_at hl 0 rfl) ?_
              refine lv_iconst (v := (2 : Int32)) hx hb dX8_identified_40 (by decide) ?_
              refine lv_iload_n hx hb dX8_identified_41 rfl (lv_at hl 2 rfl) ?_
              refine lv_imul hx hb dX8_identified_42 ?_
              refine lv_iconst (v := (1 : Int32)) hx hb dX8_identified_43 (by decide) ?_
              refine lv_iadd hx hb dX8_identified_44 ?_
              obtain ⟨r14, e15, h⟩ := bo h
              refine caVR_i (As := [.int (((2 : Int32) * x2) + (1 : Int32))]) (rest := []) (ctX8_statusNow l dC dI cq q S M o _ _ _ _ e15) F (cwV 1 hts gX8_identified_X8_statusNow rfl rfl rfl hdX8_statusNow ⟨Nat.le_of_ble_eq_true rfl, Nat.le_of_ble_eq_true rfl⟩) hK hP hD hDm hS hA (fun _ _ _ _ _ => trivial) (fun _ _ _ => trivial) (va_recv hK hP (ci := 9) (q0 := 22) rfl rfl) rfl hl.1 rfl (Nat.le_of_ble_eq_true rfl) dX8_identified_45 ⟨Nat.zero_le _, Nat.zero_le _⟩ (fun H locs hP hD hS => ?_)
              refine lv_if_ne (tgt := 55) hx hb dX8_identified_48 (by decide) (fun c16 => ?_) (fun c16 => ?_)
              · replace h := ie c16 h
                exact hj55 _ _ _ ih _ _ _ hP hD hS (lv_sub hl [0, 2] rfl) h
              · replace h := it c16 h
                exact hj51 _ _ _ ih _ _ _ hP hD hS (lv_sub hl [0, 2] rfl) h
  rw [mX8_identified] at h
  refine lv_aload_n hx hb dX8_identified_0 rfl (lv_at hl 0 rfl) ?_
  refine lv_aload_n hx hb dX8_identified_1 rfl (lv_at hl 0 rfl) ?_
  refine va_get (D := (dC, dI)) (ci := 9) (v := .int (M.1 4)) (C := RX8) (T := TX8) (N := 29) hx hb hts hinX8 hown hK hP 22 rfl rfl 4 (by decide) (hts (.fieldLink RX8 61 "CableTesterModel" "tick" "I") (mm 1 rfl)) (fun _ h9 => h9) rfl dX8_identified_2 ?_
  obtain ⟨M3, e2, h⟩ := bo h
  refine caVM_v (As := [.int (M.1 4)]) (rest := []) (ctX8_layNets l dC dI cq q S M o _ _ _ _ e2) F (cwV 1 hts gX8_identified_X8_layNets rfl rfl rfl hdX8_layNets ⟨Nat.le_of_ble_eq_true rfl, Nat.le_of_ble_eq_true rfl⟩) hK hP hD hDm hS hA (fun _ _ _ _ _ => trivial) (fun _ _ _ => trivial) (va_recv hK hP (ci := 9) (q0 := 22) rfl rfl) rfl hl.1 rfl (Nat.le_of_ble_eq_true rfl) dX8_identified_5 ⟨Nat.zero_le _, Nat.zero_le _⟩ (fun H locs hP hD hS => ?_)
  refine lv_iconst (v := (0 : Int32)) hx hb dX8_identified_8 (by decide) ?_
  refine lv_istore_n (lv' := [(1, .int (0 : Int32)), (0, .ref (q 22))]) hx hb dX8_identified_9 rfl hl (by decide) rfl (fun ls hl => ?_)
  refine lv_iconst (v := (0 : Int32)) hx hb dX8_identified_10 (by decide) ?_
  refine lv_istore_n (lv' := [(2, .int (0 : Int32)), (1, .int (0 : Int32)), (0, .ref (q 22))]) hx hb dX8_identified_11 rfl hl (by decide) rfl (fun ls hl => ?_)
  exact hL12 _ _ _ _ _ _ _ hP hD hS (lv_sub hl [2, 1, 0] rfl) h
def mX8_identify (n : Nat) (M : MS)  : Option (Int32 × MS) :=
  (bm (mX8_identified n (sG M 0 (0 : Int32))) fun r1 M3 => (some (r1, M3)))
abbrev rmX8_identify : Room := { frames := 6, cells := 0, slots := 0, locals := 137 }
theorem hdX8_identify : yX8_identify.cls = RX8 ∧ yX8_identify.cls ≠ "java/lang/invoke/MethodHandle" ∧ yX8_identify.cls ≠ "java/lang/invoke/VarHandle" ∧ (parseMethodDescriptor yX8_identify.desc).map (fun d => d.parameters.length) = some 0 := by decide +kernel
set_option maxRecDepth 100000 in
set_option maxHeartbeats 8000000 in
theorem ctX8_identify (l : Launch) (dC : Nat → ClassId) (dI : Nat → Nat → Nat) (cq : Nat → ClassId) (q : Nat → Nat) (S : CS) (M : MS) (o : Nat → Int64) (sz : Nat) (n : Nat)  (rr : Int32) (MM : MS) (h : mX8_identify n M = some (rr, MM)) : CtM_i l yX8_identify wsX8_identify rmX8_identify (fun _ => True) (fun _ => True) dC dI cq q S M o sz [.ref (q 22)] rr MM := by
  refine enM_i (cc := cX8_identify) (maxL := 1) (by decide) rfl (Nat.le_of_ble_eq_true rfl) (fun p e s m args below meth c A Q ls F hA hP hK hD hDm hX hS hl hend => ?_)
  obtain ⟨hx, hb, hml, hown, hts⟩ := id F
  have hown : s.vm.findClass RX8 = some m.cls := hown
  have F : CallFix p m c cX8_identify 1 s args wsX8_identify RX8 := F
  have hl : lv_has ls 1 [(0, .ref (q 22))] := hl
  have hinX8 : ∀ w ∈ u_ws RX8 TX8 29, w ∈ wsX8_identify := fun w h => List.mem_cons_of_mem _ (List.mem_append_right _ h)
  rw [mX8_identify] at h
  refine lv_aload_n hx hb dX8_identify_0 rfl (lv_at hl 0 rfl) ?_
  refine lv_iconst (v := (0 : Int32)) hx hb dX8_identify_1 (by decide) ?_
  refine pt_22_0 F hinX8 (hts (.fieldLink RX8 44 "CableTesterModel" "thrown" "I") (mm 1 rfl)) hK hP hD hS dX8_identify_2 (fun H locs hP hD hS => ?_)
  refine lv_aload_n hx hb dX8_identify_5 rfl (lv_at hl 0 rfl) ?_
  obtain ⟨r1, M3, e2, h⟩ := bp h
  refine caVM_i (As := []) (rest := []) (ctX8_identified l dC dI cq q S (sG M 0 (0 : Int32)) o _ _ _ _ e2) F (cwV 0 hts gX8_identify_X8_identified rfl rfl rfl hdX8_identified ⟨Nat.le_of_ble_eq_true rfl, Nat.le_of_ble_eq_true rfl⟩) hK hP hD hDm hS hA (fun _ _ _ _ _ => trivial) (fun _ _ _ => trivial) (va_recv hK hP (ci := 9) (q0 := 22) rfl rfl) rfl hl.1 rfl (Nat.le_of_ble_eq_true rfl) dX8_identify_6 ⟨Nat.zero_le _, Nat.zero_le _⟩ (fun H locs hP hD hS => ?_)
  exact hend _ _ _ _ _ _ h hP hD hS dX8_identify_9
def mX8_recorded (M : MS) (x1 : Int32) (x2 : Int32) : Option (Int32) :=
  (if inb x1 64 then (some (((M.2.1 25 x1.toNatClampNeg) >>> (x2 &&& 31)) &&& (1 : Int32))) else none)
abbrev rmX8_recorded : Room := { frames := 0, cells := 0, slots := 0, locals := 0 }
theorem hdX8_recorded : yX8_recorded.cls = RX8 ∧ yX8_recorded.cls ≠ "java/lang/invoke/MethodHandle" ∧ yX8_recorded.cls ≠ "java/lang/invoke/VarHandle" ∧ (parseMethodDescriptor yX8_recorded.desc).map (fun d => d.parameters.length) = some 2 := by decide +kernel
set_option maxRecDepth 100000 in
set_option maxHeartbeats 8000000 in
theorem ctX8_recorded (l : Launch) (dC : Nat → ClassId) (dI : Nat → Nat → Nat) (cq : Nat → ClassId) (q : Nat → Nat) (S : CS) (M : MS) (o : Nat → Int64) (sz : Nat) (x1 : Int32) (x2 : Int32) (rr : Int32) (h : mX8_recorded M x1 x2 = some rr) : CtR_i l yX8_recorded wsX8_recorded rmX8_recorded (fun _ => True) (fun _ => True) dC dI cq q S M o sz [.ref (q 22), .int x1, .int x2] rr := by
  refine enR_i (cc := cX8_recorded) (maxL := 3) (by decide) rfl (Nat.le_of_ble_eq_true rfl) (fun p e s m args below meth c A Q ls F hA hP hK hD hDm hX hS hl hend => ?_)
  obtain ⟨hx, hb, hml, hown, hts⟩ := id F
  have hown : s.vm.findClass RX8 = some m.cls := hown
  have F : CallFix p m c cX8_recorded 3 s args wsX8_recorded RX8 := F
  have hl : lv_has ls 3 [(0, .ref (q 22)), (1, .int x1), (2, .int x2)] := hl
  have hinX8 : ∀ w ∈ u_ws RX8 TX8 29, w ∈ wsX8_recorded := fun w h => List.mem_cons_of_mem _ (List.mem_append_right _ h)
  rw [mX8_recorded] at h
  refine lv_aload_n hx hb dX8_recorded_0 rfl (lv_at hl 0 rfl) ?_
  refine va_get (D := (dC, dI)) (ci := 9) (v := .ref (q 25)) (C := RX8) (T := TX8) (N := 29) hx hb hts hinX8 hown hK hP 22 rfl rfl 8 (by decide) (hts (.fieldLink RX8 16 "CableTesterModel" "kept" "[I") (mm 1 rfl)) (fun _ h9 => h9) rfl dX8_recorded_1 ?_
  refine lv_iload_n hx hb dX8_recorded_4 rfl (lv_at hl 1 rfl) ?_
  obtain ⟨g1, h⟩ := gd h
  refine va_iald (D := (dC, dI)) hx hb hK hP 25 14 rfl rfl (inb_ok g1) dX8_recorded_5 ?_
  refine lv_iload_n hx hb dX8_recorded_6 rfl (lv_at hl 2 rfl) ?_
  refine lv_ishr hx hb dX8_recorded_7 ?_
  refine lv_iconst (v := (1 : Int32)) hx hb dX8_recorded_8 (by decide) ?_
  refine lv_iand hx hb dX8_recorded_9 ?_
  exact hend _ _ _ _ _ h hP hD hS dX8_recorded_10
def mX8_wrongRecords_4 (n : Nat)  (M : MS) (x1 : Int32) : Nat → Int32 → Int32 → Option (Int32)
  | 0, _, _ => none
  | k + 1, x2, x3 => (if (M.1 9) ≤ x3 then (some x2) else (bn (mX8_recorded M x3 x1) fun r2 => (mX8_wrongRecords_4 n M x1 k (x2 + r2) (x3 + (1 : Int32)))))
def mX8_wrongRecords (n : Nat) (M : MS) (x1 : Int32) : Option (Int32) :=
  (mX8_wrongRecords_4 n M x1 n (0 : Int32) (0 : Int32))
abbrev rmX8_wrongRecords : Room := { frames := 1, cells := 0, slots := 0, locals := 22 }
theorem hdX8_wrongRecords : yX8_wrongRecords.cls = RX8 ∧ yX8_wrongRecords.cls ≠ "java/lang/invoke/MethodHandle" ∧ yX8_wrongRecords.cls ≠ "java/lang/invoke/VarHandle" ∧ (parseMethodDescriptor yX8_wrongRecords.desc).map (fun d => d.parameters.length) = some 1 := by decide +kernel
set_option maxRecDepth 100000 in
set_option maxHeartbeats 8000000 in
theorem ctX8_wrongRecords (l : Launch) (dC : Nat → ClassId) (dI : Nat → Nat → Nat) (cq : Nat → ClassId) (q : Nat → Nat) (S : CS) (M : MS) (o : Nat → Int64) (sz : Nat) (n : Nat) (x1 : Int32) (rr : Int32) (h : mX8_wrongRecords n M x1 = some rr) : CtR_i l yX8_wrongRecords wsX8_wrongRecords rmX8_wrongRecords (fun _ => True) (fun _ => True) dC dI cq q S M o sz [.ref (q 22), .int x1] rr := by
  refine enR_i (cc := cX8_wrongRecords) (maxL := 4) (by decide) rfl (Nat.le_of_ble_eq_true rfl) (fun p e s m args below meth c A Q ls F hA hP hK hD hDm hX hS hl hend => ?_)
  obtain ⟨hx, hb, hml, hown, hts⟩ := id F
  have hown : s.vm.findClass RX8 = some m.cls := hown
  have F : CallFix p m c cX8_wrongRecords 4 s args wsX8_wrongRecords RX8 := F
  have hl : lv_has ls 4 [(0, .ref (q 22)), (1, .int x1)] := hl
  have hinX8 : ∀ w ∈ u_ws RX8 TX8 29, w ∈ wsX8_wrongRecords := fun w h => List.mem_cons_of_mem _ (List.mem_append_right _ h)
  have hL4 : ∀ (x1 : Int32)  (k : Nat)  (x2 : Int32) (x3 : Int32) (H : Heap) (locs : List Loc) (ls : Array Slot), va_P (dC, dI) vwCl (wA cq q S M o) H → va_D A (wA cq q S M o) → va_S A s.heap H locs → lv_has ls 4 [(0, .ref (q 22)), (1, .int x1), (2, .int x2), (3, .int x3)] → mX8_wrongRecords_4 n M x1 k x2 x3 = some rr → W p l e rmX8_wrongRecords s m args below meth c H locs 0 0 Q (F0 m 4 ls []) := by
    intro x1
    intro k
    induction k with
    | zero =>
      intro x2 x3 H locs ls hP hD hS hl h
      rw [mX8_wrongRecords_4] at h
      cases h
    | succ k ih =>
      intro x2 x3 H locs ls hP hD hS hl h
      rw [mX8_wrongRecords_4] at h
      refine lv_iload_n hx hb dX8_wrongRecords_4 rfl (lv_at hl 3 rfl) ?_
      refine lv_aload_n hx hb dX8_wrongRecords_5 rfl (lv_at hl 0 rfl) ?_
      refine va_get (D := (dC, dI)) (ci := 9) (v := .int (M.1 9)) (C := RX8) (T := TX8) (N := 29) hx hb hts hinX8 hown hK hP 22 rfl rfl 9 (by decide) (hts (.fieldLink RX8 67 "CableTesterModel" "records" "I") (mm 1 rfl)) (fun _ h9 => h9) rfl dX8_wrongRecords_6 ?_
      refine lv_icmp_ge (tgt := 27) hx hb dX8_wrongRecords_9 (by decide) (fun c1 => ?_) (fun c1 => ?_)
      · replace h := it c1 h
        refine lv_iload_n hx hb dX8_wrongRecords_27 rfl (lv_at hl 2 rfl) ?_
        exact hend _ _ _ _ _ h hP hD hS dX8_wrongRecords_28
      · replace h := ie c1 h
        refine lv_iload_n hx hb dX8_wrongRecords_12 rfl (lv_at hl 2 rfl) ?_
        refine lv_aload_n hx hb dX8_wrongRecords_13 rfl (lv_at hl 0 rfl) ?_
        refine lv_iload_n hx hb dX8_wrongRecords_14 rfl (lv_at hl 3 rfl) ?_
        refine lv_iload_n hx hb dX8_wrongRecords_15 rfl (lv_at hl 1 rfl) ?_
        obtain ⟨r2, e3, h⟩ := bo h
        refine caVR_i (As := [.int x3, .int x1]) (rest := [.int x2]) (ctX8_recorded l dC dI cq q S M o _ _ _ _ e3) F (cwV 2 hts gX8_wrongRecords_X8_recorded rfl rfl rfl hdX8_recorded ⟨Nat.le_of_ble_eq_true rfl, Nat.le_of_ble_eq_true rfl⟩) hK hP hD hDm hS hA (fun _ _ _ _ _ => trivial) (fun _ _ _ => trivial) (va_recv hK hP (ci := 9) (q0 := 22) rfl rfl) rfl hl.1 rfl (Nat.le_of_ble_eq_true rfl) dX8_wrongRecords_16 ⟨Nat.zero_le _, Nat.zero_le _⟩ (fun H locs hP hD hS => ?_)
        refine lv_iadd hx hb dX8_wrongRecords_19 ?_
        refine lv_istore_n (lv' := [(2, .int (x2 + r2)), (0, .ref (q 22)), (1, .int x1), (3, .int x3)]) hx hb dX8_wrongRecords_20 rfl hl (by decide) rfl (fun ls hl => ?_)
        refine lv_iinc (v := (x3 + (1 : Int32))) (lv' := [(3, .int (x3 + (1 : Int32))), (2, .int (x2 + r2)), (0, .ref (q 22)), (1, .int x1)]) hx hb dX8_wrongRecords_21 hl (k := 3) rfl rfl (by decide) rfl (fun ls hl => ?_)
        refine lv_goto (tgt := 4) hx hb dX8_wrongRecords_24 (by decide) ?_
        exact ih _ _ _ _ _ hP hD hS (lv_sub hl [2, 3, 1, 0] rfl) h
  rw [mX8_wrongRecords] at h
  refine lv_iconst (v := (0 : Int32)) hx hb dX8_wrongRecords_0 (by decide) ?_
  refine lv_istore_n (lv' := [(2, .int (0 : Int32)), (0, .ref (q 22)), (1, .int x1)]) hx hb dX8_wrongRecords_1 rfl hl (by decide) rfl (fun ls hl => ?_)
  refine lv_iconst (v := (0 : Int32)) hx hb dX8_wrongRecords_2 (by decide) ?_
  refine lv_istore_n (lv' := [(3, .int (0 : Int32)), (2, .int (0 : Int32)), (0, .ref (q 22)), (1, .int x1)]) hx hb dX8_wrongRecords_3 rfl hl (by decide) rfl (fun ls hl => ?_)
  exact hL4 _ _ _ _ _ _ _ hP hD hS (lv_sub hl [2, 3, 1, 0] rfl) h
def mX8_longest_45 (n : Nat) (K7 : Int32 → Int32 → Int32 → Option (Int32)) (M : MS) (x1 : Int32) (x3 : Int32) (x4 : Int32) (t0 : Int32) : Option (Int32) :=
  (K7 t0 x3 (x4 + (1 : Int32)))
def mX8_longest_34 (n : Nat) (K7 : Int32 → Int32 → Int32 → Option (Int32)) (M : MS) (x1 : Int32) (x2 : Int32) (x4 : Int32) (t0 : Int32) : Option (Int32) :=
  (if t0 ≤ x2 then (mX8_longest_45 n (K7) M x1 t0 x4 x2) else (mX8_longest_45 n (K7) M x1 t0 x4 t0))
def mX8_longest_7 (n : Nat)  (M : MS) (x1 : Int32) : Nat → Int32 → Int32 → Int32 → Option (Int32)
  | 0, _, _, _ => none
  | k + 1, x2, x3, x4 => (if (M.1 9) ≤ x4 then (some x2) else (bn (mX8_recorded M x4 x1) fun r2 => (if r2 = (1 : Int32) then (mX8_longest_34 n (mX8_longest_7 n M x1 k) M x1 x2 x4 (x3 + (1 : Int32))) else (mX8_longest_34 n (mX8_longest_7 n M x1 k) M x1 x2 x4 (0 : Int32)))))
def mX8_longest (n : Nat) (M : MS) (x1 : Int32) : Option (Int32) :=
  (mX8_longest_7 n M x1 n (0 : Int32) (0 : Int32) (0 : Int32))
abbrev rmX8_longest : Room := { frames := 1, cells := 0, slots := 0, locals := 22 }
theorem hdX8_longest : yX8_longest.cls = RX8 ∧ yX8_longest.cls ≠ "java/lang/invoke/MethodHandle" ∧ yX8_longest.cls ≠ "java/lang/invoke/VarHandle" ∧ (parseMethodDescriptor yX8_longest.desc).map (fun d => d.parameters.length) = some 1 := by decide +kernel
set_option maxRecDepth 100000 in
set_option maxHeartbeats 8000000 in
theorem ctX8_longest (l : Launch) (dC : Nat → ClassId) (dI : Nat → Nat → Nat) (cq : Nat → ClassId) (q : Nat → Nat) (S : CS) (M : MS) (o : Nat → Int64) (sz : Nat) (n : Nat) (x1 : Int32) (rr : Int32) (h : mX8_longest n M x1 = some rr) : CtR_i l yX8_longest wsX8_longest rmX8_longest (fun _ => True) (fun _ => True) dC dI cq q S M o sz [.ref (q 22), .int x1] rr := by
  refine enR_i (cc := cX8_longest) (maxL := 5) (by decide) rfl (Nat.le_of_ble_eq_true rfl) (fun p e s m args below meth c A Q ls F hA hP hK hD hDm hX hS hl hend => ?_)
  obtain ⟨hx, hb, hml, hown, hts⟩ := id F
  have hown : s.vm.findClass RX8 = some m.cls := hown
  have F : CallFix p m c cX8_longest 5 s args wsX8_longest RX8 := F
  have hl : lv_has ls 5 [(0, .ref (q 22)), (1, .int x1)] := hl
  have hinX8 : ∀ w ∈ u_ws RX8 TX8 29, w ∈ wsX8_longest := fun w h => List.mem_cons_of_mem _ (List.mem_append_right _ h)
  have hj45 : ∀  (x1 : Int32) (x3 : Int32) (x4 : Int32) (t0 : Int32) (K7 : Int32 → Int32 → Int32 → Option (Int32)) (hK7 : ∀ (y2 : Int32) (y3 : Int32) (y4 : Int32) (H : Heap) (locs : List Loc) (ls : Array Slot), va_P (dC, dI) vwCl (wA cq q S M o) H → va_D A (wA cq q S M o) → va_S A s.heap H locs → lv_has ls 5 [(0, .ref (q 22)), (1, .int x1), (2, .int y2), (3, .int y3), (4, .int y4)] → K7 y2 y3 y4 = some rr → W p l e rmX8_longest s m args below meth c H locs 0 0 Q (F0 m 7 ls [])) (H : Heap) (locs : List Loc) (ls : Array Slot), va_P (dC, dI) vwCl (wA cq q S M o) H → va_D A (wA cq q S M o) → va_S A s.heap H locs → lv_has ls 5 [(0, .ref (q 22)), (1, .int x1), (3, .int x3), (4, .int x4)] → mX8_longest_45 n K7 M x1 x3 x4 t0 = some rr → W p l e rmX8_longest s m args below meth c H locs 0 0 Q (F0 m 45 ls [.int t0]) := by
    intro x1 x3 x4 t0 K7 hK7 H locs ls hP hD hS hl h
    rw [mX8_longest_45] at h
    refine lv_istore_n (lv' := [(2, .int t0), (0, .ref (q 22)), (1, .int x1), (3, .int x3), (4, .int x4)]) hx hb dX8_longest_45 rfl hl (by decide) rfl (fun ls hl => ?_)
    refine lv_iinc (v := (x4 + (1 : Int32))) (lv' := [(4, .int (x4 + (1 : Int32))), (2, .int t0), (0, .ref (q 22)), (1, .int x1), (3, .int x3)]) hx hb dX8_longest_46 hl (k := 4) rfl rfl (by decide) rfl (fun ls hl => ?_)
    refine lv_goto (tgt := 7) hx hb dX8_longest_49 (by decide) ?_
    exact hK7 _ _ _ _ _ _ hP hD hS (lv_sub hl [2, 3, 1, 4, 0] rfl) h
  have hj34 : ∀  (x1 : Int32) (x2 : Int32) (x4 : Int32) (t0 : Int32) (K7 : Int32 → Int32 → Int32 → Option (Int32)) (hK7 : ∀ (y2 : Int32) (y3 : Int32) (y4 : Int32) (H : Heap) (locs : List Loc) (ls : Array Slot), va_P (dC, dI) vwCl (wA cq q S M o) H → va_D A (wA cq q S M o) → va_S A s.heap H locs → lv_has ls 5 [(0, .ref (q 22)), (1, .int x1), (2, .int y2), (3, .int y3), (4, .int y4)] → K7 y2 y3 y4 = some rr → W p l e rmX8_longest s m args below meth c H locs 0 0 Q (F0 m 7 ls [])) (H : Heap) (locs : List Loc) (ls : Array Slot), va_P (dC, dI) vwCl (wA cq q S M o) H → va_D A (wA cq q S M o) → va_S A s.heap H locs → lv_has ls 5 [(0, .ref (q 22)), (1, .int x1), (2, .int x2), (4, .int x4)] → mX8_longest_34 n K7 M x1 x2 x4 t0 = some rr → W p l e rmX8_longest s m args below meth c H locs 0 0 Q (F0 m 34 ls [.int t0]) := by
    intro x1 x2 x4 t0 K7 hK7 H locs ls hP hD hS hl h
    rw [mX8_longest_34] at h
    refine lv_istore_n (lv' := [(3, .int t0), (0, .ref (q 22)), (1, .int x1), (2, .int x2), (4, .int x4)]) hx hb dX8_longest_34 rfl hl (by decide) rfl (fun ls hl => ?_)
    refine lv_iload_n hx hb dX8_longest_35 rfl (lv_at hl 0 rfl) ?_
    refine lv_iload_n hx hb dX8_longest_36 rfl (lv_at hl 3 rfl) ?_
    refine lv_icmp_le (tgt := 44) hx hb dX8_longest_37 (by decide) (fun c5 => ?_) (fun c5 => ?_)
    · replace h := it c5 h
      refine lv_iload_n hx hb dX8_longest_44 rfl (lv_at hl 3 rfl) ?_
      exact hj45 _ _ _ _ _ hK7 _ _ _ hP hD hS (lv_sub hl [1, 2, 0, 4] rfl) h
    · replace h := ie c5 h
      refine lv_iload_n hx hb dX8_longest_40 rfl (lv_at hl 0 rfl) ?_
      refine lv_goto (tgt := 45) hx hb dX8_longest_41 (by decide) ?_
      exact hj45 _ _ _ _ _ hK7 _ _ _ hP hD hS (lv_sub hl [1, 2, 0, 4] rfl) h
  have hL7 : ∀ (x1 : Int32)  (k : Nat)  (x2 : Int32) (x3 : Int32) (x4 : Int32) (H : Heap) (locs : List Loc) (ls : Array Slot), va_P (dC, dI) vwCl (wA cq q S M o) H → va_D A (wA cq q S M o) → va_S A s.heap H locs → lv_has ls 5 [(0, .ref (q 22)), (1, .int x1), (2, .int x2), (3, .int x3), (4, .int x4)] → mX8_longest_7 n M x1 k x2 x3 x4 = some rr → W p l e rmX8_longest s m args below meth c H locs 0 0 Q (F0 m 7 ls []) := by
    intro x1
    intro k
    induction k with
    | zero =>
      intro x2 x3 x4 H locs ls hP hD hS hl h
      rw [mX8_longest_7] at h
      cases h
    | succ k ih =>
      intro x2 x3 x4 H locs ls hP hD hS hl h
      rw [mX8_longest_7] at h
      refine lv_iload hx hb dX8_longest_7 (lv_at hl 4 rfl) ?_
      refine lv_aload_n hx hb dX8_longest_9 rfl (lv_at hl 0 rfl) ?_
      refine va_get (D := (dC, dI)) (ci := 9) (v := .int (M.1 9)) (C := RX8) (T := TX8) (N := 29) hx hb hts hinX8 hown hK hP 22 rfl rfl 9 (by decide) (hts (.fieldLink RX8 67 "CableTesterModel" "records" "I") (mm 1 rfl)) (fun _ h9 => h9) rfl dX8_longest_10 ?_
      refine lv_icmp_ge (tgt := 52) hx hb dX8_longest_13 (by decide) (fun c1 => ?_) (fun c1 => ?_)
      · replace h := it c1 h
        refine lv_iload_n hx hb dX8_longest_52 rfl (lv_at hl 2 rfl) ?_
        exact hend _ _ _ _ _ h hP hD hS dX8_longest_53
      · replace h := ie c1 h
        refine lv_aload_n hx hb dX8_longest_16 rfl (lv_at hl 0 rfl) ?_
        refine lv_iload hx hb dX8_longest_17 (lv_at hl 4 rfl) ?_
        refine lv_iload_n hx hb dX8_longest_19 rfl (lv_at hl 1 rfl) ?_
        obtain ⟨r2, e3, h⟩ := bo h
        refine caVR_i (As := [.int x4, .int x1]) (rest := []) (ctX8_recorded l dC dI cq q S M o _ _ _ _ e3) F (cwV 2 hts gX8_longest_X8_recorded rfl rfl rfl hdX8_recorded ⟨Nat.le_of_ble_eq_true rfl, Nat.le_of_ble_eq_true rfl⟩) hK hP hD hDm hS hA (fun _ _ _ _ _ => trivial) (fun _ _ _ => trivial) (va_recv hK hP (ci := 9) (q0 := 22) rfl rfl) rfl hl.1 rfl (Nat.le_of_ble_eq_true rfl) dX8_longest_20 ⟨Nat.zero_le _, Nat.zero_le _⟩ (fun H locs hP hD hS => ?_)
        refine lv_iconst (v := (1 : Int32)) hx hb dX8_longest_23 (by decide) ?_
        refine lv_icmp_ne (tgt := 33) hx hb dX8_longest_24 (by decide) (fun c4 => ?_) (fun c4 => ?_)
        · replace h := ie c4 h
          refine lv_iconst (v := (0 : Int32)) hx hb dX8_longest_33 (by decide) ?_
          exact hj34 _ _ _ _ _ ih _ _ _ hP hD hS (lv_sub hl [0, 1, 2, 4] rfl) h
        · replace h := it c4 h
          refine lv_iload_n hx hb dX8_longest_27 rfl (lv_at hl 3 rfl) ?_
          refine lv_iconst (v := (1 : Int32)) hx hb dX8_longest_28 (by decide) ?_
          refine lv_iadd hx hb dX8_longest_29 ?_
          refine lv_goto (tgt := 34) hx hb dX8_longest_30 (by decide) ?_
          exact hj34 _ _ _ _ _ ih _ _ _ hP hD hS (lv_sub hl [0, 1, 2, 4] rfl) h
  rw [mX8_longest] at h
  refine lv_iconst (v := (0 : Int32)) hx hb dX8_longest_0 (by decide) ?_
  refine lv_istore_n (lv' := [(2, .int (0 : Int32)), (0, .ref (q 22)), (1, .int x1)]) hx hb dX8_longest_1 rfl hl (by decide) rfl (fun ls hl => ?_)
  refine lv_iconst (v := (0 : Int32)) hx hb dX8_longest_2 (by decide) ?_
  refine lv_istore_n (lv' := [(3, .int (0 : Int32)), (2, .int (0 : Int32)), (0, .ref (q 22)), (1, .int x1)]) hx hb dX8_longest_3 rfl hl (by decide) rfl (fun ls hl => ?_)
  refine lv_iconst (v := (0 : Int32)) hx hb dX8_longest_4 (by decide) ?_
  refine lv_istore (lv' := [(4, .int (0 : Int32)), (3, .int (0 : Int32)), (2, .int (0 : Int32)), (0, .ref (q 22)), (1, .int x1)]) hx hb dX8_longest_5 hl (by decide) rfl (fun ls hl => ?_)
  exact hL7 _ _ _ _ _ _ _ _ hP hD hS (lv_sub hl [3, 4, 2, 1, 0] rfl) h
def mX8_unlike_39 (n : Nat) (K5 : Int32 → Int32 → Option (Int32)) (M : MS) (x1 : Int32) (x2 : Int32) (x4 : Int32) (t0 : Int32) (t1 : Int32) : Option (Int32) :=
  (K5 (t1 + t0) (x4 + (1 : Int32)))
def mX8_unlike_5 (n : Nat)  (M : MS) (x1 : Int32) (x2 : Int32) : Nat → Int32 → Int32 → Option (Int32)
  | 0, _, _ => none
  | k + 1, x3, x4 => (if (M.1 9) ≤ x4 then (some x3) else (bn (mX8_recorded M x4 x1) fun r2 => (bn (mX8_recorded M (x4 - x2) x1) fun r4 => (if r2 = r4 then (mX8_unlike_39 n (mX8_unlike_5 n M x1 x2 k) M x1 x2 x4 (0 : Int32) x3) else (mX8_unlike_39 n (mX8_unlike_5 n M x1 x2 k) M x1 x2 x4 (1 : Int32) x3)))))
def mX8_unlike (n : Nat) (M : MS) (x1 : Int32) (x2 : Int32) : Option (Int32) :=
  (mX8_unlike_5 n M x1 x2 n (0 : Int32) x2)
abbrev rmX8_unlike : Room := { frames := 1, cells := 0, slots := 0, locals := 22 }
theorem hdX8_unlike : yX8_unlike.cls = RX8 ∧ yX8_unlike.cls ≠ "java/lang/invoke/MethodHandle" ∧ yX8_unlike.cls ≠ "java/lang/invoke/VarHandle" ∧ (parseMethodDescriptor yX8_unlike.desc).map (fun d => d.parameters.length) = some 2 := by decide +kernel
set_option maxRecDepth 100000 in
set_option maxHeartbeats 8000000 in
theorem ctX8_unlike (l : Launch) (dC : Nat → ClassId) (dI : Nat → Nat → Nat) (cq : Nat → ClassId) (q : Nat → Nat) (S : CS) (M : MS) (o : Nat → Int64) (sz : Nat) (n : Nat) (x1 : Int32) (x2 : Int32) (rr : Int32) (h : mX8_unlike n M x1 x2 = some rr) : CtR_i l yX8_unlike wsX8_unlike rmX8_unlike (fun _ => True) (fun _ => True) dC dI cq q S M o sz [.ref (q 22), .int x1, .int x2] rr := by
  refine enR_i (cc := cX8_unlike) (maxL := 5) (by decide) rfl (Nat.le_of_ble_eq_true rfl) (fun p e s m args below meth c A Q ls F hA hP hK hD hDm hX hS hl hend => ?_)
  obtain ⟨hx, hb, hml, hown, hts⟩ := id F
  have hown : s.vm.findClass RX8 = some m.cls := hown
  have F : CallFix p m c cX8_unlike 5 s args wsX8_unlike RX8 := F
  have hl : lv_has ls 5 [(0, .ref (q 22)), (1, .int x1), (2, .int x2)] := hl
  have hinX8 : ∀ w ∈ u_ws RX8 TX8 29, w ∈ wsX8_unlike := fun w h => List.mem_cons_of_mem _ (List.mem_append_right _ h)
  have hj39 : ∀  (x1 : Int32) (x2 : Int32) (x4 : Int32) (t0 : Int32) (t1 : Int32) (K5 : Int32 → Int32 → Option (Int32)) (hK5 : ∀ (y3 : Int32) (y4 : Int32) (H : Heap) (locs : List Loc) (ls : Array Slot), va_P (dC, dI) vwCl (wA cq q S M o) H → va_D A (wA cq q S M o) → va_S A s.heap H locs → lv_has ls 5 [(0, .ref (q 22)), (1, .int x1), (2, .int x2), (3, .int y3), (4, .int y4)] → K5 y3 y4 = some rr → W p l e rmX8_unlike s m args below meth c H locs 0 0 Q (F0 m 5 ls [])) (H : Heap) (locs : List Loc) (ls : Array Slot), va_P (dC, dI) vwCl (wA cq q S M o) H → va_D A (wA cq q S M o) → va_S A s.heap H locs → lv_has ls 5 [(0, .ref (q 22)), (1, .int x1), (2, .int x2), (4, .int x4)] → mX8_unlike_39 n K5 M x1 x2 x4 t0 t1 = some rr → W p l e rmX8_unlike s m args below meth c H locs 0 0 Q (F0 m 39 ls [.int t0, .int t1]) := by
    intro x1 x2 x4 t0 t1 K5 hK5 H locs ls hP hD hS hl h
    rw [mX8_unlike_39] at h
    refine lv_iadd hx hb dX8_unlike_39 ?_
    refine lv_istore_n (lv' := [(3, .int (t1 + t0)), (0, .ref (q 22)), (1, .int x1), (2, .int x2), (4, .int x4)]) hx hb dX8_unlike_40 rfl hl (by decide) rfl (fun ls hl => ?_)
    refine lv_iinc (v := (x4 + (1 : Int32))) (lv' := [(4, .int (x4 + (1 : Int32))), (3, .int (t1 + t0)), (0, .ref (q 22)), (1, .int x1), (2, .int x2)]) hx hb dX8_unlike_41 hl (k := 4) rfl rfl (by decide) rfl (fun ls hl => ?_)
    refine lv_goto (tgt := 5) hx hb dX8_unlike_44 (by decide) ?_
    exact hK5 _ _ _ _ _ hP hD hS (lv_sub hl [2, 3, 4, 1, 0] rfl) h
  have hL5 : ∀ (x1 : Int32) (x2 : Int32)  (k : Nat)  (x3 : Int32) (x4 : Int32) (H : Heap) (locs : List Loc) (ls : Array Slot), va_P (dC, dI) vwCl (wA cq q S M o) H → va_D A (wA cq q S M o) → va_S A s.heap H locs → lv_has ls 5 [(0, .ref (q 22)), (1, .int x1), (2, .int x2), (3, .int x3), (4, .int x4)] → mX8_unlike_5 n M x1 x2 k x3 x4 = some rr → W p l e rmX8_unlike s m args below meth c H locs 0 0 Q (F0 m 5 ls []) := by
    intro x1 x2
    intro k
    induction k with
    | zero =>
      intro x3 x4 H locs ls hP hD hS hl h
      rw [mX8_unlike_5] at h
      cases h
    | succ k ih =>
      intro x3 x4 H locs ls hP hD hS hl h
      rw [mX8_unlike_5] at h
      refine lv_iload hx hb dX8_unlike_5 (lv_at hl 4 rfl) ?_
      refine lv_aload_n hx hb dX8_unlike_7 rfl (lv_at hl 0 rfl) ?_
      refine va_get (D := (dC, dI)) (ci := 9) (v := .int (M.1 9)) (C := RX8) (T := TX8) (N := 29) hx hb hts hinX8 hown hK hP 22 rfl rfl 9 (by decide) (hts (.fieldLink RX8 67 "CableTesterModel" "records" "I") (mm 1 rfl)) (fun _ h9 => h9) rfl dX8_unlike_8 ?_
      refine lv_icmp_ge (tgt := 47) hx hb dX8_unlike_11 (by decide) (fun c1 => ?_) (fun c1 => ?_)
      · replace h := it c1 h
        refine lv_iload_n hx hb dX8_unlike_47 rfl (lv_at hl 3 rfl) ?_
        exact hend _ _ _ _ _ h hP hD hS dX8_unlike_48
      · replace h := ie c1 h
        refine lv_iload_n hx hb dX8_unlike_14 rfl (lv_at hl 3 rfl) ?_
        refine lv_aload_n hx hb dX8_unlike_15 rfl (lv_at hl 0 rfl) ?_
        refine lv_iload hx hb dX8_unlike_16 (lv_at hl 4 rfl) ?_
        refine lv_iload_n hx hb dX8_unlike_18 rfl (lv_at hl 1 rfl) ?_
        obtain ⟨r2, e3, h⟩ := bo h
        refine caVR_i (As := [.int x4, .int x1]) (rest := [.int x3]) (ctX8_recorded l dC dI cq q S M o _ _ _ _ e3) F (cwV 2 hts gX8_unlike_X8_recorded rfl rfl rfl hdX8_recorded ⟨Nat.le_of_ble_eq_true rfl, Nat.le_of_ble_eq_true rfl⟩) hK hP hD hDm hS hA (fun _ _ _ _ _ => trivial) (fun _ _ _ => trivial) (va_recv hK hP (ci := 9) (q0 := 22) rfl rfl) rfl hl.1 rfl (Nat.le_of_ble_eq_true rfl) dX8_unlike_19 ⟨Nat.zero_le _, Nat.zero_le _⟩ (fun H locs hP hD hS => ?_)
        refine lv_aload_n hx hb dX8_unlike_22 rfl (lv_at hl 0 rfl) ?_
        refine lv_iload hx hb dX8_unlike_23 (lv_at hl 4 rfl) ?_
        refine lv_iload_n hx hb dX8_unlike_25 rfl (lv_at hl 2 rfl) ?_
        refine lv_isub hx hb dX8_unlike_26 ?_
        refine lv_iload_n hx hb dX8_unlike_27 rfl (lv_at hl 1 rfl) ?_
        obtain ⟨r4, e5, h⟩ := bo h
        refine caVR_i (As := [.int (x4 - x2), .int x1]) (rest := [.int r2, .int x3]) (ctX8_recorded l dC dI cq q S M o _ _ _ _ e5) F (cwV 2 hts gX8_unlike_X8_recorded rfl rfl rfl hdX8_recorded ⟨Nat.le_of_ble_eq_true rfl, Nat.le_of_ble_eq_true rfl⟩) hK hP hD hDm hS hA (fun _ _ _ _ _ => trivial) (fun _ _ _ => trivial) (va_recv hK hP (ci := 9) (q0 := 22) rfl rfl) rfl hl.1 rfl (Nat.le_of_ble_eq_true rfl) dX8_unlike_28 ⟨Nat.zero_le _, Nat.zero_le _⟩ (fun H locs hP hD hS => ?_)
        refine lv_icmp_ne (tgt := 38) hx hb dX8_unlike_31 (by decide) (fun c6 => ?_) (fun c6 => ?_)
        · replace h := ie c6 h
          refine lv_iconst (v := (1 : Int32)) hx hb dX8_unlike_38 (by decide) ?_
          exact hj39 _ _ _ _ _ _ ih _ _ _ hP hD hS (lv_sub hl [0, 1, 2, 4] rfl) h
        · replace h := it c6 h
          refine lv_iconst (v := (0 : Int32)) hx hb dX8_unlike_34 (by decide) ?_
          refine lv_goto (tgt := 39) hx hb dX8_unlike_35 (by decide) ?_
          exact hj39 _ _ _ _ _ _ ih _ _ _ hP hD hS (lv_sub hl [0, 1, 2, 4] rfl) h
  rw [mX8_unlike] at h
  refine lv_iconst (v := (0 : Int32)) hx hb dX8_unlike_0 (by decide) ?_
  refine lv_istore_n (lv' := [(3, .int (0 : Int32)), (0, .ref (q 22)), (1, .int x1), (2, .int x2)]) hx hb dX8_unlike_1 rfl hl (by decide) rfl (fun ls hl => ?_)
  refine lv_iload_n hx hb dX8_unlike_2 rfl (lv_at hl 3 rfl) ?_
  refine lv_istore (lv' := [(4, .int x2), (3, .int (0 : Int32)), (0, .ref (q 22)), (1, .int x1), (2, .int x2)]) hx hb dX8_unlike_3 hl (by decide) rfl (fun ls hl => ?_)
  exact hL5 _ _ _ _ _ _ _ _ hP hD hS (lv_sub hl [2, 3, 4, 1, 0] rfl) h
def mX8_period_2 (n : Nat)  (M : MS) (x1 : Int32) : Nat → Int32 → Option (Int32)
  | 0, _ => none
  | k + 1, x2 => (if (32 : Int32) < x2 then (some (-1 : Int32)) else (if (M.1 9) < ((2 : Int32) * x2) then (some (-1 : Int32)) else (bn (mX8_unlike n M x1 x2) fun r3 => (if r3 = (0 : Int32) then (some x2) else (mX8_period_2 n M x1 k (x2 + (1 : Int32)))))))
def mX8_period (n : Nat) (M : MS) (x1 : Int32) : Option (Int32) :=
  (mX8_period_2 n M x1 n (1 : Int32))
abbrev rmX8_period : Room := { frames := 2, cells := 0, slots := 0, locals := 46 }
theorem hdX8_period : yX8_period.cls = RX8 ∧ yX8_period.cls ≠ "java/lang/invoke/MethodHandle" ∧ yX8_period.cls ≠ "java/lang/invoke/VarHandle" ∧ (parseMethodDescriptor yX8_period.desc).map (fun d => d.parameters.length) = some 1 := by decide +kernel
set_option maxRecDepth 100000 in
set_option maxHeartbeats 8000000 in
theorem ctX8_period (l : Launch) (dC : Nat → ClassId) (dI : Nat → Nat → Nat) (cq : Nat → ClassId) (q : Nat → Nat) (S : CS) (M : MS) (o : Nat → Int64) (sz : Nat) (n : Nat) (x1 : Int32) (rr : Int32) (h : mX8_period n M x1 = some rr) : CtR_i l yX8_period wsX8_period rmX8_period (fun _ => True) (fun _ => True) dC dI cq q S M o sz [.ref (q 22), .int x1] rr := by
  refine enR_i (cc := cX8_period) (maxL := 3) (by decide) rfl (Nat.le_of_ble_eq_true rfl) (fun p e s m args below meth c A Q ls F hA hP hK hD hDm hX hS hl hend => ?_)
  obtain ⟨hx, hb, hml, hown, hts⟩ := id F
  have hown : s.vm.findClass RX8 = some m.cls := hown
  have F : CallFix p m c cX8_period 3 s args wsX8_period RX8 := F
  have hl : lv_has ls 3 [(0, .ref (q 22)), (1, .int x1)] := hl
  have hinX8 : ∀ w ∈ u_ws RX8 TX8 29, w ∈ wsX8_period := fun w h => List.mem_cons_of_mem _ (List.mem_append_right _ h)
  have hL2 : ∀ (x1 : Int32)  (k : Nat)  (x2 : Int32) (H : Heap) (locs : List Loc) (ls : Array Slot), va_P (dC, dI) vwCl (wA cq q S M o) H → va_D A (wA cq q S M o) → va_S A s.heap H locs → lv_has ls 3 [(0, .ref (q 22)), (1, .int x1), (2, .int x2)] → mX8_period_2 n M x1 k x2 = some rr → W p l e rmX8_period s m args below meth c H locs 0 0 Q (F0 m 2 ls []) := by
    intro x1
    intro k
    induction k with
    | zero =>
      intro x2 H locs ls hP hD hS hl h
      rw [mX8_period_2] at h
      cases h
    | succ k ih =>
      intro x2 H locs ls hP hD hS hl h
      rw [mX8_period_2] at h
      refine lv_iload_n hx hb dX8_period_2 rfl (lv_at hl 2 rfl) ?_
      refine lv_bipush (v := (32 : Int32)) hx hb dX8_period_3 (by decide) ?_
      refine lv_icmp_gt (tgt := 35) hx hb dX8_period_5 (by decide) (fun c1 => ?_) (fun c1 => ?_)
      · replace h := it c1 h
        refine lv_iconst (v := (-1 : Int32)) hx hb dX8_period_35 (by decide) ?_
        exact hend _ _ _ _ _ h hP hD hS dX8_period_36
      · replace h := ie c1 h
        refine lv_iconst (v := (2 : Int32)) hx hb dX8_period_8 (by decide) ?_
        refine lv_iload_n hx hb dX8_period_9 rfl (lv_at hl 2 rfl) ?_
        refine lv_imul hx hb dX8_period_10 ?_
        refine lv_aload_n hx hb dX8_period_11 rfl (lv_at hl 0 rfl) ?_
        refine va_get (D := (dC, dI)) (ci := 9) (v := .int (M.1 9)) (C := RX8) (T := TX8) (N := 29) hx hb hts hinX8 hown hK hP 22 rfl rfl 9 (by decide) (hts (.fieldLink RX8 67 "CableTesterModel" "records" "I") (mm 1 rfl)) (fun _ h9 => h9) rfl dX8_period_12 ?_
        refine lv_icmp_gt (tgt := 35) hx hb dX8_period_15 (by decide) (fun c2 => ?_) (fun c2 => ?_)
        · replace h := it c2 h
          refine lv_iconst (v := (-1 : Int32)) hx hb dX8_period_35 (by decide) ?_
          exact hend _ _ _ _ _ h hP hD hS dX8_period_36
        · replace h := ie c2 h
          refine lv_aload_n hx hb dX8_period_18 rfl (lv_at hl 0 rfl) ?_
          refine lv_iload_n hx hb dX8_period_19 rfl (lv_at hl 1 rfl) ?_
          refine lv_iload_n hx hb dX8_period_20 rfl (lv_at hl 2 rfl) ?_
          obtain ⟨r3, e4, h⟩ := bo h
          refine caVR_i (As := [.int x1, .int x2]) (rest := []) (ctX8_unlike l dC dI cq q S M o _ _ _ _ _ e4) F (cwV 2 hts gX8_period_X8_unlike rfl rfl rfl hdX8_unlike ⟨Nat.le_of_ble_eq_true rfl, Nat.le_of_ble_eq_true rfl⟩) hK hP hD hDm hS hA (fun _ _ _ _ _ => trivial) (fun _ _ _ => trivial) (va_recv hK hP (ci := 9) (q0 := 22) rfl rfl) rfl hl.1 rfl (Nat.le_of_ble_eq_true rfl) dX8_period_21 ⟨Nat.zero_le _, Nat.zero_le _⟩ (fun H locs hP hD hS => ?_)
          refine lv_if_ne (tgt := 29) hx hb dX8_period_24 (by decide) (fun c5 => ?_) (fun c5 => ?_)
          · replace h := ie c5 h
            refine lv_iinc (v := (x2 + (1 : Int32))) (lv' := [(2, .int (x2 + (1 : Int32))), (0, .ref (q 22)), (1, .int x1)]) hx hb dX8_period_29 hl (k := 2) rfl rfl (by decide) rfl (fun ls hl => ?_)
            refine lv_goto (tgt := 2) hx hb dX8_period_32 (by decide) ?_
            exact ih _ _ _ _ hP hD hS (lv_sub hl [1, 2, 0] rfl) h
          · replace h := it c5 h
            refine lv_iload_n hx hb dX8_period_27 rfl (lv_at hl 2 rfl) ?_
            exact hend _ _ _ _ _ h hP hD hS dX8_period_28
  rw [mX8_period] at h
  refine lv_iconst (v := (1 : Int32)) hx hb dX8_period_0 (by decide) ?_
  refine lv_istore_n (lv' := [(2, .int (1 : Int32)), (0, .ref (q 22)), (1, .int x1)]) hx hb dX8_period_1 rfl hl (by decide) rfl (fun ls hl => ?_)
  exact hL2 _ _ _ _ _ _ hP hD hS (lv_sub hl [1, 2, 0] rfl) h
def mX8_recordsNow (n : Nat) (M : MS) (x1 : Int32) (x2 : Int32) : Option (Int32) :=
  (if x2 = (0 : Int32) then (some (M.1 9)) else (if x2 = (1 : Int32) then (bn (mX8_wrongRecords n M x1) fun r3 => (some r3)) else (if x2 = (2 : Int32) then (bn (mX8_longest n M x1) fun r6 => (some r6)) else (if x2 = (3 : Int32) then (bn (mX8_unlike n M x1 (1 : Int32)) fun r9 => (some r9)) else (bn (mX8_period n M x1) fun r11 => (some r11))))))
abbrev rmX8_recordsNow : Room := { frames := 3, cells := 0, slots := 0, locals := 68 }
theorem hdX8_recordsNow : yX8_recordsNow.cls = RX8 ∧ yX8_recordsNow.cls ≠ "java/lang/invoke/MethodHandle" ∧ yX8_recordsNow.cls ≠ "java/lang/invoke/VarHandle" ∧ (parseMethodDescriptor yX8_recordsNow.desc).map (fun d => d.parameters.length) = some 2 := by decide +kernel
set_option maxRecDepth 100000 in
set_option maxHeartbeats 8000000 in
theorem ctX8_recordsNow (l : Launch) (dC : Nat → ClassId) (dI : Nat → Nat → Nat) (cq : Nat → ClassId) (q : Nat → Nat) (S : CS) (M : MS) (o : Nat → Int64) (sz : Nat) (n : Nat) (x1 : Int32) (x2 : Int32) (rr : Int32) (h : mX8_recordsNow n M x1 x2 = some rr) : CtR_i l yX8_recordsNow wsX8_recordsNow rmX8_recordsNow (fun _ => True) (fun _ => True) dC dI cq q S M o sz [.ref (q 22), .int x1, .int x2] rr := by
  refine enR_i (cc := cX8_recordsNow) (maxL := 3) (by decide) rfl (Nat.le_of_ble_eq_true rfl) (fun p e s m args below meth c A Q ls F hA hP hK hD hDm hX hS hl hend => ?_)
  obtain ⟨hx, hb, hml, hown, hts⟩ := id F
  have hown : s.vm.findClass RX8 = some m.cls := hown
  have F : CallFix p m c cX8_recordsNow 3 s args wsX8_recordsNow RX8 := F
  have hl : lv_has ls 3 [(0, .ref (q 22)), (1, .int x1), (2, .int x2)] := hl
  have hinX8 : ∀ w ∈ u_ws RX8 TX8 29, w ∈ wsX8_recordsNow := fun w h => List.mem_cons_of_mem _ (List.mem_append_right _ h)
  rw [mX8_recordsNow] at h
  refine lv_iload_n hx hb dX8_recordsNow_0 rfl (lv_at hl 2 rfl) ?_
  by_cases c1 : x2 = (0 : Int32)
  · replace h := it c1 h
    refine lv_tableIn (tgt := 32) (off := 31) hx hb dX8_recordsNow_1 (by rw [c1]; decide) (by rw [c1]; decide) (by rw [c1]; decide) (by decide) ?_
    refine lv_aload_n hx hb dX8_recordsNow_32 rfl (lv_at hl 0 rfl) ?_
    refine va_get (D := (dC, dI)) (ci := 9) (v := .int (M.1 9)) (C := RX8) (T := TX8) (N := 29) hx hb hts hinX8 hown hK hP 22 rfl rfl 9 (by decide) (hts (.fieldLink RX8 67 "CableTesterModel" "records" "I") (mm 1 rfl)) (fun _ h9 => h9) rfl dX8_recordsNow_33 ?_
    exact hend _ _ _ _ _ h hP hD hS dX8_recordsNow_36
  replace h := ie c1 h
  by_cases c2 : x2 = (1 : Int32)
  · replace h := it c2 h
    refine lv_tableIn (tgt := 37) (off := 36) hx hb dX8_recordsNow_1 (by rw [c2]; decide) (by rw [c2]; decide) (by rw [c2]; decide) (by decide) ?_
    refine lv_aload_n hx hb dX8_recordsNow_37 rfl (lv_at hl 0 rfl) ?_
    refine lv_iload_n hx hb dX8_recordsNow_38 rfl (lv_at hl 1 rfl) ?_
    obtain ⟨r3, e4, h⟩ := bo h
    refine caVR_i (As := [.int x1]) (rest := []) (ctX8_wrongRecords l dC dI cq q S M o _ _ _ _ e4) F (cwV 1 hts gX8_recordsNow_X8_wrongRecords rfl rfl rfl hdX8_wrongRecords ⟨Nat.le_of_ble_eq_true rfl, Nat.le_of_ble_eq_true rfl⟩) hK hP hD hDm hS hA (fun _ _ _ _ _ => trivial) (fun _ _ _ => trivial) (va_recv hK hP (ci := 9) (q0 := 22) rfl rfl) rfl hl.1 rfl (Nat.le_of_ble_eq_true rfl) dX8_recordsNow_39 ⟨Nat.zero_le _, Nat.zero_le _⟩ (fun H locs hP hD hS => ?_)
    exact hend _ _ _ _ _ h hP hD hS dX8_recordsNow_42
  replace h := ie c2 h
  by_cases c5 : x2 = (2 : Int32)
  · replace h := it c5 h
    refine lv_tableIn (tgt := 43) (off := 42) hx hb dX8_recordsNow_1 (by rw [c5]; decide) (by rw [c5]; decide) (by rw [c5]; decide) (by decide) ?_
    refine lv_aload_n hx hb dX8_recordsNow_43 rfl (lv_at hl 0 rfl) ?_
    refine lv_iload_n hx hb dX8_recordsNow_44 rfl (lv_at hl 1 rfl) ?_
    obtain ⟨r6, e7, h⟩ := bo h
    refine caVR_i (As := [.int x1]) (rest := []) (ctX8_longest l dC dI cq q S M o _ _ _ _ e7) F (cwV 1 hts gX8_recordsNow_X8_longest rfl rfl rfl hdX8_longest ⟨Nat.le_of_ble_eq_true rfl, Nat.le_of_ble_eq_true rfl⟩) hK hP hD hDm hS hA (fun _ _ _ _ _ => trivial) (fun _ _ _ => trivial) (va_recv hK hP (ci := 9) (q0 := 22) rfl rfl) rfl hl.1 rfl (Nat.le_of_ble_eq_true rfl) dX8_recordsNow_45 ⟨Nat.zero_le _, Nat.zero_le _⟩ (fun H locs hP hD hS => ?_)
    exact hend _ _ _ _ _ h hP hD hS dX8_recordsNow_48
  replace h := ie c5 h
  by_cases c8 : x2 = (3 : Int32)
  · replace h := it c8 h
    refine lv_tableIn (tgt := 49) (off := 48) hx hb dX8_recordsNow_1 (by rw [c8]; decide) (by rw [c8]; decide) (by rw [c8]; decide) (by decide) ?_
    refine lv_aload_n hx hb dX8_recordsNow_49 rfl (lv_at hl 0 rfl) ?_
    refine lv_iload_n hx hb dX8_recordsNow_50 rfl (lv_at hl 1 rfl) ?_
    refine lv_iconst (v := (1 : Int32)) hx hb dX8_recordsNow_51 (by decide) ?_
    obtain ⟨r9, e10, h⟩ := bo h
    refine caVR_i (As := [.int x1, .int (1 : Int32)]) (rest := []) (ctX8_unlike l dC dI cq q S M o _ _ _ _ _ e10) F (cwV 2 hts gX8_recordsNow_X8_unlike rfl rfl rfl hdX8_unlike ⟨Nat.le_of_ble_eq_true rfl, Nat.le_of_ble_eq_true rfl⟩) hK hP hD hDm hS hA (fun _ _ _ _ _ => trivial) (fun _ _ _ => trivial) (va_recv hK hP (ci := 9) (q0 := 22) rfl rfl) rfl hl.1 rfl (Nat.le_of_ble_eq_true rfl) dX8_recordsNow_52 ⟨Nat.zero_le _, Nat.zero_le _⟩ (fun H locs hP hD hS => ?_)
    exact hend _ _ _ _ _ h hP hD hS dX8_recordsNow_55
  replace h := ie c8 h
  refine lv_tableOut (tgt := 56) hx hb dX8_recordsNow_1 (by have z0 := ne_i (n := 0) rfl c1; have z1 := ne_i (n := 1) rfl c2; have z2 := ne_i (n := 2) rfl c5; have z3 := ne_i (n := 3) rfl c8; omega) (by decide) ?_
  refine lv_aload_n hx hb dX8_recordsNow_56 rfl (lv_at hl 0 rfl) ?_
  refine lv_iload_n hx hb dX8_recordsNow_57 rfl (lv_at hl 1 rfl) ?_
  obtain ⟨r11, e12, h⟩ := bo h
  refine caVR_i (As := [.int x1]) (rest := []) (ctX8_period l dC dI cq q S M o _ _ _ _ e12) F (cwV 1 hts gX8_recordsNow_X8_period rfl rfl rfl hdX8_period ⟨Nat.le_of_ble_eq_true rfl, Nat.le_of_ble_eq_true rfl⟩) hK hP hD hDm hS hA (fun _ _ _ _ _ => trivial) (fun _ _ _ => trivial) (va_recv hK hP (ci := 9) (q0 := 22) rfl rfl) rfl hl.1 rfl (Nat.le_of_ble_eq_true rfl) dX8_recordsNow_58 ⟨Nat.zero_le _, Nat.zero_le _⟩ (fun H locs hP hD hS => ?_)
  exact hend _ _ _ _ _ h hP hD hS dX8_recordsNow_61
def mX8_records_26 (n : Nat)  (M : MS) (x1 : Int32) (x2 : Int32) (t0 : Int32) : Option (Int32 × MS) :=
  (if ((sG M 0 t0).1 0) ≤ (0 : Int32) then (bn (mX8_recordsNow n (sG M 0 t0) x1 x2) fun r8 => (some (r8, (sG M 0 t0)))) else (some ((0 : Int32), (sG M 0 t0))))
def mX8_records (n : Nat) (M : MS) (x1 : Int32) (x2 : Int32) : Option (Int32 × MS) :=
  (bn (mX8_isWire x1) fun r1 => (if r1 = (0 : Int32) then (mX8_records_26 n M x1 x2 (1 : Int32)) else (bn (mX8_within x2 (0 : Int32) (4 : Int32)) fun r4 => (if r4 = (0 : Int32) then (mX8_records_26 n M x1 x2 (2 : Int32)) else (mX8_records_26 n M x1 x2 (0 : Int32))))))
abbrev rmX8_records : Room := { frames := 4, cells := 0, slots := 0, locals := 90 }
theorem hdX8_records : yX8_records.cls = RX8 ∧ yX8_records.cls ≠ "java/lang/invoke/MethodHandle" ∧ yX8_records.cls ≠ "java/lang/invoke/VarHandle" ∧ (parseMethodDescriptor yX8_records.desc).map (fun d => d.parameters.length) = some 2 := by decide +kernel
set_option maxRecDepth 100000 in
set_option maxHeartbeats 8000000 in
theorem ctX8_records (l : Launch) (dC : Nat → ClassId) (dI : Nat → Nat → Nat) (cq : Nat → ClassId) (q : Nat → Nat) (S : CS) (M : MS) (o : Nat → Int64) (sz : Nat) (n : Nat) (x1 : Int32) (x2 : Int32) (rr : Int32) (MM : MS) (h : mX8_records n M x1 x2 = some (rr, MM)) : CtM_i l yX8_records wsX8_records rmX8_records (fun _ => True) (fun _ => True) dC dI cq q S M o sz [.ref (q 22), .int x1, .int x2] rr MM := by
  refine enM_i (cc := cX8_records) (maxL := 3) (by decide) rfl (Nat.le_of_ble_eq_true rfl) (fun p e s m args below meth c A Q ls F hA hP hK hD hDm hX hS hl hend => ?_)
  obtain ⟨hx, hb, hml, hown, hts⟩ := id F
  have hown : s.vm.findClass RX8 = some m.cls := hown
  have F : CallFix p m c cX8_records 3 s args wsX8_records RX8 := F
  have hl : lv_has ls 3 [(0, .ref (q 22)), (1, .int x1), (2, .int x2)] := hl
  have hinX8 : ∀ w ∈ u_ws RX8 TX8 29, w ∈ wsX8_records := fun w h => List.mem_cons_of_mem _ (List.mem_append_right _ h)
  have hj26 : ∀ (M : MS) (x1 : Int32) (x2 : Int32) (t0 : Int32)  (H : Heap) (locs : List Loc) (ls : Array Slot), va_P (dC, dI) vwCl (wA cq q S M o) H → va_D A (wA cq q S M o) → va_S A s.heap H locs → lv_has ls 3 [(0, .ref (q 22)), (1, .int x1), (2, .int x2)] → mX8_records_26 n M x1 x2 t0 = some (rr, MM) → W p l e rmX8_records s m args below meth c H locs 0 0 Q (F0 m 26 ls [.int t0, .ref (q 22)]) := by
    intro M x1 x2 t0 H locs ls hP hD hS hl h
    rw [mX8_records_26] at h
    refine pt_22_0 F hinX8 (hts (.fieldLink RX8 44 "CableTesterModel" "thrown" "I") (mm 1 rfl)) hK hP hD hS dX8_records_26 (fun H locs hP hD hS => ?_)
    refine lv_aload_n hx hb dX8_records_29 rfl (lv_at hl 0 rfl) ?_
    refine va_get (D := (dC, dI)) (ci := 9) (v := .int ((sG M 0 t0).1 0)) (C := RX8) (T := TX8) (N := 29) hx hb hts hinX8 hown hK hP 22 rfl rfl 0 (by decide) (hts (.fieldLink RX8 44 "CableTesterModel" "thrown" "I") (mm 1 rfl)) (fun _ h9 => h9) rfl dX8_records_30 ?_
    refine lv_if_le (tgt := 40) hx hb dX8_records_33 (by decide) (fun c7 => ?_) (fun c7 => ?_)
    · replace h := it c7 h
      refine lv_aload_n hx hb dX8_records_40 rfl (lv_at hl 0 rfl) ?_
      refine lv_iload_n hx hb dX8_records_41 rfl (lv_at hl 1 rfl) ?_
      refine lv_iload_n hx hb dX8_records_42 rfl (lv_at hl 2 rfl) ?_
      obtain ⟨r8, e9, h⟩ := bo h
      refine caVR_i (As := [.int x1, .int x2]) (rest := []) (ctX8_recordsNow l dC dI cq q S (sG M 0 t0) o _ _ _ _ _ e9) F (cwV 2 hts gX8_records_X8_recordsNow rfl rfl rfl hdX8_recordsNow ⟨Nat.le_of_ble_eq_true rfl, Nat.le_of_ble_eq_true rfl⟩) hK hP hD hDm hS hA (fun _ _ _ _ _ => trivial) (fun _ _ _ => trivial) (va_recv hK hP (ci := 9) (q0 := 22) rfl rfl) rfl hl.1 rfl (Nat.le_of_ble_eq_true rfl) dX8_records_43 ⟨Nat.zero_le _, Nat.zero_le _⟩ (fun H locs hP hD hS => ?_)
      exact hend _ _ _ _ _ _ h hP hD hS dX8_records_46
    · replace h := ie c7 h
      refine lv_iconst (v := (0 : Int32)) hx hb dX8_records_36 (by decide) ?_
      refine lv_goto (tgt := 46) hx hb dX8_records_37 (by decide) ?_
      exact hend _ _ _ _ _ _ h hP hD hS dX8_records_46
  rw [mX8_records] at h
  refine lv_aload_n hx hb dX8_records_0 rfl (lv_at hl 0 rfl) ?_
  refine lv_iload_n hx hb dX8_records_1 rfl (lv_at hl 1 rfl) ?_
  obtain ⟨r1, e2, h⟩ := bo h
  refine caSR_i (As := [.int x1]) (rest := [.ref (q 22)]) (ctX8_isWire l dC dI cq q S M o _ _ _ e2) F (va_cwS 1 hts gX8_records_X8_isWire rfl rfl rfl hdX8_isWire ⟨Nat.le_of_ble_eq_true rfl, Nat.le_of_ble_eq_true rfl⟩) hK hP hD hDm hS hA (fun _ _ _ _ _ => trivial) (fun _ _ _ => trivial) rfl hl.1 rfl (Nat.le_of_ble_eq_true rfl) dX8_records_2 ⟨Nat.zero_le _, Nat.zero_le _⟩ (fun H locs hP hD hS => ?_)
  refine lv_if_ne (tgt := 12) hx hb dX8_records_5 (by decide) (fun c3 => ?_) (fun c3 => ?_)
  · replace h := ie c3 h
    refine lv_iload_n hx hb dX8_records_12 rfl (lv_at hl 2 rfl) ?_
    refine lv_iconst (v := (0 : Int32)) hx hb dX8_records_13 (by decide) ?_
    refine lv_iconst (v := (4 : Int32)) hx hb dX8_records_14 (by decide) ?_
    obtain ⟨r4, e5, h⟩ := bo h
    refine caSR_i (As := [.int x2, .int (0 : Int32), .int (4 : Int32)]) (rest := [.ref (q 22)]) (ctX8_within l dC dI cq q S M o _ _ _ _ _ e5) F (va_cwS 3 hts gX8_records_X8_within rfl rfl rfl hdX8_within ⟨Nat.le_of_ble_eq_true rfl, Nat.le_of_ble_eq_true rfl⟩) hK hP hD hDm hS hA (fun _ _ _ _ _ => trivial) (fun _ _ _ => trivial) rfl hl.1 rfl (Nat.le_of_ble_eq_true rfl) dX8_records_15 ⟨Nat.zero_le _, Nat.zero_le _⟩ (fun H locs hP hD hS => ?_)
    refine lv_if_eq (tgt := 25) hx hb dX8_records_18 (by decide) (fun c6 => ?_) (fun c6 => ?_)
    · replace h := it c6 h
      refine lv_iconst (v := (2 : Int32)) hx hb dX8_records_25 (by decide) ?_
      exact hj26 _ _ _ _ _ _ _ hP hD hS (lv_sub hl [0, 1, 2] rfl) h
    · replace h := ie c6 h
      refine lv_iconst (v := (0 : Int32)) hx hb dX8_records_21 (by decide) ?_
      refine lv_goto (tgt := 26) hx hb dX8_records_22 (by decide) ?_
      exact hj26 _ _ _ _ _ _ _ hP hD hS (lv_sub hl [0, 1, 2] rfl) h
  · replace h := it c3 h
    refine lv_iconst (v := (1 : Int32)) hx hb dX8_records_8 (by decide) ?_
    refine lv_goto (tgt := 26) hx hb dX8_records_9 (by decide) ?_
    exact hj26 _ _ _ _ _ _ _ hP hD hS (lv_sub hl [0, 1, 2] rfl) h
def mX8_suspected_43 (n : Nat) (K6 : Int32 → Int32 → Int32 → Option (Int32)) (M : MS) (x1 : Int32) (x3 : Int32) (t0 : Int32) : Option (Int32) :=
  (K6 x1 t0 (x3 + (1 : Int32)))
def mX8_suspected_30 (n : Nat) (K6 : Int32 → Int32 → Int32 → Option (Int32)) (M : MS) (x2 : Int32) (x3 : Int32) (x4 : Int32) (t0 : Int32) : Option (Int32) :=
  (if x4 ≤ x2 then (mX8_suspected_43 n (K6) M t0 x3 x2) else (mX8_suspected_43 n (K6) M t0 x3 x4))
def mX8_suspected_6 (n : Nat)  (M : MS)  : Nat → Int32 → Int32 → Int32 → Option (Int32)
  | 0, _, _, _ => none
  | k + 1, x1, x2, x3 => (if (8 : Int32) ≤ x3 then (some x1) else (bn (mX8_wrongRecords n M x3) fun r2 => (if r2 ≤ x2 then (mX8_suspected_30 n (mX8_suspected_6 n M k) M x2 x3 r2 x1) else (mX8_suspected_30 n (mX8_suspected_6 n M k) M x2 x3 r2 x3))))
def mX8_suspected (n : Nat) (M : MS)  : Option (Int32) :=
  (mX8_suspected_6 n M n (-1 : Int32) (0 : Int32) (0 : Int32))
abbrev rmX8_suspected : Room := { frames := 2, cells := 0, slots := 0, locals := 45 }
theorem hdX8_suspected : yX8_suspected.cls = RX8 ∧ yX8_suspected.cls ≠ "java/lang/invoke/MethodHandle" ∧ yX8_suspected.cls ≠ "java/lang/invoke/VarHandle" ∧ (parseMethodDescriptor yX8_suspected.desc).map (fun d => d.parameters.length) = some 0 := by decide +kernel
set_option maxRecDepth 100000 in
set_option maxHeartbeats 8000000 in
theorem ctX8_suspected (l : Launch) (dC : Nat → ClassId) (dI : Nat → Nat → Nat) (cq : Nat → ClassId) (q : Nat → Nat) (S : CS) (M : MS) (o : Nat → Int64) (sz : Nat) (n : Nat)  (rr : Int32) (h : mX8_suspected n M = some rr) : CtR_i l yX8_suspected wsX8_suspected rmX8_suspected (fun _ => True) (fun _ => True) dC dI cq q S M o sz [.ref (q 22)] rr := by
  refine enR_i (cc := cX8_suspected) (maxL := 5) (by decide) rfl (Nat.le_of_ble_eq_true rfl) (fun p e s m args below meth c A Q ls F hA hP hK hD hDm hX hS hl hend => ?_)
  obtain ⟨hx, hb, hml, hown, hts⟩ := id F
  have hown : s.vm.findClass RX8 = some m.cls := hown
  have F : CallFix p m c cX8_suspected 5 s args wsX8_suspected RX8 := F
  have hl : lv_has ls 5 [(0, .ref (q 22))] := hl
  have hj43 : ∀  (x1 : Int32) (x3 : Int32) (t0 : Int32) (K6 : Int32 → Int32 → Int32 → Option (Int32)) (hK6 : ∀ (y1 : Int32) (y2 : Int32) (y3 : Int32) (H : Heap) (locs : List Loc) (ls : Array Slot), va_P (dC, dI) vwCl (wA cq q S M o) H → va_D A (wA cq q S M o) → va_S A s.heap H locs → lv_has ls 5 [(0, .ref (q 22)), (1, .int y1), (2, .int y2), (3, .int y3)] → K6 y1 y2 y3 = some rr → W p l e rmX8_suspected s m args below meth c H locs 0 0 Q (F0 m 6 ls [])) (H : Heap) (locs : List Loc) (ls : Array Slot), va_P (dC, dI) vwCl (wA cq q S M o) H → va_D A (wA cq q S M o) → va_S A s.heap H locs → lv_has ls 5 [(0, .ref (q 22)), (1, .int x1), (3, .int x3)] → mX8_suspected_43 n K6 M x1 x3 t0 = some rr → W p l e rmX8_suspected s m args below meth c H locs 0 0 Q (F0 m 43 ls [.int t0]) := by
    intro x1 x3 t0 K6 hK6 H locs ls hP hD hS hl h
    rw [mX8_suspected_43] at h
    refine lv_istore_n (lv' := [(2, .int t0), (0, .ref (q 22)), (1, .int x1), (3, .int x3)]) hx hb dX8_suspected_43 rfl hl (by decide) rfl (fun ls hl => ?_)
    refine lv_iinc (v := (x3 + (1 : Int32))) (lv' := [(3, .int (x3 + (1 : Int32))), (2, .int t0), (0, .ref (q 22)), (1, .int x1)]) hx hb dX8_suspected_44 hl (k := 3) rfl rfl (by decide) rfl (fun ls hl => ?_)
    refine lv_goto (tgt := 6) hx hb dX8_suspected_47 (by decide) ?_
    exact hK6 _ _ _ _ _ _ hP hD hS (lv_sub hl [2, 3, 1, 0] rfl) h
  have hj30 : ∀  (x2 : Int32) (x3 : Int32) (x4 : Int32) (t0 : Int32) (K6 : Int32 → Int32 → Int32 → Option (Int32)) (hK6 : ∀ (y1 : Int32) (y2 : Int32) (y3 : Int32) (H : Heap) (locs : List Loc) (ls : Array Slot), va_P (dC, dI) vwCl (wA cq q S M o) H → va_D A (wA cq q S M o) → va_S A s.heap H locs → lv_has ls 5 [(0, .ref (q 22)), (1, .int y1), (2, .int y2), (3, .int y3)] → K6 y1 y2 y3 = some rr → W p l e rmX8_suspected s m args below meth c H locs 0 0 Q (F0 m 6 ls [])) (H : Heap) (locs : List Loc) (ls : Array Slot), va_P (dC, dI) vwCl (wA cq q S M o) H → va_D A (wA cq q S M o) → va_S A s.heap H locs → lv_has ls 5 [(0, .ref (q 22)), (2, .int x2), (3, .int x3), (4, .int x4)] → mX8_suspected_30 n K6 M x2 x3 x4 t0 = some rr → W p l e rmX8_suspected s m args below meth c H locs 0 0 Q (F0 m 30 ls [.int t0]) := by
    intro x2 x3 x4 t0 K6 hK6 H locs ls hP hD hS hl h
    rw [mX8_suspected_30] at h
    refine lv_istore_n (lv' := [(1, .int t0), (0, .ref (q 22)), (2, .int x2), (3, .int x3), (4, .int x4)]) hx hb dX8_suspected_30 rfl hl (by decide) rfl (fun ls hl => ?_)
    refine lv_iload hx hb dX8_suspected_31 (lv_at hl 4 rfl) ?_
    refine lv_iload_n hx hb dX8_suspected_33 rfl (lv_at hl 2 rfl) ?_
    refine lv_icmp_le (tgt := 42) hx hb dX8_suspected_34 (by decide) (fun c5 => ?_) (fun c5 => ?_)
    · replace h := it c5 h
      refine lv_iload_n hx hb dX8_suspected_42 rfl (lv_at hl 2 rfl) ?_
      exact hj43 _ _ _ _ hK6 _ _ _ hP hD hS (lv_sub hl [1, 0, 3] rfl) h
    · replace h := ie c5 h
      refine lv_iload hx hb dX8_suspected_37 (lv_at hl 4 rfl) ?_
      refine lv_goto (tgt := 43) hx hb dX8_suspected_39 (by decide) ?_
      exact hj43 _ _ _ _ hK6 _ _ _ hP hD hS (lv_sub hl [1, 0, 3] rfl) h
  have hL6 : ∀   (k : Nat)  (x1 : Int32) (x2 : Int32) (x3 : Int32) (H : Heap) (locs : List Loc) (ls : Array Slot), va_P (dC, dI) vwCl (wA cq q S M o) H → va_D A (wA cq q S M o) → va_S A s.heap H locs → lv_has ls 5 [(0, .ref (q 22)), (1, .int x1), (2, .int x2), (3, .int x3)] → mX8_suspected_6 n M k x1 x2 x3 = some rr → W p l e rmX8_suspected s m args below meth c H locs 0 0 Q (F0 m 6 ls []) := by
    intro k
    induction k with
    | zero =>
      intro x1 x2 x3 H locs ls hP hD hS hl h
      rw [mX8_suspected_6] at h
      cases h
    | succ k ih =>
      intro x1 x2 x3 H locs ls hP hD hS hl h
      rw [mX8_suspected_6] at h
      refine lv_iload_n hx hb dX8_suspected_6 rfl (lv_at hl 3 rfl) ?_
      refine lv_bipush (v := (8 : Int32)) hx hb dX8_suspected_7 (by decide) ?_
      refine lv_icmp_ge (tgt := 50) hx hb dX8_suspected_9 (by decide) (fun c1 => ?_) (fun c1 => ?_)
      · replace h := it c1 h
        refine lv_iload_n hx hb dX8_suspected_50 rfl (lv_at hl 1 rfl) ?_
        exact hend _ _ _ _ _ h hP hD hS dX8_suspected_51
      · replace h := ie c1 h
        refine lv_aload_n hx hb dX8_suspected_12 rfl (lv_at hl 0 rfl) ?_
        refine lv_iload_n hx hb dX8_suspected_13 rfl (lv_at hl 3 rfl) ?_
        obtain ⟨r2, e3, h⟩ := bo h
        refine caVR_i (As := [.int x3]) (rest := []) (ctX8_wrongRecords l dC dI cq q S M o _ _ _ _ e3) F (cwV 1 hts gX8_suspected_X8_wrongRecords rfl rfl rfl hdX8_wrongRecords ⟨Nat.le_of_ble_eq_true rfl, Nat.le_of_ble_eq_true rfl⟩) hK hP hD hDm hS hA (fun _ _ _ _ _ => trivial) (fun _ _ _ => trivial) (va_recv hK hP (ci := 9) (q0 := 22) rfl rfl) rfl hl.1 rfl (Nat.le_of_ble_eq_true rfl) dX8_suspected_14 ⟨Nat.zero_le _, Nat.zero_le _⟩ (fun H locs hP hD hS => ?_)
        refine lv_istore (lv' := [(4, .int r2), (0, .ref (q 22)), (1, .int x1), (2, .int x2), (3, .int x3)]) hx hb dX8_suspected_17 hl (by decide) rfl (fun ls hl => ?_)
        refine lv_iload hx hb dX8_suspected_19 (lv_at hl 0 rfl) ?_
        refine lv_iload_n hx hb dX8_suspected_21 rfl (lv_at hl 3 rfl) ?_
        refine lv_icmp_le (tgt := 29) hx hb dX8_suspected_22 (by decide) (fun c4 => ?_) (fun c4 => ?_)
        · replace h := it c4 h
          refine lv_iload_n hx hb dX8_suspected_29 rfl (lv_at hl 2 rfl) ?_
          exact hj30 _ _ _ _ _ ih _ _ _ hP hD hS (lv_sub hl [1, 3, 4, 0] rfl) h
        · replace h := ie c4 h
          refine lv_iload_n hx hb dX8_suspected_25 rfl (lv_at hl 4 rfl) ?_
          refine lv_goto (tgt := 30) hx hb dX8_suspected_26 (by decide) ?_
          exact hj30 _ _ _ _ _ ih _ _ _ hP hD hS (lv_sub hl [1, 3, 4, 0] rfl) h
  rw [mX8_suspected] at h
  refine lv_iconst (v := (-1 : Int32)) hx hb dX8_suspected_0 (by decide) ?_
  refine lv_istore_n (lv' := [(1, .int (-1 : Int32)), (0, .ref (q 22))]) hx hb dX8_suspected_1 rfl hl (by decide) rfl (fun ls hl => ?_)
  refine lv_iconst (v := (0 : Int32)) hx hb dX8_suspected_2 (by decide) ?_
  refine lv_istore_n (lv' := [(2, .int (0 : Int32)), (1, .int (-1 : Int32)), (0, .ref (q 22))]) hx hb dX8_suspected_3 rfl hl (by decide) rfl (fun ls hl => ?_)
  refine lv_iconst (v := (0 : Int32)) hx hb dX8_suspected_4 (by decide) ?_
  refine lv_istore_n (lv' := [(3, .int (0 : Int32)), (2, .int (0 : Int32)), (1, .int (-1 : Int32)), (0, .ref (q 22))]) hx hb dX8_suspected_5 rfl hl (by decide) rfl (fun ls hl => ?_)
  exact hL6 _ _ _ _ _ _ _ hP hD hS (lv_sub hl [3, 2, 1, 0] rfl) h
def mX8_suspect (n : Nat) (M : MS)  : Option (Int32 × MS) :=
  (bn (mX8_suspected n (sG M 0 (0 : Int32))) fun r1 => (some (r1, (sG M 0 (0 : Int32)))))
abbrev rmX8_suspect : Room := { frames := 3, cells := 0, slots := 0, locals := 69 }
theorem hdX8_suspect : yX8_suspect.cls = RX8 ∧ yX8_suspect.cls ≠ "java/lang/invoke/MethodHandle" ∧ yX8_suspect.cls ≠ "java/lang/invoke/VarHandle" ∧ (parseMethodDescriptor yX8_suspect.desc).map (fun d => d.parameters.length) = some 0 := by decide +kernel
set_option maxRecDepth 100000 in
set_option maxHeartbeats 8000000 in
theorem ctX8_suspect (l : Launch) (dC : Nat → ClassId) (dI : Nat → Nat → Nat) (cq : Nat → ClassId) (q : Nat → Nat) (S : CS) (M : MS) (o : Nat → Int64) (sz : Nat) (n : Nat)  (rr : Int32) (MM : MS) (h : mX8_suspect n M = some (rr, MM)) : CtM_i l yX8_suspect wsX8_suspect rmX8_suspect (fun _ => True) (fun _ => True) dC dI cq q S M o sz [.ref (q 22)] rr MM := by
  refine enM_i (cc := cX8_suspect) (maxL := 1) (by decide) rfl (Nat.le_of_ble_eq_true rfl) (fun p e s m args below meth c A Q ls F hA hP hK hD hDm hX hS hl hend => ?_)
  obtain ⟨hx, hb, hml, hown, hts⟩ := id F
  have hown : s.vm.findClass RX8 = some m.cls := hown
  have F : CallFix p m c cX8_suspect 1 s args wsX8_suspect RX8 := F
  have hl : lv_has ls 1 [(0, .ref (q 22))] := hl
  have hinX8 : ∀ w ∈ u_ws RX8 TX8 29, w ∈ wsX8_suspect := fun w h => List.mem_cons_of_mem _ (List.mem_append_right _ h)
  rw [mX8_suspect] at h
  refine lv_aload_n hx hb dX8_suspect_0 rfl (lv_at hl 0 rfl) ?_
  refine lv_iconst (v := (0 : Int32)) hx hb dX8_suspect_1 (by decide) ?_
  refine pt_22_0 F hinX8 (hts (.fieldLink RX8 44 "CableTesterModel" "thrown" "I") (mm 1 rfl)) hK hP hD hS dX8_suspect_2 (fun H locs hP hD hS => ?_)
  refine lv_aload_n hx hb dX8_suspect_5 rfl (lv_at hl 0 rfl) ?_
  obtain ⟨r1, e2, h⟩ := bo h
  refine caVR_i (As := []) (rest := []) (ctX8_suspected l dC dI cq q S (sG M 0 (0 : Int32)) o _ _ _ e2) F (cwV 0 hts gX8_suspect_X8_suspected rfl rfl rfl hdX8_suspected ⟨Nat.le_of_ble_eq_true rfl, Nat.le_of_ble_eq_true rfl⟩) hK hP hD hDm hS hA (fun _ _ _ _ _ => trivial) (fun _ _ _ => trivial) (va_recv hK hP (ci := 9) (q0 := 22) rfl rfl) rfl hl.1 rfl (Nat.le_of_ble_eq_true rfl) dX8_suspect_6 ⟨Nat.zero_le _, Nat.zero_le _⟩ (fun H locs hP hD hS => ?_)
  exact hend _ _ _ _ _ _ h hP hD hS dX8_suspect_9
def mX8_nextChange_42 (n : Nat)  (M : MS) (x2 : Int32)  : Option (Int32 × MS) :=
  (if (100 : Int32) < x2 then (some ((-1 : Int32), M)) else (some (x2, M)))
def mX8_nextChange_16 (n : Nat)  (x1 : Int32) : Nat → MS → Int32 → Option (Int32 × MS)
  | 0, _, _ => none
  | k + 1, M, x2 => (if (100 : Int32) < x2 then (mX8_nextChange_42 n M x2) else (bm (mX8_wrong n M ((M.1 4) + x2)) fun r6 M8 => (if r6 = x1 then (mX8_nextChange_16 n x1 k M8 (x2 + (1 : Int32))) else (mX8_nextChange_42 n M8 x2))))
def mX8_nextChange (n : Nat) (M : MS)  : Option (Int32 × MS) :=
  (bm (mX8_wrong n (sG M 0 (0 : Int32)) ((sG M 0 (0 : Int32)).1 4)) fun r1 M3 => (mX8_nextChange_16 n r1 n M3 (1 : Int32)))
abbrev rmX8_nextChange : Room := { frames := 6, cells := 0, slots := 0, locals := 138 }
theorem hdX8_nextChange : yX8_nextChange.cls = RX8 ∧ yX8_nextChange.cls ≠ "java/lang/invoke/MethodHandle" ∧ yX8_nextChange.cls ≠ "java/lang/invoke/VarHandle" ∧ (parseMethodDescriptor yX8_nextChange.desc).map (fun d => d.parameters.length) = some 0 := by decide +kernel
set_option maxRecDepth 100000 in
set_option maxHeartbeats 8000000 in
theorem ctX8_nextChange (l : Launch) (dC : Nat → ClassId) (dI : Nat → Nat → Nat) (cq : Nat → ClassId) (q : Nat → Nat) (S : CS) (M : MS) (o : Nat → Int64) (sz : Nat) (n : Nat)  (rr : Int32) (MM : MS) (h : mX8_nextChange n M = some (rr, MM)) : CtM_i l yX8_nextChange wsX8_nextChange rmX8_nextChange (fun _ => True) (fun _ => True) dC dI cq q S M o sz [.ref (q 22)] rr MM := by
  refine enM_i (cc := cX8_nextChange) (maxL := 3) (by decide) rfl (Nat.le_of_ble_eq_true rfl) (fun p e s m args below meth c A Q ls F hA hP hK hD hDm hX hS hl hend => ?_)
  obtain ⟨hx, hb, hml, hown, hts⟩ := id F
  have hown : s.vm.findClass RX8 = some m.cls := hown
  have F : CallFix p m c cX8_nextChange 3 s args wsX8_nextChange RX8 := F
  have hl : lv_has ls 3 [(0, .ref (q 22))] := hl
  have hinX8 : ∀ w ∈ u_ws RX8 TX8 29, w ∈ wsX8_nextChange := fun w h => List.mem_cons_of_mem _ (List.mem_append_right _ h)
  have hj42 : ∀ (M : MS) (x2 : Int32)   (H : Heap) (locs : List Loc) (ls : Array Slot), va_P (dC, dI) vwCl (wA cq q S M o) H → va_D A (wA cq q S M o) → va_S A s.heap H locs → lv_has ls 3 [(2, .int x2)] → mX8_nextChange_42 n M x2 = some (rr, MM) → W p l e rmX8_nextChange s m args below meth c H locs 0 0 Q (F0 m 42 ls []) := by
    intro M x2 H locs ls hP hD hS hl h
    rw [mX8_nextChange_42] at h
    refine lv_iload_n hx hb dX8_nextChange_42 rfl (lv_at hl 0 rfl) ?_
    refine lv_bipush (v := (100 : Int32)) hx hb dX8_nextChange_43 (by decide) ?_
    refine lv_icmp_gt (tgt := 52) hx hb dX8_nextChange_45 (by decide) (fun c5 => ?_) (fun c5 => ?_)
    · replace h := it c5 h
      refine lv_iconst (v := (-1 : Int32)) hx hb dX8_nextChange_52 (by decide) ?_
      exact hend _ _ _ _ _ _ h hP hD hS dX8_nextChange_53
    · replace h := ie c5 h
      refine lv_iload_n hx hb dX8_nextChange_48 rfl (lv_at hl 0 rfl) ?_
      refine lv_goto (tgt := 53) hx hb dX8_nextChange_49 (by decide) ?_
      exact hend _ _ _ _ _ _ h hP hD hS dX8_nextChange_53
  have hL16 : ∀ (x1 : Int32)  (k : Nat) (M : MS) (x2 : Int32) (H : Heap) (locs : List Loc) (ls : Array Slot), va_P (dC, dI) vwCl (wA cq q S M o) H → va_D A (wA cq q S M o) → va_S A s.heap H locs → lv_has ls 3 [(0, .ref (q 22)), (1, .int x1), (2, .int x2)] → mX8_nextChange_16 n x1 k M x2 = some (rr, MM) → W p l e rmX8_nextChange s m args below meth c H locs 0 0 Q (F0 m 16 ls []) := by
    intro x1
    intro k
    induction k with
    | zero =>
      intro M x2 H locs ls hP hD hS hl h
      rw [mX8_nextChange_16] at h
      cases h
    | succ k ih =>
      intro M x2 H locs ls hP hD hS hl h
      rw [mX8_nextChange_16] at h
      refine lv_iload_n hx hb dX8_nextChange_16 rfl (lv_at hl 2 rfl) ?_
      refine lv_bipush (v := (100 : Int32)) hx hb dX8_nextChange_17 (by decide) ?_
      refine lv_icmp_gt (tgt := 42) hx hb dX8_nextChange_19 (by decide) (fun c4 => ?_) (fun c4 => ?_)
      · replace h := it c4 h
        exact hj42 _ _ _ _ _ hP hD hS (lv_sub hl [2] rfl) h
      · replace h := ie c4 h
        refine lv_aload_n hx hb dX8_nextChange_22 rfl (lv_at hl 0 rfl) ?_
        refine lv_aload_n hx hb dX8_nextChange_23 rfl (lv_at hl 0 rfl) ?_
        refine va_get (D := (dC, dI)) (ci := 9) (v := .int (M.1 4)) (C := RX8) (T := TX8) (N := 29) hx hb hts hinX8 hown hK hP 22 rfl rfl 4 (by decide) (hts (.fieldLink RX8 61 "CableTesterModel" "tick" "I") (mm 2 rfl)) (fun _ h9 => h9) rfl dX8_nextChange_24 ?_
        refine lv_iload_n hx hb dX8_nextChange_27 rfl (lv_at hl 2 rfl) ?_
        refine lv_iadd hx hb dX8_nextChange_28 ?_
        obtain ⟨r6, M8, e7, h⟩ := bp h
        refine caVM_i (As := [.int ((M.1 4) + x2)]) (rest := []) (ctX8_wrong l dC dI cq q S M o _ _ _ _ _ e7) F (cwV 1 hts gX8_nextChange_X8_wrong rfl rfl rfl hdX8_wrong ⟨Nat.le_of_ble_eq_true rfl, Nat.le_of_ble_eq_true rfl⟩) hK hP hD hDm hS hA (fun _ _ _ _ _ => trivial) (fun _ _ _ => trivial) (va_recv hK hP (ci := 9) (q0 := 22) rfl rfl) rfl hl.1 rfl (Nat.le_of_ble_eq_true rfl) dX8_nextChange_29 ⟨Nat.zero_le _, Nat.zero_le _⟩ (fun H locs hP hD hS => ?_)
        refine lv_iload_n hx hb dX8_nextChange_32 rfl (lv_at hl 1 rfl) ?_
        refine lv_icmp_ne (tgt := 42) hx hb dX8_nextChange_33 (by decide) (fun c9 => ?_) (fun c9 => ?_)
        · replace h := ie c9 h
          exact hj42 _ _ _ _ _ hP hD hS (lv_sub hl [2] rfl) h
        · replace h := it c9 h
          refine lv_iinc (v := (x2 + (1 : Int32))) (lv' := [(2, .int (x2 + (1 : Int32))), (0, .ref (q 22)), (1, .int x1)]) hx hb dX8_nextChange_36 hl (k := 2) rfl rfl (by decide) rfl (fun ls hl => ?_)
          refine lv_goto (tgt := 16) hx hb dX8_nextChange_39 (by decide) ?_
          exact ih _ _ _ _ _ hP hD hS (lv_sub hl [1, 2, 0] rfl) h
  rw [mX8_nextChange] at h
  refine lv_aload_n hx hb dX8_nextChange_0 rfl (lv_at hl 0 rfl) ?_
  refine lv_iconst (v := (0 : Int32)) hx hb dX8_nextChange_1 (by decide) ?_
  refine pt_22_0 F hinX8 (hts (.fieldLink RX8 44 "CableTesterModel" "thrown" "I") (mm 1 rfl)) hK hP hD hS dX8_nextChange_2 (fun H locs hP hD hS => ?_)
  refine lv_aload_n hx hb dX8_nextChange_5 rfl (lv_at hl 0 rfl) ?_
  refine lv_aload_n hx hb dX8_nextChange_6 rfl (lv_at hl 0 rfl) ?_
  refine va_get (D := (dC, dI)) (ci := 9) (v := .int ((sG M 0 (0 : Int32)).1 4)) (C := RX8) (T := TX8) (N := 29) hx hb hts hinX8 hown hK hP 22 rfl rfl 4 (by decide) (hts (.fieldLink RX8 61 "CableTesterModel" "tick" "I") (mm 2 rfl)) (fun _ h9 => h9) rfl dX8_nextChange_7 ?_
  obtain ⟨r1, M3, e2, h⟩ := bp h
  refine caVM_i (As := [.int ((sG M 0 (0 : Int32)).1 4)]) (rest := []) (ctX8_wrong l dC dI cq q S (sG M 0 (0 : Int32)) o _ _ _ _ _ e2) F (cwV 1 hts gX8_nextChange_X8_wrong rfl rfl rfl hdX8_wrong ⟨Nat.le_of_ble_eq_true rfl, Nat.le_of_ble_eq_true rfl⟩) hK hP hD hDm hS hA (fun _ _ _ _ _ => trivial) (fun _ _ _ => trivial) (va_recv hK hP (ci := 9) (q0 := 22) rfl rfl) rfl hl.1 rfl (Nat.le_of_ble_eq_true rfl) dX8_nextChange_10 ⟨Nat.zero_le _, Nat.zero_le _⟩ (fun H locs hP hD hS => ?_)
  refine lv_istore_n (lv' := [(1, .int r1), (0, .ref (q 22))]) hx hb dX8_nextChange_13 rfl hl (by decide) rfl (fun ls hl => ?_)
  refine lv_iconst (v := (1 : Int32)) hx hb dX8_nextChange_14 (by decide) ?_
  refine lv_istore_n (lv' := [(2, .int (1 : Int32)), (1, .int r1), (0, .ref (q 22))]) hx hb dX8_nextChange_15 rfl hl (by decide) rfl (fun ls hl => ?_)
  exact hL16 _ _ _ _ _ _ _ hP hD hS (lv_sub hl [2, 1, 0] rfl) h
def mX8_cycles_25 (n : Nat) (K6 : Int32 → Int32 → Int32 → Option (Int32)) (M : MS) (x1 : Int32) (x3 : Int32) : Nat → Int32 → Int32 → Option (Int32)
  | 0, _, _ => none
  | k + 1, x2, x4 => (if ((x2 >>> (x4 &&& 31)) &&& (1 : Int32)) = (0 : Int32) then (if inb x4 8 then (mX8_cycles_25 n K6 M x1 x3 k (x2 ||| ((1 : Int32) <<< (x4 &&& 31))) (M.2.1 31 x4.toNatClampNeg)) else none) else (K6 x1 x2 (x3 + (1 : Int32))))
def mX8_cycles_6 (n : Nat)  (M : MS)  : Nat → Int32 → Int32 → Int32 → Option (Int32)
  | 0, _, _, _ => none
  | k + 1, x1, x2, x3 => (if (8 : Int32) ≤ x3 then (some x1) else (mX8_cycles_25 n (mX8_cycles_6 n M k) M (x1 + (((x2 >>> (x3 &&& 31)) &&& (1 : Int32)) ^^^ (1 : Int32))) x3 n x2 x3))
def mX8_cycles (n : Nat) (M : MS)  : Option (Int32) :=
  (mX8_cycles_6 n M n (0 : Int32) (0 : Int32) (0 : Int32))
abbrev rmX8_cycles : Room := { frames := 0, cells := 0, slots := 0, locals := 0 }
theorem hdX8_cycles : yX8_cycles.cls = RX8 ∧ yX8_cycles.cls ≠ "java/lang/invoke/MethodHandle" ∧ yX8_cycles.cls ≠ "java/lang/invoke/VarHandle" ∧ (parseMethodDescriptor yX8_cycles.desc).map (fun d => d.parameters.length) = some 0 := by decide +kernel
set_option maxRecDepth 100000 in
set_option maxHeartbeats 8000000 in
theorem ctX8_cycles (l : Launch) (dC : Nat → ClassId) (dI : Nat → Nat → Nat) (cq : Nat → ClassId) (q : Nat → Nat) (S : CS) (M : MS) (o : Nat → Int64) (sz : Nat) (n : Nat)  (rr : Int32) (h : mX8_cycles n M = some rr) : CtR_i l yX8_cycles wsX8_cycles rmX8_cycles (fun _ => True) (fun _ => True) dC dI cq q S M o sz [.ref (q 22)] rr := by
  refine enR_i (cc := cX8_cycles) (maxL := 5) (by decide) rfl (Nat.le_of_ble_eq_true rfl) (fun p e s m args below meth c A Q ls F hA hP hK hD hDm hX hS hl hend => ?_)
  obtain ⟨hx, hb, hml, hown, hts⟩ := id F
  have hown : s.vm.findClass RX8 = some m.cls := hown
  have F : CallFix p m c cX8_cycles 5 s args wsX8_cycles RX8 := F
  have hl : lv_has ls 5 [(0, .ref (q 22))] := hl
  have hinX8 : ∀ w ∈ u_ws RX8 TX8 29, w ∈ wsX8_cycles := fun w h => List.mem_cons_of_mem _ (List.mem_append_right _ h)
  have hL25 : ∀ (x1 : Int32) (x3 : Int32) (K6 : Int32 → Int32 → Int32 → Option (Int32)) (hK6 : ∀ (y1 : Int32) (y2 : Int32) (y3 : Int32) (H : Heap) (locs : List Loc) (ls : Array Slot), va_P (dC, dI) vwCl (wA cq q S M o) H → va_D A (wA cq q S M o) → va_S A s.heap H locs → lv_has ls 5 [(0, .ref (q 22)), (1, .int y1), (2, .int y2), (3, .int y3)] → K6 y1 y2 y3 = some rr → W p l e rmX8_cycles s m args below meth c H locs 0 0 Q (F0 m 6 ls [])) (k : Nat)  (x2 : Int32) (x4 : Int32) (H : Heap) (locs : List Loc) (ls : Array Slot), va_P (dC, dI) vwCl (wA cq q S M o) H → va_D A (wA cq q S M o) → va_S A s.heap H locs → lv_has ls 5 [(0, .ref (q 22)), (1, .int x1), (2, .int x2), (3, .int x3), (4, .int x4)] → mX8_cycles_25 n K6 M x1 x3 k x2 x4 = some rr → W p l e rmX8_cycles s m args below meth c H locs 0 0 Q (F0 m 25 ls []) := by
    intro x1 x3 K6 hK6
    intro k
    induction k with
    | zero =>
      intro x2 x4 H locs ls hP hD hS hl h
      rw [mX8_cycles_25] at h
      cases h
    | succ k ih =>
      intro x2 x4 H locs ls hP hD hS hl h
      rw [mX8_cycles_25] at h
      refine lv_iload_n hx hb dX8_cycles_25 rfl (lv_at hl 2 rfl) ?_
      refine lv_iload hx hb dX8_cycles_26 (lv_at hl 4 rfl) ?_
      refine lv_ishr hx hb dX8_cycles_28 ?_
      refine lv_iconst (v := (1 : Int32)) hx hb dX8_cycles_29 (by decide) ?_
      refine lv_iand hx hb dX8_cycles_30 ?_
      refine lv_if_ne (tgt := 53) hx hb dX8_cycles_31 (by decide) (fun c2 => ?_) (fun c2 => ?_)
      · replace h := ie c2 h
        refine lv_iinc (v := (x3 + (1 : Int32))) (lv' := [(3, .int (x3 + (1 : Int32))), (0, .ref (q 22)), (1, .int x1), (2, .int x2), (4, .int x4)]) hx hb dX8_cycles_53 hl (k := 3) rfl rfl (by decide) rfl (fun ls hl => ?_)
        refine lv_goto (tgt := 6) hx hb dX8_cycles_56 (by decide) ?_
        exact hK6 _ _ _ _ _ _ hP hD hS (lv_sub hl [1, 2, 3, 0] rfl) h
      · replace h := it c2 h
        refine lv_iload_n hx hb dX8_cycles_34 rfl (lv_at hl 2 rfl) ?_
        refine lv_iconst (v := (1 : Int32)) hx hb dX8_cycles_35 (by decide) ?_
        refine lv_iload hx hb dX8_cycles_36 (lv_at hl 4 rfl) ?_
        refine lv_ishl hx hb dX8_cycles_38 ?_
        refine lv_ior hx hb dX8_cycles_39 ?_
        refine lv_istore_n (lv' := [(2, .int (x2 ||| ((1 : Int32) <<< (x4 &&& 31)))), (0, .ref (q 22)), (1, .int x1), (3, .int x3), (4, .int x4)]) hx hb dX8_cycles_40 rfl hl (by decide) rfl (fun ls hl => ?_)
        refine lv_aload_n hx hb dX8_cycles_41 rfl (lv_at hl 1 rfl) ?_
        refine va_get (D := (dC, dI)) (ci := 9) (v := .ref (q 31)) (C := RX8) (T := TX8) (N := 29) hx hb hts hinX8 hown hK hP 22 rfl rfl 26 (by decide) (hts (.fieldLink RX8 34 "CableTesterModel" "given" "[I") (mm 1 rfl)) (fun _ h9 => h9) rfl dX8_cycles_42 ?_
        refine lv_iload hx hb dX8_cycles_45 (lv_at hl 4 rfl) ?_
        obtain ⟨g3, h⟩ := gd h
        refine va_iald (D := (dC, dI)) hx hb hK hP 31 20 rfl rfl (inb_ok g3) dX8_cycles_47 ?_
        refine lv_istore (lv' := [(4, .int (M.2.1 31 x4.toNatClampNeg)), (2, .int (x2 ||| ((1 : Int32) <<< (x4 &&& 31)))), (0, .ref (q 22)), (1, .int x1), (3, .int x3)]) hx hb dX8_cycles_48 hl (by decide) rfl (fun ls hl => ?_)
        refine lv_goto (tgt := 25) hx hb dX8_cycles_50 (by decide) ?_
        exact ih _ _ _ _ _ hP hD hS (lv_sub hl [2, 3, 1, 4, 0] rfl) h
  have hL6 : ∀   (k : Nat)  (x1 : Int32) (x2 : Int32) (x3 : Int32) (H : Heap) (locs : List Loc) (ls : Array Slot), va_P (dC, dI) vwCl (wA cq q S M o) H → va_D A (wA cq q S M o) → va_S A s.heap H locs → lv_has ls 5 [(0, .ref (q 22)), (1, .int x1), (2, .int x2), (3, .int x3)] → mX8_cycles_6 n M k x1 x2 x3 = some rr → W p l e rmX8_cycles s m args below meth c H locs 0 0 Q (F0 m 6 ls []) := by
    intro k
    induction k with
    | zero =>
      intro x1 x2 x3 H locs ls hP hD hS hl h
      rw [mX8_cycles_6] at h
      cases h
    | succ k ih =>
      intro x1 x2 x3 H locs ls hP hD hS hl h
      rw [mX8_cycles_6] at h
      refine lv_iload_n hx hb dX8_cycles_6 rfl (lv_at hl 3 rfl) ?_
      refine lv_bipush (v := (8 : Int32)) hx hb dX8_cycles_7 (by decide) ?_
      refine lv_icmp_ge (tgt := 59) hx hb dX8_cycles_9 (by decide) (fun c1 => ?_) (fun c1 => ?_)
      · replace h := it c1 h
        refine lv_iload_n hx hb dX8_cycles_59 rfl (lv_at hl 1 rfl) ?_
        exact hend _ _ _ _ _ h hP hD hS dX8_cycles_60
      · replace h := ie c1 h
        refine lv_iload_n hx hb dX8_cycles_12 rfl (lv_at hl 1 rfl) ?_
        refine lv_iload_n hx hb dX8_cycles_13 rfl (lv_at hl 2 rfl) ?_
        refine lv_iload_n hx hb dX8_cycles_14 rfl (lv_at hl 3 rfl) ?_
        refine lv_ishr hx hb dX8_cycles_15 ?_
        refine lv_iconst (v := (1 : Int32)) hx hb dX8_cycles_16 (by decide) ?_
        refine lv_iand hx hb dX8_cycles_17 ?_
        refine lv_iconst (v := (1 : Int32)) hx hb dX8_cycles_18 (by decide) ?_
        refine lv_ixor hx hb dX8_cycles_19 ?_
        refine lv_iadd hx hb dX8_cycles_20 ?_
        refine lv_istore_n (lv' := [(1, .int (x1 + (((x2 >>> (x3 &&& 31)) &&& (1 : Int32)) ^^^ (1 : Int32)))), (0, .ref (q 22)), (2, .int x2), (3, .int x3)]) hx hb dX8_cycles_21 rfl hl (by decide) rfl (fun ls hl => ?_)
        refine lv_iload_n hx hb dX8_cycles_22 rfl (lv_at hl 3 rfl) ?_
        refine lv_istore (lv' := [(4, .int x3), (1, .int (x1 + (((x2 >>> (x3 &&& 31)) &&& (1 : Int32)) ^^^ (1 : Int32)))), (0, .ref (q 22)), (2, .int x2), (3, .int x3)]) hx hb dX8_cycles_23 hl (by decide) rfl (fun ls hl => ?_)
        exact hL25 _ _ _ ih _ _ _ _ _ _ hP hD hS (lv_sub hl [2, 1, 3, 4, 0] rfl) h
  rw [mX8_cycles] at h
  refine lv_iconst (v := (0 : Int32)) hx hb dX8_cycles_0 (by decide) ?_
  refine lv_istore_n (lv' := [(1, .int (0 : Int32)), (0, .ref (q 22))]) hx hb dX8_cycles_1 rfl hl (by decide) rfl (fun ls hl => ?_)
  refine lv_iconst (v := (0 : Int32)) hx hb dX8_cycles_2 (by decide) ?_
  refine lv_istore_n (lv' := [(2, .int (0 : Int32)), (1, .int (0 : Int32)), (0, .ref (q 22))]) hx hb dX8_cycles_3 rfl hl (by decide) rfl (fun ls hl => ?_)
  refine lv_iconst (v := (0 : Int32)) hx hb dX8_cycles_4 (by decide) ?_
  refine lv_istore_n (lv' := [(3, .int (0 : Int32)), (2, .int (0 : Int32)), (1, .int (0 : Int32)), (0, .ref (q 22))]) hx hb dX8_cycles_5 rfl hl (by decide) rfl (fun ls hl => ?_)
  exact hL6 _ _ _ _ _ _ _ hP hD hS (lv_sub hl [3, 2, 1, 0] rfl) h
