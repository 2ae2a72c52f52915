def mX8_explain_15 (n : Nat)  (M : MS) (x1 : Int32) (t0 : Int32) : Option (Int32 × MS) :=
  (if ((sG M 0 t0).1 0) ≤ (0 : Int32) then (bm (mX8_explanation n (sG M 0 t0) x1) fun r5 M7 => (some (r5, M7))) else (some ((0 : Int32), (sG M 0 t0))))
def mX8_explain (n : Nat) (M : MS) (x1 : Int32) : Option (Int32 × MS) :=
  (bn (mX8_within x1 (0 : Int32) (4 : Int32)) fun r1 => (if r1 = (0 : Int32) then (mX8_explain_15 n M x1 (1 : Int32)) else (mX8_explain_15 n M x1 (0 : Int32))))
abbrev rmX8_explain : Room := { frames := 7, cells := 0, slots := 0, locals := 159 }
theorem hdX8_explain : yX8_explain.cls = RX8 ∧ yX8_explain.cls ≠ "java/lang/invoke/MethodHandle" ∧ yX8_explain.cls ≠ "java/lang/invoke/VarHandle" ∧ (parseMethodDescriptor yX8_explain.desc).map (fun d => d.parameters.length) = some 1 := by decide +kernel
set_option maxRecDepth 100000 in
set_option maxHeartbeats 8000000 in
theorem ctX8_explain (l : Launch) (dC : Nat → ClassId) (dI : Nat → Nat → Nat) (cq : Nat → ClassId) (q : Nat → Nat) (S : CS) (M : MS) (o : Nat → Int64) (sz : Nat) (n : Nat) (x1 : Int32) (rr : Int32) (MM : MS) (h : mX8_explain n M x1 = some (rr, MM)) : CtM_i l yX8_explain wsX8_explain rmX8_explain (fun _ => True) (fun _ => True) dC dI cq q S M o sz [.ref (q 22), .int x1] rr MM := by
  refine enM_i (cc := cX8_explain) (maxL := 2) (by decide) rfl (Nat.le_of_ble_eq_true rfl) (fun p e s m args below meth c A Q ls F hA hP hK hD hDm hX hS hl hend => ?_)
  obtain ⟨hx, hb, hml, hown, hts⟩ := id F
  have hown : s.vm.findClass RX8 = some m.cls := hown
  have F : CallFix p m c cX8_explain 2 s args wsX8_explain RX8 := F
  have hl : lv_has ls 2 [(0, .ref (q 22)), (1, .int x1)] := hl
  have hinX8 : ∀ w ∈ u_ws RX8 TX8 29, w ∈ wsX8_explain := fun w h => List.mem_cons_of_mem _ (List.mem_append_right _ h)
  have hj15 : ∀ (M : MS) (x1 : Int32) (t0 : Int32)  (H : Heap) (locs : List Loc) (ls : Array Slot), va_P (dC, dI) vwCl (wA cq q S M o) H → va_D A (wA cq q S M o) → va_S A s.heap H locs → lv_has ls 2 [(0, .ref (q 22)), (1, .int x1)] → mX8_explain_15 n M x1 t0 = some (rr, MM) → W p l e rmX8_explain s m args below meth c H locs 0 0 Q (F0 m 15 ls [.int t0, .ref (q 22)]) := by
    intro M x1 t0 H locs ls hP hD hS hl h
    rw [mX8_explain_15] at h
    refine pt_22_0 F hinX8 (hts (.fieldLink RX8 44 "CableTesterModel" "thrown" "I") (mm 1 rfl)) hK hP hD hS dX8_explain_15 (fun H locs hP hD hS => ?_)
    refine lv_aload_n hx hb dX8_explain_18 rfl (lv_at hl 0 rfl) ?_
    refine va_get (D := (dC, dI)) (ci := 9) (v := .int ((sG M 0 t0).1 0)) (C := RX8) (T := TX8) (N := 29) hx hb hts hinX8 hown hK hP 22 rfl rfl 0 (by decide) (hts (.fieldLink RX8 44 "CableTesterModel" "thrown" "I") (mm 1 rfl)) (fun _ h9 => h9) rfl dX8_explain_19 ?_
    refine lv_if_le (tgt := 29) hx hb dX8_explain_22 (by decide) (fun c4 => ?_) (fun c4 => ?_)
    · replace h := it c4 h
      refine lv_aload_n hx hb dX8_explain_29 rfl (lv_at hl 0 rfl) ?_
      refine lv_iload_n hx hb dX8_explain_30 rfl (lv_at hl 1 rfl) ?_
      obtain ⟨r5, M7, e6, h⟩ := bp h
      refine caVM_i (As := [.int x1]) (rest := []) (ctX8_explanation l dC dI cq q S (sG M 0 t0) o _ _ _ _ _ e6) F (cwV 1 hts gX8_explain_X8_explanation rfl rfl rfl hdX8_explanation ⟨Nat.le_of_ble_eq_true rfl, Nat.le_of_ble_eq_true rfl⟩) hK hP hD hDm hS hA (fun _ _ _ _ _ => trivial) (fun _ _ _ => trivial) (va_recv hK hP (ci := 9) (q0 := 22) rfl rfl) rfl hl.1 rfl (Nat.le_of_ble_eq_true rfl) dX8_explain_31 ⟨Nat.zero_le _, Nat.zero_le _⟩ (fun H locs hP hD hS => ?_)
      exact hend _ _ _ _ _ _ h hP hD hS dX8_explain_34
    · replace h := ie c4 h
      refine lv_iconst (v := (0 : Int32)) hx hb dX8_explain_25 (by decide) ?_
      refine lv_goto (tgt := 34) hx hb dX8_explain_26 (by decide) ?_
      exact hend _ _ _ _ _ _ h hP hD hS dX8_explain_34
  rw [mX8_explain] at h
  refine lv_aload_n hx hb dX8_explain_0 rfl (lv_at hl 0 rfl) ?_
  refine lv_iload_n hx hb dX8_explain_1 rfl (lv_at hl 1 rfl) ?_
  refine lv_iconst (v := (0 : Int32)) hx hb dX8_explain_2 (by decide) ?_
  refine lv_iconst (v := (4 : Int32)) hx hb dX8_explain_3 (by decide) ?_
  obtain ⟨r1, e2, h⟩ := bo h
  refine caSR_i (As := [.int x1, .int (0 : Int32), .int (4 : Int32)]) (rest := [.ref (q 22)]) (ctX8_within l dC dI cq q S M o _ _ _ _ _ e2) F (va_cwS 3 hts gX8_explain_X8_within rfl rfl rfl hdX8_within ⟨Nat.le_of_ble_eq_true rfl, Nat.le_of_ble_eq_true rfl⟩) hK hP hD hDm hS hA (fun _ _ _ _ _ => trivial) (fun _ _ _ => trivial) rfl hl.1 rfl (Nat.le_of_ble_eq_true rfl) dX8_explain_4 ⟨Nat.zero_le _, Nat.zero_le _⟩ (fun H locs hP hD hS => ?_)
  refine lv_if_eq (tgt := 14) hx hb dX8_explain_7 (by decide) (fun c3 => ?_) (fun c3 => ?_)
  · replace h := it c3 h
    refine lv_iconst (v := (1 : Int32)) hx hb dX8_explain_14 (by decide) ?_
    exact hj15 _ _ _ _ _ _ hP hD hS (lv_sub hl [0, 1] rfl) h
  · replace h := ie c3 h
    refine lv_iconst (v := (0 : Int32)) hx hb dX8_explain_10 (by decide) ?_
    refine lv_goto (tgt := 15) hx hb dX8_explain_11 (by decide) ?_
    exact hj15 _ _ _ _ _ _ hP hD hS (lv_sub hl [0, 1] rfl) h
def mX8_explained_13 (n : Nat)  (M : MS) (x1 : Int32) (t0 : Int32) : Option (Int32 × MS) :=
  (if ((sG M 0 t0).1 0) ≤ (0 : Int32) then (bn (mX8_findBest n (sG M 0 t0)) fun M7 => (if inb x1 8 then (some ((M7.2.1 30 x1.toNatClampNeg), M7)) else none)) else (some ((0 : Int32), (sG M 0 t0))))
def mX8_explained (n : Nat) (M : MS) (x1 : Int32) : Option (Int32 × MS) :=
  (bn (mX8_isWire x1) fun r1 => (if r1 = (0 : Int32) then (mX8_explained_13 n M x1 (1 : Int32)) else (mX8_explained_13 n M x1 (0 : Int32))))
abbrev rmX8_explained : Room := { frames := 6, cells := 0, slots := 0, locals := 138 }
theorem hdX8_explained : yX8_explained.cls = RX8 ∧ yX8_explained.cls ≠ "java/lang/invoke/MethodHandle" ∧ yX8_explained.cls ≠ "java/lang/invoke/VarHandle" ∧ (parseMethodDescriptor yX8_explained.desc).map (fun d => d.parameters.length) = some 1 := by decide +kernel
set_option maxRecDepth 100000 in
set_option maxHeartbeats 8000000 in
theorem ctX8_explained (l : Launch) (dC : Nat → ClassId) (dI : Nat → Nat → Nat) (cq : Nat → ClassId) (q : Nat → Nat) (S : CS) (M : MS) (o : Nat → Int64) (sz : Nat) (n : Nat) (x1 : Int32) (rr : Int32) (MM : MS) (h : mX8_explained n M x1 = some (rr, MM)) : CtM_i l yX8_explained wsX8_explained rmX8_explained (fun _ => True) (fun _ => True) dC dI cq q S M o sz [.ref (q 22), .int x1] rr MM := by
  refine enM_i (cc := cX8_explained) (maxL := 2) (by decide) rfl (Nat.le_of_ble_eq_true rfl) (fun p e s m args below meth c A Q ls F hA hP hK hD hDm hX hS hl hend => ?_)
  obtain ⟨hx, hb, hml, hown, hts⟩ := id F
  have hown : s.vm.findClass RX8 = some m.cls := hown
  have F : CallFix p m c cX8_explained 2 s args wsX8_explained RX8 := F
  have hl : lv_has ls 2 [(0, .ref (q 22)), (1, .int x1)] := hl
  have hinX8 : ∀ w ∈ u_ws RX8 TX8 29, w ∈ wsX8_explained := fun w h => List.mem_cons_of_mem _ (List.mem_append_right _ h)
  have hj13 : ∀ (M : MS) (x1 : Int32) (t0 : Int32)  (H : Heap) (locs : List Loc) (ls : Array Slot), va_P (dC, dI) vwCl (wA cq q S M o) H → va_D A (wA cq q S M o) → va_S A s.heap H locs → lv_has ls 2 [(0, .ref (q 22)), (1, .int x1)] → mX8_explained_13 n M x1 t0 = some (rr, MM) → W p l e rmX8_explained s m args below meth c H locs 0 0 Q (F0 m 13 ls [.int t0, .ref (q 22)]) := by
    intro M x1 t0 H locs ls hP hD hS hl h
    rw [mX8_explained_13] at h
    refine pt_22_0 F hinX8 (hts (.fieldLink RX8 44 "CableTesterModel" "thrown" "I") (mm 1 rfl)) hK hP hD hS dX8_explained_13 (fun H locs hP hD hS => ?_)
    refine lv_aload_n hx hb dX8_explained_16 rfl (lv_at hl 0 rfl) ?_
    refine va_get (D := (dC, dI)) (ci := 9) (v := .int ((sG M 0 t0).1 0)) (C := RX8) (T := TX8) (N := 29) hx hb hts hinX8 hown hK hP 22 rfl rfl 0 (by decide) (hts (.fieldLink RX8 44 "CableTesterModel" "thrown" "I") (mm 1 rfl)) (fun _ h9 => h9) rfl dX8_explained_17 ?_
    refine lv_if_le (tgt := 25) hx hb dX8_explained_20 (by decide) (fun c4 => ?_) (fun c4 => ?_)
    · replace h := it c4 h
      refine lv_aload_n hx hb dX8_explained_25 rfl (lv_at hl 0 rfl) ?_
      obtain ⟨M7, e6, h⟩ := bo h
      refine caVM_v (As := []) (rest := []) (ctX8_findBest l dC dI cq q S (sG M 0 t0) o _ _ _ e6) F (cwV 0 hts gX8_explained_X8_findBest rfl rfl rfl hdX8_findBest ⟨Nat.le_of_ble_eq_true rfl, Nat.le_of_ble_eq_true rfl⟩) hK hP hD hDm hS hA (fun _ _ _ _ _ => trivial) (fun _ _ _ => trivial) (va_recv hK hP (ci := 9) (q0 := 22) rfl rfl) rfl hl.1 rfl (Nat.le_of_ble_eq_true rfl) dX8_explained_26 ⟨Nat.zero_le _, Nat.zero_le _⟩ (fun H locs hP hD hS => ?_)
      refine lv_aload_n hx hb dX8_explained_29 rfl (lv_at hl 0 rfl) ?_
      refine va_get (D := (dC, dI)) (ci := 9) (v := .ref (q 30)) (C := RX8) (T := TX8) (N := 29) hx hb hts hinX8 hown hK hP 22 rfl rfl 25 (by decide) (hts (.fieldLink RX8 31 "CableTesterModel" "best" "[I") (mm 2 rfl)) (fun _ h9 => h9) rfl dX8_explained_30 ?_
      refine lv_iload_n hx hb dX8_explained_33 rfl (lv_at hl 1 rfl) ?_
      obtain ⟨g8, h⟩ := gd h
      refine va_iald (D := (dC, dI)) hx hb hK hP 30 19 rfl rfl (inb_ok g8) dX8_explained_34 ?_
      exact hend _ _ _ _ _ _ h hP hD hS dX8_explained_35
    · replace h := ie c4 h
      refine lv_iconst (v := (0 : Int32)) hx hb dX8_explained_23 (by decide) ?_
      exact hend _ _ _ _ _ _ h hP hD hS dX8_explained_24
  rw [mX8_explained] at h
  refine lv_aload_n hx hb dX8_explained_0 rfl (lv_at hl 0 rfl) ?_
  refine lv_iload_n hx hb dX8_explained_1 rfl (lv_at hl 1 rfl) ?_
  obtain ⟨r1, e2, h⟩ := bo h
  refine caSR_i (As := [.int x1]) (rest := [.ref (q 22)]) (ctX8_isWire l dC dI cq q S M o _ _ _ e2) F (va_cwS 1 hts gX8_explained_X8_isWire rfl rfl rfl hdX8_isWire ⟨Nat.le_of_ble_eq_true rfl, Nat.le_of_ble_eq_true rfl⟩) hK hP hD hDm hS hA (fun _ _ _ _ _ => trivial) (fun _ _ _ => trivial) rfl hl.1 rfl (Nat.le_of_ble_eq_true rfl) dX8_explained_2 ⟨Nat.zero_le _, Nat.zero_le _⟩ (fun H locs hP hD hS => ?_)
  refine lv_if_eq (tgt := 12) hx hb dX8_explained_5 (by decide) (fun c3 => ?_) (fun c3 => ?_)
  · replace h := it c3 h
    refine lv_iconst (v := (1 : Int32)) hx hb dX8_explained_12 (by decide) ?_
    exact hj13 _ _ _ _ _ _ hP hD hS (lv_sub hl [0, 1] rfl) h
  · replace h := ie c3 h
    refine lv_iconst (v := (0 : Int32)) hx hb dX8_explained_8 (by decide) ?_
    refine lv_goto (tgt := 13) hx hb dX8_explained_9 (by decide) ?_
    exact hj13 _ _ _ _ _ _ hP hD hS (lv_sub hl [0, 1] rfl) h
def mX8_presentFaults_30 (n : Nat) (K4 : Int32 → Int32 → Option (Int32)) (M : MS) (x2 : Int32) (t0 : Int32) (t1 : Int32) : Option (Int32) :=
  (K4 (t1 + t0) (x2 + (1 : Int32)))
def mX8_presentFaults_4 (n : Nat)  (M : MS)  : Nat → Int32 → Int32 → Option (Int32)
  | 0, _, _ => none
  | k + 1, x1, x2 => (if (M.1 7) ≤ x2 then (some x1) else (bn (mX8_isPresent M x2 (M.1 4)) fun r2 => (if r2 = (0 : Int32) then (mX8_presentFaults_30 n (mX8_presentFaults_4 n M k) M x2 (0 : Int32) x1) else (mX8_presentFaults_30 n (mX8_presentFaults_4 n M k) M x2 (1 : Int32) x1))))
def mX8_presentFaults (n : Nat) (M : MS)  : Option (Int32) :=
  (mX8_presentFaults_4 n M n (0 : Int32) (0 : Int32))
abbrev rmX8_presentFaults : Room := { frames := 2, cells := 0, slots := 0, locals := 44 }
theorem hdX8_presentFaults : yX8_presentFaults.cls = RX8 ∧ yX8_presentFaults.cls ≠ "java/lang/invoke/MethodHandle" ∧ yX8_presentFaults.cls ≠ "java/lang/invoke/VarHandle" ∧ (parseMethodDescriptor yX8_presentFaults.desc).map (fun d => d.parameters.length) = some 0 := by decide +kernel
set_option maxRecDepth 100000 in
set_option maxHeartbeats 8000000 in
theorem ctX8_presentFaults (l : Launch) (dC : Nat → ClassId) (dI : Nat → Nat → Nat) (cq : Nat → ClassId) (q : Nat → Nat) (S : CS) (M : MS) (o : Nat → Int64) (sz : Nat) (n : Nat)  (rr : Int32) (h : mX8_presentFaults n M = some rr) : CtR_i l yX8_presentFaults wsX8_presentFaults rmX8_presentFaults (fun _ => True) (fun _ => True) dC dI cq q S M o sz [.ref (q 22)] rr := by
  refine enR_i (cc := cX8_presentFaults) (maxL := 3) (by decide) rfl (Nat.le_of_ble_eq_true rfl) (fun p e s m args below meth c A Q ls F hA hP hK hD hDm hX hS hl hend => ?_)
  obtain ⟨hx, hb, hml, hown, hts⟩ := id F
  have hown : s.vm.findClass RX8 = some m.cls := hown
  have F : CallFix p m c cX8_presentFaults 3 s args wsX8_presentFaults RX8 := F
  have hl : lv_has ls 3 [(0, .ref (q 22))] := hl
  have hinX8 : ∀ w ∈ u_ws RX8 TX8 29, w ∈ wsX8_presentFaults := fun w h => List.mem_cons_of_mem _ (List.mem_append_right _ h)
  have hj30 : ∀  (x2 : Int32) (t0 : Int32) (t1 : Int32) (K4 : Int32 → Int32 → Option (Int32)) (hK4 : ∀ (y1 : Int32) (y2 : Int32) (H : Heap) (locs : List Loc) (ls : Array Slot), va_P (dC, dI) vwCl (wA cq q S M o) H → va_D A (wA cq q S M o) → va_S A s.heap H locs → lv_has ls 3 [(0, .ref (q 22)), (1, .int y1), (2, .int y2)] → K4 y1 y2 = some rr → W p l e rmX8_presentFaults s m args below meth c H locs 0 0 Q (F0 m 4 ls [])) (H : Heap) (locs : List Loc) (ls : Array Slot), va_P (dC, dI) vwCl (wA cq q S M o) H → va_D A (wA cq q S M o) → va_S A s.heap H locs → lv_has ls 3 [(0, .ref (q 22)), (2, .int x2)] → mX8_presentFaults_30 n K4 M x2 t0 t1 = some rr → W p l e rmX8_presentFaults s m args below meth c H locs 0 0 Q (F0 m 30 ls [.int t0, .int t1]) := by
    intro x2 t0 t1 K4 hK4 H locs ls hP hD hS hl h
    rw [mX8_presentFaults_30] at h
    refine lv_iadd hx hb dX8_presentFaults_30 ?_
    refine lv_istore_n (lv' := [(1, .int (t1 + t0)), (0, .ref (q 22)), (2, .int x2)]) hx hb dX8_presentFaults_31 rfl hl (by decide) rfl (fun ls hl => ?_)
    refine lv_iinc (v := (x2 + (1 : Int32))) (lv' := [(2, .int (x2 + (1 : Int32))), (1, .int (t1 + t0)), (0, .ref (q 22))]) hx hb dX8_presentFaults_32 hl (k := 2) rfl rfl (by decide) rfl (fun ls hl => ?_)
    refine lv_goto (tgt := 4) hx hb dX8_presentFaults_35 (by decide) ?_
    exact hK4 _ _ _ _ _ hP hD hS (lv_sub hl [2, 1, 0] rfl) h
  have hL4 : ∀   (k : Nat)  (x1 : Int32) (x2 : Int32) (H : Heap) (locs : List Loc) (ls : Array Slot), va_P (dC, dI) vwCl (wA cq q S M o) H → va_D A (wA cq q S M o) → va_S A s.heap H locs → lv_has ls 3 [(0, .ref (q 22)), (1, .int x1), (2, .int x2)] → mX8_presentFaults_4 n M k x1 x2 = some rr → W p l e rmX8_presentFaults s m args below meth c H locs 0 0 Q (F0 m 4 ls []) := by
    intro k
    induction k with
    | zero =>
      intro x1 x2 H locs ls hP hD hS hl h
      rw [mX8_presentFaults_4] at h
      cases h
    | succ k ih =>
      intro x1 x2 H locs ls hP hD hS hl h
      rw [mX8_presentFaults_4] at h
      refine lv_iload_n hx hb dX8_presentFaults_4 rfl (lv_at hl 2 rfl) ?_
      refine lv_aload_n hx hb dX8_presentFaults_5 rfl (lv_at hl 0 rfl) ?_
      refine va_get (D := (dC, dI)) (ci := 9) (v := .int (M.1 7)) (C := RX8) (T := TX8) (N := 29) hx hb hts hinX8 hown hK hP 22 rfl rfl 7 (by decide) (hts (.fieldLink RX8 64 "CableTesterModel" "many" "I") (mm 1 rfl)) (fun _ h9 => h9) rfl dX8_presentFaults_6 ?_
      refine lv_icmp_ge (tgt := 38) hx hb dX8_presentFaults_9 (by decide) (fun c1 => ?_) (fun c1 => ?_)
      · replace h := it c1 h
        refine lv_iload_n hx hb dX8_presentFaults_38 rfl (lv_at hl 1 rfl) ?_
        exact hend _ _ _ _ _ h hP hD hS dX8_presentFaults_39
      · replace h := ie c1 h
        refine lv_iload_n hx hb dX8_presentFaults_12 rfl (lv_at hl 1 rfl) ?_
        refine lv_aload_n hx hb dX8_presentFaults_13 rfl (lv_at hl 0 rfl) ?_
        refine lv_iload_n hx hb dX8_presentFaults_14 rfl (lv_at hl 2 rfl) ?_
        refine lv_aload_n hx hb dX8_presentFaults_15 rfl (lv_at hl 0 rfl) ?_
        refine va_get (D := (dC, dI)) (ci := 9) (v := .int (M.1 4)) (C := RX8) (T := TX8) (N := 29) hx hb hts hinX8 hown hK hP 22 rfl rfl 4 (by decide) (hts (.fieldLink RX8 61 "CableTesterModel" "tick" "I") (mm 2 rfl)) (fun _ h9 => h9) rfl dX8_presentFaults_16 ?_
        obtain ⟨r2, e3, h⟩ := bo h
        refine caVR_i (As := [.int x2, .int (M.1 4)]) (rest := [.int x1]) (ctX8_isPresent l dC dI cq q S M o _ _ _ _ e3) F (cwV 2 hts gX8_presentFaults_X8_isPresent rfl rfl rfl hdX8_isPresent ⟨Nat.le_of_ble_eq_true rfl, Nat.le_of_ble_eq_true rfl⟩) hK hP hD hDm hS hA (fun _ _ _ _ _ => trivial) (fun _ _ _ => trivial) (va_recv hK hP (ci := 9) (q0 := 22) rfl rfl) rfl hl.1 rfl (Nat.le_of_ble_eq_true rfl) dX8_presentFaults_19 ⟨Nat.zero_le _, Nat.zero_le _⟩ (fun H locs hP hD hS => ?_)
        refine lv_if_eq (tgt := 29) hx hb dX8_presentFaults_22 (by decide) (fun c4 => ?_) (fun c4 => ?_)
        · replace h := it c4 h
          refine lv_iconst (v := (0 : Int32)) hx hb dX8_presentFaults_29 (by decide) ?_
          exact hj30 _ _ _ _ ih _ _ _ hP hD hS (lv_sub hl [0, 2] rfl) h
        · replace h := ie c4 h
          refine lv_iconst (v := (1 : Int32)) hx hb dX8_presentFaults_25 (by decide) ?_
          refine lv_goto (tgt := 30) hx hb dX8_presentFaults_26 (by decide) ?_
          exact hj30 _ _ _ _ ih _ _ _ hP hD hS (lv_sub hl [0, 2] rfl) h
  rw [mX8_presentFaults] at h
  refine lv_iconst (v := (0 : Int32)) hx hb dX8_presentFaults_0 (by decide) ?_
  refine lv_istore_n (lv' := [(1, .int (0 : Int32)), (0, .ref (q 22))]) hx hb dX8_presentFaults_1 rfl hl (by decide) rfl (fun ls hl => ?_)
  refine lv_iconst (v := (0 : Int32)) hx hb dX8_presentFaults_2 (by decide) ?_
  refine lv_istore_n (lv' := [(2, .int (0 : Int32)), (1, .int (0 : Int32)), (0, .ref (q 22))]) hx hb dX8_presentFaults_3 rfl hl (by decide) rfl (fun ls hl => ?_)
  exact hL4 _ _ _ _ _ _ hP hD hS (lv_sub hl [2, 1, 0] rfl) h
def mX8_allNets_71 (n : Nat) (K12 : MS → Int32 → Int32 → Option (Int32 × MS)) (M : MS) (x2 : Int32) (t0 : Int32) (t1 : Int32) : Option (Int32 × MS) :=
  (K12 M (t1 + t0) (x2 + (1 : Int32)))
def mX8_allNets_54 (n : Nat) (K12 : MS → Int32 → Int32 → Option (Int32 × MS)) (K23 : MS → Int32 → Int32 → Option (Int32 × MS)) (M : MS) (x1 : Int32) (x2 : Int32) (x4 : Int32) (t0 : Int32) : Option (Int32 × MS) :=
  (K23 M t0 (x4 + (1 : Int32)))
def mX8_allNets_53 (n : Nat) (K12 : MS → Int32 → Int32 → Option (Int32 × MS)) (K23 : MS → Int32 → Int32 → Option (Int32 × MS)) (M : MS) (x1 : Int32) (x2 : Int32) (x4 : Int32)  : Option (Int32 × MS) :=
  (mX8_allNets_54 n (K12) (K23) M x1 x2 x4 (0 : Int32))
def mX8_allNets_23 (n : Nat) (K12 : MS → Int32 → Int32 → Option (Int32 × MS)) (x1 : Int32) (x2 : Int32) : Nat → MS → Int32 → Int32 → Option (Int32 × MS)
  | 0, _, _, _ => none
  | k + 1, M, x3, x4 => (if x2 ≤ x4 then (if x3 = (0 : Int32) then (mX8_allNets_71 n (K12) M x2 (0 : Int32) x1) else (mX8_allNets_71 n (K12) M x2 (1 : Int32) x1)) else (if x3 = (0 : Int32) then (mX8_allNets_53 n (K12) (mX8_allNets_23 n K12 x1 x2 k) M x1 x2 x4) else (if inb x4 16 then (if inb x2 16 then (if (M.2.1 28 x4.toNatClampNeg) = (M.2.1 28 x2.toNatClampNeg) then (mX8_allNets_53 n (K12) (mX8_allNets_23 n K12 x1 x2 k) M x1 x2 x4) else (mX8_allNets_54 n (K12) (mX8_allNets_23 n K12 x1 x2 k) M x1 x2 x4 (1 : Int32))) else none) else none)))
def mX8_allNets_12 (n : Nat)   : Nat → MS → Int32 → Int32 → Option (Int32 × MS)
  | 0, _, _, _ => none
  | k + 1, M, x1, x2 => (if (16 : Int32) ≤ x2 then (some (x1, M)) else (mX8_allNets_23 n (mX8_allNets_12 n k) x1 x2 n M (1 : Int32) (0 : Int32)))
def mX8_allNets (n : Nat) (M : MS)  : Option (Int32 × MS) :=
  (bn (mX8_layNets n M (M.1 4)) fun M3 => (mX8_allNets_12 n n M3 (0 : Int32) (0 : Int32)))
abbrev rmX8_allNets : Room := { frames := 5, cells := 0, slots := 0, locals := 115 }
theorem hdX8_allNets : yX8_allNets.cls = RX8 ∧ yX8_allNets.cls ≠ "java/lang/invoke/MethodHandle" ∧ yX8_allNets.cls ≠ "java/lang/invoke/VarHandle" ∧ (parseMethodDescriptor yX8_allNets.desc).map (fun d => d.parameters.length) = some 0 := by decide +kernel
set_option maxRecDepth 100000 in
set_option maxHeartbeats 8000000 in
theorem ctX8_allNets (l : Launch) (dC : Nat → ClassId) (dI : Nat → Nat → Nat) (cq : Nat → ClassId) (q : Nat → Nat) (S : CS) (M : MS) (o : Nat → Int64) (sz : Nat) (n : Nat)  (rr : Int32) (MM : MS) (h : mX8_allNets n M = some (rr, MM)) : CtM_i l yX8_allNets wsX8_allNets rmX8_allNets (fun _ => True) (fun _ => True) dC dI cq q S M o sz [.ref (q 22)] rr MM := by
  refine enM_i (cc := cX8_allNets) (maxL := 5) (by decide) rfl (Nat.le_of_ble_eq_true rfl) (fun p e s m args below meth c A Q ls F hA hP hK hD hDm hX hS hl hend => ?_)
  obtain ⟨hx, hb, hml, hown, hts⟩ := id F
  have hown : s.vm.findClass RX8 = some m.cls := hown
  have F : CallFix p m c cX8_allNets 5 s args wsX8_allNets RX8 := F
  have hl : lv_has ls 5 [(0, .ref (q 22))] := hl
  have hinX8 : ∀ w ∈ u_ws RX8 TX8 29, w ∈ wsX8_allNets := fun w h => List.mem_cons_of_mem _ (List.mem_append_right _ h)
  have hj71 : ∀ (M : MS) (x2 : Int32) (t0 : Int32) (t1 : Int32) (K12 : MS → Int32 → Int32 → Option (Int32 × MS)) (hK12 : ∀ (M9 : MS) (y1 : Int32) (y2 : Int32) (H : Heap) (locs : List Loc) (ls : Array Slot), va_P (dC, dI) vwCl (wA cq q S M9 o) H → va_D A (wA cq q S M9 o) → va_S A s.heap H locs → lv_has ls 5 [(0, .ref (q 22)), (1, .int y1), (2, .int y2)] → K12 M9 y1 y2 = some (rr, MM) → W p l e rmX8_allNets s m args below meth c H locs 0 0 Q (F0 m 12 ls [])) (H : Heap) (locs : List Loc) (ls : Array Slot), va_P (dC, dI) vwCl (wA cq q S M o) H → va_D A (wA cq q S M o) → va_S A s.heap H locs → lv_has ls 5 [(0, .ref (q 22)), (2, .int x2)] → mX8_allNets_71 n K12 M x2 t0 t1 = some (rr, MM) → W p l e rmX8_allNets s m args below meth c H locs 0 0 Q (F0 m 71 ls [.int t0, .int t1]) := by
    intro M x2 t0 t1 K12 hK12 H locs ls hP hD hS hl h
    rw [mX8_allNets_71] at h
    refine lv_iadd hx hb dX8_allNets_71 ?_
    refine lv_istore_n (lv' := [(1, .int (t1 + t0)), (0, .ref (q 22)), (2, .int x2)]) hx hb dX8_allNets_72 rfl hl (by decide) rfl (fun ls hl => ?_)
    refine lv_iinc (v := (x2 + (1 : Int32))) (lv' := [(2, .int (x2 + (1 : Int32))), (1, .int (t1 + t0)), (0, .ref (q 22))]) hx hb dX8_allNets_73 hl (k := 2) rfl rfl (by decide) rfl (fun ls hl => ?_)
    refine lv_goto (tgt := 12) hx hb dX8_allNets_76 (by decide) ?_
    exact hK12 _ _ _ _ _ _ hP hD hS (lv_sub hl [2, 1, 0] rfl) h
  have hj54 : ∀ (M : MS) (x1 : Int32) (x2 : Int32) (x4 : Int32) (t0 : Int32) (K12 : MS → Int32 → Int32 → Option (Int32 × MS)) (hK12 : ∀ (M9 : MS) (y1 : Int32) (y2 : Int32) (H : Heap) (locs : List Loc) (ls : Array Slot), va_P (dC, dI) vwCl (wA cq q S M9 o) H → va_D A (wA cq q S M9 o) → va_S A s.heap H locs → lv_has ls 5 [(0, .ref (q 22)), (1, .int y1), (2, .int y2)] → K12 M9 y1 y2 = some (rr, MM) → W p l e rmX8_allNets s m args below meth c H locs 0 0 Q (F0 m 12 ls [])) (K23 : MS → Int32 → Int32 → Option (Int32 × MS)) (hK23 : ∀ (M9 : MS) (y3 : Int32) (y4 : Int32) (H : Heap) (locs : List Loc) (ls : Array Slot), va_P (dC, dI) vwCl (wA cq q S M9 o) H → va_D A (wA cq q S M9 o) → va_S A s.heap H locs → lv_has ls 5 [(0, .ref (q 22)), (1, .int x1), (2, .int x2), (3, .int y3), (4, .int y4)] → K23 M9 y3 y4 = some (rr, MM) → W p l e rmX8_allNets s m args below meth c H locs 0 0 Q (F0 m 23 ls [])) (H : Heap) (locs : List Loc) (ls : Array Slot), va_P (dC, dI) vwCl (wA cq q S M o) H → va_D A (wA cq q S M o) → va_S A s.heap H locs → lv_has ls 5 [(0, .ref (q 22)), (1, .int x1), (2, .int x2), (4, .int x4)] → mX8_allNets_54 n K12 K23 M x1 x2 x4 t0 = some (rr, MM) → W p l e rmX8_allNets s m args below meth c H locs 0 0 Q (F0 m 54 ls [.int t0]) := by
    intro M x1 x2 x4 t0 K12 hK12 K23 hK23 H locs ls hP hD hS hl h
    rw [mX8_allNets_54] at h
    refine lv_istore_n (lv' := [(3, .int t0), (0, .ref (q 22)), (1, .int x1), (2, .int x2), (4, .int x4)]) hx hb dX8_allNets_54 rfl hl (by decide) rfl (fun ls hl => ?_)
    refine lv_iinc (v := (x4 + (1 : Int32))) (lv' := [(4, .int (x4 + (1 : Int32))), (3, .int t0), (0, .ref (q 22)), (1, .int x1), (2, .int x2)]) hx hb dX8_allNets_55 hl (k := 4) rfl rfl (by decide) rfl (fun ls hl => ?_)
    refine lv_goto (tgt := 23) hx hb dX8_allNets_58 (by decide) ?_
    exact hK23 _ _ _ _ _ _ hP hD hS (lv_sub hl [2, 3, 4, 1, 0] rfl) h
  have hj53 : ∀ (M : MS) (x1 : Int32) (x2 : Int32) (x4 : Int32)  (K12 : MS → Int32 → Int32 → Option (Int32 × MS)) (hK12 : ∀ (M9 : MS) (y1 : Int32) (y2 : Int32) (H : Heap) (locs : List Loc) (ls : Array Slot), va_P (dC, dI) vwCl (wA cq q S M9 o) H → va_D A (wA cq q S M9 o) → va_S A s.heap H locs → lv_has ls 5 [(0, .ref (q 22)), (1, .int y1), (2, .int y2)] → K12 M9 y1 y2 = some (rr, MM) → W p l e rmX8_allNets s m args below meth c H locs 0 0 Q (F0 m 12 ls [])) (K23 : MS → Int32 → Int32 → Option (Int32 × MS)) (hK23 : ∀ (M9 : MS) (y3 : Int32) (y4 : Int32) (H : Heap) (locs : List Loc) (ls : Array Slot), va_P (dC, dI) vwCl (wA cq q S M9 o) H → va_D A (wA cq q S M9 o) → va_S A s.heap H locs → lv_has ls 5 [(0, .ref (q 22)), (1, .int x1), (2, .int x2), (3, .int y3), (4, .int y4)] → K23 M9 y3 y4 = some (rr, MM) → W p l e rmX8_allNets s m args below meth c H locs 0 0 Q (F0 m 23 ls [])) (H : Heap) (locs : List Loc) (ls : Array Slot), va_P (dC, dI) vwCl (wA cq q S M o) H → va_D A (wA cq q S M o) → va_S A s.heap H locs → lv_has ls 5 [(0, .ref (q 22)), (1, .int x1), (2, .int x2), (4, .int x4)] → mX8_allNets_53 n K12 K23 M x1 x2 x4 = some (rr, MM) → W p l e rmX8_allNets s m args below meth c H locs 0 0 Q (F0 m 53 ls []) := by
    intro M x1 x2 x4 K12 hK12 K23 hK23 H locs ls hP hD hS hl h
    rw [mX8_allNets_53] at h
    refine lv_iconst (v := (0 : Int32)) hx hb dX8_allNets_53 (by decide) ?_
    exact hj54 _ _ _ _ _ _ hK12 _ hK23 _ _ _ hP hD hS (lv_sub hl [0, 1, 2, 3] rfl) h
  have hL23 : ∀ (x1 : Int32) (x2 : Int32) (K12 : MS → Int32 → Int32 → Option (Int32 × MS)) (hK12 : ∀ (M9 : MS) (y1 : Int32) (y2 : Int32) (H : Heap) (locs : List Loc) (ls : Array Slot), va_P (dC, dI) vwCl (wA cq q S M9 o) H → va_D A (wA cq q S M9 o) → va_S A s.heap H locs → lv_has ls 5 [(0, .ref (q 22)), (1, .int y1), (2, .int y2)] → K12 M9 y1 y2 = some (rr, MM) → W p l e rmX8_allNets s m args below meth c H locs 0 0 Q (F0 m 12 ls [])) (k : Nat) (M : MS) (x3 : Int32) (x4 : Int32) (H : Heap) (locs : List Loc) (ls : Array Slot), va_P (dC, dI) vwCl (wA cq q S M o) H → va_D A (wA cq q S M o) → va_S A s.heap H locs → lv_has ls 5 [(0, .ref (q 22)), (1, .int x1), (2, .int x2), (3, .int x3), (4, .int x4)] → mX8_allNets_23 n K12 x1 x2 k M x3 x4 = some (rr, MM) → W p l e rmX8_allNets s m args below meth c H locs 0 0 Q (F0 m 23 ls []) := by
    intro x1 x2 K12 hK12
    intro k
    induction k with
    | zero =>
      intro M x3 x4 H locs ls hP hD hS hl h
      rw [mX8_allNets_23] at h
      cases h
    | succ k ih =>
      intro M x3 x4 H locs ls hP hD hS hl h
      rw [mX8_allNets_23] at h
      refine lv_iload hx hb dX8_allNets_23 (lv_at hl 4 rfl) ?_
      refine lv_iload_n hx hb dX8_allNets_25 rfl (lv_at hl 2 rfl) ?_
      refine lv_icmp_ge (tgt := 61) hx hb dX8_allNets_26 (by decide) (fun c5 => ?_) (fun c5 => ?_)
      · replace h := it c5 h
        refine lv_iload_n hx hb dX8_allNets_61 rfl (lv_at hl 1 rfl) ?_
        refine lv_iload_n hx hb dX8_allNets_62 rfl (lv_at hl 3 rfl) ?_
        refine lv_if_eq (tgt := 70) hx hb dX8_allNets_63 (by decide) (fun c6 => ?_) (fun c6 => ?_)
        · replace h := it c6 h
          refine lv_iconst (v := (0 : Int32)) hx hb dX8_allNets_70 (by decide) ?_
          exact hj71 _ _ _ _ _ hK12 _ _ _ hP hD hS (lv_sub hl [0, 2] rfl) h
        · replace h := ie c6 h
          refine lv_iconst (v := (1 : Int32)) hx hb dX8_allNets_66 (by decide) ?_
          refine lv_goto (tgt := 71) hx hb dX8_allNets_67 (by decide) ?_
          exact hj71 _ _ _ _ _ hK12 _ _ _ hP hD hS (lv_sub hl [0, 2] rfl) h
      · replace h := ie c5 h
        refine lv_iload_n hx hb dX8_allNets_29 rfl (lv_at hl 3 rfl) ?_
        refine lv_if_eq (tgt := 53) hx hb dX8_allNets_30 (by decide) (fun c7 => ?_) (fun c7 => ?_)
        · replace h := it c7 h
          exact hj53 _ _ _ _ _ hK12 _ ih _ _ _ hP hD hS (lv_sub hl [0, 1, 2, 4] rfl) h
        · replace h := ie c7 h
          refine lv_aload_n hx hb dX8_allNets_33 rfl (lv_at hl 0 rfl) ?_
          refine va_get (D := (dC, dI)) (ci := 9) (v := .ref (q 28)) (C := RX8) (T := TX8) (N := 29) hx hb hts hinX8 hown hK hP 22 rfl rfl 13 (by decide) (hts (.fieldLink RX8 25 "CableTesterModel" "nets" "[I") (mm 2 rfl)) (fun _ h9 => h9) rfl dX8_allNets_34 ?_
          refine lv_iload hx hb dX8_allNets_37 (lv_at hl 4 rfl) ?_
          obtain ⟨g8, h⟩ := gd h
          refine va_iald (D := (dC, dI)) hx hb hK hP 28 17 rfl rfl (inb_ok g8) dX8_allNets_39 ?_
          refine lv_aload_n hx hb dX8_allNets_40 rfl (lv_at hl 0 rfl) ?_
          refine va_get (D := (dC, dI)) (ci := 9) (v := .ref (q 28)) (C := RX8) (T := TX8) (N := 29) hx hb hts hinX8 hown hK hP 22 rfl rfl 13 (by decide) (hts (.fieldLink RX8 25 "CableTesterModel" "nets" "[I") (mm 2 rfl)) (fun _ h9 => h9) rfl dX8_allNets_41 ?_
          refine lv_iload_n hx hb dX8_allNets_44 rfl (lv_at hl 2 rfl) ?_
          obtain ⟨g9, h⟩ := gd h
          refine va_iald (D := (dC, dI)) hx hb hK hP 28 17 rfl rfl (inb_ok g9) dX8_allNets_45 ?_
          refine lv_icmp_eq (tgt := 53) hx hb dX8_allNets_46 (by decide) (fun c10 => ?_) (fun c10 => ?_)
          · replace h := it c10 h
            exact hj53 _ _ _ _ _ hK12 _ ih _ _ _ hP hD hS (lv_sub hl [0, 1, 2, 4] rfl) h
          · replace h := ie c10 h
            refine lv_iconst (v := (1 : Int32)) hx hb dX8_allNets_49 (by decide) ?_
            refine lv_goto (tgt := 54) hx hb dX8_allNets_50 (by decide) ?_
            exact hj54 _ _ _ _ _ _ hK12 _ ih _ _ _ hP hD hS (lv_sub hl [0, 1, 2, 4] rfl) h
  have hL12 : ∀   (k : Nat) (M : MS) (x1 : Int32) (x2 : Int32) (H : Heap) (locs : List Loc) (ls : Array Slot), va_P (dC, dI) vwCl (wA cq q S M o) H → va_D A (wA cq q S M o) → va_S A s.heap H locs → lv_has ls 5 [(0, .ref (q 22)), (1, .int x1), (2, .int x2)] → mX8_allNets_12 n k M x1 x2 = some (rr, MM) → W p l e rmX8_allNets s m args below meth c H locs 0 0 Q (F0 m 12 ls []) := by
    intro k
    induction k with
    | zero =>
      intro M x1 x2 H locs ls hP hD hS hl h
      rw [mX8_allNets_12] at h
      cases h
    | succ k ih =>
      intro M x1 x2 H locs ls hP hD hS hl h
      rw [mX8_allNets_12] at h
      refine lv_iload_n hx hb dX8_allNets_12 rfl (lv_at hl 2 rfl) ?_
      refine lv_bipush (v := (16 : Int32)) hx hb dX8_allNets_13 (by decide) ?_
      refine lv_icmp_ge (tgt := 79) hx hb dX8_allNets_15 (by decide) (fun c4 => ?_) (fun c4 => ?_)
      · replace h := it c4 h
        refine lv_iload_n hx hb dX8_allNets_79 rfl (lv_at hl 1 rfl) ?_
        exact hend _ _ _ _ _ _ h hP hD hS dX8_allNets_80
      · replace h := ie c4 h
        refine lv_iconst (v := (1 : Int32)) hx hb dX8_allNets_18 (by decide) ?_
        refine lv_istore_n (lv' := [(3, .int (1 : Int32)), (0, .ref (q 22)), (1, .int x1), (2, .int x2)]) hx hb dX8_allNets_19 rfl hl (by decide) rfl (fun ls hl => ?_)
        refine lv_iconst (v := (0 : Int32)) hx hb dX8_allNets_20 (by decide) ?_
        refine lv_istore (lv' := [(4, .int (0 : Int32)), (3, .int (1 : Int32)), (0, .ref (q 22)), (1, .int x1), (2, .int x2)]) hx hb dX8_allNets_21 hl (by decide) rfl (fun ls hl => ?_)
        exact hL23 _ _ _ ih _ _ _ _ _ _ _ hP hD hS (lv_sub hl [2, 3, 4, 1, 0] rfl) h
  rw [mX8_allNets] at h
  refine lv_aload_n hx hb dX8_allNets_0 rfl (lv_at hl 0 rfl) ?_
  refine lv_aload_n hx hb dX8_allNets_1 rfl (lv_at hl 0 rfl) ?_
  refine va_get (D := (dC, dI)) (ci := 9) (v := .int (M.1 4)) (C := RX8) (T := TX8) (N := 29) hx hb hts hinX8 hown hK hP 22 rfl rfl 4 (by decide) (hts (.fieldLink RX8 61 "CableTesterModel" "tick" "I") (mm 1 rfl)) (fun _ h9 => h9) rfl dX8_allNets_2 ?_
  obtain ⟨M3, e2, h⟩ := bo h
  refine caVM_v (As := [.int (M.1 4)]) (rest := []) (ctX8_layNets l dC dI cq q S M o _ _ _ _ e2) F (cwV 1 hts gX8_allNets_X8_layNets rfl rfl rfl hdX8_layNets ⟨Nat.le_of_ble_eq_true rfl, Nat.le_of_ble_eq_true rfl⟩) hK hP hD hDm hS hA (fun _ _ _ _ _ => trivial) (fun _ _ _ => trivial) (va_recv hK hP (ci := 9) (q0 := 22) rfl rfl) rfl hl.1 rfl (Nat.le_of_ble_eq_true rfl) dX8_allNets_5 ⟨Nat.zero_le _, Nat.zero_le _⟩ (fun H locs hP hD hS => ?_)
  refine lv_iconst (v := (0 : Int32)) hx hb dX8_allNets_8 (by decide) ?_
  refine lv_istore_n (lv' := [(1, .int (0 : Int32)), (0, .ref (q 22))]) hx hb dX8_allNets_9 rfl hl (by decide) rfl (fun ls hl => ?_)
  refine lv_iconst (v := (0 : Int32)) hx hb dX8_allNets_10 (by decide) ?_
  refine lv_istore_n (lv' := [(2, .int (0 : Int32)), (1, .int (0 : Int32)), (0, .ref (q 22))]) hx hb dX8_allNets_11 rfl hl (by decide) rfl (fun ls hl => ?_)
  exact hL12 _ _ _ _ _ _ _ hP hD hS (lv_sub hl [2, 1, 0] rfl) h
def mX8_splitPairs_25 (n : Nat) (K4 : Int32 → Int32 → Option (Int32)) (M : MS) (x2 : Int32) (t0 : Int32) (t1 : Int32) : Option (Int32) :=
  (K4 (t1 ||| t0) (x2 + (1 : Int32)))
def mX8_splitPairs_4 (n : Nat)  (M : MS)  : Nat → Int32 → Int32 → Option (Int32)
  | 0, _, _ => none
  | k + 1, x1, x2 => (if (4 : Int32) ≤ x2 then (some x1) else (bn (mX8_isSplit M x2) fun r2 => (if r2 = (0 : Int32) then (mX8_splitPairs_25 n (mX8_splitPairs_4 n M k) M x2 (0 : Int32) x1) else (mX8_splitPairs_25 n (mX8_splitPairs_4 n M k) M x2 ((1 : Int32) <<< (x2 &&& 31)) x1))))
def mX8_splitPairs (n : Nat) (M : MS)  : Option (Int32) :=
  (mX8_splitPairs_4 n M n (0 : Int32) (0 : Int32))
abbrev rmX8_splitPairs : Room := { frames := 1, cells := 0, slots := 0, locals := 21 }
theorem hdX8_splitPairs : yX8_splitPairs.cls = RX8 ∧ yX8_splitPairs.cls ≠ "java/lang/invoke/MethodHandle" ∧ yX8_splitPairs.cls ≠ "java/lang/invoke/VarHandle" ∧ (parseMethodDescriptor yX8_splitPairs.desc).map (fun d => d.parameters.length) = some 0 := by decide +kernel
set_option maxRecDepth 100000 in
set_option maxHeartbeats 8000000 in
theorem ctX8_splitPairs (l : Launch) (dC : Nat → ClassId) (dI : Nat → Nat → Nat) (cq : Nat → ClassId) (q : Nat → Nat) (S : CS) (M : MS) (o : Nat → Int64) (sz : Nat) (n : Nat)  (rr : Int32) (h : mX8_splitPairs n M = some rr) : CtR_i l yX8_splitPairs wsX8_splitPairs rmX8_splitPairs (fun _ => True) (fun _ => True) dC dI cq q S M o sz [.ref (q 22)] rr := by
  refine enR_i (cc := cX8_splitPairs) (maxL := 3) (by decide) rfl (Nat.le_of_ble_eq_true rfl) (fun p e s m args below meth c A Q ls F hA hP hK hD hDm hX hS hl hend => ?_)
  obtain ⟨hx, hb, hml, hown, hts⟩ := id F
  have hown : s.vm.findClass RX8 = some m.cls := hown
  have F : CallFix p m c cX8_splitPairs 3 s args wsX8_splitPairs RX8 := F
  have hl : lv_has ls 3 [(0, .ref (q 22))] := hl
  have hj25 : ∀  (x2 : Int32) (t0 : Int32) (t1 : Int32) (K4 : Int32 → Int32 → Option (Int32)) (hK4 : ∀ (y1 : Int32) (y2 : Int32) (H : Heap) (locs : List Loc) (ls : Array Slot), va_P (dC, dI) vwCl (wA cq q S M o) H → va_D A (wA cq q S M o) → va_S A s.heap H locs → lv_has ls 3 [(0, .ref (q 22)), (1, .int y1), (2, .int y2)] → K4 y1 y2 = some rr → W p l e rmX8_splitPairs s m args below meth c H locs 0 0 Q (F0 m 4 ls [])) (H : Heap) (locs : List Loc) (ls : Array Slot), va_P (dC, dI) vwCl (wA cq q S M o) H → va_D A (wA cq q S M o) → va_S A s.heap H locs → lv_has ls 3 [(0, .ref (q 22)), (2, .int x2)] → mX8_splitPairs_25 n K4 M x2 t0 t1 = some rr → W p l e rmX8_splitPairs s m args below meth c H locs 0 0 Q (F0 m 25 ls [.int t0, .int t1]) := by
    intro x2 t0 t1 K4 hK4 H locs ls hP hD hS hl h
    rw [mX8_splitPairs_25] at h
    refine lv_ior hx hb dX8_splitPairs_25 ?_
    refine lv_istore_n (lv' := [(1, .int (t1 ||| t0)), (0, .ref (q 22)), (2, .int x2)]) hx hb dX8_splitPairs_26 rfl hl (by decide) rfl (fun ls hl => ?_)
    refine lv_iinc (v := (x2 + (1 : Int32))) (lv' := [(2, .int (x2 + (1 : Int32))), (1, .int (t1 ||| t0)), (0, .ref (q 22))]) hx hb dX8_splitPairs_27 hl (k := 2) rfl rfl (by decide) rfl (fun ls hl => ?_)
    refine lv_goto (tgt := 4) hx hb dX8_splitPairs_30 (by decide) ?_
    exact hK4 _ _ _ _ _ hP hD hS (lv_sub hl [2, 1, 0] rfl) h
  have hL4 : ∀   (k : Nat)  (x1 : Int32) (x2 : Int32) (H : Heap) (locs : List Loc) (ls : Array Slot), va_P (dC, dI) vwCl (wA cq q S M o) H → va_D A (wA cq q S M o) → va_S A s.heap H locs → lv_has ls 3 [(0, .ref (q 22)), (1, .int x1), (2, .int x2)] → mX8_splitPairs_4 n M k x1 x2 = some rr → W p l e rmX8_splitPairs s m args below meth c H locs 0 0 Q (F0 m 4 ls []) := by
    intro k
    induction k with
    | zero =>
      intro x1 x2 H locs ls hP hD hS hl h
      rw [mX8_splitPairs_4] at h
      cases h
    | succ k ih =>
      intro x1 x2 H locs ls hP hD hS hl h
      rw [mX8_splitPairs_4] at h
      refine lv_iload_n hx hb dX8_splitPairs_4 rfl (lv_at hl 2 rfl) ?_
      refine lv_iconst (v := (4 : Int32)) hx hb dX8_splitPairs_5 (by decide) ?_
      refine lv_icmp_ge (tgt := 33) hx hb dX8_splitPairs_6 (by decide) (fun c1 => ?_) (fun c1 => ?_)
      · replace h := it c1 h
        refine lv_iload_n hx hb dX8_splitPairs_33 rfl (lv_at hl 1 rfl) ?_
        exact hend _ _ _ _ _ h hP hD hS dX8_splitPairs_34
      · replace h := ie c1 h
        refine lv_iload_n hx hb dX8_splitPairs_9 rfl (lv_at hl 1 rfl) ?_
        refine lv_aload_n hx hb dX8_splitPairs_10 rfl (lv_at hl 0 rfl) ?_
        refine lv_iload_n hx hb dX8_splitPairs_11 rfl (lv_at hl 2 rfl) ?_
        obtain ⟨r2, e3, h⟩ := bo h
        refine caVR_i (As := [.int x2]) (rest := [.int x1]) (ctX8_isSplit l dC dI cq q S M o _ _ _ e3) F (cwV 1 hts gX8_splitPairs_X8_isSplit rfl rfl rfl hdX8_isSplit ⟨Nat.le_of_ble_eq_true rfl, Nat.le_of_ble_eq_true rfl⟩) hK hP hD hDm hS hA (fun _ _ _ _ _ => trivial) (fun _ _ _ => trivial) (va_recv hK hP (ci := 9) (q0 := 22) rfl rfl) rfl hl.1 rfl (Nat.le_of_ble_eq_true rfl) dX8_splitPairs_12 ⟨Nat.zero_le _, Nat.zero_le _⟩ (fun H locs hP hD hS => ?_)
        refine lv_if_eq (tgt := 24) hx hb dX8_splitPairs_15 (by decide) (fun c4 => ?_) (fun c4 => ?_)
        · replace h := it c4 h
          refine lv_iconst (v := (0 : Int32)) hx hb dX8_splitPairs_24 (by decide) ?_
          exact hj25 _ _ _ _ ih _ _ _ hP hD hS (lv_sub hl [0, 2] rfl) h
        · replace h := ie c4 h
          refine lv_iconst (v := (1 : Int32)) hx hb dX8_splitPairs_18 (by decide) ?_
          refine lv_iload_n hx hb dX8_splitPairs_19 rfl (lv_at hl 2 rfl) ?_
          refine lv_ishl hx hb dX8_splitPairs_20 ?_
          refine lv_goto (tgt := 25) hx hb dX8_splitPairs_21 (by decide) ?_
          exact hj25 _ _ _ _ ih _ _ _ hP hD hS (lv_sub hl [0, 2] rfl) h
  rw [mX8_splitPairs] at h
  refine lv_iconst (v := (0 : Int32)) hx hb dX8_splitPairs_0 (by decide) ?_
  refine lv_istore_n (lv' := [(1, .int (0 : Int32)), (0, .ref (q 22))]) hx hb dX8_splitPairs_1 rfl hl (by decide) rfl (fun ls hl => ?_)
  refine lv_iconst (v := (0 : Int32)) hx hb dX8_splitPairs_2 (by decide) ?_
  refine lv_istore_n (lv' := [(2, .int (0 : Int32)), (1, .int (0 : Int32)), (0, .ref (q 22))]) hx hb dX8_splitPairs_3 rfl hl (by decide) rfl (fun ls hl => ?_)
  exact hL4 _ _ _ _ _ _ hP hD hS (lv_sub hl [2, 1, 0] rfl) h
def mX8_counted (n : Nat) (M : MS) (x1 : Int32) : Option (Int32 × MS) :=
  (if x1 = (0 : Int32) then (some ((M.1 1), M)) else (if x1 = (1 : Int32) then (some ((M.1 2), M)) else (if x1 = (2 : Int32) then (some ((M.1 3), M)) else (if x1 = (3 : Int32) then (some ((M.1 4), M)) else (if x1 = (4 : Int32) then (some ((M.1 7), M)) else (if x1 = (5 : Int32) then (bn (mX8_presentFaults n M) fun r7 => (some (r7, M))) else (if x1 = (6 : Int32) then (bm (mX8_allNets n M) fun r10 M12 => (some (r10, M12))) else (if x1 = (7 : Int32) then (bm (mX8_wrong n M (M.1 4)) fun r14 M16 => (bn (mX8_bits n r14) fun r17 => (some (r17, M16)))) else (bn (mX8_splitPairs n M) fun r19 => (some (r19, M)))))))))))
abbrev rmX8_counted : Room := { frames := 6, cells := 0, slots := 0, locals := 139 }
theorem hdX8_counted : yX8_counted.cls = RX8 ∧ yX8_counted.cls ≠ "java/lang/invoke/MethodHandle" ∧ yX8_counted.cls ≠ "java/lang/invoke/VarHandle" ∧ (parseMethodDescriptor yX8_counted.desc).map (fun d => d.parameters.length) = some 1 := by decide +kernel
set_option maxRecDepth 100000 in
set_option maxHeartbeats 8000000 in
theorem ctX8_counted (l : Launch) (dC : Nat → ClassId) (dI : Nat → Nat → Nat) (cq : Nat → ClassId) (q : Nat → Nat) (S : CS) (M : MS) (o : Nat → Int64) (sz : Nat) (n : Nat) (x1 : Int32) (rr : Int32) (MM : MS) (h : mX8_counted n M x1 = some (rr, MM)) : CtM_i l yX8_counted wsX8_counted rmX8_counted (fun _ => True) (fun _ => True) dC dI cq q S M o sz [.ref (q 22), .int x1] rr MM := by
  refine enM_i (cc := cX8_counted) (maxL := 2) (by decide) rfl (Nat.le_of_ble_eq_true rfl) (fun p e s m args below meth c A Q ls F hA hP hK hD hDm hX hS hl hend => ?_)
  obtain ⟨hx, hb, hml, hown, hts⟩ := id F
  have hown : s.vm.findClass RX8 = some m.cls := hown
  have F : CallFix p m c cX8_counted 2 s args wsX8_counted RX8 := F
  have hl : lv_has ls 2 [(0, .ref (q 22)), (1, .int x1)] := hl
  have hinX8 : ∀ w ∈ u_ws RX8 TX8 29, w ∈ wsX8_counted := fun w h => List.mem_cons_of_mem _ (List.mem_append_right _ h)
  rw [mX8_counted] at h
  refine lv_iload_n hx hb dX8_counted_0 rfl (lv_at hl 1 rfl) ?_
  by_cases c1 : x1 = (0 : Int32)
  · replace h := it c1 h
    refine lv_tableIn (tgt := 48) (off := 47) hx hb dX8_counted_1 (by rw [c1]; decide) (by rw [c1]; decide) (by rw [c1]; decide) (by decide) ?_
    refine lv_aload_n hx hb dX8_counted_48 rfl (lv_at hl 0 rfl) ?_
    refine va_get (D := (dC, dI)) (ci := 9) (v := .int (M.1 1)) (C := RX8) (T := TX8) (N := 29) hx hb hts hinX8 hown hK hP 22 rfl rfl 1 (by decide) (hts (.fieldLink RX8 52 "CableTesterModel" "length" "I") (mm 1 rfl)) (fun _ h9 => h9) rfl dX8_counted_49 ?_
    exact hend _ _ _ _ _ _ h hP hD hS dX8_counted_52
  replace h := ie c1 h
  by_cases c2 : x1 = (1 : Int32)
  · replace h := it c2 h
    refine lv_tableIn (tgt := 53) (off := 52) hx hb dX8_counted_1 (by rw [c2]; decide) (by rw [c2]; decide) (by rw [c2]; decide) (by decide) ?_
    refine lv_aload_n hx hb dX8_counted_53 rfl (lv_at hl 0 rfl) ?_
    refine va_get (D := (dC, dI)) (ci := 9) (v := .int (M.1 2)) (C := RX8) (T := TX8) (N := 29) hx hb hts hinX8 hown hK hP 22 rfl rfl 2 (by decide) (hts (.fieldLink RX8 55 "CableTesterModel" "velocity" "I") (mm 2 rfl)) (fun _ h9 => h9) rfl dX8_counted_54 ?_
    exact hend _ _ _ _ _ _ h hP hD hS dX8_counted_57
  replace h := ie c2 h
  by_cases c3 : x1 = (2 : Int32)
  · replace h := it c3 h
    refine lv_tableIn (tgt := 58) (off := 57) hx hb dX8_counted_1 (by rw [c3]; decide) (by rw [c3]; decide) (by rw [c3]; decide) (by decide) ?_
    refine lv_aload_n hx hb dX8_counted_58 rfl (lv_at hl 0 rfl) ?_
    refine va_get (D := (dC, dI)) (ci := 9) (v := .int (M.1 3)) (C := RX8) (T := TX8) (N := 29) hx hb hts hinX8 hown hK hP 22 rfl rfl 3 (by decide) (hts (.fieldLink RX8 58 "CableTesterModel" "remote" "I") (mm 3 rfl)) (fun _ h9 => h9) rfl dX8_counted_59 ?_
    exact hend _ _ _ _ _ _ h hP hD hS dX8_counted_62
  replace h := ie c3 h
  by_cases c4 : x1 = (3 : Int32)
  · replace h := it c4 h
    refine lv_tableIn (tgt := 63) (off := 62) hx hb dX8_counted_1 (by rw [c4]; decide) (by rw [c4]; decide) (by rw [c4]; decide) (by decide) ?_
    refine lv_aload_n hx hb dX8_counted_63 rfl (lv_at hl 0 rfl) ?_
    refine va_get (D := (dC, dI)) (ci := 9) (v := .int (M.1 4)) (C := RX8) (T := TX8) (N := 29) hx hb hts hinX8 hown hK hP 22 rfl rfl 4 (by decide) (hts (.fieldLink RX8 61 "CableTesterModel" "tick" "I") (mm 4 rfl)) (fun _ h9 => h9) rfl dX8_counted_64 ?_
    exact hend _ _ _ _ _ _ h hP hD hS dX8_counted_67
  replace h := ie c4 h
  by_cases c5 : x1 = (4 : Int32)
  · replace h := it c5 h
    refine lv_tableIn (tgt := 68) (off := 67) hx hb dX8_counted_1 (by rw [c5]; decide) (by rw [c5]; decide) (by rw [c5]; decide) (by decide) ?_
    refine lv_aload_n hx hb dX8_counted_68 rfl (lv_at hl 0 rfl) ?_
    refine va_get (D := (dC, dI)) (ci := 9) (v := .int (M.1 7)) (C := RX8) (T := TX8) (N := 29) hx hb hts hinX8 hown hK hP 22 rfl rfl 7 (by decide) (hts (.fieldLink RX8 64 "CableTesterModel" "many" "I") (mm 5 rfl)) (fun _ h9 => h9) rfl dX8_counted_69 ?_
    exact hend _ _ _ _ _ _ h hP hD hS dX8_counted_72
  replace h := ie c5 h
  by_cases c6 : x1 = (5 : Int32)
  · replace h := it c6 h
    refine lv_tableIn (tgt := 73) (off := 72) hx hb dX8_counted_1 (by rw [c6]; decide) (by rw [c6]; decide) (by rw [c6]; decide) (by decide) ?_
    refine lv_aload_n hx hb dX8_counted_73 rfl (lv_at hl 0 rfl) ?_
    obtain ⟨r7, e8, h⟩ := bo h
    refine caVR_i (As := []) (rest := []) (ctX8_presentFaults l dC dI cq q S M o _ _ _ e8) F (cwV 0 hts gX8_counted_X8_presentFaults rfl rfl rfl hdX8_presentFaults ⟨Nat.le_of_ble_eq_true rfl, Nat.le_of_ble_eq_true rfl⟩) hK hP hD hDm hS hA (fun _ _ _ _ _ => trivial) (fun _ _ _ => trivial) (va_recv hK hP (ci := 9) (q0 := 22) rfl rfl) rfl hl.1 rfl (Nat.le_of_ble_eq_true rfl) dX8_counted_74 ⟨Nat.zero_le _, Nat.zero_le _⟩ (fun H locs hP hD hS => ?_)
    exact hend _ _ _ _ _ _ h hP hD hS dX8_counted_77
  replace h := ie c6 h
  by_cases c9 : x1 = (6 : Int32)
  · replace h := it c9 h
    refine lv_tableIn (tgt := 78) (off := 77) hx hb dX8_counted_1 (by rw [c9]; decide) (by rw [c9]; decide) (by rw [c9]; decide) (by decide) ?_
    refine lv_aload_n hx hb dX8_counted_78 rfl (lv_at hl 0 rfl) ?_
    obtain ⟨r10, M12, e11, h⟩ := bp h
    refine caVM_i (As := []) (rest := []) (ctX8_allNets l dC dI cq q S M o _ _ _ _ e11) F (cwV 0 hts gX8_counted_X8_allNets rfl rfl rfl hdX8_allNets ⟨Nat.le_of_ble_eq_true rfl, Nat.le_of_ble_eq_true rfl⟩) hK hP hD hDm hS hA (fun _ _ _ _ _ => trivial) (fun _ _ _ => trivial) (va_recv hK hP (ci := 9) (q0 := 22) rfl rfl) rfl hl.1 rfl (Nat.le_of_ble_eq_true rfl) dX8_counted_79 ⟨Nat.zero_le _, Nat.zero_le _⟩ (fun H locs hP hD hS => ?_)
    exact hend _ _ _ _ _ _ h hP hD hS dX8_counted_82
  replace h := ie c9 h
  by_cases c13 : x1 = (7 : Int32)
  · replace h := it c13 h
    refine lv_tableIn (tgt := 83) (off := 82) hx hb dX8_counted_1 (by rw [c13]; decide) (by rw [c13]; decide) (by rw [c13]; decide) (by decide) ?_
    refine lv_aload_n hx hb dX8_counted_83 rfl (lv_at hl 0 rfl) ?_
    refine lv_aload_n hx hb dX8_counted_84 rfl (lv_at hl 0 rfl) ?_
    refine va_get (D := (dC, dI)) (ci := 9) (v := .int (M.1 4)) (C := RX8) (T := TX8) (N := 29) hx hb hts hinX8 hown hK hP 22 rfl rfl 4 (by decide) (hts (.fieldLink RX8 61 "CableTesterModel" "tick" "I") (mm 4 rfl)) (fun _ h9 => h9) rfl dX8_counted_85 ?_
    obtain ⟨r14, M16, e15, h⟩ := bp h
    refine caVM_i (As := [.int (M.1 4)]) (rest := []) (ctX8_wrong l dC dI cq q S M o _ _ _ _ _ e15) F (cwV 1 hts gX8_counted_X8_wrong rfl rfl rfl hdX8_wrong ⟨Nat.le_of_ble_eq_true rfl, Nat.le_of_ble_eq_true rfl⟩) hK hP hD hDm hS hA (fun _ _ _ _ _ => trivial) (fun _ _ _ => trivial) (va_recv hK hP (ci := 9) (q0 := 22) rfl rfl) rfl hl.1 rfl (Nat.le_of_ble_eq_true rfl) dX8_counted_88 ⟨Nat.zero_le _, Nat.zero_le _⟩ (fun H locs hP hD hS => ?_)
    obtain ⟨r17, e18, h⟩ := bo h
    refine caSR_i (As := [.int r14]) (rest := []) (ctX8_bits l dC dI cq q S M16 o _ _ _ _ e18) F (va_cwS 1 hts gX8_counted_X8_bits rfl rfl rfl hdX8_bits ⟨Nat.le_of_ble_eq_true rfl, Nat.le_of_ble_eq_true rfl⟩) hK hP hD hDm hS hA (fun _ _ _ _ _ => trivial) (fun _ _ _ => trivial) rfl hl.1 rfl (Nat.le_of_ble_eq_true rfl) dX8_counted_91 ⟨Nat.zero_le _, Nat.zero_le _⟩ (fun H locs hP hD hS => ?_)
    exact hend _ _ _ _ _ _ h hP hD hS dX8_counted_94
  replace h := ie c13 h
  refine lv_tableOut (tgt := 95) hx hb dX8_counted_1 (by have z0 := ne_i (n := 0) rfl c1; have z1 := ne_i (n := 1) rfl c2; have z2 := ne_i (n := 2) rfl c3; have z3 := ne_i (n := 3) rfl c4; have z4 := ne_i (n := 4) rfl c5; have z5 := ne_i (n := 5) rfl c6; have z6 := ne_i (n := 6) rfl c9; have z7 := ne_i (n := 7) rfl c13; omega) (by decide) ?_
  refine lv_aload_n hx hb dX8_counted_95 rfl (lv_at hl 0 rfl) ?_
  obtain ⟨r19, e20, h⟩ := bo h
  refine caVR_i (As := []) (rest := []) (ctX8_splitPairs l dC dI cq q S M o _ _ _ e20) F (cwV 0 hts gX8_counted_X8_splitPairs rfl rfl rfl hdX8_splitPairs ⟨Nat.le_of_ble_eq_true rfl, Nat.le_of_ble_eq_true rfl⟩) hK hP hD hDm hS hA (fun _ _ _ _ _ => trivial) (fun _ _ _ => trivial) (va_recv hK hP (ci := 9) (q0 := 22) rfl rfl) rfl hl.1 rfl (Nat.le_of_ble_eq_true rfl) dX8_counted_96 ⟨Nat.zero_le _, Nat.zero_le _⟩ (fun H locs hP hD hS => ?_)
  exact hend _ _ _ _ _ _ h hP hD hS dX8_counted_99
def mX8_count_16 (n : Nat)  (M : MS) (x1 : Int32) (t0 : Int32) : Option (Int32 × MS) :=
  (if ((sG M 0 t0).1 0) ≤ (0 : Int32) then (bm (mX8_counted n (sG M 0 t0) x1) fun r5 M7 => (some (r5, M7))) else (some ((0 : Int32), (sG M 0 t0))))
def mX8_count (n : Nat) (M : MS) (x1 : Int32) : Option (Int32 × MS) :=
  (bn (mX8_within x1 (0 : Int32) (8 : Int32)) fun r1 => (if r1 = (0 : Int32) then (mX8_count_16 n M x1 (1 : Int32)) else (mX8_count_16 n M x1 (0 : Int32))))
abbrev rmX8_count : Room := { frames := 7, cells := 0, slots := 0, locals := 160 }
theorem hdX8_count : yX8_count.cls = RX8 ∧ yX8_count.cls ≠ "java/lang/invoke/MethodHandle" ∧ yX8_count.cls ≠ "java/lang/invoke/VarHandle" ∧ (parseMethodDescriptor yX8_count.desc).map (fun d => d.parameters.length) = some 1 := by decide +kernel
set_option maxRecDepth 100000 in
set_option maxHeartbeats 8000000 in
theorem ctX8_count (l : Launch) (dC : Nat → ClassId) (dI : Nat → Nat → Nat) (cq : Nat → ClassId) (q : Nat → Nat) (S : CS) (M : MS) (o : Nat → Int64) (sz : Nat) (n : Nat) (x1 : Int32) (rr : Int32) (MM : MS) (h : mX8_count n M x1 = some (rr, MM)) : CtM_i l yX8_count wsX8_count rmX8_count (fun _ => True) (fun _ => True) dC dI cq q S M o sz [.ref (q 22), .int x1] rr MM := by
  refine enM_i (cc := cX8_count) (maxL := 2) (by decide) rfl (Nat.le_of_ble_eq_true rfl) (fun p e s m args below meth c A Q ls F hA hP hK hD hDm hX hS hl hend => ?_)
  obtain ⟨hx, hb, hml, hown, hts⟩ := id F
  have hown : s.vm.findClass RX8 = some m.cls := hown
  have F : CallFix p m c cX8_count 2 s args wsX8_count RX8 := F
  have hl : lv_has ls 2 [(0, .ref (q 22)), (1, .int x1)] := hl
  have hinX8 : ∀ w ∈ u_ws RX8 TX8 29, w ∈ wsX8_count := fun w h => List.mem_cons_of_mem _ (List.mem_append_right _ h)
  have hj16 : ∀ (M : MS) (x1 : Int32) (t0 : Int32)  (H : Heap) (locs : List Loc) (ls : Array Slot), va_P (dC, dI) vwCl (wA cq q S M o) H → va_D A (wA cq q S M o) → va_S A s.heap H locs → lv_has ls 2 [(0, .ref (q 22)), (1, .int x1)] → mX8_count_16 n M x1 t0 = some (rr, MM) → W p l e rmX8_count s m args below meth c H locs 0 0 Q (F0 m 16 ls [.int t0, .ref (q 22)]) := by
    intro M x1 t0 H locs ls hP hD hS hl h
    rw [mX8_count_16] at h
    refine pt_22_0 F hinX8 (hts (.fieldLink RX8 44 "CableTesterModel" "thrown" "I") (mm 1 rfl)) hK hP hD hS dX8_count_16 (fun H locs hP hD hS => ?_)
    refine lv_aload_n hx hb dX8_count_19 rfl (lv_at hl 0 rfl) ?_
    refine va_get (D := (dC, dI)) (ci := 9) (v := .int ((sG M 0 t0).1 0)) (C := RX8) (T := TX8) (N := 29) hx hb hts hinX8 hown hK hP 22 rfl rfl 0 (by decide) (hts (.fieldLink RX8 44 "CableTesterModel" "thrown" "I") (mm 1 rfl)) (fun _ h9 => h9) rfl dX8_count_20 ?_
    refine lv_if_le (tgt := 30) hx hb dX8_count_23 (by decide) (fun c4 => ?_) (fun c4 => ?_)
    · replace h := it c4 h
      refine lv_aload_n hx hb dX8_count_30 rfl (lv_at hl 0 rfl) ?_
      refine lv_iload_n hx hb dX8_count_31 rfl (lv_at hl 1 rfl) ?_
      obtain ⟨r5, M7, e6, h⟩ := bp h
      refine caVM_i (As := [.int x1]) (rest := []) (ctX8_counted l dC dI cq q S (sG M 0 t0) o _ _ _ _ _ e6) F (cwV 1 hts gX8_count_X8_counted rfl rfl rfl hdX8_counted ⟨Nat.le_of_ble_eq_true rfl, Nat.le_of_ble_eq_true rfl⟩) hK hP hD hDm hS hA (fun _ _ _ _ _ => trivial) (fun _ _ _ => trivial) (va_recv hK hP (ci := 9) (q0 := 22) rfl rfl) rfl hl.1 rfl (Nat.le_of_ble_eq_true rfl) dX8_count_32 ⟨Nat.zero_le _, Nat.zero_le _⟩ (fun H locs hP hD hS => ?_)
      exact hend _ _ _ _ _ _ h hP hD hS dX8_count_35
    · replace h := ie c4 h
      refine lv_iconst (v := (0 : Int32)) hx hb dX8_count_26 (by decide) ?_
      refine lv_goto (tgt := 35) hx hb dX8_count_27 (by decide) ?_
      exact hend _ _ _ _ _ _ h hP hD hS dX8_count_35
  rw [mX8_count] at h
  refine lv_aload_n hx hb dX8_count_0 rfl (lv_at hl 0 rfl) ?_
  refine lv_iload_n hx hb dX8_count_1 rfl (lv_at hl 1 rfl) ?_
  refine lv_iconst (v := (0 : Int32)) hx hb dX8_count_2 (by decide) ?_
  refine lv_bipush (v := (8 : Int32)) hx hb dX8_count_3 (by decide) ?_
  obtain ⟨r1, e2, h⟩ := bo h
  refine caSR_i (As := [.int x1, .int (0 : Int32), .int (8 : Int32)]) (rest := [.ref (q 22)]) (ctX8_within l dC dI cq q S M o _ _ _ _ _ e2) F (va_cwS 3 hts gX8_count_X8_within rfl rfl rfl hdX8_within ⟨Nat.le_of_ble_eq_true rfl, Nat.le_of_ble_eq_true rfl⟩) hK hP hD hDm hS hA (fun _ _ _ _ _ => trivial) (fun _ _ _ => trivial) rfl hl.1 rfl (Nat.le_of_ble_eq_true rfl) dX8_count_5 ⟨Nat.zero_le _, Nat.zero_le _⟩ (fun H locs hP hD hS => ?_)
  refine lv_if_eq (tgt := 15) hx hb dX8_count_8 (by decide) (fun c3 => ?_) (fun c3 => ?_)
  · replace h := it c3 h
    refine lv_iconst (v := (1 : Int32)) hx hb dX8_count_15 (by decide) ?_
    exact hj16 _ _ _ _ _ _ hP hD hS (lv_sub hl [0, 1] rfl) h
  · replace h := ie c3 h
    refine lv_iconst (v := (0 : Int32)) hx hb dX8_count_11 (by decide) ?_
    refine lv_goto (tgt := 16) hx hb dX8_count_12 (by decide) ?_
    exact hj16 _ _ _ _ _ _ hP hD hS (lv_sub hl [0, 1] rfl) h
def mX8_faultNow (M : MS) (x1 : Int32) (x2 : Int32) : Option (Int32) :=
  (if (6 : Int32) ≤ x2 then (bn (mX8_isPresent M x1 (M.1 4)) fun r2 => (if r2 = (0 : Int32) then (some (0 : Int32)) else (some (1 : Int32)))) else (bn (mX8_of M x1 x2) fun r5 => (some r5)))
abbrev rmX8_faultNow : Room := { frames := 2, cells := 0, slots := 0, locals := 44 }
theorem hdX8_faultNow : yX8_faultNow.cls = RX8 ∧ yX8_faultNow.cls ≠ "java/lang/invoke/MethodHandle" ∧ yX8_faultNow.cls ≠ "java/lang/invoke/VarHandle" ∧ (parseMethodDescriptor yX8_faultNow.desc).map (fun d => d.parameters.length) = some 2 := by decide +kernel
set_option maxRecDepth 100000 in
set_option maxHeartbeats 8000000 in
theorem ctX8_faultNow (l : Launch) (dC : Nat → ClassId) (dI : Nat → Nat → Nat) (cq : Nat → ClassId) (q : Nat → Nat) (S : CS) (M : MS) (o : Nat → Int64) (sz : Nat) (x1 : Int32) (x2 : Int32) (rr : Int32) (h : mX8_faultNow M x1 x2 = some rr) : CtR_i l yX8_faultNow wsX8_faultNow rmX8_faultNow (fun _ => True) (fun _ => True) dC dI cq q S M o sz [.ref (q 22), .int x1, .int x2] rr := by
  refine enR_i (cc := cX8_faultNow) (maxL := 3) (by decide) rfl (Nat.le_of_ble_eq_true rfl) (fun p e s m args below meth c A Q ls F hA hP hK hD hDm hX hS hl hend => ?_)
  obtain ⟨hx, hb, hml, hown, hts⟩ := id F
  have hown : s.vm.findClass RX8 = some m.cls := hown
  have F : CallFix p m c cX8_faultNow 3 s args wsX8_faultNow RX8 := F
  have hl : lv_has ls 3 [(0, .ref (q 22)), (1, .int x1), (2, .int x2)] := hl
  have hinX8 : ∀ w ∈ u_ws RX8 TX8 29, w ∈ wsX8_faultNow := fun w h => List.mem_cons_of_mem _ (List.mem_append_right _ h)
  rw [mX8_faultNow] at h
  refine lv_iload_n hx hb dX8_faultNow_0 rfl (lv_at hl 2 rfl) ?_
  refine lv_bipush (v := (6 : Int32)) hx hb dX8_faultNow_1 (by decide) ?_
  refine lv_icmp_ge (tgt := 15) hx hb dX8_faultNow_3 (by decide) (fun c1 => ?_) (fun c1 => ?_)
  · replace h := it c1 h
    refine lv_aload_n hx hb dX8_faultNow_15 rfl (lv_at hl 0 rfl) ?_
    refine lv_iload_n hx hb dX8_faultNow_16 rfl (lv_at hl 1 rfl) ?_
    refine lv_aload_n hx hb dX8_faultNow_17 rfl (lv_at hl 0 rfl) ?_
    refine va_get (D := (dC, dI)) (ci := 9) (v := .int (M.1 4)) (C := RX8) (T := TX8) (N := 29) hx hb hts hinX8 hown hK hP 22 rfl rfl 4 (by decide) (hts (.fieldLink RX8 61 "CableTesterModel" "tick" "I") (mm 1 rfl)) (fun _ h9 => h9) rfl dX8_faultNow_18 ?_
    obtain ⟨r2, e3, h⟩ := bo h
    refine caVR_i (As := [.int x1, .int (M.1 4)]) (rest := []) (ctX8_isPresent l dC dI cq q S M o _ _ _ _ e3) F (cwV 2 hts gX8_faultNow_X8_isPresent rfl rfl rfl hdX8_isPresent ⟨Nat.le_of_ble_eq_true rfl, Nat.le_of_ble_eq_true rfl⟩) hK hP hD hDm hS hA (fun _ _ _ _ _ => trivial) (fun _ _ _ => trivial) (va_recv hK hP (ci := 9) (q0 := 22) rfl rfl) rfl hl.1 rfl (Nat.le_of_ble_eq_true rfl) dX8_faultNow_21 ⟨Nat.zero_le _, Nat.zero_le _⟩ (fun H locs hP hD hS => ?_)
    refine lv_if_eq (tgt := 31) hx hb dX8_faultNow_24 (by decide) (fun c4 => ?_) (fun c4 => ?_)
    · replace h := it c4 h
      refine lv_iconst (v := (0 : Int32)) hx hb dX8_faultNow_31 (by decide) ?_
      exact hend _ _ _ _ _ h hP hD hS dX8_faultNow_32
    · replace h := ie c4 h
      refine lv_iconst (v := (1 : Int32)) hx hb dX8_faultNow_27 (by decide) ?_
      refine lv_goto (tgt := 32) hx hb dX8_faultNow_28 (by decide) ?_
      exact hend _ _ _ _ _ h hP hD hS dX8_faultNow_32
  · replace h := ie c1 h
    refine lv_aload_n hx hb dX8_faultNow_6 rfl (lv_at hl 0 rfl) ?_
    refine lv_iload_n hx hb dX8_faultNow_7 rfl (lv_at hl 1 rfl) ?_
    refine lv_iload_n hx hb dX8_faultNow_8 rfl (lv_at hl 2 rfl) ?_
    obtain ⟨r5, e6, h⟩ := bo h
    refine caVR_i (As := [.int x1, .int x2]) (rest := []) (ctX8_of l dC dI cq q S M o _ _ _ _ e6) F (cwV 2 hts gX8_faultNow_X8_of rfl rfl rfl hdX8_of ⟨Nat.le_of_ble_eq_true rfl, Nat.le_of_ble_eq_true rfl⟩) hK hP hD hDm hS hA (fun _ _ _ _ _ => trivial) (fun _ _ _ => trivial) (va_recv hK hP (ci := 9) (q0 := 22) rfl rfl) rfl hl.1 rfl (Nat.le_of_ble_eq_true rfl) dX8_faultNow_9 ⟨Nat.zero_le _, Nat.zero_le _⟩ (fun H locs hP hD hS => ?_)
    refine lv_goto (tgt := 32) hx hb dX8_faultNow_12 (by decide) ?_
    exact hend _ _ _ _ _ h hP hD hS dX8_faultNow_32
def mX8_fault_34  (M : MS) (x1 : Int32) (x2 : Int32) (t0 : Int32) : Option (Int32 × MS) :=
  (if ((sG M 0 t0).1 0) ≤ (0 : Int32) then (bn (mX8_faultNow (sG M 0 t0) x1 x2) fun r8 => (some (r8, (sG M 0 t0)))) else (some ((0 : Int32), (sG M 0 t0))))
def mX8_fault (M : MS) (x1 : Int32) (x2 : Int32) : Option (Int32 × MS) :=
  (bn (mX8_within x1 (0 : Int32) ((M.1 7) - (1 : Int32))) fun r1 => (if r1 = (0 : Int32) then (mX8_fault_34 M x1 x2 (1 : Int32)) else (bn (mX8_within x2 (0 : Int32) (6 : Int32)) fun r4 => (if r4 = (0 : Int32) then (mX8_fault_34 M x1 x2 (2 : Int32)) else (mX8_fault_34 M x1 x2 (0 : Int32))))))
abbrev rmX8_fault : Room := { frames := 3, cells := 0, slots := 0, locals := 66 }
theorem hdX8_fault : yX8_fault.cls = RX8 ∧ yX8_fault.cls ≠ "java/lang/invoke/MethodHandle" ∧ yX8_fault.cls ≠ "java/lang/invoke/VarHandle" ∧ (parseMethodDescriptor yX8_fault.desc).map (fun d => d.parameters.length) = some 2 := by decide +kernel
set_option maxRecDepth 100000 in
set_option maxHeartbeats 8000000 in
theorem ctX8_fault (l : Launch) (dC : Nat → ClassId) (dI : Nat → Nat → Nat) (cq : Nat → ClassId) (q : Nat → Nat) (S : CS) (M : MS) (o : Nat → Int64) (sz : Nat) (x1 : Int32) (x2 : Int32) (rr : Int32) (MM : MS) (h : mX8_fault M x1 x2 = some (rr, MM)) : CtM_i l yX8_fault wsX8_fault rmX8_fault (fun _ => True) (fun _ => True) dC dI cq q S M o sz [.ref (q 22), .int x1, .int x2] rr MM := by
  refine enM_i (cc := cX8_fault) (maxL := 3) (by decide) rfl (Nat.le_of_ble_eq_true rfl) (fun p e s m args below meth c A Q ls F hA hP hK hD hDm hX hS hl hend => ?_)
  obtain ⟨hx, hb, hml, hown, hts⟩ := id F
  have hown : s.vm.findClass RX8 = some m.cls := hown
  have F : CallFix p m c cX8_fault 3 s args wsX8_fault RX8 := F
  have hl : lv_has ls 3 [(0, .ref (q 22)), (1, .int x1), (2, .int x2)] := hl
  have hinX8 : ∀ w ∈ u_ws RX8 TX8 29, w ∈ wsX8_fault := fun w h => List.mem_cons_of_mem _ (List.mem_append_right _ h)
  have hj34 : ∀ (M : MS) (x1 : Int32) (x2 : Int32) (t0 : Int32)  (H : Heap) (locs : List Loc) (ls : Array Slot), va_P (dC, dI) vwCl (wA cq q S M o) H → va_D A (wA cq q S M o) → va_S A s.heap H locs → lv_has ls 3 [(0, .ref (q 22)), (1, .int x1), (2, .int x2)] → mX8_fault_34 M x1 x2 t0 = some (rr, MM) → W p l e rmX8_fault s m args below meth c H locs 0 0 Q (F0 m 34 ls [.int t0, .ref (q 22)]) := by
    intro M x1 x2 t0 H locs ls hP hD hS hl h
    rw [mX8_fault_34] at h
    refine pt_22_0 F hinX8 (hts (.fieldLink RX8 44 "CableTesterModel" "thrown" "I") (mm 2 rfl)) hK hP hD hS dX8_fault_34 (fun H locs hP hD hS => ?_)
    refine lv_aload_n hx hb dX8_fault_37 rfl (lv_at hl 0 rfl) ?_
    refine va_get (D := (dC, dI)) (ci := 9) (v := .int ((sG M 0 t0).1 0)) (C := RX8) (T := TX8) (N := 29) hx hb hts hinX8 hown hK hP 22 rfl rfl 0 (by decide) (hts (.fieldLink RX8 44 "CableTesterModel" "thrown" "I") (mm 2 rfl)) (fun _ h9 => h9) rfl dX8_fault_38 ?_
    refine lv_if_le (tgt := 48) hx hb dX8_fault_41 (by decide) (fun c7 => ?_) (fun c7 => ?_)
    · replace h := it c7 h
      refine lv_aload_n hx hb dX8_fault_48 rfl (lv_at hl 0 rfl) ?_
      refine lv_iload_n hx hb dX8_fault_49 rfl (lv_at hl 1 rfl) ?_
      refine lv_iload_n hx hb dX8_fault_50 rfl (lv_at hl 2 rfl) ?_
      obtain ⟨r8, e9, h⟩ := bo h
      refine caVR_i (As := [.int x1, .int x2]) (rest := []) (ctX8_faultNow l dC dI cq q S (sG M 0 t0) o _ _ _ _ e9) F (cwV 2 hts gX8_fault_X8_faultNow rfl rfl rfl hdX8_faultNow ⟨Nat.le_of_ble_eq_true rfl, Nat.le_of_ble_eq_true rfl⟩) hK hP hD hDm hS hA (fun _ _ _ _ _ => trivial) (fun _ _ _ => trivial) (va_recv hK hP (ci := 9) (q0 := 22) rfl rfl) rfl hl.1 rfl (Nat.le_of_ble_eq_true rfl) dX8_fault_51 ⟨Nat.zero_le _, Nat.zero_le _⟩ (fun H locs hP hD hS => ?_)
      exact hend _ _ _ _ _ _ h hP hD hS dX8_fault_54
    · replace h := ie c7 h
      refine lv_iconst (v := (0 : Int32)) hx hb dX8_fault_44 (by decide) ?_
      refine lv_goto (tgt := 54) hx hb dX8_fault_45 (by decide) ?_
      exact hend _ _ _ _ _ _ h hP hD hS dX8_fault_54
  rw [mX8_fault] at h
  refine lv_aload_n hx hb dX8_fault_0 rfl (lv_at hl 0 rfl) ?_
  refine lv_iload_n hx hb dX8_fault_1 rfl (lv_at hl 1 rfl) ?_
  refine lv_iconst (v := (0 : Int32)) hx hb dX8_fault_2 (by decide) ?_
  refine lv_aload_n hx hb dX8_fault_3 rfl (lv_at hl 0 rfl) ?_
  refine va_get (D := (dC, dI)) (ci := 9) (v := .int (M.1 7)) (C := RX8) (T := TX8) (N := 29) hx hb hts hinX8 hown hK hP 22 rfl rfl 7 (by decide) (hts (.fieldLink RX8 64 "CableTesterModel" "many" "I") (mm 1 rfl)) (fun _ h9 => h9) rfl dX8_fault_4 ?_
  refine lv_iconst (v := (1 : Int32)) hx hb dX8_fault_7 (by decide) ?_
  refine lv_isub hx hb dX8_fault_8 ?_
  obtain ⟨r1, e2, h⟩ := bo h
  refine caSR_i (As := [.int x1, .int (0 : Int32), .int ((M.1 7) - (1 : Int32))]) (rest := [.ref (q 22)]) (ctX8_within l dC dI cq q S M o _ _ _ _ _ e2) F (va_cwS 3 hts gX8_fault_X8_within rfl rfl rfl hdX8_within ⟨Nat.le_of_ble_eq_true rfl, Nat.le_of_ble_eq_true rfl⟩) hK hP hD hDm hS hA (fun _ _ _ _ _ => trivial) (fun _ _ _ => trivial) rfl hl.1 rfl (Nat.le_of_ble_eq_true rfl) dX8_fault_9 ⟨Nat.zero_le _, Nat.zero_le _⟩ (fun H locs hP hD hS => ?_)
  refine lv_if_ne (tgt := 19) hx hb dX8_fault_12 (by decide) (fun c3 => ?_) (fun c3 => ?_)
  · replace h := ie c3 h
    refine lv_iload_n hx hb dX8_fault_19 rfl (lv_at hl 2 rfl) ?_
    refine lv_iconst (v := (0 : Int32)) hx hb dX8_fault_20 (by decide) ?_
    refine lv_bipush (v := (6 : Int32)) hx hb dX8_fault_21 (by decide) ?_
    obtain ⟨r4, e5, h⟩ := bo h
    refine caSR_i (As := [.int x2, .int (0 : Int32), .int (6 : Int32)]) (rest := [.ref (q 22)]) (ctX8_within l dC dI cq q S M o _ _ _ _ _ e5) F (va_cwS 3 hts gX8_fault_X8_within rfl rfl rfl hdX8_within ⟨Nat.le_of_ble_eq_true rfl, Nat.le_of_ble_eq_true rfl⟩) hK hP hD hDm hS hA (fun _ _ _ _ _ => trivial) (fun _ _ _ => trivial) rfl hl.1 rfl (Nat.le_of_ble_eq_true rfl) dX8_fault_23 ⟨Nat.zero_le _, Nat.zero_le _⟩ (fun H locs hP hD hS => ?_)
    refine lv_if_eq (tgt := 33) hx hb dX8_fault_26 (by decide) (fun c6 => ?_) (fun c6 => ?_)
    · replace h := it c6 h
      refine lv_iconst (v := (2 : Int32)) hx hb dX8_fault_33 (by decide) ?_
      exact hj34 _ _ _ _ _ _ _ hP hD hS (lv_sub hl [0, 1, 2] rfl) h
    · replace h := ie c6 h
      refine lv_iconst (v := (0 : Int32)) hx hb dX8_fault_29 (by decide) ?_
      refine lv_goto (tgt := 34) hx hb dX8_fault_30 (by decide) ?_
      exact hj34 _ _ _ _ _ _ _ hP hD hS (lv_sub hl [0, 1, 2] rfl) h
  · replace h := it c3 h
    refine lv_iconst (v := (1 : Int32)) hx hb dX8_fault_15 (by decide) ?_
    refine lv_goto (tgt := 34) hx hb dX8_fault_16 (by decide) ?_
    exact hj34 _ _ _ _ _ _ _ hP hD hS (lv_sub hl [0, 1, 2] rfl) h
def mX8_wire_24  (M : MS) (x1 : Int32) (x2 : Int32) (t0 : Int32) : Option (Int32 × MS) :=
  (if ((sG M 0 t0).1 0) ≤ (0 : Int32) then (if inb (((8 : Int32) * x1) + x2) 16 then (some (((sG M 0 t0).2.1 23 (((8 : Int32) * x1) + x2).toNatClampNeg), (sG M 0 t0))) else none) else (some ((0 : Int32), (sG M 0 t0))))
def mX8_wire (M : MS) (x1 : Int32) (x2 : Int32) : Option (Int32 × MS) :=
  (bn (mX8_isEnd x1) fun r1 => (if r1 = (0 : Int32) then (mX8_wire_24 M x1 x2 (1 : Int32)) else (bn (mX8_isWire x2) fun r4 => (if r4 = (0 : Int32) then (mX8_wire_24 M x1 x2 (2 : Int32)) else (mX8_wire_24 M x1 x2 (0 : Int32))))))
abbrev rmX8_wire : Room := { frames := 2, cells := 0, slots := 0, locals := 42 }
theorem hdX8_wire : yX8_wire.cls = RX8 ∧ yX8_wire.cls ≠ "java/lang/invoke/MethodHandle" ∧ yX8_wire.cls ≠ "java/lang/invoke/VarHandle" ∧ (parseMethodDescriptor yX8_wire.desc).map (fun d => d.parameters.length) = some 2 := by decide +kernel
set_option maxRecDepth 100000 in
set_option maxHeartbeats 8000000 in
theorem ctX8_wire (l : Launch) (dC : Nat → ClassId) (dI : Nat → Nat → Nat) (cq : Nat → ClassId) (q : Nat → Nat) (S : CS) (M : MS) (o : Nat → Int64) (sz : Nat) (x1 : Int32) (x2 : Int32) (rr : Int32) (MM : MS) (h : mX8_wire M x1 x2 = some (rr, MM)) : CtM_i l yX8_wire wsX8_wire rmX8_wire (fun _ => True) (fun _ => True) dC dI cq q S M o sz [.ref (q 22), .int x1, .int x2] rr MM := by
  refine enM_i (cc := cX8_wire) (maxL := 3) (by decide) rfl (Nat.le_of_ble_eq_true rfl) (fun p e s m args below meth c A Q ls F hA hP hK hD hDm hX hS hl hend => ?_)
  obtain ⟨hx, hb, hml, hown, hts⟩ := id F
  have hown : s.vm.findClass RX8 = some m.cls := hown
  have F : CallFix p m c cX8_wire 3 s args wsX8_wire RX8 := F
  have hl : lv_has ls 3 [(0, .ref (q 22)), (1, .int x1), (2, .int x2)] := hl
  have hinX8 : ∀ w ∈ u_ws RX8 TX8 29, w ∈ wsX8_wire := fun w h => List.mem_cons_of_mem _ (List.mem_append_right _ h)
  have hj24 : ∀ (M : MS) (x1 : Int32) (x2 : Int32) (t0 : Int32)  (H : Heap) (locs : List Loc) (ls : Array Slot), va_P (dC, dI) vwCl (wA cq q S M o) H → va_D A (wA cq q S M o) → va_S A s.heap H locs → lv_has ls 3 [(0, .ref (q 22)), (1, .int x1), (2, .int x2)] → mX8_wire_24 M x1 x2 t0 = some (rr, MM) → W p l e rmX8_wire s m args below meth c H locs 0 0 Q (F0 m 24 ls [.int t0, .ref (q 22)]) := by
    intro M x1 x2 t0 H locs ls hP hD hS hl h
    rw [mX8_wire_24] at h
    refine pt_22_0 F hinX8 (hts (.fieldLink RX8 44 "CableTesterModel" "thrown" "I") (mm 1 rfl)) hK hP hD hS dX8_wire_24 (fun H locs hP hD hS => ?_)
    refine lv_aload_n hx hb dX8_wire_27 rfl (lv_at hl 0 rfl) ?_
    refine va_get (D := (dC, dI)) (ci := 9) (v := .int ((sG M 0 t0).1 0)) (C := RX8) (T := TX8) (N := 29) hx hb hts hinX8 hown hK hP 22 rfl rfl 0 (by decide) (hts (.fieldLink RX8 44 "CableTesterModel" "thrown" "I") (mm 1 rfl)) (fun _ h9 => h9) rfl dX8_wire_28 ?_
    refine lv_if_le (tgt := 38) hx hb dX8_wire_31 (by decide) (fun c7 => ?_) (fun c7 => ?_)
    · replace h := it c7 h
      refine lv_aload_n hx hb dX8_wire_38 rfl (lv_at hl 0 rfl) ?_
      refine va_get (D := (dC, dI)) (ci := 9) (v := .ref (q 23)) (C := RX8) (T := TX8) (N := 29) hx hb hts hinX8 hown hK hP 22 rfl rfl 5 (by decide) (hts (.fieldLink RX8 7 "CableTesterModel" "wires" "[I") (mm 2 rfl)) (fun _ h9 => h9) rfl dX8_wire_39 ?_
      refine lv_bipush (v := (8 : Int32)) hx hb dX8_wire_42 (by decide) ?_
      refine lv_iload_n hx hb dX8_wire_44 rfl (lv_at hl 1 rfl) ?_
      refine lv_imul hx hb dX8_wire_45 ?_
      refine lv_iload_n hx hb dX8_wire_46 rfl (lv_at hl 2 rfl) ?_
      refine lv_iadd hx hb dX8_wire_47 ?_
      obtain ⟨g8, h⟩ := gd h
      refine va_iald (D := (dC, dI)) hx hb hK hP 23 12 rfl rfl (inb_ok g8) dX8_wire_48 ?_
      exact hend _ _ _ _ _ _ h hP hD hS dX8_wire_49
    · replace h := ie c7 h
      refine lv_iconst (v := (0 : Int32)) hx hb dX8_wire_34 (by decide) ?_
      refine lv_goto (tgt := 49) hx hb dX8_wire_35 (by decide) ?_
      exact hend _ _ _ _ _ _ h hP hD hS dX8_wire_49
  rw [mX8_wire] at h
  refine lv_aload_n hx hb dX8_wire_0 rfl (lv_at hl 0 rfl) ?_
  refine lv_iload_n hx hb dX8_wire_1 rfl (lv_at hl 1 rfl) ?_
  obtain ⟨r1, e2, h⟩ := bo h
  refine caSR_i (As := [.int x1]) (rest := [.ref (q 22)]) (ctX8_isEnd l dC dI cq q S M o _ _ _ e2) F (va_cwS 1 hts gX8_wire_X8_isEnd rfl rfl rfl hdX8_isEnd ⟨Nat.le_of_ble_eq_true rfl, Nat.le_of_ble_eq_true rfl⟩) hK hP hD hDm hS hA (fun _ _ _ _ _ => trivial) (fun _ _ _ => trivial) rfl hl.1 rfl (Nat.le_of_ble_eq_true rfl) dX8_wire_2 ⟨Nat.zero_le _, Nat.zero_le _⟩ (fun H locs hP hD hS => ?_)
  refine lv_if_ne (tgt := 12) hx hb dX8_wire_5 (by decide) (fun c3 => ?_) (fun c3 => ?_)
  · replace h := ie c3 h
    refine lv_iload_n hx hb dX8_wire_12 rfl (lv_at hl 2 rfl) ?_
    obtain ⟨r4, e5, h⟩ := bo h
    refine caSR_i (As := [.int x2]) (rest := [.ref (q 22)]) (ctX8_isWire l dC dI cq q S M o _ _ _ e5) F (va_cwS 1 hts gX8_wire_X8_isWire rfl rfl rfl hdX8_isWire ⟨Nat.le_of_ble_eq_true rfl, Nat.le_of_ble_eq_true rfl⟩) hK hP hD hDm hS hA (fun _ _ _ _ _ => trivial) (fun _ _ _ => trivial) rfl hl.1 rfl (Nat.le_of_ble_eq_true rfl) dX8_wire_13 ⟨Nat.zero_le _, Nat.zero_le _⟩ (fun H locs hP hD hS => ?_)
    refine lv_if_eq (tgt := 23) hx hb dX8_wire_16 (by decide) (fun c6 => ?_) (fun c6 => ?_)
    · replace h := it c6 h
      refine lv_iconst (v := (2 : Int32)) hx hb dX8_wire_23 (by decide) ?_
      exact hj24 _ _ _ _ _ _ _ hP hD hS (lv_sub hl [0, 1, 2] rfl) h
    · replace h := ie c6 h
      refine lv_iconst (v := (0 : Int32)) hx hb dX8_wire_19 (by decide) ?_
      refine lv_goto (tgt := 24) hx hb dX8_wire_20 (by decide) ?_
      exact hj24 _ _ _ _ _ _ _ hP hD hS (lv_sub hl [0, 1, 2] rfl) h
  · replace h := it c3 h
    refine lv_iconst (v := (1 : Int32)) hx hb dX8_wire_8 (by decide) ?_
    refine lv_goto (tgt := 24) hx hb dX8_wire_9 (by decide) ?_
    exact hj24 _ _ _ _ _ _ _ hP hD hS (lv_sub hl [0, 1, 2] rfl) h
def mX8_mix (M : MS) (x1 : Int64) : Option (MS) :=
  (some (sH M (((31 : Int64) * M.2.2) + x1)))
abbrev rmX8_mix : Room := { frames := 0, cells := 0, slots := 0, locals := 0 }
theorem hdX8_mix : yX8_mix.cls = RX8 ∧ yX8_mix.cls ≠ "java/lang/invoke/MethodHandle" ∧ yX8_mix.cls ≠ "java/lang/invoke/VarHandle" ∧ (parseMethodDescriptor yX8_mix.desc).map (fun d => d.parameters.length) = some 1 := by decide +kernel
set_option maxRecDepth 100000 in
set_option maxHeartbeats 8000000 in
theorem ctX8_mix (l : Launch) (dC : Nat → ClassId) (dI : Nat → Nat → Nat) (cq : Nat → ClassId) (q : Nat → Nat) (S : CS) (M : MS) (o : Nat → Int64) (sz : Nat) (x1 : Int64) (MM : MS) (h : mX8_mix M x1 = some MM) : CtM_v l yX8_mix wsX8_mix rmX8_mix (fun _ => True) (fun _ => True) dC dI cq q S M o sz [.ref (q 22), .long x1] MM := by
  refine enM_v (cc := cX8_mix) (maxL := 3) (by decide) rfl (Nat.le_of_ble_eq_true rfl) (fun p e s m args below meth c A Q ls F hA hP hK hD hDm hX hS hl hend => ?_)
  obtain ⟨hx, hb, hml, hown, hts⟩ := id F
  have hown : s.vm.findClass RX8 = some m.cls := hown
  have F : CallFix p m c cX8_mix 3 s args wsX8_mix RX8 := F
  have hl : lv_has ls 3 [(0, .ref (q 22)), (1, .long x1)] := hl
  have hinX8 : ∀ w ∈ u_ws RX8 TX8 29, w ∈ wsX8_mix := fun w h => List.mem_cons_of_mem _ (List.mem_append_right _ h)
  rw [mX8_mix] at h
  refine lv_aload_n hx hb dX8_mix_0 rfl (lv_at hl 0 rfl) ?_
  refine lv_ldc2 hx hb hown (hts (.constantLong RX8 270 (31)) (mm 1 rfl)) dX8_mix_1 ?_
  refine lv_aload_n hx hb dX8_mix_4 rfl (lv_at hl 0 rfl) ?_
  refine va_get (D := (dC, dI)) (ci := 9) (v := .long M.2.2) (C := RX8) (T := TX8) (N := 29) hx hb hts hinX8 hown hK hP 22 rfl rfl 28 (by decide) (hts (.fieldLink RX8 272 "CableTesterModel" "h" "J") (mm 2 rfl)) (fun _ h9 => h9) rfl dX8_mix_5 ?_
  refine lv_lmul hx hb dX8_mix_8 ?_
  refine lv_lload_n hx hb dX8_mix_9 rfl (lv_at hl 1 rfl) ?_
  refine lv_ladd hx hb dX8_mix_10 ?_
  refine pt_22_28 F hinX8 (hts (.fieldLink RX8 272 "CableTesterModel" "h" "J") (mm 2 rfl)) hK hP hD hS dX8_mix_11 (fun H locs hP hD hS => ?_)
  exact hend _ _ _ _ _ h hP hD hS dX8_mix_14
def mX8_mixPin_97 (n : Nat)  (x1 : Int32) : Nat → MS → Int32 → Option (MS)
  | 0, _, _ => none
  | k + 1, M, x2 => (if (5 : Int32) ≤ x2 then (if inb x1 8 then (bn (mX8_mix M (M.2.1 30 x1.toNatClampNeg).toInt64) fun M37 => (some M37)) else none) else (bn (mX8_recordsNow n M x1 x2) fun r38 => (bn (mX8_mix M r38.toInt64) fun M42 => (mX8_mixPin_97 n x1 k M42 (x2 + (1 : Int32))))))
def mX8_mixPin_73 (n : Nat)  (x1 : Int32) : Nat → MS → Int32 → Option (MS)
  | 0, _, _ => none
  | k + 1, M, x2 => (if (4 : Int32) ≤ x2 then (mX8_mixPin_97 n x1 n M (0 : Int32)) else (bn (mX8_echoNow n M x1 x2) fun r43 => (bn (mX8_mix M r43.toInt64) fun M47 => (mX8_mixPin_73 n x1 k M47 (x2 + (1 : Int32))))))
def mX8_mixPin (n : Nat) (M : MS) (x1 : Int32) : Option (MS) :=
  (if inb x1 16 then (bn (mX8_mix M (M.2.1 23 x1.toNatClampNeg).toInt64) fun M4 => (if inb ((8 : Int32) + x1) 16 then (bn (mX8_mix M4 (M4.2.1 23 ((8 : Int32) + x1).toNatClampNeg).toInt64) fun M8 => (bm (mX8_joinedNow n M8 (0 : Int32) x1 (0 : Int32)) fun r9 M11 => (bn (mX8_mix M11 r9.toInt64) fun M14 => (bm (mX8_joinedNow n M14 (0 : Int32) x1 (1 : Int32)) fun r15 M17 => (bn (mX8_mix M17 r15.toInt64) fun M20 => (bm (mX8_joinedNow n M20 (1 : Int32) x1 (1 : Int32)) fun r21 M23 => (bn (mX8_mix M23 r21.toInt64) fun M26 => (bn (mX8_statusNow n M26 x1) fun r27 => (bn (mX8_mix M26 r27.toInt64) fun M31 => (mX8_mixPin_73 n x1 n M31 (0 : Int32))))))))))) else none)) else none)
abbrev rmX8_mixPin : Room := { frames := 6, cells := 0, slots := 0, locals := 139 }
theorem hdX8_mixPin : yX8_mixPin.cls = RX8 ∧ yX8_mixPin.cls ≠ "java/lang/invoke/MethodHandle" ∧ yX8_mixPin.cls ≠ "java/lang/invoke/VarHandle" ∧ (parseMethodDescriptor yX8_mixPin.desc).map (fun d => d.parameters.length) = some 1 := by decide +kernel
set_option maxRecDepth 100000 in
set_option maxHeartbeats 8000000 in
theorem ctX8_mixPin (l : Launch) (dC : Nat → ClassId) (dI : Nat → Nat → Nat) (cq : Nat → ClassId) (q : Nat → Nat) (S : CS) (M : MS) (o : Nat → Int64) (sz : Nat) (n : Nat) (x1 : Int32) (MM : MS) (h : mX8_mixPin n M x1 = some MM) : CtM_v l yX8_mixPin wsX8_mixPin rmX8_mixPin (fun _ => True) (fun _ => True) dC dI cq q S M o sz [.ref (q 22), .int x1] MM := by
  refine enM_v (cc := cX8_mixPin) (maxL := 3) (by decide) rfl (Nat.le_of_ble_eq_true rfl) (fun p e s m args below meth c A Q ls F hA hP hK hD hDm hX hS hl hend => ?_)
  obtain ⟨hx, hb, hml, hown, hts⟩ := id F
  have hown : s.vm.findClass RX8 = some m.cls := hown
  have F : CallFix p m c cX8_mixPin 3 s args wsX8_mixPin RX8 := F
  have hl : lv_has ls 3 [(0, .ref (q 22)), (1, .int x1)] := hl
  have hinX8 : ∀ w ∈ u_ws RX8 TX8 29, w ∈ wsX8_mixPin := fun w h => List.mem_cons_of_mem _ (List.mem_append_right _ h)
  have hL97 : ∀ (x1 : Int32)  (k : Nat) (M : MS) (x2 : Int32) (H : Heap) (locs : List Loc) (ls : Array Slot), va_P (dC, dI) vwCl (wA cq q S M o) H → va_D A (wA cq q S M o) → va_S A s.heap H locs → lv_has ls 3 [(0, .ref (q 22)), (1, .int x1), (2, .int x2)] → mX8_mixPin_97 n x1 k M x2 = some MM → W p l e rmX8_mixPin s m args below meth c H locs 0 0 Q (F0 m 97 ls []) := by
    intro x1
    intro k
    induction k with
    | zero =>
      intro M x2 H locs ls hP hD hS hl h
      rw [mX8_mixPin_97] at h
      cases h
    | succ k ih =>
      intro M x2 H locs ls hP hD hS hl h
      rw [mX8_mixPin_97] at h
      refine lv_iload_n hx hb dX8_mixPin_97 rfl (lv_at hl 2 rfl) ?_
      refine lv_iconst (v := (5 : Int32)) hx hb dX8_mixPin_98 (by decide) ?_
      refine lv_icmp_ge (tgt := 119) hx hb dX8_mixPin_99 (by decide) (fun c33 => ?_) (fun c33 => ?_)
      · replace h := it c33 h
        refine lv_aload_n hx hb dX8_mixPin_119 rfl (lv_at hl 0 rfl) ?_
        refine lv_aload_n hx hb dX8_mixPin_120 rfl (lv_at hl 0 rfl) ?_
        refine va_get (D := (dC, dI)) (ci := 9) (v := .ref (q 30)) (C := RX8) (T := TX8) (N := 29) hx hb hts hinX8 hown hK hP 22 rfl rfl 25 (by decide) (hts (.fieldLink RX8 31 "CableTesterModel" "best" "[I") (mm 2 rfl)) (fun _ h9 => h9) rfl dX8_mixPin_121 ?_
        refine lv_iload_n hx hb dX8_mixPin_124 rfl (lv_at hl 1 rfl) ?_
        obtain ⟨g34, h⟩ := gd h
        refine va_iald (D := (dC, dI)) hx hb hK hP 30 19 rfl rfl (inb_ok g34) dX8_mixPin_125 ?_
        refine lv_i2l hx hb dX8_mixPin_126 rfl ?_
        obtain ⟨M37, e36, h⟩ := bo h
        refine caVM_v (As := [.long (M.2.1 30 x1.toNatClampNeg).toInt64]) (rest := []) (ctX8_mix l dC dI cq q S M o _ _ _ e36) F (cwV 1 hts gX8_mixPin_X8_mix rfl rfl rfl hdX8_mix ⟨Nat.le_of_ble_eq_true rfl, Nat.le_of_ble_eq_true rfl⟩) hK hP hD hDm hS hA (fun _ _ _ _ _ => trivial) (fun _ _ _ => trivial) (va_recv hK hP (ci := 9) (q0 := 22) rfl rfl) rfl hl.1 rfl (Nat.le_of_ble_eq_true rfl) dX8_mixPin_127 ⟨Nat.zero_le _, Nat.zero_le _⟩ (fun H locs hP hD hS => ?_)
        exact hend _ _ _ _ _ h hP hD hS dX8_mixPin_130
      · replace h := ie c33 h
        refine lv_aload_n hx hb dX8_mixPin_102 rfl (lv_at hl 0 rfl) ?_
        refine lv_aload_n hx hb dX8_mixPin_103 rfl (lv_at hl 0 rfl) ?_
        refine lv_iload_n hx hb dX8_mixPin_104 rfl (lv_at hl 1 rfl) ?_
        refine lv_iload_n hx hb dX8_mixPin_105 rfl (lv_at hl 2 rfl) ?_
        obtain ⟨r38, e39, h⟩ := bo h
        refine caVR_i (As := [.int x1, .int x2]) (rest := [.ref (q 22)]) (ctX8_recordsNow l dC dI cq q S M o _ _ _ _ _ e39) F (cwV 2 hts gX8_mixPin_X8_recordsNow rfl rfl rfl hdX8_recordsNow ⟨Nat.le_of_ble_eq_true rfl, Nat.le_of_ble_eq_true rfl⟩) hK hP hD hDm hS hA (fun _ _ _ _ _ => trivial) (fun _ _ _ => trivial) (va_recv hK hP (ci := 9) (q0 := 22) rfl rfl) rfl hl.1 rfl (Nat.le_of_ble_eq_true rfl) dX8_mixPin_106 ⟨Nat.zero_le _, Nat.zero_le _⟩ (fun H locs hP hD hS => ?_)
        refine lv_i2l hx hb dX8_mixPin_109 rfl ?_
        obtain ⟨M42, e41, h⟩ := bo h
        refine caVM_v (As := [.long r38.toInt64]) (rest := []) (ctX8_mix l dC dI cq q S M o _ _ _ e41) F (cwV 1 hts gX8_mixPin_X8_mix rfl rfl rfl hdX8_mix ⟨Nat.le_of_ble_eq_true rfl, Nat.le_of_ble_eq_true rfl⟩) hK hP hD hDm hS hA (fun _ _ _ _ _ => trivial) (fun _ _ _ => trivial) (va_recv hK hP (ci := 9) (q0 := 22) rfl rfl) rfl hl.1 rfl (Nat.le_of_ble_eq_true rfl) dX8_mixPin_110 ⟨Nat.zero_le _, Nat.zero_le _⟩ (fun H locs hP hD hS => ?_)
        refine lv_iinc (v := (x2 + (1 : Int32))) (lv' := [(2, .int (x2 + (1 : Int32))), (0, .ref (q 22)), (1, .int x1)]) hx hb dX8_mixPin_113 hl (k := 2) rfl rfl (by decide) rfl (fun ls hl => ?_)
        refine lv_goto (tgt := 97) hx hb dX8_mixPin_116 (by decide) ?_
        exact ih _ _ _ _ _ hP hD hS (lv_sub hl [1, 2, 0] rfl) h
  have hL73 : ∀ (x1 : Int32)  (k : Nat) (M : MS) (x2 : Int32) (H : Heap) (locs : List Loc) (ls : Array Slot), va_P (dC, dI) vwCl (wA cq q S M o) H → va_D A (wA cq q S M o) → va_S A s.heap H locs → lv_has ls 3 [(0, .ref (q 22)), (1, .int x1), (2, .int x2)] → mX8_mixPin_73 n x1 k M x2 = some MM → W p l e rmX8_mixPin s m args below meth c H locs 0 0 Q (F0 m 73 ls []) := by
    intro x1
    intro k
    induction k with
    | zero =>
      intro M x2 H locs ls hP hD hS hl h
      rw [mX8_mixPin_73] at h
      cases h
    | succ k ih =>
      intro M x2 H locs ls hP hD hS hl h
      rw [mX8_mixPin_73] at h
      refine lv_iload_n hx hb dX8_mixPin_73 rfl (lv_at hl 2 rfl) ?_
      refine lv_iconst (v := (4 : Int32)) hx hb dX8_mixPin_74 (by decide) ?_
      refine lv_icmp_ge (tgt := 95) hx hb dX8_mixPin_75 (by decide) (fun c32 => ?_) (fun c32 => ?_)
      · replace h := it c32 h
        refine lv_iconst (v := (0 : Int32)) hx hb dX8_mixPin_95 (by decide) ?_
        refine lv_istore_n (lv' := [(2, .int (0 : Int32)), (0, .ref (q 22)), (1, .int x1)]) hx hb dX8_mixPin_96 rfl hl (by decide) rfl (fun ls hl => ?_)
        exact hL97 _ _ _ _ _ _ _ hP hD hS (lv_sub hl [1, 2, 0] rfl) h
      · replace h := ie c32 h
        refine lv_aload_n hx hb dX8_mixPin_78 rfl (lv_at hl 0 rfl) ?_
        refine lv_aload_n hx hb dX8_mixPin_79 rfl (lv_at hl 0 rfl) ?_
        refine lv_iload_n hx hb dX8_mixPin_80 rfl (lv_at hl 1 rfl) ?_
        refine lv_iload_n hx hb dX8_mixPin_81 rfl (lv_at hl 2 rfl) ?_
        obtain ⟨r43, e44, h⟩ := bo h
        refine caVR_i (As := [.int x1, .int x2]) (rest := [.ref (q 22)]) (ctX8_echoNow l dC dI cq q S M o _ _ _ _ _ e44) F (cwV 2 hts gX8_mixPin_X8_echoNow rfl rfl rfl hdX8_echoNow ⟨Nat.le_of_ble_eq_true rfl, Nat.le_of_ble_eq_true rfl⟩) hK hP hD hDm hS hA (fun _ _ _ _ _ => trivial) (fun _ _ _ => trivial) (va_recv hK hP (ci := 9) (q0 := 22) rfl rfl) rfl hl.1 rfl (Nat.le_of_ble_eq_true rfl) dX8_mixPin_82 ⟨Nat.zero_le _, Nat.zero_le _⟩ (fun H locs hP hD hS => ?_)
        refine lv_i2l hx hb dX8_mixPin_85 rfl ?_
        obtain ⟨M47, e46, h⟩ := bo h
        refine caVM_v (As := [.long r43.toInt64]) (rest := []) (ctX8_mix l dC dI cq q S M o _ _ _ e46) F (cwV 1 hts gX8_mixPin_X8_mix rfl rfl rfl hdX8_mix ⟨Nat.le_of_ble_eq_true rfl, Nat.le_of_ble_eq_true rfl⟩) hK hP hD hDm hS hA (fun _ _ _ _ _ => trivial) (fun _ _ _ => trivial) (va_recv hK hP (ci := 9) (q0 := 22) rfl rfl) rfl hl.1 rfl (Nat.le_of_ble_eq_true rfl) dX8_mixPin_86 ⟨Nat.zero_le _, Nat.zero_le _⟩ (fun H locs hP hD hS => ?_)
        refine lv_iinc (v := (x2 + (1 : Int32))) (lv' := [(2, .int (x2 + (1 : Int32))), (0, .ref (q 22)), (1, .int x1)]) hx hb dX8_mixPin_89 hl (k := 2) rfl rfl (by decide) rfl (fun ls hl => ?_)
        refine lv_goto (tgt := 73) hx hb dX8_mixPin_92 (by decide) ?_
        exact ih _ _ _ _ _ hP hD hS (lv_sub hl [1, 2, 0] rfl) h
  rw [mX8_mixPin] at h
  refine lv_aload_n hx hb dX8_mixPin_0 rfl (lv_at hl 0 rfl) ?_
  refine lv_aload_n hx hb dX8_mixPin_1 rfl (lv_at hl 0 rfl) ?_
  refine va_get (D := (dC, dI)) (ci := 9) (v := .ref (q 23)) (C := RX8) (T := TX8) (N := 29) hx hb hts hinX8 hown hK hP 22 rfl rfl 5 (by decide) (hts (.fieldLink RX8 7 "CableTesterModel" "wires" "[I") (mm 1 rfl)) (fun _ h9 => h9) rfl dX8_mixPin_2 ?_
  refine lv_iload_n hx hb dX8_mixPin_5 rfl (lv_at hl 1 rfl) ?_
  obtain ⟨g1, h⟩ := gd h
  refine va_iald (D := (dC, dI)) hx hb hK hP 23 12 rfl rfl (inb_ok g1) dX8_mixPin_6 ?_
  refine lv_i2l hx hb dX8_mixPin_7 rfl ?_
  obtain ⟨M4, e3, h⟩ := bo h
  refine caVM_v (As := [.long (M.2.1 23 x1.toNatClampNeg).toInt64]) (rest := []) (ctX8_mix l dC dI cq q S M o _ _ _ e3) F (cwV 1 hts gX8_mixPin_X8_mix rfl rfl rfl hdX8_mix ⟨Nat.le_of_ble_eq_true rfl, Nat.le_of_ble_eq_true rfl⟩) hK hP hD hDm hS hA (fun _ _ _ _ _ => trivial) (fun _ _ _ => trivial) (va_recv hK hP (ci := 9) (q0 := 22) rfl rfl) rfl hl.1 rfl (Nat.le_of_ble_eq_true rfl) dX8_mixPin_8 ⟨Nat.zero_le _, Nat.zero_le _⟩ (fun H locs hP hD hS => ?_)
  refine lv_aload_n hx hb dX8_mixPin_11 rfl (lv_at hl 0 rfl) ?_
  refine lv_aload_n hx hb dX8_mixPin_12 rfl (lv_at hl 0 rfl) ?_
  refine va_get (D := (dC, dI)) (ci := 9) (v := .ref (q 23)) (C := RX8) (T := TX8) (N := 29) hx hb hts hinX8 hown hK hP 22 rfl rfl 5 (by decide) (hts (.fieldLink RX8 7 "CableTesterModel" "wires" "[I") (mm 1 rfl)) (fun _ h9 => h9) rfl dX8_mixPin_13 ?_
  refine lv_bipush (v := (8 : Int32)) hx hb dX8_mixPin_16 (by decide) ?_
  refine lv_iload_n hx hb dX8_mixPin_18 rfl (lv_at hl 1 rfl) ?_
  refine lv_iadd hx hb dX8_mixPin_19 ?_
  obtain ⟨g5, h⟩ := gd h
  refine va_iald (D := (dC, dI)) hx hb hK hP 23 12 rfl rfl (inb_ok g5) dX8_mixPin_20 ?_
  refine lv_i2l hx hb dX8_mixPin_21 rfl ?_
  obtain ⟨M8, e7, h⟩ := bo h
  refine caVM_v (As := [.long (M4.2.1 23 ((8 : Int32) + x1).toNatClampNeg).toInt64]) (rest := []) (ctX8_mix l dC dI cq q S M4 o _ _ _ e7) F (cwV 1 hts gX8_mixPin_X8_mix rfl rfl rfl hdX8_mix ⟨Nat.le_of_ble_eq_true rfl, Nat.le_of_ble_eq_true rfl⟩) hK hP hD hDm hS hA (fun _ _ _ _ _ => trivial) (fun _ _ _ => trivial) (va_recv hK hP (ci := 9) (q0 := 22) rfl rfl) rfl hl.1 rfl (Nat.le_of_ble_eq_true rfl) dX8_mixPin_22 ⟨Nat.zero_le _, Nat.zero_le _⟩ (fun H locs hP hD hS => ?_)
  refine lv_aload_n hx hb dX8_mixPin_25 rfl (lv_at hl 0 rfl) ?_
  refine lv_aload_n hx hb dX8_mixPin_26 rfl (lv_at hl 0 rfl) ?_
  refine lv_iconst (v := (0 : Int32)) hx hb dX8_mixPin_27 (by decide) ?_
  refine lv_iload_n hx hb dX8_mixPin_28 rfl (lv_at hl 1 rfl) ?_
  refine lv_iconst (v := (0 : Int32)) hx hb dX8_mixPin_29 (by decide) ?_
  obtain ⟨r9, M11, e10, h⟩ := bp h
  refine caVM_i (As := [.int (0 : Int32), .int x1, .int (0 : Int32)]) (rest := [.ref (q 22)]) (ctX8_joinedNow l dC dI cq q S M8 o _ _ _ _ _ _ _ e10) F (cwV 3 hts gX8_mixPin_X8_joinedNow rfl rfl rfl hdX8_joinedNow ⟨Nat.le_of_ble_eq_true rfl, Nat.le_of_ble_eq_true rfl⟩) hK hP hD hDm hS hA (fun _ _ _ _ _ => trivial) (fun _ _ _ => trivial) (va_recv hK hP (ci := 9) (q0 := 22) rfl rfl) rfl hl.1 rfl (Nat.le_of_ble_eq_true rfl) dX8_mixPin_30 ⟨Nat.zero_le _, Nat.zero_le _⟩ (fun H locs hP hD hS => ?_)
  refine lv_i2l hx hb dX8_mixPin_33 rfl ?_
  obtain ⟨M14, e13, h⟩ := bo h
  refine caVM_v (As := [.long r9.toInt64]) (rest := []) (ctX8_mix l dC dI cq q S M11 o _ _ _ e13) F (cwV 1 hts gX8_mixPin_X8_mix rfl rfl rfl hdX8_mix ⟨Nat.le_of_ble_eq_true rfl, Nat.le_of_ble_eq_true rfl⟩) hK hP hD hDm hS hA (fun _ _ _ _ _ => trivial) (fun _ _ _ => trivial) (va_recv hK hP (ci := 9) (q0 := 22) rfl rfl) rfl hl.1 rfl (Nat.le_of_ble_eq_true rfl) dX8_mixPin_34 ⟨Nat.zero_le _, Nat.zero_le _⟩ (fun H locs hP hD hS => ?_)
  refine lv_aload_n hx hb dX8_mixPin_37 rfl (lv_at hl 0 rfl) ?_
  refine lv_aload_n hx hb dX8_mixPin_38 rfl (lv_at hl 0 rfl) ?_
  refine lv_iconst (v := (0 : Int32)) hx hb dX8_mixPin_39 (by decide) ?_
  refine lv_iload_n hx hb dX8_mixPin_40 rfl (lv_at hl 1 rfl) ?_
  refine lv_iconst (v := (1 : Int32)) hx hb dX8_mixPin_41 (by decide) ?_
  obtain ⟨r15, M17, e16, h⟩ := bp h
  refine caVM_i (As := [.int (0 : Int32), .int x1, .int (1 : Int32)]) (rest := [.ref (q 22)]) (ctX8_joinedNow l dC dI cq q S M14 o _ _ _ _ _ _ _ e16) F (cwV 3 hts gX8_mixPin_X8_joinedNow rfl rfl rfl hdX8_joinedNow ⟨Nat.le_of_ble_eq_true rfl, Nat.le_of_ble_eq_true rfl⟩) hK hP hD hDm hS hA (fun _ _ _ _ _ => trivial) (fun _ _ _ => trivial) (va_recv hK hP (ci := 9) (q0 := 22) rfl rfl) rfl hl.1 rfl (Nat.le_of_ble_eq_true rfl) dX8_mixPin_42 ⟨Nat.zero_le _, Nat.zero_le _⟩ (fun H locs hP hD hS => ?_)
  refine lv_i2l hx hb dX8_mixPin_45 rfl ?_
  obtain ⟨M20, e19, h⟩ := bo h
  refine caVM_v (As := [.long r15.toInt64]) (rest := []) (ctX8_mix l dC dI cq q S M17 o _ _ _ e19) F (cwV 1 hts gX8_mixPin_X8_mix rfl rfl rfl hdX8_mix ⟨Nat.le_of_ble_eq_true rfl, Nat.le_of_ble_eq_true rfl⟩) hK hP hD hDm hS hA (fun _ _ _ _ _ => trivial) (fun _ _ _ => trivial) (va_recv hK hP (ci := 9) (q0 := 22) rfl rfl) rfl hl.1 rfl (Nat.le_of_ble_eq_true rfl) dX8_mixPin_46 ⟨Nat.zero_le _, Nat.zero_le _⟩ (fun H locs hP hD hS => ?_)
  refine lv_aload_n hx hb dX8_mixPin_49 rfl (lv_at hl 0 rfl) ?_
  refine lv_aload_n hx hb dX8_mixPin_50 rfl (lv_at hl 0 rfl) ?_
  refine lv_iconst (v := (1 : Int32)) hx hb dX8_mixPin_51 (by decide) ?_
  refine lv_iload_n hx hb dX8_mixPin_52 rfl (lv_at hl 1 rfl) ?_
  refine lv_iconst (v := (1 : Int32)) hx hb dX8_mixPin_53 (by decide) ?_
  obtain ⟨r21, M23, e22, h⟩ := bp h
  refine caVM_i (As := [.int (1 : Int32), .int x1, .int (1 : Int32)]) (rest := [.ref (q 22)]) (ctX8_joinedNow l dC dI cq q S M20 o _ _ _ _ _ _ _ e22) F (cwV 3 hts gX8_mixPin_X8_joinedNow rfl rfl rfl hdX8_joinedNow ⟨Nat.le_of_ble_eq_true rfl, Nat.le_of_ble_eq_true rfl⟩) hK hP hD hDm hS hA (fun _ _ _ _ _ => trivial) (fun _ _ _ => trivial) (va_recv hK hP (ci := 9) (q0 := 22) rfl rfl) rfl hl.1 rfl (Nat.le_of_ble_eq_true rfl) dX8_mixPin_54 ⟨Nat.zero_le _, Nat.zero_le _⟩ (fun H locs hP hD hS => ?_)
  refine lv_i2l hx hb dX8_mixPin_57 rfl ?_
  obtain ⟨M26, e25, h⟩ := bo h
  refine caVM_v (As := [.long r21.toInt64]) (rest := []) (ctX8_mix l dC dI cq q S M23 o _ _ _ e25) F (cwV 1 hts gX8_mixPin_X8_mix rfl rfl rfl hdX8_mix ⟨Nat.le_of_ble_eq_true rfl, Nat.le_of_ble_eq_true rfl⟩) hK hP hD hDm hS hA (fun _ _ _ _ _ => trivial) (fun _ _ _ => trivial) (va_recv hK hP (ci := 9) (q0 := 22) rfl rfl) rfl hl.1 rfl (Nat.le_of_ble_eq_true rfl) dX8_mixPin_58 ⟨Nat.zero_le _, Nat.zero_le _⟩ (fun H locs hP hD hS => ?_)
  refine lv_aload_n hx hb dX8_mixPin_61 rfl (lv_at hl 0 rfl) ?_
  refine lv_aload_n hx hb dX8_mixPin_62 rfl (lv_at hl 0 rfl) ?_
  refine lv_iload_n hx hb dX8_mixPin_63 rfl (lv_at hl 1 rfl) ?_
  obtain ⟨r27, e28, h⟩ := bo h
  refine caVR_i (As := [.int x1]) (rest := [.ref (q 22)]) (ctX8_statusNow l dC dI cq q S M26 o _ _ _ _ e28) F (cwV 1 hts gX8_mixPin_X8_statusNow rfl rfl rfl hdX8_statusNow ⟨Nat.le_of_ble_eq_true rfl, Nat.le_of_ble_eq_true rfl⟩) hK hP hD hDm hS hA (fun _ _ _ _ _ => trivial) (fun _ _ _ => trivial) (va_recv hK hP (ci := 9) (q0 := 22) rfl rfl) rfl hl.1 rfl (Nat.le_of_ble_eq_true rfl) dX8_mixPin_64 ⟨Nat.zero_le _, Nat.zero_le _⟩ (fun H locs hP hD hS => ?_)
  refine lv_i2l hx hb dX8_mixPin_67 rfl ?_
  obtain ⟨M31, e30, h⟩ := bo h
  refine caVM_v (As := [.long r27.toInt64]) (rest := []) (ctX8_mix l dC dI cq q S M26 o _ _ _ e30) F (cwV 1 hts gX8_mixPin_X8_mix rfl rfl rfl hdX8_mix ⟨Nat.le_of_ble_eq_true rfl, Nat.le_of_ble_eq_true rfl⟩) hK hP hD hDm hS hA (fun _ _ _ _ _ => trivial) (fun _ _ _ => trivial) (va_recv hK hP (ci := 9) (q0 := 22) rfl rfl) rfl hl.1 rfl (Nat.le_of_ble_eq_true rfl) dX8_mixPin_68 ⟨Nat.zero_le _, Nat.zero_le _⟩ (fun H locs hP hD hS => ?_)
  refine lv_iconst (v := (0 : Int32)) hx hb dX8_mixPin_71 (by decide) ?_
  refine lv_istore_n (lv' := [(2, .int (0 : Int32)), (0, .ref (q 22)), (1, .int x1)]) hx hb dX8_mixPin_72 rfl hl (by decide) rfl (fun ls hl => ?_)
  exact hL73 _ _ _ _ _ _ _ hP hD hS (lv_sub hl [1, 2, 0] rfl) h
def mX8_digest_223 (n : Nat)   : Nat → MS → Int32 → Option (Int64 × MS)
  | 0, _, _ => none
  | k + 1, M, x1 => (if (M.1 10) ≤ x1 then (some (M.2.2, M)) else (if inb x1 50 then (bn (mX8_mix M (M.2.1 26 x1.toNatClampNeg).toInt64) fun M49 => (mX8_digest_223 n k M49 (x1 + (1 : Int32)))) else none))
def mX8_digest_106 (n : Nat) (K97 : MS → Int32 → Option (Int64 × MS)) (x1 : Int32) : Nat → MS → Int32 → Option (Int64 × MS)
  | 0, _, _ => none
  | k + 1, M, x2 => (if (4 : Int32) ≤ x2 then (K97 M (x1 + (1 : Int32))) else (bn (mX8_talk n M x1 x2) fun r51 => (bn (mX8_mix M r51.toInt64) fun M55 => (mX8_digest_106 n K97 x1 k M55 (x2 + (1 : Int32))))))
def mX8_digest_97 (n : Nat)   : Nat → MS → Int32 → Option (Int64 × MS)
  | 0, _, _ => none
  | k + 1, M, x1 => (if (4 : Int32) ≤ x1 then (bm (mX8_identified n M) fun r8 M10 => (bn (mX8_mix M10 r8.toInt64) fun M13 => (bn (mX8_suspected n M13) fun r14 => (bn (mX8_mix M13 r14.toInt64) fun M18 => (bn (mX8_mix M18 (M18.1 23).toInt64) fun M21 => (bn (mX8_netShorts n M21) fun r22 => (bn (mX8_mix M21 r22.toInt64) fun M26 => (bn (mX8_mix M26 (M26.1 24).toInt64) fun M29 => (bn (mX8_splits n M29) fun r30 => (bn (mX8_mix M29 r30.toInt64) fun M34 => (bn (mX8_netShorts n M34) fun r35 => (bn (mX8_splits n M34) fun r37 => (bn (mX8_mix M34 ((((M34.1 23) + r35) + (M34.1 24)) + r37).toInt64) fun M41 => (bn (mX8_mix M41 (M41.1 10).toInt64) fun M44 => (mX8_digest_223 n n M44 (0 : Int32)))))))))))))))) else (mX8_digest_106 n (mX8_digest_97 n k) x1 n M (x1 + (1 : Int32))))
def mX8_digest_78 (n : Nat)   : Nat → MS → Int32 → Option (Int64 × MS)
  | 0, _, _ => none
  | k + 1, M, x1 => (if (8 : Int32) ≤ x1 then (mX8_digest_97 n n M (0 : Int32)) else (bn (mX8_mixPin n M x1) fun M58 => (mX8_digest_78 n k M58 (x1 + (1 : Int32)))))
def mX8_digest_38 (n : Nat)   : Nat → MS → Int32 → Option (Int64 × MS)
  | 0, _, _ => none
  | k + 1, M, x1 => (if ((7 : Int32) * (M.1 7)) ≤ x1 then (bn (mX8_findBest n M) fun M5 => (mX8_digest_78 n n M5 (0 : Int32))) else (bn (mX8_faultNow M (x1 / (7 : Int32)) (x1 - x1 / (7 : Int32) * (7 : Int32))) fun r59 => (bn (mX8_mix M r59.toInt64) fun M63 => (mX8_digest_38 n k M63 (x1 + (1 : Int32))))))
def mX8_digest_14 (n : Nat)   : Nat → MS → Int32 → Option (Int64 × MS)
  | 0, _, _ => none
  | k + 1, M, x1 => (if (9 : Int32) ≤ x1 then (mX8_digest_38 n n M (0 : Int32)) else (bm (mX8_counted n M x1) fun r64 M66 => (bn (mX8_mix M66 r64.toInt64) fun M69 => (mX8_digest_14 n k M69 (x1 + (1 : Int32))))))
def mX8_digest (n : Nat) (M : MS)  : Option (Int64 × MS) :=
  (mX8_digest_14 n n (sH (sG M 0 (0 : Int32)) (2011 : Int64)) (0 : Int32))
abbrev rmX8_digest : Room := { frames := 7, cells := 0, slots := 0, locals := 161 }
theorem hdX8_digest : yX8_digest.cls = RX8 ∧ yX8_digest.cls ≠ "java/lang/invoke/MethodHandle" ∧ yX8_digest.cls ≠ "java/lang/invoke/VarHandle" ∧ (parseMethodDescriptor yX8_digest.desc).map (fun d => d.parameters.length) = some 0 := by decide +kernel
set_option maxRecDepth 100000 in
set_option maxHeartbeats 8000000 in
theorem ctX8_digest (l : Launch) (dC : Nat → ClassId) (dI : Nat → Nat → Nat) (cq : Nat → ClassId) (q : Nat → Nat) (S : CS) (M : MS) (o : Nat → Int64) (sz : Nat) (n : Nat)  (rr : Int64) (MM : MS) (h : mX8_digest n M = some (rr, MM)) : CtM_l l yX8_digest wsX8_digest rmX8_digest (fun _ => True) (fun _ => True) dC dI cq q S M o sz [.ref (q 22)] rr MM := by
  refine enM_l (cc := cX8_digest) (maxL := 3) (by decide) rfl (Nat.le_of_ble_eq_true rfl) (fun p e s m args below meth c A Q ls F hA hP hK hD hDm hX hS hl hend => ?_)
  obtain ⟨hx, hb, hml, hown, hts⟩ := id F
  have hown : s.vm.findClass RX8 = some m.cls := hown
  have F : CallFix p m c cX8_digest 3 s args wsX8_digest RX8 := F
  have hl : lv_has ls 3 [(0, .ref (q 22))] := hl
  have hinX8 : ∀ w ∈ u_ws RX8 TX8 29, w ∈ wsX8_digest := fun w h => List.mem_cons_of_mem _ (List.mem_append_right _ h)
  have hL223 : ∀   (k : Nat) (M : MS) (x1 : Int32) (H : Heap) (locs : List Loc) (ls : Array Slot), va_P (dC, dI) vwCl (wA cq q S M o) H → va_D A (wA cq q S M o) → va_S A s.heap H locs → lv_has ls 3 [(0, .ref (q 22)), (1, .int x1)] → mX8_digest_223 n k M x1 = some (rr, MM) → W p l e rmX8_digest s m args below meth c H locs 0 0 Q (F0 m 223 ls []) := by
    intro k
    induction k with
    | zero =>
      intro M x1 H locs ls hP hD hS hl h
      rw [mX8_digest_223] at h
      cases h
    | succ k ih =>
      intro M x1 H locs ls hP hD hS hl h
      rw [mX8_digest_223] at h
      refine lv_iload_n hx hb dX8_digest_223 rfl (lv_at hl 1 rfl) ?_
      refine lv_aload_n hx hb dX8_digest_224 rfl (lv_at hl 0 rfl) ?_
      refine va_get (D := (dC, dI)) (ci := 9) (v := .int (M.1 10)) (C := RX8) (T := TX8) (N := 29) hx hb hts hinX8 hown hK hP 22 rfl rfl 10 (by decide) (hts (.fieldLink RX8 127 "CableTesterModel" "letters" "I") (mm 7 rfl)) (fun _ h9 => h9) rfl dX8_digest_225 ?_
      refine lv_icmp_ge (tgt := 248) hx hb dX8_digest_228 (by decide) (fun c45 => ?_) (fun c45 => ?_)
      · replace h := it c45 h
        refine lv_aload_n hx hb dX8_digest_248 rfl (lv_at hl 0 rfl) ?_
        refine va_get (D := (dC, dI)) (ci := 9) (v := .long M.2.2) (C := RX8) (T := TX8) (N := 29) hx hb hts hinX8 hown hK hP 22 rfl rfl 28 (by decide) (hts (.fieldLink RX8 272 "CableTesterModel" "h" "J") (mm 3 rfl)) (fun _ h9 => h9) rfl dX8_digest_249 ?_
        exact hend _ _ _ _ _ _ h hP hD hS dX8_digest_252
      · replace h := ie c45 h
        refine lv_aload_n hx hb dX8_digest_231 rfl (lv_at hl 0 rfl) ?_
        refine lv_aload_n hx hb dX8_digest_232 rfl (lv_at hl 0 rfl) ?_
        refine va_get (D := (dC, dI)) (ci := 9) (v := .ref (q 26)) (C := RX8) (T := TX8) (N := 29) hx hb hts hinX8 hown hK hP 22 rfl rfl 11 (by decide) (hts (.fieldLink RX8 19 "CableTesterModel" "text" "[I") (mm 8 rfl)) (fun _ h9 => h9) rfl dX8_digest_233 ?_
        refine lv_iload_n hx hb dX8_digest_236 rfl (lv_at hl 1 rfl) ?_
        obtain ⟨g46, h⟩ := gd h
        refine va_iald (D := (dC, dI)) hx hb hK hP 26 15 rfl rfl (inb_ok g46) dX8_digest_237 ?_
        refine lv_i2l hx hb dX8_digest_238 rfl ?_
        obtain ⟨M49, e48, h⟩ := bo h
        refine caVM_v (As := [.long (M.2.1 26 x1.toNatClampNeg).toInt64]) (rest := []) (ctX8_mix l dC dI cq q S M o _ _ _ e48) F (cwV 1 hts gX8_digest_X8_mix rfl rfl rfl hdX8_mix ⟨Nat.le_of_ble_eq_true rfl, Nat.le_of_ble_eq_true rfl⟩) hK hP hD hDm hS hA (fun _ _ _ _ _ => trivial) (fun _ _ _ => trivial) (va_recv hK hP (ci := 9) (q0 := 22) rfl rfl) rfl hl.1 rfl (Nat.le_of_ble_eq_true rfl) dX8_digest_239 ⟨Nat.zero_le _, Nat.zero_le _⟩ (fun H locs hP hD hS => ?_)
        refine lv_iinc (v := (x1 + (1 : Int32))) (lv' := [(1, .int (x1 + (1 : Int32))), (0, .ref (q 22))]) hx hb dX8_digest_242 hl (k := 1) rfl rfl (by decide) rfl (fun ls hl => ?_)
        refine lv_goto (tgt := 223) hx hb dX8_digest_245 (by decide) ?_
        exact ih _ _ _ _ _ hP hD hS (lv_sub hl [1, 0] rfl) h
  have hL106 : ∀ (x1 : Int32) (K97 : MS → Int32 → Option (Int64 × MS)) (hK97 : ∀ (M9 : MS) (y1 : Int32) (H : Heap) (locs : List Loc) (ls : Array Slot), va_P (dC, dI) vwCl (wA cq q S M9 o) H → va_D A (wA cq q S M9 o) → va_S A s.heap H locs → lv_has ls 3 [(0, .ref (q 22)), (1, .int y1)] → K97 M9 y1 = some (rr, MM) → W p l e rmX8_digest s m args below meth c H locs 0 0 Q (F0 m 97 ls [])) (k : Nat) (M : MS) (x2 : Int32) (H : Heap) (locs : List Loc) (ls : Array Slot), va_P (dC, dI) vwCl (wA cq q S M o) H → va_D A (wA cq q S M o) → va_S A s.heap H locs → lv_has ls 3 [(0, .ref (q 22)), (1, .int x1), (2, .int x2)] → mX8_digest_106 n K97 x1 k M x2 = some (rr, MM) → W p l e rmX8_digest s m args below meth c H locs 0 0 Q (F0 m 106 ls []) := by
    intro x1 K97 hK97
    intro k
    induction k with
    | zero =>
      intro M x2 H locs ls hP hD hS hl h
      rw [mX8_digest_106] at h
      cases h
    | succ k ih =>
      intro M x2 H locs ls hP hD hS hl h
      rw [mX8_digest_106] at h
      refine lv_iload_n hx hb dX8_digest_106 rfl (lv_at hl 2 rfl) ?_
      refine lv_iconst (v := (4 : Int32)) hx hb dX8_digest_107 (by decide) ?_
      refine lv_icmp_ge (tgt := 128) hx hb dX8_digest_108 (by decide) (fun c50 => ?_) (fun c50 => ?_)
      · replace h := it c50 h
        refine lv_iinc (v := (x1 + (1 : Int32))) (lv' := [(1, .int (x1 + (1 : Int32))), (0, .ref (q 22)), (2, .int x2)]) hx hb dX8_digest_128 hl (k := 1) rfl rfl (by decide) rfl (fun ls hl => ?_)
        refine lv_goto (tgt := 97) hx hb dX8_digest_131 (by decide) ?_
        exact hK97 _ _ _ _ _ hP hD hS (lv_sub hl [1, 0] rfl) h
      · replace h := ie c50 h
        refine lv_aload_n hx hb dX8_digest_111 rfl (lv_at hl 0 rfl) ?_
        refine lv_aload_n hx hb dX8_digest_112 rfl (lv_at hl 0 rfl) ?_
        refine lv_iload_n hx hb dX8_digest_113 rfl (lv_at hl 1 rfl) ?_
        refine lv_iload_n hx hb dX8_digest_114 rfl (lv_at hl 2 rfl) ?_
        obtain ⟨r51, e52, h⟩ := bo h
        refine caVR_i (As := [.int x1, .int x2]) (rest := [.ref (q 22)]) (ctX8_talk l dC dI cq q S M o _ _ _ _ _ e52) F (cwV 2 hts gX8_digest_X8_talk rfl rfl rfl hdX8_talk ⟨Nat.le_of_ble_eq_true rfl, Nat.le_of_ble_eq_true rfl⟩) hK hP hD hDm hS hA (fun _ _ _ _ _ => trivial) (fun _ _ _ => trivial) (va_recv hK hP (ci := 9) (q0 := 22) rfl rfl) rfl hl.1 rfl (Nat.le_of_ble_eq_true rfl) dX8_digest_115 ⟨Nat.zero_le _, Nat.zero_le _⟩ (fun H locs hP hD hS => ?_)
        refine lv_i2l hx hb dX8_digest_118 rfl ?_
        obtain ⟨M55, e54, h⟩ := bo h
        refine caVM_v (As := [.long r51.toInt64]) (rest := []) (ctX8_mix l dC dI cq q S M o _ _ _ e54) F (cwV 1 hts gX8_digest_X8_mix rfl rfl rfl hdX8_mix ⟨Nat.le_of_ble_eq_true rfl, Nat.le_of_ble_eq_true rfl⟩) hK hP hD hDm hS hA (fun _ _ _ _ _ => trivial) (fun _ _ _ => trivial) (va_recv hK hP (ci := 9) (q0 := 22) rfl rfl) rfl hl.1 rfl (Nat.le_of_ble_eq_true rfl) dX8_digest_119 ⟨Nat.zero_le _, Nat.zero_le _⟩ (fun H locs hP hD hS => ?_)
        refine lv_iinc (v := (x2 + (1 : Int32))) (lv' := [(2, .int (x2 + (1 : Int32))), (0, .ref (q 22)), (1, .int x1)]) hx hb dX8_digest_122 hl (k := 2) rfl rfl (by decide) rfl (fun ls hl => ?_)
        refine lv_goto (tgt := 106) hx hb dX8_digest_125 (by decide) ?_
        exact ih _ _ _ _ _ hP hD hS (lv_sub hl [1, 2, 0] rfl) h
  have hL97 : ∀   (k : Nat) (M : MS) (x1 : Int32) (H : Heap) (locs : List Loc) (ls : Array Slot), va_P (dC, dI) vwCl (wA cq q S M o) H → va_D A (wA cq q S M o) → va_S A s.heap H locs → lv_has ls 3 [(0, .ref (q 22)), (1, .int x1)] → mX8_digest_97 n k M x1 = some (rr, MM) → W p l e rmX8_digest s m args below meth c H locs 0 0 Q (F0 m 97 ls []) := by
    intro k
    induction k with
    | zero =>
      intro M x1 H locs ls hP hD hS hl h
      rw [mX8_digest_97] at h
      cases h
    | succ k ih =>
      intro M x1 H locs ls hP hD hS hl h
      rw [mX8_digest_97] at h
      refine lv_iload_n hx hb dX8_digest_97 rfl (lv_at hl 1 rfl) ?_
      refine lv_iconst (v := (4 : Int32)) hx hb dX8_digest_98 (by decide) ?_
      refine lv_icmp_ge (tgt := 134) hx hb dX8_digest_99 (by decide) (fun c7 => ?_) (fun c7 => ?_)
      · replace h := it c7 h
        refine lv_aload_n hx hb dX8_digest_134 rfl (lv_at hl 0 rfl) ?_
        refine lv_aload_n hx hb dX8_digest_135 rfl (lv_at hl 0 rfl) ?_
        obtain ⟨r8, M10, e9, h⟩ := bp h
        refine caVM_i (As := []) (rest := [.ref (q 22)]) (ctX8_identified l dC dI cq q S M o _ _ _ _ e9) F (cwV 0 hts gX8_digest_X8_identified rfl rfl rfl hdX8_identified ⟨Nat.le_of_ble_eq_true rfl, Nat.le_of_ble_eq_true rfl⟩) hK hP hD hDm hS hA (fun _ _ _ _ _ => trivial) (fun _ _ _ => trivial) (va_recv hK hP (ci := 9) (q0 := 22) rfl rfl) rfl hl.1 rfl (Nat.le_of_ble_eq_true rfl) dX8_digest_136 ⟨Nat.zero_le _, Nat.zero_le _⟩ (fun H locs hP hD hS => ?_)
        refine lv_i2l hx hb dX8_digest_139 rfl ?_
        obtain ⟨M13, e12, h⟩ := bo h
        refine caVM_v (As := [.long r8.toInt64]) (rest := []) (ctX8_mix l dC dI cq q S M10 o _ _ _ e12) F (cwV 1 hts gX8_digest_X8_mix rfl rfl rfl hdX8_mix ⟨Nat.le_of_ble_eq_true rfl, Nat.le_of_ble_eq_true rfl⟩) hK hP hD hDm hS hA (fun _ _ _ _ _ => trivial) (fun _ _ _ => trivial) (va_recv hK hP (ci := 9) (q0 := 22) rfl rfl) rfl hl.1 rfl (Nat.le_of_ble_eq_true rfl) dX8_digest_140 ⟨Nat.zero_le _, Nat.zero_le _⟩ (fun H locs hP hD hS => ?_)
        refine lv_aload_n hx hb dX8_digest_143 rfl (lv_at hl 0 rfl) ?_
        refine lv_aload_n hx hb dX8_digest_144 rfl (lv_at hl 0 rfl) ?_
        obtain ⟨r14, e15, h⟩ := bo h
        refine caVR_i (As := []) (rest := [.ref (q 22)]) (ctX8_suspected l dC dI cq q S M13 o _ _ _ e15) F (cwV 0 hts gX8_digest_X8_suspected rfl rfl rfl hdX8_suspected ⟨Nat.le_of_ble_eq_true rfl, Nat.le_of_ble_eq_true rfl⟩) hK hP hD hDm hS hA (fun _ _ _ _ _ => trivial) (fun _ _ _ => trivial) (va_recv hK hP (ci := 9) (q0 := 22) rfl rfl) rfl hl.1 rfl (Nat.le_of_ble_eq_true rfl) dX8_digest_145 ⟨Nat.zero_le _, Nat.zero_le _⟩ (fun H locs hP hD hS => ?_)
        refine lv_i2l hx hb dX8_digest_148 rfl ?_
        obtain ⟨M18, e17, h⟩ := bo h
        refine caVM_v (As := [.long r14.toInt64]) (rest := []) (ctX8_mix l dC dI cq q S M13 o _ _ _ e17) F (cwV 1 hts gX8_digest_X8_mix rfl rfl rfl hdX8_mix ⟨Nat.le_of_ble_eq_true rfl, Nat.le_of_ble_eq_true rfl⟩) hK hP hD hDm hS hA (fun _ _ _ _ _ => trivial) (fun _ _ _ => trivial) (va_recv hK hP (ci := 9) (q0 := 22) rfl rfl) rfl hl.1 rfl (Nat.le_of_ble_eq_true rfl) dX8_digest_149 ⟨Nat.zero_le _, Nat.zero_le _⟩ (fun H locs hP hD hS => ?_)
        refine lv_aload_n hx hb dX8_digest_152 rfl (lv_at hl 0 rfl) ?_
        refine lv_aload_n hx hb dX8_digest_153 rfl (lv_at hl 0 rfl) ?_
        refine va_get (D := (dC, dI)) (ci := 9) (v := .int (M18.1 23)) (C := RX8) (T := TX8) (N := 29) hx hb hts hinX8 hown hK hP 22 rfl rfl 23 (by decide) (hts (.fieldLink RX8 234 "CableTesterModel" "cuts" "I") (mm 5 rfl)) (fun _ h9 => h9) rfl dX8_digest_154 ?_
        refine lv_i2l hx hb dX8_digest_157 rfl ?_
        obtain ⟨M21, e20, h⟩ := bo h
        refine caVM_v (As := [.long (M18.1 23).toInt64]) (rest := []) (ctX8_mix l dC dI cq q S M18 o _ _ _ e20) F (cwV 1 hts gX8_digest_X8_mix rfl rfl rfl hdX8_mix ⟨Nat.le_of_ble_eq_true rfl, Nat.le_of_ble_eq_true rfl⟩) hK hP hD hDm hS hA (fun _ _ _ _ _ => trivial) (fun _ _ _ => trivial) (va_recv hK hP (ci := 9) (q0 := 22) rfl rfl) rfl hl.1 rfl (Nat.le_of_ble_eq_true rfl) dX8_digest_158 ⟨Nat.zero_le _, Nat.zero_le _⟩ (fun H locs hP hD hS => ?_)
        refine lv_aload_n hx hb dX8_digest_161 rfl (lv_at hl 0 rfl) ?_
        refine lv_aload_n hx hb dX8_digest_162 rfl (lv_at hl 0 rfl) ?_
        obtain ⟨r22, e23, h⟩ := bo h
        refine caVR_i (As := []) (rest := [.ref (q 22)]) (ctX8_netShorts l dC dI cq q S M21 o _ _ _ e23) F (cwV 0 hts gX8_digest_X8_netShorts rfl rfl rfl hdX8_netShorts ⟨Nat.le_of_ble_eq_true rfl, Nat.le_of_ble_eq_true rfl⟩) hK hP hD hDm hS hA (fun _ _ _ _ _ => trivial) (fun _ _ _ => trivial) (va_recv hK hP (ci := 9) (q0 := 22) rfl rfl) rfl hl.1 rfl (Nat.le_of_ble_eq_true rfl) dX8_digest_163 ⟨Nat.zero_le _, Nat.zero_le _⟩ (fun H locs hP hD hS => ?_)
        refine lv_i2l hx hb dX8_digest_166 rfl ?_
        obtain ⟨M26, e25, h⟩ := bo h
        refine caVM_v (As := [.long r22.toInt64]) (rest := []) (ctX8_mix l dC dI cq q S M21 o _ _ _ e25) F (cwV 1 hts gX8_digest_X8_mix rfl rfl rfl hdX8_mix ⟨Nat.le_of_ble_eq_true rfl, Nat.le_of_ble_eq_true rfl⟩) hK hP hD hDm hS hA (fun _ _ _ _ _ => trivial) (fun _ _ _ => trivial) (va_recv hK hP (ci := 9) (q0 := 22) rfl rfl) rfl hl.1 rfl (Nat.le_of_ble_eq_true rfl) dX8_digest_167 ⟨Nat.zero_le _, Nat.zero_le _⟩ (fun H locs hP hD hS => ?_)
        refine lv_aload_n hx hb dX8_digest_170 rfl (lv_at hl 0 rfl) ?_
        refine lv_aload_n hx hb dX8_digest_171 rfl (lv_at hl 0 rfl) ?_
        refine va_get (D := (dC, dI)) (ci := 9) (v := .int (M26.1 24)) (C := RX8) (T := TX8) (N := 29) hx hb hts hinX8 hown hK hP 22 rfl rfl 24 (by decide) (hts (.fieldLink RX8 237 "CableTesterModel" "exchanges" "I") (mm 6 rfl)) (fun _ h9 => h9) rfl dX8_digest_172 ?_
        refine lv_i2l hx hb dX8_digest_175 rfl ?_
        obtain ⟨M29, e28, h⟩ := bo h
        refine caVM_v (As := [.long (M26.1 24).toInt64]) (rest := []) (ctX8_mix l dC dI cq q S M26 o _ _ _ e28) F (cwV 1 hts gX8_digest_X8_mix rfl rfl rfl hdX8_mix ⟨Nat.le_of_ble_eq_true rfl, Nat.le_of_ble_eq_true rfl⟩) hK hP hD hDm hS hA (fun _ _ _ _ _ => trivial) (fun _ _ _ => trivial) (va_recv hK hP (ci := 9) (q0 := 22) rfl rfl) rfl hl.1 rfl (Nat.le_of_ble_eq_true rfl) dX8_digest_176 ⟨Nat.zero_le _, Nat.zero_le _⟩ (fun H locs hP hD hS => ?_)
        refine lv_aload_n hx hb dX8_digest_179 rfl (lv_at hl 0 rfl) ?_
        refine lv_aload_n hx hb dX8_digest_180 rfl (lv_at hl 0 rfl) ?_
        obtain ⟨r30, e31, h⟩ := bo h
        refine caVR_i (As := []) (rest := [.ref (q 22)]) (ctX8_splits l dC dI cq q S M29 o _ _ _ e31) F (cwV 0 hts gX8_digest_X8_splits rfl rfl rfl hdX8_splits ⟨Nat.le_of_ble_eq_true rfl, Nat.le_of_ble_eq_true rfl⟩) hK hP hD hDm hS hA (fun _ _ _ _ _ => trivial) (fun _ _ _ => trivial) (va_recv hK hP (ci := 9) (q0 := 22) rfl rfl) rfl hl.1 rfl (Nat.le_of_ble_eq_true rfl) dX8_digest_181 ⟨Nat.zero_le _, Nat.zero_le _⟩ (fun H locs hP hD hS => ?_)
        refine lv_i2l hx hb dX8_digest_184 rfl ?_
        obtain ⟨M34, e33, h⟩ := bo h
        refine caVM_v (As := [.long r30.toInt64]) (rest := []) (ctX8_mix l dC dI cq q S M29 o _ _ _ e33) F (cwV 1 hts gX8_digest_X8_mix rfl rfl rfl hdX8_mix ⟨Nat.le_of_ble_eq_true rfl, Nat.le_of_ble_eq_true rfl⟩) hK hP hD hDm hS hA (fun _ _ _ _ _ => trivial) (fun _ _ _ => trivial) (va_recv hK hP (ci := 9) (q0 := 22) rfl rfl) rfl hl.1 rfl (Nat.le_of_ble_eq_true rfl) dX8_digest_185 ⟨Nat.zero_le _, Nat.zero_le _⟩ (fun H locs hP hD hS => ?_)
        refine lv_aload_n hx hb dX8_digest_188 rfl (lv_at hl 0 rfl) ?_
        refine lv_aload_n hx hb dX8_digest_189 rfl (lv_at hl 0 rfl) ?_
        refine va_get (D := (dC, dI)) (ci := 9) (v := .int (M34.1 23)) (C := RX8) (T := TX8) (N := 29) hx hb hts hinX8 hown hK hP 22 rfl rfl 23 (by decide) (hts (.fieldLink RX8 234 "CableTesterModel" "cuts" "I") (mm 5 rfl)) (fun _ h9 => h9) rfl dX8_digest_190 ?_
        refine lv_aload_n hx hb dX8_digest_193 rfl (lv_at hl 0 rfl) ?_
        obtain ⟨r35, e36, h⟩ := bo h
        refine caVR_i (As := []) (rest := [.int (M34.1 23), .ref (q 22)]) (ctX8_netShorts l dC dI cq q S M34 o _ _ _ e36) F (cwV 0 hts gX8_digest_X8_netShorts rfl rfl rfl hdX8_netShorts ⟨Nat.le_of_ble_eq_true rfl, Nat.le_of_ble_eq_true rfl⟩) hK hP hD hDm hS hA (fun _ _ _ _ _ => trivial) (fun _ _ _ => trivial) (va_recv hK hP (ci := 9) (q0 := 22) rfl rfl) rfl hl.1 rfl (Nat.le_of_ble_eq_true rfl) dX8_digest_194 ⟨Nat.zero_le _, Nat.zero_le _⟩ (fun H locs hP hD hS => ?_)
        refine lv_iadd hx hb dX8_digest_197 ?_
        refine lv_aload_n hx hb dX8_digest_198 rfl (lv_at hl 0 rfl) ?_
        refine va_get (D := (dC, dI)) (ci := 9) (v := .int (M34.1 24)) (C := RX8) (T := TX8) (N := 29) hx hb hts hinX8 hown hK hP 22 rfl rfl 24 (by decide) (hts (.fieldLink RX8 237 "CableTesterModel" "exchanges" "I") (mm 6 rfl)) (fun _ h9 => h9) rfl dX8_digest_199 ?_
        refine lv_iadd hx hb dX8_digest_202 ?_
        refine lv_aload_n hx hb dX8_digest_203 rfl (lv_at hl 0 rfl) ?_
        obtain ⟨r37, e38, h⟩ := bo h
        refine caVR_i (As := []) (rest := [.int (((M34.1 23) + r35) + (M34.1 24)), .ref (q 22)]) (ctX8_splits l dC dI cq q S M34 o _ _ _ e38) F (cwV 0 hts gX8_digest_X8_splits rfl rfl rfl hdX8_splits ⟨Nat.le_of_ble_eq_true rfl, Nat.le_of_ble_eq_true rfl⟩) hK hP hD hDm hS hA (fun _ _ _ _ _ => trivial) (fun _ _ _ => trivial) (va_recv hK hP (ci := 9) (q0 := 22) rfl rfl) rfl hl.1 rfl (Nat.le_of_ble_eq_true rfl) dX8_digest_204 ⟨Nat.zero_le _, Nat.zero_le _⟩ (fun H locs hP hD hS => ?_)
        refine lv_iadd hx hb dX8_digest_207 ?_
        refine lv_i2l hx hb dX8_digest_208 rfl ?_
        obtain ⟨M41, e40, h⟩ := bo h
        refine caVM_v (As := [.long ((((M34.1 23) + r35) + (M34.1 24)) + r37).toInt64]) (rest := []) (ctX8_mix l dC dI cq q S M34 o _ _ _ e40) F (cwV 1 hts gX8_digest_X8_mix rfl rfl rfl hdX8_mix ⟨Nat.le_of_ble_eq_true rfl, Nat.le_of_ble_eq_true rfl⟩) hK hP hD hDm hS hA (fun _ _ _ _ _ => trivial) (fun _ _ _ => trivial) (va_recv hK hP (ci := 9) (q0 := 22) rfl rfl) rfl hl.1 rfl (Nat.le_of_ble_eq_true rfl) dX8_digest_209 ⟨Nat.zero_le _, Nat.zero_le _⟩ (fun H locs hP hD hS => ?_)
        refine lv_aload_n hx hb dX8_digest_212 rfl (lv_at hl 0 rfl) ?_
        refine lv_aload_n hx hb dX8_digest_213 rfl (lv_at hl 0 rfl) ?_
        refine va_get (D := (dC, dI)) (ci := 9) (v := .int (M41.1 10)) (C := RX8) (T := TX8) (N := 29) hx hb hts hinX8 hown hK hP 22 rfl rfl 10 (by decide) (hts (.fieldLink RX8 127 "CableTesterModel" "letters" "I") (mm 7 rfl)) (fun _ h9 => h9) rfl dX8_digest_214 ?_
        refine lv_i2l hx hb dX8_digest_217 rfl ?_
        obtain ⟨M44, e43, h⟩ := bo h
        refine caVM_v (As := [.long (M41.1 10).toInt64]) (rest := []) (ctX8_mix l dC dI cq q S M41 o _ _ _ e43) F (cwV 1 hts gX8_digest_X8_mix rfl rfl rfl hdX8_mix ⟨Nat.le_of_ble_eq_true rfl, Nat.le_of_ble_eq_true rfl⟩) hK hP hD hDm hS hA (fun _ _ _ _ _ => trivial) (fun _ _ _ => trivial) (va_recv hK hP (ci := 9) (q0 := 22) rfl rfl) rfl hl.1 rfl (Nat.le_of_ble_eq_true rfl) dX8_digest_218 ⟨Nat.zero_le _, Nat.zero_le _⟩ (fun H locs hP hD hS => ?_)
        refine lv_iconst (v := (0 : Int32)) hx hb dX8_digest_221 (by decide) ?_
        refine lv_istore_n (lv' := [(1, .int (0 : Int32)), (0, .ref (q 22))]) hx hb dX8_digest_222 rfl hl (by decide) rfl (fun ls hl => ?_)
        exact hL223 _ _ _ _ _ _ hP hD hS (lv_sub hl [1, 0] rfl) h
      · replace h := ie c7 h
        refine lv_iload_n hx hb dX8_digest_102 rfl (lv_at hl 1 rfl) ?_
        refine lv_iconst (v := (1 : Int32)) hx hb dX8_digest_103 (by decide) ?_
        refine lv_iadd hx hb dX8_digest_104 ?_
        refine lv_istore_n (lv' := [(2, .int (x1 + (1 : Int32))), (0, .ref (q 22)), (1, .int x1)]) hx hb dX8_digest_105 rfl hl (by decide) rfl (fun ls hl => ?_)
        exact hL106 _ _ ih _ _ _ _ _ _ hP hD hS (lv_sub hl [1, 2, 0] rfl) h
  have hL78 : ∀   (k : Nat) (M : MS) (x1 : Int32) (H : Heap) (locs : List Loc) (ls : Array Slot), va_P (dC, dI) vwCl (wA cq q S M o) H → va_D A (wA cq q S M o) → va_S A s.heap H locs → lv_has ls 3 [(0, .ref (q 22)), (1, .int x1)] → mX8_digest_78 n k M x1 = some (rr, MM) → W p l e rmX8_digest s m args below meth c H locs 0 0 Q (F0 m 78 ls []) := by
    intro k
    induction k with
    | zero =>
      intro M x1 H locs ls hP hD hS hl h
      rw [mX8_digest_78] at h
      cases h
    | succ k ih =>
      intro M x1 H locs ls hP hD hS hl h
      rw [mX8_digest_78] at h
      refine lv_iload_n hx hb dX8_digest_78 rfl (lv_at hl 1 rfl) ?_
      refine lv_bipush (v := (8 : Int32)) hx hb dX8_digest_79 (by decide) ?_
      refine lv_icmp_ge (tgt := 95) hx hb dX8_digest_81 (by decide) (fun c6 => ?_) (fun c6 => ?_)
      · replace h := it c6 h
        refine lv_iconst (v := (0 : Int32)) hx hb dX8_digest_95 (by decide) ?_
        refine lv_istore_n (lv' := [(1, .int (0 : Int32)), (0, .ref (q 22))]) hx hb dX8_digest_96 rfl hl (by decide) rfl (fun ls hl => ?_)
        exact hL97 _ _ _ _ _ _ hP hD hS (lv_sub hl [1, 0] rfl) h
      · replace h := ie c6 h
        refine lv_aload_n hx hb dX8_digest_84 rfl (lv_at hl 0 rfl) ?_
        refine lv_iload_n hx hb dX8_digest_85 rfl (lv_at hl 1 rfl) ?_
        obtain ⟨M58, e57, h⟩ := bo h
        refine caVM_v (As := [.int x1]) (rest := []) (ctX8_mixPin l dC dI cq q S M o _ _ _ _ e57) F (cwV 1 hts gX8_digest_X8_mixPin rfl rfl rfl hdX8_mixPin ⟨Nat.le_of_ble_eq_true rfl, Nat.le_of_ble_eq_true rfl⟩) hK hP hD hDm hS hA (fun _ _ _ _ _ => trivial) (fun _ _ _ => trivial) (va_recv hK hP (ci := 9) (q0 := 22) rfl rfl) rfl hl.1 rfl (Nat.le_of_ble_eq_true rfl) dX8_digest_86 ⟨Nat.zero_le _, Nat.zero_le _⟩ (fun H locs hP hD hS => ?_)
        refine lv_iinc (v := (x1 + (1 : Int32))) (lv' := [(1, .int (x1 + (1 : Int32))), (0, .ref (q 22))]) hx hb dX8_digest_89 hl (k := 1) rfl rfl (by decide) rfl (fun ls hl => ?_)
        refine lv_goto (tgt := 78) hx hb dX8_digest_92 (by decide) ?_
        exact ih _ _ _ _ _ hP hD hS (lv_sub hl [1, 0] rfl) h
  have hL38 : ∀   (k : Nat) (M : MS) (x1 : Int32) (H : Heap) (locs : List Loc) (ls : Array Slot), va_P (dC, dI) vwCl (wA cq q S M o) H → va_D A (wA cq q S M o) → va_S A s.heap H locs → lv_has ls 3 [(0, .ref (q 22)), (1, .int x1)] → mX8_digest_38 n k M x1 = some (rr, MM) → W p l e rmX8_digest s m args below meth c H locs 0 0 Q (F0 m 38 ls []) := by
    intro k
    induction k with
    | zero =>
      intro M x1 H locs ls hP hD hS hl h
      rw [mX8_digest_38] at h
      cases h
    | succ k ih =>
      intro M x1 H locs ls hP hD hS hl h
      rw [mX8_digest_38] at h
      refine lv_iload_n hx hb dX8_digest_38 rfl (lv_at hl 1 rfl) ?_
      refine lv_bipush (v := (7 : Int32)) hx hb dX8_digest_39 (by decide) ?_
      refine lv_aload_n hx hb dX8_digest_41 rfl (lv_at hl 0 rfl) ?_
      refine va_get (D := (dC, dI)) (ci := 9) (v := .int (M.1 7)) (C := RX8) (T := TX8) (N := 29) hx hb hts hinX8 hown hK hP 22 rfl rfl 7 (by decide) (hts (.fieldLink RX8 64 "CableTesterModel" "many" "I") (mm 4 rfl)) (fun _ h9 => h9) rfl dX8_digest_42 ?_
      refine lv_imul hx hb dX8_digest_45 ?_
      refine lv_icmp_ge (tgt := 72) hx hb dX8_digest_46 (by decide) (fun c2 => ?_) (fun c2 => ?_)
      · replace h := it c2 h
        refine lv_aload_n hx hb dX8_digest_72 rfl (lv_at hl 0 rfl) ?_
        obtain ⟨M5, e4, h⟩ := bo h
        refine caVM_v (As := []) (rest := []) (ctX8_findBest l dC dI cq q S M o _ _ _ e4) F (cwV 0 hts gX8_digest_X8_findBest rfl rfl rfl hdX8_findBest ⟨Nat.le_of_ble_eq_true rfl, Nat.le_of_ble_eq_true rfl⟩) hK hP hD hDm hS hA (fun _ _ _ _ _ => trivial) (fun _ _ _ => trivial) (va_recv hK hP (ci := 9) (q0 := 22) rfl rfl) rfl hl.1 rfl (Nat.le_of_ble_eq_true rfl) dX8_digest_73 ⟨Nat.zero_le _, Nat.zero_le _⟩ (fun H locs hP hD hS => ?_)
        refine lv_iconst (v := (0 : Int32)) hx hb dX8_digest_76 (by decide) ?_
        refine lv_istore_n (lv' := [(1, .int (0 : Int32)), (0, .ref (q 22))]) hx hb dX8_digest_77 rfl hl (by decide) rfl (fun ls hl => ?_)
        exact hL78 _ _ _ _ _ _ hP hD hS (lv_sub hl [1, 0] rfl) h
      · replace h := ie c2 h
        refine lv_aload_n hx hb dX8_digest_49 rfl (lv_at hl 0 rfl) ?_
        refine lv_aload_n hx hb dX8_digest_50 rfl (lv_at hl 0 rfl) ?_
        refine lv_iload_n hx hb dX8_digest_51 rfl (lv_at hl 1 rfl) ?_
        refine lv_bipush (v := (7 : Int32)) hx hb dX8_digest_52 (by decide) ?_
        refine lv_idiv hx hb dX8_digest_54 (by decide) ?_
        refine lv_iload_n hx hb dX8_digest_55 rfl (lv_at hl 1 rfl) ?_
        refine lv_bipush (v := (7 : Int32)) hx hb dX8_digest_56 (by decide) ?_
        refine lv_irem hx hb dX8_digest_58 (by decide) ?_
        obtain ⟨r59, e60, h⟩ := bo h
        refine caVR_i (As := [.int (x1 / (7 : Int32)), .int (x1 - x1 / (7 : Int32) * (7 : Int32))]) (rest := [.ref (q 22)]) (ctX8_faultNow l dC dI cq q S M o _ _ _ _ e60) F (cwV 2 hts gX8_digest_X8_faultNow rfl rfl rfl hdX8_faultNow ⟨Nat.le_of_ble_eq_true rfl, Nat.le_of_ble_eq_true rfl⟩) hK hP hD hDm hS hA (fun _ _ _ _ _ => trivial) (fun _ _ _ => trivial) (va_recv hK hP (ci := 9) (q0 := 22) rfl rfl) rfl hl.1 rfl (Nat.le_of_ble_eq_true rfl) dX8_digest_59 ⟨Nat.zero_le _, Nat.zero_le _⟩ (fun H locs hP hD hS => ?_)
        refine lv_i2l hx hb dX8_digest_62 rfl ?_
        obtain ⟨M63, e62, h⟩ := bo h
        refine caVM_v (As := [.long r59.toInt64]) (rest := []) (ctX8_mix l dC dI cq q S M o _ _ _ e62) F (cwV 1 hts gX8_digest_X8_mix rfl rfl rfl hdX8_mix ⟨Nat.le_of_ble_eq_true rfl, Nat.le_of_ble_eq_true rfl⟩) hK hP hD hDm hS hA (fun _ _ _ _ _ => trivial) (fun _ _ _ => trivial) (va_recv hK hP (ci := 9) (q0 := 22) rfl rfl) rfl hl.1 rfl (Nat.le_of_ble_eq_true rfl) dX8_digest_63 ⟨Nat.zero_le _, Nat.zero_le _⟩ (fun H locs hP hD hS => ?_)
        refine lv_iinc (v := (x1 + (1 : Int32))) (lv' := [(1, .int (x1 + (1 : Int32))), (0, .ref (q 22))]) hx hb dX8_digest_66 hl (k := 1) rfl rfl (by decide) rfl (fun ls hl => ?_)
        refine lv_goto (tgt := 38) hx hb dX8_digest_69 (by decide) ?_
        exact ih _ _ _ _ _ hP hD hS (lv_sub hl [1, 0] rfl) h
  have hL14 : ∀   (k : Nat) (M : MS) (x1 : Int32) (H : Heap) (locs : List Loc) (ls : Array Slot), va_P (dC, dI) vwCl (wA cq q S M o) H → va_D A (wA cq q S M o) → va_S A s.heap H locs → lv_has ls 3 [(0, .ref (q 22)), (1, .int x1)] → mX8_digest_14 n k M x1 = some (rr, MM) → W p l e rmX8_digest s m args below meth c H locs 0 0 Q (F0 m 14 ls []) := by
    intro k
    induction k with
    | zero =>
      intro M x1 H locs ls hP hD hS hl h
      rw [mX8_digest_14] at h
      cases h
    | succ k ih =>
      intro M x1 H locs ls hP hD hS hl h
      rw [mX8_digest_14] at h
      refine lv_iload_n hx hb dX8_digest_14 rfl (lv_at hl 1 rfl) ?_
      refine lv_bipush (v := (9 : Int32)) hx hb dX8_digest_15 (by decide) ?_
      refine lv_icmp_ge (tgt := 36) hx hb dX8_digest_17 (by decide) (fun c1 => ?_) (fun c1 => ?_)
      · replace h := it c1 h
        refine lv_iconst (v := (0 : Int32)) hx hb dX8_digest_36 (by decide) ?_
        refine lv_istore_n (lv' := [(1, .int (0 : Int32)), (0, .ref (q 22))]) hx hb dX8_digest_37 rfl hl (by decide) rfl (fun ls hl => ?_)
        exact hL38 _ _ _ _ _ _ hP hD hS (lv_sub hl [1, 0] rfl) h
      · replace h := ie c1 h
        refine lv_aload_n hx hb dX8_digest_20 rfl (lv_at hl 0 rfl) ?_
        refine lv_aload_n hx hb dX8_digest_21 rfl (lv_at hl 0 rfl) ?_
        refine lv_iload_n hx hb dX8_digest_22 rfl (lv_at hl 1 rfl) ?_
        obtain ⟨r64, M66, e65, h⟩ := bp h
        refine caVM_i (As := [.int x1]) (rest := [.ref (q 22)]) (ctX8_counted l dC dI cq q S M o _ _ _ _ _ e65) F (cwV 1 hts gX8_digest_X8_counted rfl rfl rfl hdX8_counted ⟨Nat.le_of_ble_eq_true rfl, Nat.le_of_ble_eq_true rfl⟩) hK hP hD hDm hS hA (fun _ _ _ _ _ => trivial) (fun _ _ _ => trivial) (va_recv hK hP (ci := 9) (q0 := 22) rfl rfl) rfl hl.1 rfl (Nat.le_of_ble_eq_true rfl) dX8_digest_23 ⟨Nat.zero_le _, Nat.zero_le _⟩ (fun H locs hP hD hS => ?_)
        refine lv_i2l hx hb dX8_digest_26 rfl ?_
        obtain ⟨M69, e68, h⟩ := bo h
        refine caVM_v (As := [.long r64.toInt64]) (rest := []) (ctX8_mix l dC dI cq q S M66 o _ _ _ e68) F (cwV 1 hts gX8_digest_X8_mix rfl rfl rfl hdX8_mix ⟨Nat.le_of_ble_eq_true rfl, Nat.le_of_ble_eq_true rfl⟩) hK hP hD hDm hS hA (fun _ _ _ _ _ => trivial) (fun _ _ _ => trivial) (va_recv hK hP (ci := 9) (q0 := 22) rfl rfl) rfl hl.1 rfl (Nat.le_of_ble_eq_true rfl) dX8_digest_27 ⟨Nat.zero_le _, Nat.zero_le _⟩ (fun H locs hP hD hS => ?_)
        refine lv_iinc (v := (x1 + (1 : Int32))) (lv' := [(1, .int (x1 + (1 : Int32))), (0, .ref (q 22))]) hx hb dX8_digest_30 hl (k := 1) rfl rfl (by decide) rfl (fun ls hl => ?_)
        refine lv_goto (tgt := 14) hx hb dX8_digest_33 (by decide) ?_
        exact ih _ _ _ _ _ hP hD hS (lv_sub hl [1, 0] rfl) h
  rw [mX8_digest] at h
  refine lv_aload_n hx hb dX8_digest_0 rfl (lv_at hl 0 rfl) ?_
  refine lv_iconst (v := (0 : Int32)) hx hb dX8_digest_1 (by decide) ?_
  refine pt_22_0 F hinX8 (hts (.fieldLink RX8 44 "CableTesterModel" "thrown" "I") (mm 1 rfl)) hK hP hD hS dX8_digest_2 (fun H locs hP hD hS => ?_)
  refine lv_aload_n hx hb dX8_digest_5 rfl (lv_at hl 0 rfl) ?_
  refine lv_ldc2 hx hb hown (hts (.constantLong RX8 280 (2011)) (mm 2 rfl)) dX8_digest_6 ?_
  refine pt_22_28 F hinX8 (hts (.fieldLink RX8 272 "CableTesterModel" "h" "J") (mm 3 rfl)) hK hP hD hS dX8_digest_9 (fun H locs hP hD hS => ?_)
  refine lv_iconst (v := (0 : Int32)) hx hb dX8_digest_12 (by decide) ?_
  refine lv_istore_n (lv' := [(1, .int (0 : Int32)), (0, .ref (q 22))]) hx hb dX8_digest_13 rfl hl (by decide) rfl (fun ls hl => ?_)
  exact hL14 _ _ _ _ _ _ hP hD hS (lv_sub hl [1, 0] rfl) h
