def mX1_cuts_31 (n : Nat) (K4 : Int32 → Int32 → Option (Int32)) (S : CS) (x1 : Int32) (x2 : Int32)  : Option (Int32) :=
  (K4 x1 (x2 + (1 : Int32)))
def mX1_cuts_4 (n : Nat)  (S : CS)  : Nat → Int32 → Int32 → Option (Int32)
  | 0, _, _ => none
  | k + 1, x1, x2 => (if (8 : Int32) ≤ x2 then (some x1) else (if inb x2 8 then (if inb x2 8 then (if (((S.2.1 14 x2.toNatClampNeg) >>> ((S.2.1 17 x2.toNatClampNeg) &&& 31)) &&& (1 : Int32)) = (0 : Int32) then (mX1_cuts_31 n (mX1_cuts_4 n S k) S (x1 + (1 : Int32)) x2) else (mX1_cuts_31 n (mX1_cuts_4 n S k) S x1 x2)) else none) else none))
def mX1_cuts (n : Nat) (S : CS)  : Option (Int32) :=
  (mX1_cuts_4 n S n (0 : Int32) (0 : Int32))
abbrev rmX1_cuts : Room := { frames := 0, cells := 0, slots := 0, locals := 0 }
theorem hdX1_cuts : yX1_cuts.cls = RX1 ∧ yX1_cuts.cls ≠ "java/lang/invoke/MethodHandle" ∧ yX1_cuts.cls ≠ "java/lang/invoke/VarHandle" ∧ (parseMethodDescriptor yX1_cuts.desc).map (fun d => d.parameters.length) = some 0 := by decide +kernel
set_option maxRecDepth 100000 in
set_option maxHeartbeats 8000000 in
theorem ctX1_cuts (l : Launch) (dC : Nat → ClassId) (dI : Nat → Nat → Nat) (cq : Nat → ClassId) (q : Nat → Nat) (S : CS) (M : MS) (o : Nat → Int64) (sz : Nat) (h0 : Nat) (n : Nat)  (rr : Int32) (h : mX1_cuts n S = some rr) : CtR_i l yX1_cuts wsX1_cuts rmX1_cuts (fun a => h0 ≤ a) (EV h0 q) dC dI cq q S M o sz [.ref (q 13)] rr := by
  refine enR_i (cc := cX1_cuts) (maxL := 3) (by decide) rfl (Nat.le_of_ble_eq_true rfl) (fun p e s m args below meth c A Q ls F hA hP hK hD hDm hX hS hl hend => ?_)
  obtain ⟨hx, hb, hml, hown, hts⟩ := id F
  have hown : s.vm.findClass RX1 = some m.cls := hown
  have F : CallFix p m c cX1_cuts 3 s args wsX1_cuts RX1 := F
  have hl : lv_has ls 3 [(0, .ref (q 13))] := hl
  have hinX1 : ∀ w ∈ u_ws RX1 TX1 5, w ∈ wsX1_cuts := fun w h => List.mem_cons_of_mem _ (List.mem_append_right _ h)
  have hj31 : ∀  (x1 : Int32) (x2 : Int32)   (K4 : Int32 → Int32 → Option (Int32)) (hK4 : ∀ (y1 : Int32) (y2 : Int32) (H : Heap) (locs : List Loc) (ls : Array Slot), va_P (dC, dI) vwCl (wA cq q S M o) H → va_D A (wA cq q S M o) → va_S A s.heap H locs → lv_has ls 3 [(0, .ref (q 13)), (1, .int y1), (2, .int y2)] → K4 y1 y2 = some rr → W p l e rmX1_cuts s m args below meth c H locs 0 0 Q (F0 m 4 ls [])) (H : Heap) (locs : List Loc) (ls : Array Slot), va_P (dC, dI) vwCl (wA cq q S M o) H → va_D A (wA cq q S M o) → va_S A s.heap H locs → lv_has ls 3 [(0, .ref (q 13)), (1, .int x1), (2, .int x2)] → mX1_cuts_31 n K4 S x1 x2 = some rr → W p l e rmX1_cuts s m args below meth c H locs 0 0 Q (F0 m 31 ls []) := by
    intro x1 x2 K4 hK4 H locs ls hP hD hS hl h
    rw [mX1_cuts_31] at h
    refine lv_iinc (v := (x2 + (1 : Int32))) (lv' := [(2, .int (x2 + (1 : Int32))), (0, .ref (q 13)), (1, .int x1)]) hx hb dX1_cuts_31 hl (k := 2) rfl rfl (by decide) rfl (fun ls hl => ?_)
    refine lv_goto (tgt := 4) hx hb dX1_cuts_34 (by decide) ?_
    exact hK4 _ _ _ _ _ hP hD hS (lv_sub hl [1, 2, 0] rfl) h
  have hL4 : ∀   (k : Nat)  (x1 : Int32) (x2 : Int32) (H : Heap) (locs : List Loc) (ls : Array Slot), va_P (dC, dI) vwCl (wA cq q S M o) H → va_D A (wA cq q S M o) → va_S A s.heap H locs → lv_has ls 3 [(0, .ref (q 13)), (1, .int x1), (2, .int x2)] → mX1_cuts_4 n S k x1 x2 = some rr → W p l e rmX1_cuts s m args below meth c H locs 0 0 Q (F0 m 4 ls []) := by
    intro k
    induction k with
    | zero =>
      intro x1 x2 H locs ls hP hD hS hl h
      rw [mX1_cuts_4] at h
      cases h
    | succ k ih =>
      intro x1 x2 H locs ls hP hD hS hl h
      rw [mX1_cuts_4] at h
      refine lv_iload_n hx hb dX1_cuts_4 rfl (lv_at hl 2 rfl) ?_
      refine lv_bipush (v := (8 : Int32)) hx hb dX1_cuts_5 (by decide) ?_
      refine lv_icmp_ge (tgt := 37) hx hb dX1_cuts_7 (by decide) (fun c1 => ?_) (fun c1 => ?_)
      · replace h := it c1 h
        refine lv_iload_n hx hb dX1_cuts_37 rfl (lv_at hl 1 rfl) ?_
        exact hend _ _ _ _ _ h hP hD hS dX1_cuts_38
      · replace h := ie c1 h
        refine lv_aload_n hx hb dX1_cuts_10 rfl (lv_at hl 0 rfl) ?_
        refine va_get (D := (dC, dI)) (ci := 2) (v := .ref (q 14)) (C := RX1) (T := TX1) (N := 5) hx hb hts hinX1 hown hK hP 13 rfl rfl 0 (by decide) (hts (.fieldLink RX1 9 "CableTester$Explainer" "uncut" "[I") (mm 1 rfl)) (fun _ h9 => h9) rfl dX1_cuts_11 ?_
        refine lv_iload_n hx hb dX1_cuts_14 rfl (lv_at hl 2 rfl) ?_
        obtain ⟨g2, h⟩ := gd h
        refine va_iald (D := (dC, dI)) hx hb hK hP 14 7 rfl rfl (inb_ok g2) dX1_cuts_15 ?_
        refine lv_aload_n hx hb dX1_cuts_16 rfl (lv_at hl 0 rfl) ?_
        refine va_get (D := (dC, dI)) (ci := 2) (v := .ref (q 17)) (C := RX1) (T := TX1) (N := 5) hx hb hts hinX1 hown hK hP 13 rfl rfl 3 (by decide) (hts (.fieldLink RX1 21 "CableTester$Explainer" "best" "[I") (mm 2 rfl)) (fun _ h9 => h9) rfl dX1_cuts_17 ?_
        refine lv_iload_n hx hb dX1_cuts_20 rfl (lv_at hl 2 rfl) ?_
        obtain ⟨g3, h⟩ := gd h
        refine va_iald (D := (dC, dI)) hx hb hK hP 17 10 rfl rfl (inb_ok g3) dX1_cuts_21 ?_
        refine lv_ishr hx hb dX1_cuts_22 ?_
        refine lv_iconst (v := (1 : Int32)) hx hb dX1_cuts_23 (by decide) ?_
        refine lv_iand hx hb dX1_cuts_24 ?_
        refine lv_if_ne (tgt := 31) hx hb dX1_cuts_25 (by decide) (fun c4 => ?_) (fun c4 => ?_)
        · replace h := ie c4 h
          exact hj31 _ _ _ ih _ _ _ hP hD hS (lv_sub hl [0, 1, 2] rfl) h
        · replace h := it c4 h
          refine lv_iinc (v := (x1 + (1 : Int32))) (lv' := [(1, .int (x1 + (1 : Int32))), (0, .ref (q 13)), (2, .int x2)]) hx hb dX1_cuts_28 hl (k := 1) rfl rfl (by decide) rfl (fun ls hl => ?_)
          exact hj31 _ _ _ ih _ _ _ hP hD hS (lv_sub hl [1, 0, 2] rfl) h
  rw [mX1_cuts] at h
  refine lv_iconst (v := (0 : Int32)) hx hb dX1_cuts_0 (by decide) ?_
  refine lv_istore_n (lv' := [(1, .int (0 : Int32)), (0, .ref (q 13))]) hx hb dX1_cuts_1 rfl hl (by decide) rfl (fun ls hl => ?_)
  refine lv_iconst (v := (0 : Int32)) hx hb dX1_cuts_2 (by decide) ?_
  refine lv_istore_n (lv' := [(2, .int (0 : Int32)), (1, .int (0 : Int32)), (0, .ref (q 13))]) hx hb dX1_cuts_3 rfl hl (by decide) rfl (fun ls hl => ?_)
  exact hL4 _ _ _ _ _ _ hP hD hS (lv_sub hl [2, 1, 0] rfl) h
def mX1_exchanges (S : CS)  : Option (Int32) :=
  (some ((8 : Int32) - (S.1 8)))
abbrev rmX1_exchanges : Room := { frames := 0, cells := 0, slots := 0, locals := 0 }
theorem hdX1_exchanges : yX1_exchanges.cls = RX1 ∧ yX1_exchanges.cls ≠ "java/lang/invoke/MethodHandle" ∧ yX1_exchanges.cls ≠ "java/lang/invoke/VarHandle" ∧ (parseMethodDescriptor yX1_exchanges.desc).map (fun d => d.parameters.length) = some 0 := by decide +kernel
set_option maxRecDepth 100000 in
set_option maxHeartbeats 8000000 in
theorem ctX1_exchanges (l : Launch) (dC : Nat → ClassId) (dI : Nat → Nat → Nat) (cq : Nat → ClassId) (q : Nat → Nat) (S : CS) (M : MS) (o : Nat → Int64) (sz : Nat) (h0 : Nat)  (rr : Int32) (h : mX1_exchanges S = some rr) : CtR_i l yX1_exchanges wsX1_exchanges rmX1_exchanges (fun a => h0 ≤ a) (EV h0 q) dC dI cq q S M o sz [.ref (q 13)] rr := by
  refine enR_i (cc := cX1_exchanges) (maxL := 1) (by decide) rfl (Nat.le_of_ble_eq_true rfl) (fun p e s m args below meth c A Q ls F hA hP hK hD hDm hX hS hl hend => ?_)
  obtain ⟨hx, hb, hml, hown, hts⟩ := id F
  have hown : s.vm.findClass RX1 = some m.cls := hown
  have F : CallFix p m c cX1_exchanges 1 s args wsX1_exchanges RX1 := F
  have hl : lv_has ls 1 [(0, .ref (q 13))] := hl
  have hinX1 : ∀ w ∈ u_ws RX1 TX1 5, w ∈ wsX1_exchanges := fun w h => List.mem_cons_of_mem _ (List.mem_append_right _ h)
  rw [mX1_exchanges] at h
  refine lv_bipush (v := (8 : Int32)) hx hb dX1_exchanges_0 (by decide) ?_
  refine lv_aload_n hx hb dX1_exchanges_2 rfl (lv_at hl 0 rfl) ?_
  refine va_get (D := (dC, dI)) (ci := 2) (v := .int (S.1 8)) (C := RX1) (T := TX1) (N := 5) hx hb hts hinX1 hown hK hP 13 rfl rfl 4 (by decide) (hts (.fieldLink RX1 28 "CableTester$Explainer" "bestCycles" "I") (mm 1 rfl)) (fun _ h9 => h9) rfl dX1_exchanges_3 ?_
  refine lv_isub hx hb dX1_exchanges_6 ?_
  exact hend _ _ _ _ _ h hP hD hS dX1_exchanges_7
def mX1_farPinFor (S : CS) (x1 : Int32) : Option (Int32) :=
  (if x1 < (0 : Int32) then (some (-1 : Int32)) else (if (8 : Int32) ≤ x1 then (some (-1 : Int32)) else (if inb x1 8 then (some (S.2.1 17 x1.toNatClampNeg)) else none)))
abbrev rmX1_farPinFor : Room := { frames := 0, cells := 0, slots := 0, locals := 0 }
theorem hdX1_farPinFor : yX1_farPinFor.cls = RX1 ∧ yX1_farPinFor.cls ≠ "java/lang/invoke/MethodHandle" ∧ yX1_farPinFor.cls ≠ "java/lang/invoke/VarHandle" ∧ (parseMethodDescriptor yX1_farPinFor.desc).map (fun d => d.parameters.length) = some 1 := by decide +kernel
set_option maxRecDepth 100000 in
set_option maxHeartbeats 8000000 in
theorem ctX1_farPinFor (l : Launch) (dC : Nat → ClassId) (dI : Nat → Nat → Nat) (cq : Nat → ClassId) (q : Nat → Nat) (S : CS) (M : MS) (o : Nat → Int64) (sz : Nat) (h0 : Nat) (x1 : Int32) (rr : Int32) (h : mX1_farPinFor S x1 = some rr) : CtR_i l yX1_farPinFor wsX1_farPinFor rmX1_farPinFor (fun a => h0 ≤ a) (EV h0 q) dC dI cq q S M o sz [.ref (q 13), .int x1] rr := by
  refine enR_i (cc := cX1_farPinFor) (maxL := 2) (by decide) rfl (Nat.le_of_ble_eq_true rfl) (fun p e s m args below meth c A Q ls F hA hP hK hD hDm hX hS hl hend => ?_)
  obtain ⟨hx, hb, hml, hown, hts⟩ := id F
  have hown : s.vm.findClass RX1 = some m.cls := hown
  have F : CallFix p m c cX1_farPinFor 2 s args wsX1_farPinFor RX1 := F
  have hl : lv_has ls 2 [(0, .ref (q 13)), (1, .int x1)] := hl
  have hinX1 : ∀ w ∈ u_ws RX1 TX1 5, w ∈ wsX1_farPinFor := fun w h => List.mem_cons_of_mem _ (List.mem_append_right _ h)
  rw [mX1_farPinFor] at h
  refine lv_iload_n hx hb dX1_farPinFor_0 rfl (lv_at hl 1 rfl) ?_
  refine lv_if_lt (tgt := 22) hx hb dX1_farPinFor_1 (by decide) (fun c1 => ?_) (fun c1 => ?_)
  · replace h := it c1 h
    refine lv_iconst (v := (-1 : Int32)) hx hb dX1_farPinFor_22 (by decide) ?_
    exact hend _ _ _ _ _ h hP hD hS dX1_farPinFor_23
  · replace h := ie c1 h
    refine lv_iload_n hx hb dX1_farPinFor_4 rfl (lv_at hl 1 rfl) ?_
    refine lv_aload_n hx hb dX1_farPinFor_5 rfl (lv_at hl 0 rfl) ?_
    refine va_get (D := (dC, dI)) (ci := 2) (v := .ref (q 17)) (C := RX1) (T := TX1) (N := 5) hx hb hts hinX1 hown hK hP 13 rfl rfl 3 (by decide) (hts (.fieldLink RX1 21 "CableTester$Explainer" "best" "[I") (mm 1 rfl)) (fun _ h9 => h9) rfl dX1_farPinFor_6 ?_
    refine va_alen (D := (dC, dI)) hx hb hK hP 17 10 rfl rfl (v := (8 : Int32)) rfl dX1_farPinFor_9 ?_
    refine lv_icmp_ge (tgt := 22) hx hb dX1_farPinFor_10 (by decide) (fun c2 => ?_) (fun c2 => ?_)
    · replace h := it c2 h
      refine lv_iconst (v := (-1 : Int32)) hx hb dX1_farPinFor_22 (by decide) ?_
      exact hend _ _ _ _ _ h hP hD hS dX1_farPinFor_23
    · replace h := ie c2 h
      refine lv_aload_n hx hb dX1_farPinFor_13 rfl (lv_at hl 0 rfl) ?_
      refine va_get (D := (dC, dI)) (ci := 2) (v := .ref (q 17)) (C := RX1) (T := TX1) (N := 5) hx hb hts hinX1 hown hK hP 13 rfl rfl 3 (by decide) (hts (.fieldLink RX1 21 "CableTester$Explainer" "best" "[I") (mm 1 rfl)) (fun _ h9 => h9) rfl dX1_farPinFor_14 ?_
      refine lv_iload_n hx hb dX1_farPinFor_17 rfl (lv_at hl 1 rfl) ?_
      obtain ⟨g3, h⟩ := gd h
      refine va_iald (D := (dC, dI)) hx hb hK hP 17 10 rfl rfl (inb_ok g3) dX1_farPinFor_18 ?_
      refine lv_goto (tgt := 23) hx hb dX1_farPinFor_19 (by decide) ?_
      exact hend _ _ _ _ _ h hP hD hS dX1_farPinFor_23
def mX4_forget_7 (n : Nat)   : Nat → CS → Int32 → Option (CS)
  | 0, _, _ => none
  | k + 1, S, x1 => (if (8 : Int32) ≤ x1 then (some S) else (if inb x1 8 then (mX4_forget_7 n k (sL S x1.toNatClampNeg (0 : Int64)) (x1 + (1 : Int32))) else none))
def mX4_forget (n : Nat) (S : CS)  : Option (CS) :=
  (mX4_forget_7 n n (sF S 9 (0 : Int32)) (0 : Int32))
abbrev rmX4_forget : Room := { frames := 0, cells := 0, slots := 0, locals := 0 }
theorem hdX4_forget : yX4_forget.cls = RX4 ∧ yX4_forget.cls ≠ "java/lang/invoke/MethodHandle" ∧ yX4_forget.cls ≠ "java/lang/invoke/VarHandle" ∧ (parseMethodDescriptor yX4_forget.desc).map (fun d => d.parameters.length) = some 0 := by decide +kernel
set_option maxRecDepth 100000 in
set_option maxHeartbeats 8000000 in
theorem ctX4_forget (l : Launch) (dC : Nat → ClassId) (dI : Nat → Nat → Nat) (cq : Nat → ClassId) (q : Nat → Nat) (S : CS) (M : MS) (o : Nat → Int64) (sz : Nat) (h0 : Nat) (n : Nat)  (SS : CS) (h : mX4_forget n S = some SS) : CtC_v l yX4_forget wsX4_forget rmX4_forget (fun a => h0 ≤ a) (EV h0 q) dC dI cq q S M o sz [.ref (q 18)] SS := by
  refine enC_v (cc := cX4_forget) (maxL := 2) (by decide) rfl (Nat.le_of_ble_eq_true rfl) (fun p e s m args below meth c A Q ls F hA hP hK hD hDm hX hS hl hend => ?_)
  obtain ⟨hx, hb, hml, hown, hts⟩ := id F
  have hown : s.vm.findClass RX4 = some m.cls := hown
  have F : CallFix p m c cX4_forget 2 s args wsX4_forget RX4 := F
  have hl : lv_has ls 2 [(0, .ref (q 18))] := hl
  have hinX4 : ∀ w ∈ u_ws RX4 TX4 2, w ∈ wsX4_forget := fun w h => List.mem_cons_of_mem _ (List.mem_append_right _ h)
  have hL7 : ∀   (k : Nat) (S : CS) (x1 : Int32) (H : Heap) (locs : List Loc) (ls : Array Slot), va_P (dC, dI) vwCl (wA cq q S M o) H → va_D A (wA cq q S M o) → va_S A s.heap H locs → lv_has ls 2 [(0, .ref (q 18)), (1, .int x1)] → mX4_forget_7 n k S x1 = some SS → W p l e rmX4_forget s m args below meth c H locs 0 0 Q (F0 m 7 ls []) := by
    intro k
    induction k with
    | zero =>
      intro S x1 H locs ls hP hD hS hl h
      rw [mX4_forget_7] at h
      cases h
    | succ k ih =>
      intro S x1 H locs ls hP hD hS hl h
      rw [mX4_forget_7] at h
      refine lv_iload_n hx hb dX4_forget_7 rfl (lv_at hl 1 rfl) ?_
      refine lv_aload_n hx hb dX4_forget_8 rfl (lv_at hl 0 rfl) ?_
      refine va_get (D := (dC, dI)) (ci := 5) (v := .ref (q 19)) (C := RX4) (T := TX4) (N := 2) hx hb hts hinX4 hown hK hP 18 rfl rfl 0 (by decide) (hts (.fieldLink RX4 9 "CableTester$History" "wrong" "[J") (mm 2 rfl)) (fun _ h9 => h9) rfl dX4_forget_9 ?_
      refine va_alen (D := (dC, dI)) hx hb hK hP 19 22 rfl rfl (v := (8 : Int32)) rfl dX4_forget_12 ?_
      refine lv_icmp_ge (tgt := 29) hx hb dX4_forget_13 (by decide) (fun c1 => ?_) (fun c1 => ?_)
      · replace h := it c1 h
        exact hend _ _ _ _ _ h hP hD hS dX4_forget_29
      · replace h := ie c1 h
        refine lv_aload_n hx hb dX4_forget_16 rfl (lv_at hl 0 rfl) ?_
        refine va_get (D := (dC, dI)) (ci := 5) (v := .ref (q 19)) (C := RX4) (T := TX4) (N := 2) hx hb hts hinX4 hown hK hP 18 rfl rfl 0 (by decide) (hts (.fieldLink RX4 9 "CableTester$History" "wrong" "[J") (mm 2 rfl)) (fun _ h9 => h9) rfl dX4_forget_17 ?_
        refine lv_iload_n hx hb dX4_forget_20 rfl (lv_at hl 1 rfl) ?_
        refine lv_lconst (v := (0 : Int64)) hx hb dX4_forget_21 (by decide) ?_
        obtain ⟨g2, h⟩ := gd h
        refine as_19 F hK hP hD hS (inb_ok g2) dX4_forget_22 (fun H locs hP hD hS => ?_)
        refine lv_iinc (v := (x1 + (1 : Int32))) (lv' := [(1, .int (x1 + (1 : Int32))), (0, .ref (q 18))]) hx hb dX4_forget_23 hl (k := 1) rfl rfl (by decide) rfl (fun ls hl => ?_)
        refine lv_goto (tgt := 7) hx hb dX4_forget_26 (by decide) ?_
        exact ih _ _ _ _ _ hP hD hS (lv_sub hl [1, 0] rfl) h
  rw [mX4_forget] at h
  refine lv_aload_n hx hb dX4_forget_0 rfl (lv_at hl 0 rfl) ?_
  refine lv_iconst (v := (0 : Int32)) hx hb dX4_forget_1 (by decide) ?_
  refine pt_18_1 F hinX4 (hts (.fieldLink RX4 15 "CableTester$History" "kept" "I") (mm 1 rfl)) hK hP hD hS dX4_forget_2 (fun H locs hP hD hS => ?_)
  refine lv_iconst (v := (0 : Int32)) hx hb dX4_forget_5 (by decide) ?_
  refine lv_istore_n (lv' := [(1, .int (0 : Int32)), (0, .ref (q 18))]) hx hb dX4_forget_6 rfl hl (by decide) rfl (fun ls hl => ?_)
  exact hL7 _ _ _ _ _ _ hP hD hS (lv_sub hl [1, 0] rfl) h
def mX4_note_2 (n : Nat)  (x1 : Int32) : Nat → CS → Int32 → Option (CS)
  | 0, _, _ => none
  | k + 1, S, x2 => (if (8 : Int32) ≤ x2 then (some (sF S 9 (if (64 : Int32) < ((S.1 9) + (1 : Int32)) then (64 : Int32) else ((S.1 9) + (1 : Int32))))) else (if inb x2 8 then (if inb x2 8 then (mX4_note_2 n x1 k (sL S x2.toNatClampNeg (((S.2.2.1 x2.toNatClampNeg) <<< ((1 : Int32).toInt64 &&& 63)) ||| ((x1 >>> (x2 &&& 31)) &&& (1 : Int32)).toInt64)) (x2 + (1 : Int32))) else none) else none))
def mX4_note (n : Nat) (S : CS) (x1 : Int32) : Option (CS) :=
  (mX4_note_2 n x1 n S (0 : Int32))
abbrev rmX4_note : Room := { frames := 1, cells := 0, slots := 0, locals := 40 }
theorem hdX4_note : yX4_note.cls = RX4 ∧ yX4_note.cls ≠ "java/lang/invoke/MethodHandle" ∧ yX4_note.cls ≠ "java/lang/invoke/VarHandle" ∧ (parseMethodDescriptor yX4_note.desc).map (fun d => d.parameters.length) = some 1 := by decide +kernel
set_option maxRecDepth 100000 in
set_option maxHeartbeats 8000000 in
theorem ctX4_note (l : Launch) (dC : Nat → ClassId) (dI : Nat → Nat → Nat) (cq : Nat → ClassId) (q : Nat → Nat) (S : CS) (M : MS) (o : Nat → Int64) (sz : Nat) (h0 : Nat) (n : Nat) (x1 : Int32) (SS : CS) (h : mX4_note n S x1 = some SS) : CtC_v l yX4_note wsX4_note rmX4_note (fun a => h0 ≤ a) (EV h0 q) dC dI cq q S M o sz [.ref (q 18), .int x1] SS := by
  refine enC_v (cc := cX4_note) (maxL := 3) (by decide) rfl (Nat.le_of_ble_eq_true rfl) (fun p e s m args below meth c A Q ls F hA hP hK hD hDm hX hS hl hend => ?_)
  obtain ⟨hx, hb, hml, hown, hts⟩ := id F
  have hown : s.vm.findClass RX4 = some m.cls := hown
  have F : CallFix p m c cX4_note 3 s args wsX4_note RX4 := F
  have hl : lv_has ls 3 [(0, .ref (q 18)), (1, .int x1)] := hl
  have hinX4 : ∀ w ∈ u_ws RX4 TX4 2, w ∈ wsX4_note := fun w h => List.mem_cons_of_mem _ (List.mem_append_right _ h)
  have hL2 : ∀ (x1 : Int32)  (k : Nat) (S : CS) (x2 : Int32) (H : Heap) (locs : List Loc) (ls : Array Slot), va_P (dC, dI) vwCl (wA cq q S M o) H → va_D A (wA cq q S M o) → va_S A s.heap H locs → lv_has ls 3 [(0, .ref (q 18)), (1, .int x1), (2, .int x2)] → mX4_note_2 n x1 k S x2 = some SS → W p l e rmX4_note s m args below meth c H locs 0 0 Q (F0 m 2 ls []) := by
    intro x1
    intro k
    induction k with
    | zero =>
      intro S x2 H locs ls hP hD hS hl h
      rw [mX4_note_2] at h
      cases h
    | succ k ih =>
      intro S x2 H locs ls hP hD hS hl h
      rw [mX4_note_2] at h
      refine lv_iload_n hx hb dX4_note_2 rfl (lv_at hl 2 rfl) ?_
      refine lv_aload_n hx hb dX4_note_3 rfl (lv_at hl 0 rfl) ?_
      refine va_get (D := (dC, dI)) (ci := 5) (v := .ref (q 19)) (C := RX4) (T := TX4) (N := 2) hx hb hts hinX4 hown hK hP 18 rfl rfl 0 (by decide) (hts (.fieldLink RX4 9 "CableTester$History" "wrong" "[J") (mm 1 rfl)) (fun _ h9 => h9) rfl dX4_note_4 ?_
      refine va_alen (D := (dC, dI)) hx hb hK hP 19 22 rfl rfl (v := (8 : Int32)) rfl dX4_note_7 ?_
      refine lv_icmp_ge (tgt := 38) hx hb dX4_note_8 (by decide) (fun c1 => ?_) (fun c1 => ?_)
      · replace h := it c1 h
        refine lv_aload_n hx hb dX4_note_38 rfl (lv_at hl 0 rfl) ?_
        refine lv_aload_n hx hb dX4_note_39 rfl (lv_at hl 0 rfl) ?_
        refine va_get (D := (dC, dI)) (ci := 5) (v := .int (S.1 9)) (C := RX4) (T := TX4) (N := 2) hx hb hts hinX4 hown hK hP 18 rfl rfl 1 (by decide) (hts (.fieldLink RX4 15 "CableTester$History" "kept" "I") (mm 2 rfl)) (fun _ h9 => h9) rfl dX4_note_40 ?_
        refine lv_iconst (v := (1 : Int32)) hx hb dX4_note_43 (by decide) ?_
        refine lv_iadd hx hb dX4_note_44 ?_
        refine lv_bipush (v := (64 : Int32)) hx hb dX4_note_45 (by decide) ?_
        refine va_mmin hx hb (hml.trans hl.1.symm) hown (hts (.methodLink RX4 19 Lib.Math.min.name) (mm 3 rfl)) (hts (.static Lib.Math.min.name) (mm 4 rfl)) (hts (.initialized "java/lang/Math") (mm 5 rfl)) (hts (.code Lib.Math.min.name Lib.Math.min.code 2 (some .int)) (mm 6 rfl)) (Nat.le_of_ble_eq_true rfl) (Nat.le_of_ble_eq_true rfl) (Nat.zero_le _) (Nat.zero_le _) dX4_note_47 ?_
        refine pt_18_1 F hinX4 (hts (.fieldLink RX4 15 "CableTester$History" "kept" "I") (mm 2 rfl)) hK hP hD hS dX4_note_50 (fun H locs hP hD hS => ?_)
        exact hend _ _ _ _ _ h hP hD hS dX4_note_53
      · replace h := ie c1 h
        refine lv_aload_n hx hb dX4_note_11 rfl (lv_at hl 0 rfl) ?_
        refine va_get (D := (dC, dI)) (ci := 5) (v := .ref (q 19)) (C := RX4) (T := TX4) (N := 2) hx hb hts hinX4 hown hK hP 18 rfl rfl 0 (by decide) (hts (.fieldLink RX4 9 "CableTester$History" "wrong" "[J") (mm 1 rfl)) (fun _ h9 => h9) rfl dX4_note_12 ?_
        refine lv_iload_n hx hb dX4_note_15 rfl (lv_at hl 2 rfl) ?_
        refine lv_aload_n hx hb dX4_note_16 rfl (lv_at hl 0 rfl) ?_
        refine va_get (D := (dC, dI)) (ci := 5) (v := .ref (q 19)) (C := RX4) (T := TX4) (N := 2) hx hb hts hinX4 hown hK hP 18 rfl rfl 0 (by decide) (hts (.fieldLink RX4 9 "CableTester$History" "wrong" "[J") (mm 1 rfl)) (fun _ h9 => h9) rfl dX4_note_17 ?_
        refine lv_iload_n hx hb dX4_note_20 rfl (lv_at hl 2 rfl) ?_
        obtain ⟨g2, h⟩ := gd h
        refine va_lald (D := (dC, dI)) hx hb hK hP 19 22 rfl rfl (inb_ok g2) dX4_note_21 ?_
        refine lv_iconst (v := (1 : Int32)) hx hb dX4_note_22 (by decide) ?_
        refine lv_lshl hx hb dX4_note_23 rfl ?_
        refine lv_iload_n hx hb dX4_note_24 rfl (lv_at hl 1 rfl) ?_
        refine lv_iload_n hx hb dX4_note_25 rfl (lv_at hl 2 rfl) ?_
        refine lv_ishr hx hb dX4_note_26 ?_
        refine lv_iconst (v := (1 : Int32)) hx hb dX4_note_27 (by decide) ?_
        refine lv_iand hx hb dX4_note_28 ?_
        refine lv_i2l hx hb dX4_note_29 rfl ?_
        refine lv_lor hx hb dX4_note_30 ?_
        obtain ⟨g3, h⟩ := gd h
        refine as_19 F hK hP hD hS (inb_ok g3) dX4_note_31 (fun H locs hP hD hS => ?_)
        refine lv_iinc (v := (x2 + (1 : Int32))) (lv' := [(2, .int (x2 + (1 : Int32))), (0, .ref (q 18)), (1, .int x1)]) hx hb dX4_note_32 hl (k := 2) rfl rfl (by decide) rfl (fun ls hl => ?_)
        refine lv_goto (tgt := 2) hx hb dX4_note_35 (by decide) ?_
        exact ih _ _ _ _ _ hP hD hS (lv_sub hl [1, 2, 0] rfl) h
  rw [mX4_note] at h
  refine lv_iconst (v := (0 : Int32)) hx hb dX4_note_0 (by decide) ?_
  refine lv_istore_n (lv' := [(2, .int (0 : Int32)), (0, .ref (q 18)), (1, .int x1)]) hx hb dX4_note_1 rfl hl (by decide) rfl (fun ls hl => ?_)
  exact hL2 _ _ _ _ _ _ _ hP hD hS (lv_sub hl [1, 2, 0] rfl) h
def mX4_bitsOf_22  (S : CS)   : Option (Int64) :=
  (some (0 : Int64))
def mX4_bitsOf (S : CS) (x1 : Int32) : Option (Int64) :=
  (if x1 < (0 : Int32) then (mX4_bitsOf_22 S) else (if (8 : Int32) ≤ x1 then (mX4_bitsOf_22 S) else (if inb x1 8 then (some (S.2.2.1 x1.toNatClampNeg)) else none)))
abbrev rmX4_bitsOf : Room := { frames := 0, cells := 0, slots := 0, locals := 0 }
theorem hdX4_bitsOf : yX4_bitsOf.cls = RX4 ∧ yX4_bitsOf.cls ≠ "java/lang/invoke/MethodHandle" ∧ yX4_bitsOf.cls ≠ "java/lang/invoke/VarHandle" ∧ (parseMethodDescriptor yX4_bitsOf.desc).map (fun d => d.parameters.length) = some 1 := by decide +kernel
set_option maxRecDepth 100000 in
set_option maxHeartbeats 8000000 in
theorem ctX4_bitsOf (l : Launch) (dC : Nat → ClassId) (dI : Nat → Nat → Nat) (cq : Nat → ClassId) (q : Nat → Nat) (S : CS) (M : MS) (o : Nat → Int64) (sz : Nat) (h0 : Nat) (x1 : Int32) (rr : Int64) (h : mX4_bitsOf S x1 = some rr) : CtR_l l yX4_bitsOf wsX4_bitsOf rmX4_bitsOf (fun a => h0 ≤ a) (EV h0 q) dC dI cq q S M o sz [.ref (q 18), .int x1] rr := by
  refine enR_l (cc := cX4_bitsOf) (maxL := 2) (by decide) rfl (Nat.le_of_ble_eq_true rfl) (fun p e s m args below meth c A Q ls F hA hP hK hD hDm hX hS hl hend => ?_)
  obtain ⟨hx, hb, hml, hown, hts⟩ := id F
  have hown : s.vm.findClass RX4 = some m.cls := hown
  have F : CallFix p m c cX4_bitsOf 2 s args wsX4_bitsOf RX4 := F
  have hl : lv_has ls 2 [(0, .ref (q 18)), (1, .int x1)] := hl
  have hinX4 : ∀ w ∈ u_ws RX4 TX4 2, w ∈ wsX4_bitsOf := fun w h => List.mem_cons_of_mem _ (List.mem_append_right _ h)
  have hj22 : ∀      (H : Heap) (locs : List Loc) (ls : Array Slot), va_P (dC, dI) vwCl (wA cq q S M o) H → va_D A (wA cq q S M o) → va_S A s.heap H locs → lv_has ls 2 [] → mX4_bitsOf_22 S = some rr → W p l e rmX4_bitsOf s m args below meth c H locs 0 0 Q (F0 m 22 ls []) := by
    intro  H locs ls hP hD hS hl h
    rw [mX4_bitsOf_22] at h
    refine lv_lconst (v := (0 : Int64)) hx hb dX4_bitsOf_22 (by decide) ?_
    exact hend _ _ _ _ _ h hP hD hS dX4_bitsOf_23
  rw [mX4_bitsOf] at h
  refine lv_iload_n hx hb dX4_bitsOf_0 rfl (lv_at hl 1 rfl) ?_
  refine lv_if_lt (tgt := 22) hx hb dX4_bitsOf_1 (by decide) (fun c1 => ?_) (fun c1 => ?_)
  · replace h := it c1 h
    exact hj22 _ _ _ hP hD hS (lv_sub hl [] rfl) h
  · replace h := ie c1 h
    refine lv_iload_n hx hb dX4_bitsOf_4 rfl (lv_at hl 1 rfl) ?_
    refine lv_aload_n hx hb dX4_bitsOf_5 rfl (lv_at hl 0 rfl) ?_
    refine va_get (D := (dC, dI)) (ci := 5) (v := .ref (q 19)) (C := RX4) (T := TX4) (N := 2) hx hb hts hinX4 hown hK hP 18 rfl rfl 0 (by decide) (hts (.fieldLink RX4 9 "CableTester$History" "wrong" "[J") (mm 1 rfl)) (fun _ h9 => h9) rfl dX4_bitsOf_6 ?_
    refine va_alen (D := (dC, dI)) hx hb hK hP 19 22 rfl rfl (v := (8 : Int32)) rfl dX4_bitsOf_9 ?_
    refine lv_icmp_ge (tgt := 22) hx hb dX4_bitsOf_10 (by decide) (fun c2 => ?_) (fun c2 => ?_)
    · replace h := it c2 h
      exact hj22 _ _ _ hP hD hS (lv_sub hl [] rfl) h
    · replace h := ie c2 h
      refine lv_aload_n hx hb dX4_bitsOf_13 rfl (lv_at hl 0 rfl) ?_
      refine va_get (D := (dC, dI)) (ci := 5) (v := .ref (q 19)) (C := RX4) (T := TX4) (N := 2) hx hb hts hinX4 hown hK hP 18 rfl rfl 0 (by decide) (hts (.fieldLink RX4 9 "CableTester$History" "wrong" "[J") (mm 1 rfl)) (fun _ h9 => h9) rfl dX4_bitsOf_14 ?_
      refine lv_iload_n hx hb dX4_bitsOf_17 rfl (lv_at hl 1 rfl) ?_
      obtain ⟨g3, h⟩ := gd h
      refine va_lald (D := (dC, dI)) hx hb hK hP 19 22 rfl rfl (inb_ok g3) dX4_bitsOf_18 ?_
      refine lv_goto (tgt := 23) hx hb dX4_bitsOf_19 (by decide) ?_
      exact hend _ _ _ _ _ h hP hD hS dX4_bitsOf_23
def mX4_timesWrong (S : CS) (x1 : Int32) : Option (Int32) :=
  (bn (mX4_bitsOf S x1) fun r1 => (bn (mJ13_bitCount_95d88 r1) fun r3 => (some r3)))
abbrev rmX4_timesWrong : Room := { frames := 1, cells := 0, slots := 0, locals := 21 }
theorem hdX4_timesWrong : yX4_timesWrong.cls = RX4 ∧ yX4_timesWrong.cls ≠ "java/lang/invoke/MethodHandle" ∧ yX4_timesWrong.cls ≠ "java/lang/invoke/VarHandle" ∧ (parseMethodDescriptor yX4_timesWrong.desc).map (fun d => d.parameters.length) = some 1 := by decide +kernel
set_option maxRecDepth 100000 in
set_option maxHeartbeats 8000000 in
theorem ctX4_timesWrong (l : Launch) (dC : Nat → ClassId) (dI : Nat → Nat → Nat) (cq : Nat → ClassId) (q : Nat → Nat) (S : CS) (M : MS) (o : Nat → Int64) (sz : Nat) (h0 : Nat) (x1 : Int32) (rr : Int32) (h : mX4_timesWrong S x1 = some rr) : CtR_i l yX4_timesWrong wsX4_timesWrong rmX4_timesWrong (fun a => h0 ≤ a) (EV h0 q) dC dI cq q S M o sz [.ref (q 18), .int x1] rr := by
  refine enR_i (cc := cX4_timesWrong) (maxL := 2) (by decide) rfl (Nat.le_of_ble_eq_true rfl) (fun p e s m args below meth c A Q ls F hA hP hK hD hDm hX hS hl hend => ?_)
  obtain ⟨hx, hb, hml, hown, hts⟩ := id F
  have hown : s.vm.findClass RX4 = some m.cls := hown
  have F : CallFix p m c cX4_timesWrong 2 s args wsX4_timesWrong RX4 := F
  have hl : lv_has ls 2 [(0, .ref (q 18)), (1, .int x1)] := hl
  rw [mX4_timesWrong] at h
  refine lv_aload_n hx hb dX4_timesWrong_0 rfl (lv_at hl 0 rfl) ?_
  refine lv_iload_n hx hb dX4_timesWrong_1 rfl (lv_at hl 1 rfl) ?_
  obtain ⟨r1, e2, h⟩ := bo h
  refine caVR_l (As := [.int x1]) (rest := []) (ctX4_bitsOf l dC dI cq q S M o _ _ _ _ e2) F (cwV 1 hts gX4_timesWrong_X4_bitsOf rfl rfl rfl hdX4_bitsOf ⟨Nat.le_of_ble_eq_true rfl, Nat.le_of_ble_eq_true rfl⟩) hK hP hD hDm hS hA EV.blind (fun U hU hW => EV.call hX hS hDm hU hW) (va_recv hK hP (ci := 5) (q0 := 18) rfl rfl) rfl hl.1 rfl (Nat.le_of_ble_eq_true rfl) dX4_timesWrong_2 ⟨Nat.zero_le _, Nat.zero_le _⟩ (fun H locs hP hD hS => ?_)
  obtain ⟨r3, e4, h⟩ := bo h
  refine caSR_i (As := [.long r1]) (rest := []) (ctJ13_bitCount_95d88 l dC dI cq q S M o _ _ _ _ e4) F (va_cwS 1 hts gX4_timesWrong_J13_bitCount_95d88 rfl rfl rfl hdJ13_bitCount_95d88 ⟨Nat.le_of_ble_eq_true rfl, Nat.le_of_ble_eq_true rfl⟩) hK hP hD hDm hS hA EV.blind (fun U hU hW => EV.call hX hS hDm hU hW) rfl hl.1 rfl (Nat.le_of_ble_eq_true rfl) dX4_timesWrong_5 ⟨Nat.zero_le _, Nat.zero_le _⟩ (fun H locs hP hD hS => ?_)
  exact hend _ _ _ _ _ h hP hD hS dX4_timesWrong_8
def mX4_longestWrongRow_12 (n : Nat)  (S : CS)  : Nat → Int64 → Int32 → Int32 → Option (Int32)
  | 0, _, _, _ => none
  | k + 1, x2, x4, x5 => (if (64 : Int32) ≤ x5 then (some x4) else (if (lg_cmp x2 (0 : Int64)) = (0 : Int32) then (some x4) else (mX4_longestWrongRow_12 n S k (x2 &&& (x2 <<< ((1 : Int32).toInt64 &&& 63))) (x4 + (1 : Int32)) (x5 + (1 : Int32)))))
def mX4_longestWrongRow (n : Nat) (S : CS) (x1 : Int32) : Option (Int32) :=
  (bn (mX4_bitsOf S x1) fun r1 => (mX4_longestWrongRow_12 n S n r1 (0 : Int32) (0 : Int32)))
abbrev rmX4_longestWrongRow : Room := { frames := 1, cells := 0, slots := 0, locals := 21 }
theorem hdX4_longestWrongRow : yX4_longestWrongRow.cls = RX4 ∧ yX4_longestWrongRow.cls ≠ "java/lang/invoke/MethodHandle" ∧ yX4_longestWrongRow.cls ≠ "java/lang/invoke/VarHandle" ∧ (parseMethodDescriptor yX4_longestWrongRow.desc).map (fun d => d.parameters.length) = some 1 := by decide +kernel
set_option maxRecDepth 100000 in
set_option maxHeartbeats 8000000 in
theorem ctX4_longestWrongRow (l : Launch) (dC : Nat → ClassId) (dI : Nat → Nat → Nat) (cq : Nat → ClassId) (q : Nat → Nat) (S : CS) (M : MS) (o : Nat → Int64) (sz : Nat) (h0 : Nat) (n : Nat) (x1 : Int32) (rr : Int32) (h : mX4_longestWrongRow n S x1 = some rr) : CtR_i l yX4_longestWrongRow wsX4_longestWrongRow rmX4_longestWrongRow (fun a => h0 ≤ a) (EV h0 q) dC dI cq q S M o sz [.ref (q 18), .int x1] rr := by
  refine enR_i (cc := cX4_longestWrongRow) (maxL := 6) (by decide) rfl (Nat.le_of_ble_eq_true rfl) (fun p e s m args below meth c A Q ls F hA hP hK hD hDm hX hS hl hend => ?_)
  obtain ⟨hx, hb, hml, hown, hts⟩ := id F
  have hown : s.vm.findClass RX4 = some m.cls := hown
  have F : CallFix p m c cX4_longestWrongRow 6 s args wsX4_longestWrongRow RX4 := F
  have hl : lv_has ls 6 [(0, .ref (q 18)), (1, .int x1)] := hl
  have hL12 : ∀   (k : Nat)  (x2 : Int64) (x4 : Int32) (x5 : Int32) (H : Heap) (locs : List Loc) (ls : Array Slot), va_P (dC, dI) vwCl (wA cq q S M o) H → va_D A (wA cq q S M o) → va_S A s.heap H locs → lv_has ls 6 [(2, .long x2), (4, .int x4), (5, .int x5)] → mX4_longestWrongRow_12 n S k x2 x4 x5 = some rr → W p l e rmX4_longestWrongRow s m args below meth c H locs 0 0 Q (F0 m 12 ls []) := by
    intro k
    induction k with
    | zero =>
      intro x2 x4 x5 H locs ls hP hD hS hl h
      rw [mX4_longestWrongRow_12] at h
      cases h
    | succ k ih =>
      intro x2 x4 x5 H locs ls hP hD hS hl h
      rw [mX4_longestWrongRow_12] at h
      refine lv_iload hx hb dX4_longestWrongRow_12 (lv_at hl 2 rfl) ?_
      refine lv_bipush (v := (64 : Int32)) hx hb dX4_longestWrongRow_14 (by decide) ?_
      refine lv_icmp_ge (tgt := 40) hx hb dX4_longestWrongRow_16 (by decide) (fun c3 => ?_) (fun c3 => ?_)
      · replace h := it c3 h
        refine lv_iload hx hb dX4_longestWrongRow_40 (lv_at hl 1 rfl) ?_
        exact hend _ _ _ _ _ h hP hD hS dX4_longestWrongRow_42
      · replace h := ie c3 h
        refine lv_lload_n hx hb dX4_longestWrongRow_19 rfl (lv_at hl 0 rfl) ?_
        refine lv_lconst (v := (0 : Int64)) hx hb dX4_longestWrongRow_20 (by decide) ?_
        refine W.lcmp hx hb dX4_longestWrongRow_21 ?_
        refine lv_if_eq (tgt := 40) hx hb dX4_longestWrongRow_22 (by decide) (fun c4 => ?_) (fun c4 => ?_)
        · replace h := it c4 h
          refine lv_iload hx hb dX4_longestWrongRow_40 (lv_at hl 1 rfl) ?_
          exact hend _ _ _ _ _ h hP hD hS dX4_longestWrongRow_42
        · replace h := ie c4 h
          refine lv_lload_n hx hb dX4_longestWrongRow_25 rfl (lv_at hl 0 rfl) ?_
          refine lv_lload_n hx hb dX4_longestWrongRow_26 rfl (lv_at hl 0 rfl) ?_
          refine lv_iconst (v := (1 : Int32)) hx hb dX4_longestWrongRow_27 (by decide) ?_
          refine lv_lshl hx hb dX4_longestWrongRow_28 rfl ?_
          refine lv_land hx hb dX4_longestWrongRow_29 ?_
          refine lv_lstore_n (lv' := [(2, .long (x2 &&& (x2 <<< ((1 : Int32).toInt64 &&& 63)))), (4, .int x4), (5, .int x5)]) hx hb dX4_longestWrongRow_30 rfl hl (by decide) rfl (fun ls hl => ?_)
          refine lv_iinc (v := (x4 + (1 : Int32))) (lv' := [(4, .int (x4 + (1 : Int32))), (2, .long (x2 &&& (x2 <<< ((1 : Int32).toInt64 &&& 63)))), (5, .int x5)]) hx hb dX4_longestWrongRow_31 hl (k := 1) rfl rfl (by decide) rfl (fun ls hl => ?_)
          refine lv_iinc (v := (x5 + (1 : Int32))) (lv' := [(5, .int (x5 + (1 : Int32))), (4, .int (x4 + (1 : Int32))), (2, .long (x2 &&& (x2 <<< ((1 : Int32).toInt64 &&& 63))))]) hx hb dX4_longestWrongRow_34 hl (k := 2) rfl rfl (by decide) rfl (fun ls hl => ?_)
          refine lv_goto (tgt := 12) hx hb dX4_longestWrongRow_37 (by decide) ?_
          exact ih _ _ _ _ _ _ hP hD hS (lv_sub hl [2, 1, 0] rfl) h
  rw [mX4_longestWrongRow] at h
  refine lv_aload_n hx hb dX4_longestWrongRow_0 rfl (lv_at hl 0 rfl) ?_
  refine lv_iload_n hx hb dX4_longestWrongRow_1 rfl (lv_at hl 1 rfl) ?_
  obtain ⟨r1, e2, h⟩ := bo h
  refine caVR_l (As := [.int x1]) (rest := []) (ctX4_bitsOf l dC dI cq q S M o _ _ _ _ e2) F (cwV 1 hts gX4_longestWrongRow_X4_bitsOf rfl rfl rfl hdX4_bitsOf ⟨Nat.le_of_ble_eq_true rfl, Nat.le_of_ble_eq_true rfl⟩) hK hP hD hDm hS hA EV.blind (fun U hU hW => EV.call hX hS hDm hU hW) (va_recv hK hP (ci := 5) (q0 := 18) rfl rfl) rfl hl.1 rfl (Nat.le_of_ble_eq_true rfl) dX4_longestWrongRow_2 ⟨Nat.zero_le _, Nat.zero_le _⟩ (fun H locs hP hD hS => ?_)
  refine lv_lstore_n (lv' := [(2, .long r1), (0, .ref (q 18)), (1, .int x1)]) hx hb dX4_longestWrongRow_5 rfl hl (by decide) rfl (fun ls hl => ?_)
  refine lv_iconst (v := (0 : Int32)) hx hb dX4_longestWrongRow_6 (by decide) ?_
  refine lv_istore (lv' := [(4, .int (0 : Int32)), (2, .long r1), (0, .ref (q 18)), (1, .int x1)]) hx hb dX4_longestWrongRow_7 hl (by decide) rfl (fun ls hl => ?_)
  refine lv_iconst (v := (0 : Int32)) hx hb dX4_longestWrongRow_9 (by decide) ?_
  refine lv_istore (lv' := [(5, .int (0 : Int32)), (4, .int (0 : Int32)), (2, .long r1), (0, .ref (q 18)), (1, .int x1)]) hx hb dX4_longestWrongRow_10 hl (by decide) rfl (fun ls hl => ?_)
  exact hL12 _ _ _ _ _ _ _ hP hD hS (lv_sub hl [2, 1, 0] rfl) h
def mX4_differences (S : CS) (x1 : Int32) (x2 : Int32) : Option (Int64) :=
  (bn (mX4_bitsOf S x1) fun r1 => (some ((r1 ^^^ ((r1.toUInt64 >>> (x2.toInt64.toUInt64 &&& Int64.toUInt64 63)).toInt64)) &&& (((1 : Int64) <<< (((S.1 9) - x2).toInt64 &&& 63)) - (1 : Int64)))))
abbrev rmX4_differences : Room := { frames := 1, cells := 0, slots := 0, locals := 21 }
theorem hdX4_differences : yX4_differences.cls = RX4 ∧ yX4_differences.cls ≠ "java/lang/invoke/MethodHandle" ∧ yX4_differences.cls ≠ "java/lang/invoke/VarHandle" ∧ (parseMethodDescriptor yX4_differences.desc).map (fun d => d.parameters.length) = some 2 := by decide +kernel
set_option maxRecDepth 100000 in
set_option maxHeartbeats 8000000 in
theorem ctX4_differences (l : Launch) (dC : Nat → ClassId) (dI : Nat → Nat → Nat) (cq : Nat → ClassId) (q : Nat → Nat) (S : CS) (M : MS) (o : Nat → Int64) (sz : Nat) (h0 : Nat) (x1 : Int32) (x2 : Int32) (rr : Int64) (h : mX4_differences S x1 x2 = some rr) : CtR_l l yX4_differences wsX4_differences rmX4_differences (fun a => h0 ≤ a) (EV h0 q) dC dI cq q S M o sz [.ref (q 18), .int x1, .int x2] rr := by
  refine enR_l (cc := cX4_differences) (maxL := 5) (by decide) rfl (Nat.le_of_ble_eq_true rfl) (fun p e s m args below meth c A Q ls F hA hP hK hD hDm hX hS hl hend => ?_)
  obtain ⟨hx, hb, hml, hown, hts⟩ := id F
  have hown : s.vm.findClass RX4 = some m.cls := hown
  have F : CallFix p m c cX4_differences 5 s args wsX4_differences RX4 := F
  have hl : lv_has ls 5 [(0, .ref (q 18)), (1, .int x1), (2, .int x2)] := hl
  have hinX4 : ∀ w ∈ u_ws RX4 TX4 2, w ∈ wsX4_differences := fun w h => List.mem_cons_of_mem _ (List.mem_append_right _ h)
  rw [mX4_differences] at h
  refine lv_aload_n hx hb dX4_differences_0 rfl (lv_at hl 0 rfl) ?_
  refine lv_iload_n hx hb dX4_differences_1 rfl (lv_at hl 1 rfl) ?_
  obtain ⟨r1, e2, h⟩ := bo h
  refine caVR_l (As := [.int x1]) (rest := []) (ctX4_bitsOf l dC dI cq q S M o _ _ _ _ e2) F (cwV 1 hts gX4_differences_X4_bitsOf rfl rfl rfl hdX4_bitsOf ⟨Nat.le_of_ble_eq_true rfl, Nat.le_of_ble_eq_true rfl⟩) hK hP hD hDm hS hA EV.blind (fun U hU hW => EV.call hX hS hDm hU hW) (va_recv hK hP (ci := 5) (q0 := 18) rfl rfl) rfl hl.1 rfl (Nat.le_of_ble_eq_true rfl) dX4_differences_2 ⟨Nat.zero_le _, Nat.zero_le _⟩ (fun H locs hP hD hS => ?_)
  refine lv_lstore_n (lv' := [(3, .long r1), (0, .ref (q 18)), (1, .int x1), (2, .int x2)]) hx hb dX4_differences_5 rfl hl (by decide) rfl (fun ls hl => ?_)
  refine lv_lload_n hx hb dX4_differences_6 rfl (lv_at hl 0 rfl) ?_
  refine lv_lload_n hx hb dX4_differences_7 rfl (lv_at hl 0 rfl) ?_
  refine lv_iload_n hx hb dX4_differences_8 rfl (lv_at hl 3 rfl) ?_
  refine lv_lushr hx hb dX4_differences_9 rfl ?_
  refine lv_lxor hx hb dX4_differences_10 ?_
  refine lv_lconst (v := (1 : Int64)) hx hb dX4_differences_11 (by decide) ?_
  refine lv_aload_n hx hb dX4_differences_12 rfl (lv_at hl 1 rfl) ?_
  refine va_get (D := (dC, dI)) (ci := 5) (v := .int (S.1 9)) (C := RX4) (T := TX4) (N := 2) hx hb hts hinX4 hown hK hP 18 rfl rfl 1 (by decide) (hts (.fieldLink RX4 15 "CableTester$History" "kept" "I") (mm 1 rfl)) (fun _ h9 => h9) rfl dX4_differences_13 ?_
  refine lv_iload_n hx hb dX4_differences_16 rfl (lv_at hl 3 rfl) ?_
  refine lv_isub hx hb dX4_differences_17 ?_
  refine lv_lshl hx hb dX4_differences_18 rfl ?_
  refine lv_lconst (v := (1 : Int64)) hx hb dX4_differences_19 (by decide) ?_
  refine lv_lsub hx hb dX4_differences_20 ?_
  refine lv_land hx hb dX4_differences_21 ?_
  exact hend _ _ _ _ _ h hP hD hS dX4_differences_22
def mX4_changes (S : CS) (x1 : Int32) : Option (Int32) :=
  (if (2 : Int32) ≤ (S.1 9) then (bn (mX4_differences S x1 (1 : Int32)) fun r2 => (bn (mJ13_bitCount_95d88 r2) fun r4 => (some r4))) else (some (0 : Int32)))
abbrev rmX4_changes : Room := { frames := 2, cells := 0, slots := 0, locals := 45 }
theorem hdX4_changes : yX4_changes.cls = RX4 ∧ yX4_changes.cls ≠ "java/lang/invoke/MethodHandle" ∧ yX4_changes.cls ≠ "java/lang/invoke/VarHandle" ∧ (parseMethodDescriptor yX4_changes.desc).map (fun d => d.parameters.length) = some 1 := by decide +kernel
set_option maxRecDepth 100000 in
set_option maxHeartbeats 8000000 in
theorem ctX4_changes (l : Launch) (dC : Nat → ClassId) (dI : Nat → Nat → Nat) (cq : Nat → ClassId) (q : Nat → Nat) (S : CS) (M : MS) (o : Nat → Int64) (sz : Nat) (h0 : Nat) (x1 : Int32) (rr : Int32) (h : mX4_changes S x1 = some rr) : CtR_i l yX4_changes wsX4_changes rmX4_changes (fun a => h0 ≤ a) (EV h0 q) dC dI cq q S M o sz [.ref (q 18), .int x1] rr := by
  refine enR_i (cc := cX4_changes) (maxL := 2) (by decide) rfl (Nat.le_of_ble_eq_true rfl) (fun p e s m args below meth c A Q ls F hA hP hK hD hDm hX hS hl hend => ?_)
  obtain ⟨hx, hb, hml, hown, hts⟩ := id F
  have hown : s.vm.findClass RX4 = some m.cls := hown
  have F : CallFix p m c cX4_changes 2 s args wsX4_changes RX4 := F
  have hl : lv_has ls 2 [(0, .ref (q 18)), (1, .int x1)] := hl
  have hinX4 : ∀ w ∈ u_ws RX4 TX4 2, w ∈ wsX4_changes := fun w h => List.mem_cons_of_mem _ (List.mem_append_right _ h)
  rw [mX4_changes] at h
  refine lv_aload_n hx hb dX4_changes_0 rfl (lv_at hl 0 rfl) ?_
  refine va_get (D := (dC, dI)) (ci := 5) (v := .int (S.1 9)) (C := RX4) (T := TX4) (N := 2) hx hb hts hinX4 hown hK hP 18 rfl rfl 1 (by decide) (hts (.fieldLink RX4 15 "CableTester$History" "kept" "I") (mm 1 rfl)) (fun _ h9 => h9) rfl dX4_changes_1 ?_
  refine lv_iconst (v := (2 : Int32)) hx hb dX4_changes_4 (by decide) ?_
  refine lv_icmp_ge (tgt := 12) hx hb dX4_changes_5 (by decide) (fun c1 => ?_) (fun c1 => ?_)
  · replace h := it c1 h
    refine lv_aload_n hx hb dX4_changes_12 rfl (lv_at hl 0 rfl) ?_
    refine lv_iload_n hx hb dX4_changes_13 rfl (lv_at hl 1 rfl) ?_
    refine lv_iconst (v := (1 : Int32)) hx hb dX4_changes_14 (by decide) ?_
    obtain ⟨r2, e3, h⟩ := bo h
    refine caVR_l (As := [.int x1, .int (1 : Int32)]) (rest := []) (ctX4_differences l dC dI cq q S M o _ _ _ _ _ e3) F (cwV 2 hts gX4_changes_X4_differences rfl rfl rfl hdX4_differences ⟨Nat.le_of_ble_eq_true rfl, Nat.le_of_ble_eq_true rfl⟩) hK hP hD hDm hS hA EV.blind (fun U hU hW => EV.call hX hS hDm hU hW) (va_recv hK hP (ci := 5) (q0 := 18) rfl rfl) rfl hl.1 rfl (Nat.le_of_ble_eq_true rfl) dX4_changes_15 ⟨Nat.zero_le _, Nat.zero_le _⟩ (fun H locs hP hD hS => ?_)
    obtain ⟨r4, e5, h⟩ := bo h
    refine caSR_i (As := [.long r2]) (rest := []) (ctJ13_bitCount_95d88 l dC dI cq q S M o _ _ _ _ e5) F (va_cwS 1 hts gX4_changes_J13_bitCount_95d88 rfl rfl rfl hdJ13_bitCount_95d88 ⟨Nat.le_of_ble_eq_true rfl, Nat.le_of_ble_eq_true rfl⟩) hK hP hD hDm hS hA EV.blind (fun U hU hW => EV.call hX hS hDm hU hW) rfl hl.1 rfl (Nat.le_of_ble_eq_true rfl) dX4_changes_18 ⟨Nat.zero_le _, Nat.zero_le _⟩ (fun H locs hP hD hS => ?_)
    exact hend _ _ _ _ _ h hP hD hS dX4_changes_21
  · replace h := ie c1 h
    refine lv_iconst (v := (0 : Int32)) hx hb dX4_changes_8 (by decide) ?_
    refine lv_goto (tgt := 21) hx hb dX4_changes_9 (by decide) ?_
    exact hend _ _ _ _ _ h hP hD hS dX4_changes_21
def mX4_leastPeriod_2 (n : Nat)  (S : CS) (x1 : Int32) : Nat → Int32 → Option (Int32)
  | 0, _ => none
  | k + 1, x2 => (if (32 : Int32) < x2 then (some (-1 : Int32)) else (if (S.1 9) < ((2 : Int32) * x2) then (some (-1 : Int32)) else (bn (mX4_differences S x1 x2) fun r3 => (if (lg_cmp r3 (0 : Int64)) = (0 : Int32) then (some x2) else (mX4_leastPeriod_2 n S x1 k (x2 + (1 : Int32)))))))
def mX4_leastPeriod (n : Nat) (S : CS) (x1 : Int32) : Option (Int32) :=
  (mX4_leastPeriod_2 n S x1 n (1 : Int32))
abbrev rmX4_leastPeriod : Room := { frames := 2, cells := 0, slots := 0, locals := 45 }
theorem hdX4_leastPeriod : yX4_leastPeriod.cls = RX4 ∧ yX4_leastPeriod.cls ≠ "java/lang/invoke/MethodHandle" ∧ yX4_leastPeriod.cls ≠ "java/lang/invoke/VarHandle" ∧ (parseMethodDescriptor yX4_leastPeriod.desc).map (fun d => d.parameters.length) = some 1 := by decide +kernel
set_option maxRecDepth 100000 in
set_option maxHeartbeats 8000000 in
theorem ctX4_leastPeriod (l : Launch) (dC : Nat → ClassId) (dI : Nat → Nat → Nat) (cq : Nat → ClassId) (q : Nat → Nat) (S : CS) (M : MS) (o : Nat → Int64) (sz : Nat) (h0 : Nat) (n : Nat) (x1 : Int32) (rr : Int32) (h : mX4_leastPeriod n S x1 = some rr) : CtR_i l yX4_leastPeriod wsX4_leastPeriod rmX4_leastPeriod (fun a => h0 ≤ a) (EV h0 q) dC dI cq q S M o sz [.ref (q 18), .int x1] rr := by
  refine enR_i (cc := cX4_leastPeriod) (maxL := 3) (by decide) rfl (Nat.le_of_ble_eq_true rfl) (fun p e s m args below meth c A Q ls F hA hP hK hD hDm hX hS hl hend => ?_)
  obtain ⟨hx, hb, hml, hown, hts⟩ := id F
  have hown : s.vm.findClass RX4 = some m.cls := hown
  have F : CallFix p m c cX4_leastPeriod 3 s args wsX4_leastPeriod RX4 := F
  have hl : lv_has ls 3 [(0, .ref (q 18)), (1, .int x1)] := hl
  have hinX4 : ∀ w ∈ u_ws RX4 TX4 2, w ∈ wsX4_leastPeriod := fun w h => List.mem_cons_of_mem _ (List.mem_append_right _ h)
  have hL2 : ∀ (x1 : Int32)  (k : Nat)  (x2 : Int32) (H : Heap) (locs : List Loc) (ls : Array Slot), va_P (dC, dI) vwCl (wA cq q S M o) H → va_D A (wA cq q S M o) → va_S A s.heap H locs → lv_has ls 3 [(0, .ref (q 18)), (1, .int x1), (2, .int x2)] → mX4_leastPeriod_2 n S x1 k x2 = some rr → W p l e rmX4_leastPeriod s m args below meth c H locs 0 0 Q (F0 m 2 ls []) := by
    intro x1
    intro k
    induction k with
    | zero =>
      intro x2 H locs ls hP hD hS hl h
      rw [mX4_leastPeriod_2] at h
      cases h
    | succ k ih =>
      intro x2 H locs ls hP hD hS hl h
      rw [mX4_leastPeriod_2] at h
      refine lv_iload_n hx hb dX4_leastPeriod_2 rfl (lv_at hl 2 rfl) ?_
      refine lv_bipush (v := (32 : Int32)) hx hb dX4_leastPeriod_3 (by decide) ?_
      refine lv_icmp_gt (tgt := 37) hx hb dX4_leastPeriod_5 (by decide) (fun c1 => ?_) (fun c1 => ?_)
      · replace h := it c1 h
        refine lv_iconst (v := (-1 : Int32)) hx hb dX4_leastPeriod_37 (by decide) ?_
        exact hend _ _ _ _ _ h hP hD hS dX4_leastPeriod_38
      · replace h := ie c1 h
        refine lv_iconst (v := (2 : Int32)) hx hb dX4_leastPeriod_8 (by decide) ?_
        refine lv_iload_n hx hb dX4_leastPeriod_9 rfl (lv_at hl 2 rfl) ?_
        refine lv_imul hx hb dX4_leastPeriod_10 ?_
        refine lv_aload_n hx hb dX4_leastPeriod_11 rfl (lv_at hl 0 rfl) ?_
        refine va_get (D := (dC, dI)) (ci := 5) (v := .int (S.1 9)) (C := RX4) (T := TX4) (N := 2) hx hb hts hinX4 hown hK hP 18 rfl rfl 1 (by decide) (hts (.fieldLink RX4 15 "CableTester$History" "kept" "I") (mm 1 rfl)) (fun _ h9 => h9) rfl dX4_leastPeriod_12 ?_
        refine lv_icmp_gt (tgt := 37) hx hb dX4_leastPeriod_15 (by decide) (fun c2 => ?_) (fun c2 => ?_)
        · replace h := it c2 h
          refine lv_iconst (v := (-1 : Int32)) hx hb dX4_leastPeriod_37 (by decide) ?_
          exact hend _ _ _ _ _ h hP hD hS dX4_leastPeriod_38
        · replace h := ie c2 h
          refine lv_aload_n hx hb dX4_leastPeriod_18 rfl (lv_at hl 0 rfl) ?_
          refine lv_iload_n hx hb dX4_leastPeriod_19 rfl (lv_at hl 1 rfl) ?_
          refine lv_iload_n hx hb dX4_leastPeriod_20 rfl (lv_at hl 2 rfl) ?_
          obtain ⟨r3, e4, h⟩ := bo h
          refine caVR_l (As := [.int x1, .int x2]) (rest := []) (ctX4_differences l dC dI cq q S M o _ _ _ _ _ e4) F (cwV 2 hts gX4_leastPeriod_X4_differences rfl rfl rfl hdX4_differences ⟨Nat.le_of_ble_eq_true rfl, Nat.le_of_ble_eq_true rfl⟩) hK hP hD hDm hS hA EV.blind (fun U hU hW => EV.call hX hS hDm hU hW) (va_recv hK hP (ci := 5) (q0 := 18) rfl rfl) rfl hl.1 rfl (Nat.le_of_ble_eq_true rfl) dX4_leastPeriod_21 ⟨Nat.zero_le _, Nat.zero_le _⟩ (fun H locs hP hD hS => ?_)
          refine lv_lconst (v := (0 : Int64)) hx hb dX4_leastPeriod_24 (by decide) ?_
          refine W.lcmp hx hb dX4_leastPeriod_25 ?_
          refine lv_if_ne (tgt := 31) hx hb dX4_leastPeriod_26 (by decide) (fun c5 => ?_) (fun c5 => ?_)
          · replace h := ie c5 h
            refine lv_iinc (v := (x2 + (1 : Int32))) (lv' := [(2, .int (x2 + (1 : Int32))), (0, .ref (q 18)), (1, .int x1)]) hx hb dX4_leastPeriod_31 hl (k := 2) rfl rfl (by decide) rfl (fun ls hl => ?_)
            refine lv_goto (tgt := 2) hx hb dX4_leastPeriod_34 (by decide) ?_
            exact ih _ _ _ _ hP hD hS (lv_sub hl [1, 2, 0] rfl) h
          · replace h := it c5 h
            refine lv_iload_n hx hb dX4_leastPeriod_29 rfl (lv_at hl 2 rfl) ?_
            exact hend _ _ _ _ _ h hP hD hS dX4_leastPeriod_30
  rw [mX4_leastPeriod] at h
  refine lv_iconst (v := (1 : Int32)) hx hb dX4_leastPeriod_0 (by decide) ?_
  refine lv_istore_n (lv' := [(2, .int (1 : Int32)), (0, .ref (q 18)), (1, .int x1)]) hx hb dX4_leastPeriod_1 rfl hl (by decide) rfl (fun ls hl => ?_)
  exact hL2 _ _ _ _ _ _ hP hD hS (lv_sub hl [1, 2, 0] rfl) h
def mX4_numberAbout (n : Nat) (S : CS) (x1 : Int32) (x2 : Int32) : Option (Int32) :=
  (if x2 = (0 : Int32) then (some (S.1 9)) else (if x2 = (1 : Int32) then (bn (mX4_timesWrong S x1) fun r3 => (some r3)) else (if x2 = (2 : Int32) then (bn (mX4_longestWrongRow n S x1) fun r6 => (some r6)) else (if x2 = (3 : Int32) then (bn (mX4_changes S x1) fun r9 => (some r9)) else (bn (mX4_leastPeriod n S x1) fun r11 => (some r11))))))
abbrev rmX4_numberAbout : Room := { frames := 3, cells := 0, slots := 0, locals := 67 }
theorem hdX4_numberAbout : yX4_numberAbout.cls = RX4 ∧ yX4_numberAbout.cls ≠ "java/lang/invoke/MethodHandle" ∧ yX4_numberAbout.cls ≠ "java/lang/invoke/VarHandle" ∧ (parseMethodDescriptor yX4_numberAbout.desc).map (fun d => d.parameters.length) = some 2 := by decide +kernel
set_option maxRecDepth 100000 in
set_option maxHeartbeats 8000000 in
theorem ctX4_numberAbout (l : Launch) (dC : Nat → ClassId) (dI : Nat → Nat → Nat) (cq : Nat → ClassId) (q : Nat → Nat) (S : CS) (M : MS) (o : Nat → Int64) (sz : Nat) (h0 : Nat) (n : Nat) (x1 : Int32) (x2 : Int32) (rr : Int32) (h : mX4_numberAbout n S x1 x2 = some rr) : CtR_i l yX4_numberAbout wsX4_numberAbout rmX4_numberAbout (fun a => h0 ≤ a) (EV h0 q) dC dI cq q S M o sz [.ref (q 18), .int x1, .int x2] rr := by
  refine enR_i (cc := cX4_numberAbout) (maxL := 3) (by decide) rfl (Nat.le_of_ble_eq_true rfl) (fun p e s m args below meth c A Q ls F hA hP hK hD hDm hX hS hl hend => ?_)
  obtain ⟨hx, hb, hml, hown, hts⟩ := id F
  have hown : s.vm.findClass RX4 = some m.cls := hown
  have F : CallFix p m c cX4_numberAbout 3 s args wsX4_numberAbout RX4 := F
  have hl : lv_has ls 3 [(0, .ref (q 18)), (1, .int x1), (2, .int x2)] := hl
  have hinX4 : ∀ w ∈ u_ws RX4 TX4 2, w ∈ wsX4_numberAbout := fun w h => List.mem_cons_of_mem _ (List.mem_append_right _ h)
  rw [mX4_numberAbout] at h
  refine lv_iload_n hx hb dX4_numberAbout_0 rfl (lv_at hl 2 rfl) ?_
  by_cases c1 : x2 = (0 : Int32)
  · replace h := it c1 h
    refine lv_tableIn (tgt := 32) (off := 31) hx hb dX4_numberAbout_1 (by rw [c1]; decide) (by rw [c1]; decide) (by rw [c1]; decide) (by decide) ?_
    refine lv_aload_n hx hb dX4_numberAbout_32 rfl (lv_at hl 0 rfl) ?_
    refine va_get (D := (dC, dI)) (ci := 5) (v := .int (S.1 9)) (C := RX4) (T := TX4) (N := 2) hx hb hts hinX4 hown hK hP 18 rfl rfl 1 (by decide) (hts (.fieldLink RX4 15 "CableTester$History" "kept" "I") (mm 1 rfl)) (fun _ h9 => h9) rfl dX4_numberAbout_33 ?_
    exact hend _ _ _ _ _ h hP hD hS dX4_numberAbout_36
  replace h := ie c1 h
  by_cases c2 : x2 = (1 : Int32)
  · replace h := it c2 h
    refine lv_tableIn (tgt := 37) (off := 36) hx hb dX4_numberAbout_1 (by rw [c2]; decide) (by rw [c2]; decide) (by rw [c2]; decide) (by decide) ?_
    refine lv_aload_n hx hb dX4_numberAbout_37 rfl (lv_at hl 0 rfl) ?_
    refine lv_iload_n hx hb dX4_numberAbout_38 rfl (lv_at hl 1 rfl) ?_
    obtain ⟨r3, e4, h⟩ := bo h
    refine caVR_i (As := [.int x1]) (rest := []) (ctX4_timesWrong l dC dI cq q S M o _ _ _ _ e4) F (cwV 1 hts gX4_numberAbout_X4_timesWrong rfl rfl rfl hdX4_timesWrong ⟨Nat.le_of_ble_eq_true rfl, Nat.le_of_ble_eq_true rfl⟩) hK hP hD hDm hS hA EV.blind (fun U hU hW => EV.call hX hS hDm hU hW) (va_recv hK hP (ci := 5) (q0 := 18) rfl rfl) rfl hl.1 rfl (Nat.le_of_ble_eq_true rfl) dX4_numberAbout_39 ⟨Nat.zero_le _, Nat.zero_le _⟩ (fun H locs hP hD hS => ?_)
    exact hend _ _ _ _ _ h hP hD hS dX4_numberAbout_42
  replace h := ie c2 h
  by_cases c5 : x2 = (2 : Int32)
  · replace h := it c5 h
    refine lv_tableIn (tgt := 43) (off := 42) hx hb dX4_numberAbout_1 (by rw [c5]; decide) (by rw [c5]; decide) (by rw [c5]; decide) (by decide) ?_
    refine lv_aload_n hx hb dX4_numberAbout_43 rfl (lv_at hl 0 rfl) ?_
    refine lv_iload_n hx hb dX4_numberAbout_44 rfl (lv_at hl 1 rfl) ?_
    obtain ⟨r6, e7, h⟩ := bo h
    refine caVR_i (As := [.int x1]) (rest := []) (ctX4_longestWrongRow l dC dI cq q S M o _ _ _ _ _ e7) F (cwV 1 hts gX4_numberAbout_X4_longestWrongRow rfl rfl rfl hdX4_longestWrongRow ⟨Nat.le_of_ble_eq_true rfl, Nat.le_of_ble_eq_true rfl⟩) hK hP hD hDm hS hA EV.blind (fun U hU hW => EV.call hX hS hDm hU hW) (va_recv hK hP (ci := 5) (q0 := 18) rfl rfl) rfl hl.1 rfl (Nat.le_of_ble_eq_true rfl) dX4_numberAbout_45 ⟨Nat.zero_le _, Nat.zero_le _⟩ (fun H locs hP hD hS => ?_)
    exact hend _ _ _ _ _ h hP hD hS dX4_numberAbout_48
  replace h := ie c5 h
  by_cases c8 : x2 = (3 : Int32)
  · replace h := it c8 h
    refine lv_tableIn (tgt := 49) (off := 48) hx hb dX4_numberAbout_1 (by rw [c8]; decide) (by rw [c8]; decide) (by rw [c8]; decide) (by decide) ?_
    refine lv_aload_n hx hb dX4_numberAbout_49 rfl (lv_at hl 0 rfl) ?_
    refine lv_iload_n hx hb dX4_numberAbout_50 rfl (lv_at hl 1 rfl) ?_
    obtain ⟨r9, e10, h⟩ := bo h
    refine caVR_i (As := [.int x1]) (rest := []) (ctX4_changes l dC dI cq q S M o _ _ _ _ e10) F (cwV 1 hts gX4_numberAbout_X4_changes rfl rfl rfl hdX4_changes ⟨Nat.le_of_ble_eq_true rfl, Nat.le_of_ble_eq_true rfl⟩) hK hP hD hDm hS hA EV.blind (fun U hU hW => EV.call hX hS hDm hU hW) (va_recv hK hP (ci := 5) (q0 := 18) rfl rfl) rfl hl.1 rfl (Nat.le_of_ble_eq_true rfl) dX4_numberAbout_51 ⟨Nat.zero_le _, Nat.zero_le _⟩ (fun H locs hP hD hS => ?_)
    exact hend _ _ _ _ _ h hP hD hS dX4_numberAbout_54
  replace h := ie c8 h
  refine lv_tableOut (tgt := 55) hx hb dX4_numberAbout_1 (by have z0 := ne_i (n := 0) rfl c1; have z1 := ne_i (n := 1) rfl c2; have z2 := ne_i (n := 2) rfl c5; have z3 := ne_i (n := 3) rfl c8; omega) (by decide) ?_
  refine lv_aload_n hx hb dX4_numberAbout_55 rfl (lv_at hl 0 rfl) ?_
  refine lv_iload_n hx hb dX4_numberAbout_56 rfl (lv_at hl 1 rfl) ?_
  obtain ⟨r11, e12, h⟩ := bo h
  refine caVR_i (As := [.int x1]) (rest := []) (ctX4_leastPeriod l dC dI cq q S M o _ _ _ _ _ e12) F (cwV 1 hts gX4_numberAbout_X4_leastPeriod rfl rfl rfl hdX4_leastPeriod ⟨Nat.le_of_ble_eq_true rfl, Nat.le_of_ble_eq_true rfl⟩) hK hP hD hDm hS hA EV.blind (fun U hU hW => EV.call hX hS hDm hU hW) (va_recv hK hP (ci := 5) (q0 := 18) rfl rfl) rfl hl.1 rfl (Nat.le_of_ble_eq_true rfl) dX4_numberAbout_57 ⟨Nat.zero_le _, Nat.zero_le _⟩ (fun H locs hP hD hS => ?_)
  exact hend _ _ _ _ _ h hP hD hS dX4_numberAbout_60
def mX4_mostWrongPin_29 (n : Nat) (K6 : Int32 → Int32 → Int32 → Option (Int32)) (S : CS) (x1 : Int32) (x2 : Int32) (x3 : Int32)  : Option (Int32) :=
  (K6 x1 x2 (x3 + (1 : Int32)))
def mX4_mostWrongPin_6 (n : Nat)  (S : CS)  : Nat → Int32 → Int32 → Int32 → Option (Int32)
  | 0, _, _, _ => none
  | k + 1, x1, x2, x3 => (if (8 : Int32) ≤ x3 then (some x1) else (bn (mX4_timesWrong S x3) fun r2 => (if r2 ≤ x2 then (mX4_mostWrongPin_29 n (mX4_mostWrongPin_6 n S k) S x1 x2 x3) else (bn (mX4_timesWrong S x3) fun r5 => (mX4_mostWrongPin_29 n (mX4_mostWrongPin_6 n S k) S x3 r5 x3)))))
def mX4_mostWrongPin (n : Nat) (S : CS)  : Option (Int32) :=
  (mX4_mostWrongPin_6 n S n (-1 : Int32) (0 : Int32) (0 : Int32))
abbrev rmX4_mostWrongPin : Room := { frames := 2, cells := 0, slots := 0, locals := 42 }
theorem hdX4_mostWrongPin : yX4_mostWrongPin.cls = RX4 ∧ yX4_mostWrongPin.cls ≠ "java/lang/invoke/MethodHandle" ∧ yX4_mostWrongPin.cls ≠ "java/lang/invoke/VarHandle" ∧ (parseMethodDescriptor yX4_mostWrongPin.desc).map (fun d => d.parameters.length) = some 0 := by decide +kernel
set_option maxRecDepth 100000 in
set_option maxHeartbeats 8000000 in
theorem ctX4_mostWrongPin (l : Launch) (dC : Nat → ClassId) (dI : Nat → Nat → Nat) (cq : Nat → ClassId) (q : Nat → Nat) (S : CS) (M : MS) (o : Nat → Int64) (sz : Nat) (h0 : Nat) (n : Nat)  (rr : Int32) (h : mX4_mostWrongPin n S = some rr) : CtR_i l yX4_mostWrongPin wsX4_mostWrongPin rmX4_mostWrongPin (fun a => h0 ≤ a) (EV h0 q) dC dI cq q S M o sz [.ref (q 18)] rr := by
  refine enR_i (cc := cX4_mostWrongPin) (maxL := 4) (by decide) rfl (Nat.le_of_ble_eq_true rfl) (fun p e s m args below meth c A Q ls F hA hP hK hD hDm hX hS hl hend => ?_)
  obtain ⟨hx, hb, hml, hown, hts⟩ := id F
  have hown : s.vm.findClass RX4 = some m.cls := hown
  have F : CallFix p m c cX4_mostWrongPin 4 s args wsX4_mostWrongPin RX4 := F
  have hl : lv_has ls 4 [(0, .ref (q 18))] := hl
  have hj29 : ∀  (x1 : Int32) (x2 : Int32) (x3 : Int32)   (K6 : Int32 → Int32 → Int32 → Option (Int32)) (hK6 : ∀ (y1 : Int32) (y2 : Int32) (y3 : Int32) (H : Heap) (locs : List Loc) (ls : Array Slot), va_P (dC, dI) vwCl (wA cq q S M o) H → va_D A (wA cq q S M o) → va_S A s.heap H locs → lv_has ls 4 [(0, .ref (q 18)), (1, .int y1), (2, .int y2), (3, .int y3)] → K6 y1 y2 y3 = some rr → W p l e rmX4_mostWrongPin s m args below meth c H locs 0 0 Q (F0 m 6 ls [])) (H : Heap) (locs : List Loc) (ls : Array Slot), va_P (dC, dI) vwCl (wA cq q S M o) H → va_D A (wA cq q S M o) → va_S A s.heap H locs → lv_has ls 4 [(0, .ref (q 18)), (1, .int x1), (2, .int x2), (3, .int x3)] → mX4_mostWrongPin_29 n K6 S x1 x2 x3 = some rr → W p l e rmX4_mostWrongPin s m args below meth c H locs 0 0 Q (F0 m 29 ls []) := by
    intro x1 x2 x3 K6 hK6 H locs ls hP hD hS hl h
    rw [mX4_mostWrongPin_29] at h
    refine lv_iinc (v := (x3 + (1 : Int32))) (lv' := [(3, .int (x3 + (1 : Int32))), (0, .ref (q 18)), (1, .int x1), (2, .int x2)]) hx hb dX4_mostWrongPin_29 hl (k := 3) rfl rfl (by decide) rfl (fun ls hl => ?_)
    refine lv_goto (tgt := 6) hx hb dX4_mostWrongPin_32 (by decide) ?_
    exact hK6 _ _ _ _ _ _ hP hD hS (lv_sub hl [1, 2, 3, 0] rfl) h
  have hL6 : ∀   (k : Nat)  (x1 : Int32) (x2 : Int32) (x3 : Int32) (H : Heap) (locs : List Loc) (ls : Array Slot), va_P (dC, dI) vwCl (wA cq q S M o) H → va_D A (wA cq q S M o) → va_S A s.heap H locs → lv_has ls 4 [(0, .ref (q 18)), (1, .int x1), (2, .int x2), (3, .int x3)] → mX4_mostWrongPin_6 n S k x1 x2 x3 = some rr → W p l e rmX4_mostWrongPin s m args below meth c H locs 0 0 Q (F0 m 6 ls []) := by
    intro k
    induction k with
    | zero =>
      intro x1 x2 x3 H locs ls hP hD hS hl h
      rw [mX4_mostWrongPin_6] at h
      cases h
    | succ k ih =>
      intro x1 x2 x3 H locs ls hP hD hS hl h
      rw [mX4_mostWrongPin_6] at h
      refine lv_iload_n hx hb dX4_mostWrongPin_6 rfl (lv_at hl 3 rfl) ?_
      refine lv_bipush (v := (8 : Int32)) hx hb dX4_mostWrongPin_7 (by decide) ?_
      refine lv_icmp_ge (tgt := 35) hx hb dX4_mostWrongPin_9 (by decide) (fun c1 => ?_) (fun c1 => ?_)
      · replace h := it c1 h
        refine lv_iload_n hx hb dX4_mostWrongPin_35 rfl (lv_at hl 1 rfl) ?_
        exact hend _ _ _ _ _ h hP hD hS dX4_mostWrongPin_36
      · replace h := ie c1 h
        refine lv_aload_n hx hb dX4_mostWrongPin_12 rfl (lv_at hl 0 rfl) ?_
        refine lv_iload_n hx hb dX4_mostWrongPin_13 rfl (lv_at hl 3 rfl) ?_
        obtain ⟨r2, e3, h⟩ := bo h
        refine caVR_i (As := [.int x3]) (rest := []) (ctX4_timesWrong l dC dI cq q S M o _ _ _ _ e3) F (cwV 1 hts gX4_mostWrongPin_X4_timesWrong rfl rfl rfl hdX4_timesWrong ⟨Nat.le_of_ble_eq_true rfl, Nat.le_of_ble_eq_true rfl⟩) hK hP hD hDm hS hA EV.blind (fun U hU hW => EV.call hX hS hDm hU hW) (va_recv hK hP (ci := 5) (q0 := 18) rfl rfl) rfl hl.1 rfl (Nat.le_of_ble_eq_true rfl) dX4_mostWrongPin_14 ⟨Nat.zero_le _, Nat.zero_le _⟩ (fun H locs hP hD hS => ?_)
        refine lv_iload_n hx hb dX4_mostWrongPin_17 rfl (lv_at hl 2 rfl) ?_
        refine lv_icmp_le (tgt := 29) hx hb dX4_mostWrongPin_18 (by decide) (fun c4 => ?_) (fun c4 => ?_)
        · replace h := it c4 h
          exact hj29 _ _ _ _ ih _ _ _ hP hD hS (lv_sub hl [0, 1, 2, 3] rfl) h
        · replace h := ie c4 h
          refine lv_iload_n hx hb dX4_mostWrongPin_21 rfl (lv_at hl 3 rfl) ?_
          refine lv_istore_n (lv' := [(1, .int x3), (0, .ref (q 18)), (2, .int x2), (3, .int x3)]) hx hb dX4_mostWrongPin_22 rfl hl (by decide) rfl (fun ls hl => ?_)
          refine lv_aload_n hx hb dX4_mostWrongPin_23 rfl (lv_at hl 1 rfl) ?_
          refine lv_iload_n hx hb dX4_mostWrongPin_24 rfl (lv_at hl 3 rfl) ?_
          obtain ⟨r5, e6, h⟩ := bo h
          refine caVR_i (As := [.int x3]) (rest := []) (ctX4_timesWrong l dC dI cq q S M o _ _ _ _ e6) F (cwV 1 hts gX4_mostWrongPin_X4_timesWrong rfl rfl rfl hdX4_timesWrong ⟨Nat.le_of_ble_eq_true rfl, Nat.le_of_ble_eq_true rfl⟩) hK hP hD hDm hS hA EV.blind (fun U hU hW => EV.call hX hS hDm hU hW) (va_recv hK hP (ci := 5) (q0 := 18) rfl rfl) rfl hl.1 rfl (Nat.le_of_ble_eq_true rfl) dX4_mostWrongPin_25 ⟨Nat.zero_le _, Nat.zero_le _⟩ (fun H locs hP hD hS => ?_)
          refine lv_istore_n (lv' := [(2, .int r5), (1, .int x3), (0, .ref (q 18)), (3, .int x3)]) hx hb dX4_mostWrongPin_28 rfl hl (by decide) rfl (fun ls hl => ?_)
          exact hj29 _ _ _ _ ih _ _ _ hP hD hS (lv_sub hl [2, 1, 0, 3] rfl) h
  rw [mX4_mostWrongPin] at h
  refine lv_iconst (v := (-1 : Int32)) hx hb dX4_mostWrongPin_0 (by decide) ?_
  refine lv_istore_n (lv' := [(1, .int (-1 : Int32)), (0, .ref (q 18))]) hx hb dX4_mostWrongPin_1 rfl hl (by decide) rfl (fun ls hl => ?_)
  refine lv_iconst (v := (0 : Int32)) hx hb dX4_mostWrongPin_2 (by decide) ?_
  refine lv_istore_n (lv' := [(2, .int (0 : Int32)), (1, .int (-1 : Int32)), (0, .ref (q 18))]) hx hb dX4_mostWrongPin_3 rfl hl (by decide) rfl (fun ls hl => ?_)
  refine lv_iconst (v := (0 : Int32)) hx hb dX4_mostWrongPin_4 (by decide) ?_
  refine lv_istore_n (lv' := [(3, .int (0 : Int32)), (2, .int (0 : Int32)), (1, .int (-1 : Int32)), (0, .ref (q 18))]) hx hb dX4_mostWrongPin_5 rfl hl (by decide) rfl (fun ls hl => ?_)
  exact hL6 _ _ _ _ _ _ _ hP hD hS (lv_sub hl [3, 2, 1, 0] rfl) h
def mX6_add (S : CS) (x1 : Int32) : Option (CS) :=
  (if (S.1 10) < (0 : Int32) then (some S) else (if (50 : Int32) ≤ (S.1 10) then (some S) else (if inb (S.1 10) 50 then (some (sF (sA S 21 (S.1 10).toNatClampNeg x1) 10 (((sA S 21 (S.1 10).toNatClampNeg x1).1 10) + (1 : Int32)))) else none)))
abbrev rmX6_add : Room := { frames := 0, cells := 0, slots := 0, locals := 0 }
theorem hdX6_add : yX6_add.cls = RX6 ∧ yX6_add.cls ≠ "java/lang/invoke/MethodHandle" ∧ yX6_add.cls ≠ "java/lang/invoke/VarHandle" ∧ (parseMethodDescriptor yX6_add.desc).map (fun d => d.parameters.length) = some 1 := by decide +kernel
set_option maxRecDepth 100000 in
set_option maxHeartbeats 8000000 in
theorem ctX6_add (l : Launch) (dC : Nat → ClassId) (dI : Nat → Nat → Nat) (cq : Nat → ClassId) (q : Nat → Nat) (S : CS) (M : MS) (o : Nat → Int64) (sz : Nat) (h0 : Nat) (x1 : Int32) (SS : CS) (h : mX6_add S x1 = some SS) : CtC_v l yX6_add wsX6_add rmX6_add (fun a => h0 ≤ a) (EV h0 q) dC dI cq q S M o sz [.ref (q 20), .int x1] SS := by
  refine enC_v (cc := cX6_add) (maxL := 2) (by decide) rfl (Nat.le_of_ble_eq_true rfl) (fun p e s m args below meth c A Q ls F hA hP hK hD hDm hX hS hl hend => ?_)
  obtain ⟨hx, hb, hml, hown, hts⟩ := id F
  have hown : s.vm.findClass RX6 = some m.cls := hown
  have F : CallFix p m c cX6_add 2 s args wsX6_add RX6 := F
  have hl : lv_has ls 2 [(0, .ref (q 20)), (1, .int x1)] := hl
  have hinX6 : ∀ w ∈ u_ws RX6 TX6 10, w ∈ wsX6_add := fun w h => List.mem_cons_of_mem _ (List.mem_append_right _ h)
  rw [mX6_add] at h
  refine lv_aload_n hx hb dX6_add_0 rfl (lv_at hl 0 rfl) ?_
  refine va_get (D := (dC, dI)) (ci := 7) (v := .int (S.1 10)) (C := RX6) (T := TX6) (N := 10) hx hb hts hinX6 hown hK hP 20 rfl rfl 1 (by decide) (hts (.fieldLink RX6 15 "CableTester$Text" "length" "I") (mm 1 rfl)) (fun _ h9 => h9) rfl dX6_add_1 ?_
  refine lv_if_lt (tgt := 39) hx hb dX6_add_4 (by decide) (fun c1 => ?_) (fun c1 => ?_)
  · replace h := it c1 h
    exact hend _ _ _ _ _ h hP hD hS dX6_add_39
  · replace h := ie c1 h
    refine lv_aload_n hx hb dX6_add_7 rfl (lv_at hl 0 rfl) ?_
    refine va_get (D := (dC, dI)) (ci := 7) (v := .int (S.1 10)) (C := RX6) (T := TX6) (N := 10) hx hb hts hinX6 hown hK hP 20 rfl rfl 1 (by decide) (hts (.fieldLink RX6 15 "CableTester$Text" "length" "I") (mm 1 rfl)) (fun _ h9 => h9) rfl dX6_add_8 ?_
    refine lv_aload_n hx hb dX6_add_11 rfl (lv_at hl 0 rfl) ?_
    refine va_get (D := (dC, dI)) (ci := 7) (v := .ref (q 21)) (C := RX6) (T := TX6) (N := 10) hx hb hts hinX6 hown hK hP 20 rfl rfl 0 (by decide) (hts (.fieldLink RX6 9 "CableTester$Text" "codes" "[I") (mm 2 rfl)) (fun _ h9 => h9) rfl dX6_add_12 ?_
    refine va_alen (D := (dC, dI)) hx hb hK hP 21 11 rfl rfl (v := (50 : Int32)) rfl dX6_add_15 ?_
    refine lv_icmp_ge (tgt := 39) hx hb dX6_add_16 (by decide) (fun c2 => ?_) (fun c2 => ?_)
    · replace h := it c2 h
      exact hend _ _ _ _ _ h hP hD hS dX6_add_39
    · replace h := ie c2 h
      refine lv_aload_n hx hb dX6_add_19 rfl (lv_at hl 0 rfl) ?_
      refine va_get (D := (dC, dI)) (ci := 7) (v := .ref (q 21)) (C := RX6) (T := TX6) (N := 10) hx hb hts hinX6 hown hK hP 20 rfl rfl 0 (by decide) (hts (.fieldLink RX6 9 "CableTester$Text" "codes" "[I") (mm 2 rfl)) (fun _ h9 => h9) rfl dX6_add_20 ?_
      refine lv_aload_n hx hb dX6_add_23 rfl (lv_at hl 0 rfl) ?_
      refine va_get (D := (dC, dI)) (ci := 7) (v := .int (S.1 10)) (C := RX6) (T := TX6) (N := 10) hx hb hts hinX6 hown hK hP 20 rfl rfl 1 (by decide) (hts (.fieldLink RX6 15 "CableTester$Text" "length" "I") (mm 1 rfl)) (fun _ h9 => h9) rfl dX6_add_24 ?_
      refine lv_iload_n hx hb dX6_add_27 rfl (lv_at hl 1 rfl) ?_
      obtain ⟨g3, h⟩ := gd h
      refine as_21 F hK hP hD hS (inb_ok g3) dX6_add_28 (fun H locs hP hD hS => ?_)
      refine lv_aload_n hx hb dX6_add_29 rfl (lv_at hl 0 rfl) ?_
      refine lv_dup hx hb dX6_add_30 rfl ?_
      refine va_get (D := (dC, dI)) (ci := 7) (v := .int ((sA S 21 (S.1 10).toNatClampNeg x1).1 10)) (C := RX6) (T := TX6) (N := 10) hx hb hts hinX6 hown hK hP 20 rfl rfl 1 (by decide) (hts (.fieldLink RX6 15 "CableTester$Text" "length" "I") (mm 1 rfl)) (fun _ h9 => h9) rfl dX6_add_31 ?_
      refine lv_iconst (v := (1 : Int32)) hx hb dX6_add_34 (by decide) ?_
      refine lv_iadd hx hb dX6_add_35 ?_
      refine pt_20_1 F hinX6 (hts (.fieldLink RX6 15 "CableTester$Text" "length" "I") (mm 1 rfl)) hK hP hD hS dX6_add_36 (fun H locs hP hD hS => ?_)
      exact hend _ _ _ _ _ h hP hD hS dX6_add_39
def mX6_codeAt (S : CS) (x1 : Int32) : Option (Int32) :=
  (if x1 < (0 : Int32) then (some (0 : Int32)) else (if (50 : Int32) ≤ x1 then (some (0 : Int32)) else (if inb x1 50 then (some (S.2.1 21 x1.toNatClampNeg)) else none)))
abbrev rmX6_codeAt : Room := { frames := 0, cells := 0, slots := 0, locals := 0 }
theorem hdX6_codeAt : yX6_codeAt.cls = RX6 ∧ yX6_codeAt.cls ≠ "java/lang/invoke/MethodHandle" ∧ yX6_codeAt.cls ≠ "java/lang/invoke/VarHandle" ∧ (parseMethodDescriptor yX6_codeAt.desc).map (fun d => d.parameters.length) = some 1 := by decide +kernel
set_option maxRecDepth 100000 in
set_option maxHeartbeats 8000000 in
theorem ctX6_codeAt (l : Launch) (dC : Nat → ClassId) (dI : Nat → Nat → Nat) (cq : Nat → ClassId) (q : Nat → Nat) (S : CS) (M : MS) (o : Nat → Int64) (sz : Nat) (h0 : Nat) (x1 : Int32) (rr : Int32) (h : mX6_codeAt S x1 = some rr) : CtR_i l yX6_codeAt wsX6_codeAt rmX6_codeAt (fun a => h0 ≤ a) (EV h0 q) dC dI cq q S M o sz [.ref (q 20), .int x1] rr := by
  refine enR_i (cc := cX6_codeAt) (maxL := 2) (by decide) rfl (Nat.le_of_ble_eq_true rfl) (fun p e s m args below meth c A Q ls F hA hP hK hD hDm hX hS hl hend => ?_)
  obtain ⟨hx, hb, hml, hown, hts⟩ := id F
  have hown : s.vm.findClass RX6 = some m.cls := hown
  have F : CallFix p m c cX6_codeAt 2 s args wsX6_codeAt RX6 := F
  have hl : lv_has ls 2 [(0, .ref (q 20)), (1, .int x1)] := hl
  have hinX6 : ∀ w ∈ u_ws RX6 TX6 10, w ∈ wsX6_codeAt := fun w h => List.mem_cons_of_mem _ (List.mem_append_right _ h)
  rw [mX6_codeAt] at h
  refine lv_iload_n hx hb dX6_codeAt_0 rfl (lv_at hl 1 rfl) ?_
  refine lv_if_lt (tgt := 22) hx hb dX6_codeAt_1 (by decide) (fun c1 => ?_) (fun c1 => ?_)
  · replace h := it c1 h
    refine lv_iconst (v := (0 : Int32)) hx hb dX6_codeAt_22 (by decide) ?_
    exact hend _ _ _ _ _ h hP hD hS dX6_codeAt_23
  · replace h := ie c1 h
    refine lv_iload_n hx hb dX6_codeAt_4 rfl (lv_at hl 1 rfl) ?_
    refine lv_aload_n hx hb dX6_codeAt_5 rfl (lv_at hl 0 rfl) ?_
    refine va_get (D := (dC, dI)) (ci := 7) (v := .ref (q 21)) (C := RX6) (T := TX6) (N := 10) hx hb hts hinX6 hown hK hP 20 rfl rfl 0 (by decide) (hts (.fieldLink RX6 9 "CableTester$Text" "codes" "[I") (mm 1 rfl)) (fun _ h9 => h9) rfl dX6_codeAt_6 ?_
    refine va_alen (D := (dC, dI)) hx hb hK hP 21 11 rfl rfl (v := (50 : Int32)) rfl dX6_codeAt_9 ?_
    refine lv_icmp_ge (tgt := 22) hx hb dX6_codeAt_10 (by decide) (fun c2 => ?_) (fun c2 => ?_)
    · replace h := it c2 h
      refine lv_iconst (v := (0 : Int32)) hx hb dX6_codeAt_22 (by decide) ?_
      exact hend _ _ _ _ _ h hP hD hS dX6_codeAt_23
    · replace h := ie c2 h
      refine lv_aload_n hx hb dX6_codeAt_13 rfl (lv_at hl 0 rfl) ?_
      refine va_get (D := (dC, dI)) (ci := 7) (v := .ref (q 21)) (C := RX6) (T := TX6) (N := 10) hx hb hts hinX6 hown hK hP 20 rfl rfl 0 (by decide) (hts (.fieldLink RX6 9 "CableTester$Text" "codes" "[I") (mm 1 rfl)) (fun _ h9 => h9) rfl dX6_codeAt_14 ?_
      refine lv_iload_n hx hb dX6_codeAt_17 rfl (lv_at hl 1 rfl) ?_
      obtain ⟨g3, h⟩ := gd h
      refine va_iald (D := (dC, dI)) hx hb hK hP 21 11 rfl rfl (inb_ok g3) dX6_codeAt_18 ?_
      refine lv_goto (tgt := 23) hx hb dX6_codeAt_19 (by decide) ?_
      exact hend _ _ _ _ _ h hP hD hS dX6_codeAt_23
def mX6_rewind (S : CS)  : Option (CS) :=
  (some (sF (sF S 11 (0 : Int32)) 12 (0 : Int32)))
abbrev rmX6_rewind : Room := { frames := 0, cells := 0, slots := 0, locals := 0 }
theorem hdX6_rewind : yX6_rewind.cls = RX6 ∧ yX6_rewind.cls ≠ "java/lang/invoke/MethodHandle" ∧ yX6_rewind.cls ≠ "java/lang/invoke/VarHandle" ∧ (parseMethodDescriptor yX6_rewind.desc).map (fun d => d.parameters.length) = some 0 := by decide +kernel
set_option maxRecDepth 100000 in
set_option maxHeartbeats 8000000 in
theorem ctX6_rewind (l : Launch) (dC : Nat → ClassId) (dI : Nat → Nat → Nat) (cq : Nat → ClassId) (q : Nat → Nat) (S : CS) (M : MS) (o : Nat → Int64) (sz : Nat) (h0 : Nat)  (SS : CS) (h : mX6_rewind S = some SS) : CtC_v l yX6_rewind wsX6_rewind rmX6_rewind (fun a => h0 ≤ a) (EV h0 q) dC dI cq q S M o sz [.ref (q 20)] SS := by
  refine enC_v (cc := cX6_rewind) (maxL := 1) (by decide) rfl (Nat.le_of_ble_eq_true rfl) (fun p e s m args below meth c A Q ls F hA hP hK hD hDm hX hS hl hend => ?_)
  obtain ⟨hx, hb, hml, hown, hts⟩ := id F
  have hown : s.vm.findClass RX6 = some m.cls := hown
  have F : CallFix p m c cX6_rewind 1 s args wsX6_rewind RX6 := F
  have hl : lv_has ls 1 [(0, .ref (q 20))] := hl
  have hinX6 : ∀ w ∈ u_ws RX6 TX6 10, w ∈ wsX6_rewind := fun w h => List.mem_cons_of_mem _ (List.mem_append_right _ h)
  rw [mX6_rewind] at h
  refine lv_aload_n hx hb dX6_rewind_0 rfl (lv_at hl 0 rfl) ?_
  refine lv_iconst (v := (0 : Int32)) hx hb dX6_rewind_1 (by decide) ?_
  refine pt_20_2 F hinX6 (hts (.fieldLink RX6 19 "CableTester$Text" "position" "I") (mm 1 rfl)) hK hP hD hS dX6_rewind_2 (fun H locs hP hD hS => ?_)
  refine lv_aload_n hx hb dX6_rewind_5 rfl (lv_at hl 0 rfl) ?_
  refine lv_iconst (v := (0 : Int32)) hx hb dX6_rewind_6 (by decide) ?_
  refine pt_20_3 F hinX6 (hts (.fieldLink RX6 22 "CableTester$Text" "state" "I") (mm 2 rfl)) hK hP hD hS dX6_rewind_7 (fun H locs hP hD hS => ?_)
  exact hend _ _ _ _ _ h hP hD hS dX6_rewind_10
def mX6_isItemWhole_40  (S : CS)   : Option (Int32) :=
  (some (1 : Int32))
def mX6_isItemWhole_24  (S : CS)   : Option (Int32) :=
  (if (S.1 12) = (6 : Int32) then (if (S.1 18) ≤ (0 : Int32) then (some (0 : Int32)) else (mX6_isItemWhole_40 S)) else (some (0 : Int32)))
def mX6_isItemWhole (S : CS)  : Option (Int32) :=
  (if (S.1 12) = (7 : Int32) then (mX6_isItemWhole_40 S) else (if (S.1 12) = (4 : Int32) then (if (0 : Int32) < (S.1 16) then (mX6_isItemWhole_40 S) else (mX6_isItemWhole_24 S)) else (mX6_isItemWhole_24 S)))
abbrev rmX6_isItemWhole : Room := { frames := 0, cells := 0, slots := 0, locals := 0 }
theorem hdX6_isItemWhole : yX6_isItemWhole.cls = RX6 ∧ yX6_isItemWhole.cls ≠ "java/lang/invoke/MethodHandle" ∧ yX6_isItemWhole.cls ≠ "java/lang/invoke/VarHandle" ∧ (parseMethodDescriptor yX6_isItemWhole.desc).map (fun d => d.parameters.length) = some 0 := by decide +kernel
set_option maxRecDepth 100000 in
set_option maxHeartbeats 8000000 in
theorem ctX6_isItemWhole (l : Launch) (dC : Nat → ClassId) (dI : Nat → Nat → Nat) (cq : Nat → ClassId) (q : Nat → Nat) (S : CS) (M : MS) (o : Nat → Int64) (sz : Nat) (h0 : Nat)  (rr : Int32) (h : mX6_isItemWhole S = some rr) : CtR_i l yX6_isItemWhole wsX6_isItemWhole rmX6_isItemWhole (fun a => h0 ≤ a) (EV h0 q) dC dI cq q S M o sz [.ref (q 20)] rr := by
  refine enR_z (cc := cX6_isItemWhole) (maxL := 1) (by decide) rfl (Nat.le_of_ble_eq_true rfl) (fun p e s m args below meth c A Q ls F hA hP hK hD hDm hX hS hl hend => ?_)
  obtain ⟨hx, hb, hml, hown, hts⟩ := id F
  have hown : s.vm.findClass RX6 = some m.cls := hown
  have F : CallFix p m c cX6_isItemWhole 1 s args wsX6_isItemWhole RX6 := F
  have hl : lv_has ls 1 [(0, .ref (q 20))] := hl
  have hinX6 : ∀ w ∈ u_ws RX6 TX6 10, w ∈ wsX6_isItemWhole := fun w h => List.mem_cons_of_mem _ (List.mem_append_right _ h)
  have hj40 : ∀      (H : Heap) (locs : List Loc) (ls : Array Slot), va_P (dC, dI) vwCl (wA cq q S M o) H → va_D A (wA cq q S M o) → va_S A s.heap H locs → lv_has ls 1 [] → mX6_isItemWhole_40 S = some rr → W p l e rmX6_isItemWhole s m args below meth c H locs 0 0 Q (F0 m 40 ls []) := by
    intro  H locs ls hP hD hS hl h
    rw [mX6_isItemWhole_40] at h
    refine lv_iconst (v := (1 : Int32)) hx hb dX6_isItemWhole_40 (by decide) ?_
    refine lv_goto (tgt := 45) hx hb dX6_isItemWhole_41 (by decide) ?_
    exact hend _ _ _ _ _ h hP hD hS dX6_isItemWhole_45 (by decide)
  have hj24 : ∀      (H : Heap) (locs : List Loc) (ls : Array Slot), va_P (dC, dI) vwCl (wA cq q S M o) H → va_D A (wA cq q S M o) → va_S A s.heap H locs → lv_has ls 1 [(0, .ref (q 20))] → mX6_isItemWhole_24 S = some rr → W p l e rmX6_isItemWhole s m args below meth c H locs 0 0 Q (F0 m 24 ls []) := by
    intro  H locs ls hP hD hS hl h
    rw [mX6_isItemWhole_24] at h
    refine lv_aload_n hx hb dX6_isItemWhole_24 rfl (lv_at hl 0 rfl) ?_
    refine va_get (D := (dC, dI)) (ci := 7) (v := .int (S.1 12)) (C := RX6) (T := TX6) (N := 10) hx hb hts hinX6 hown hK hP 20 rfl rfl 3 (by decide) (hts (.fieldLink RX6 22 "CableTester$Text" "state" "I") (mm 1 rfl)) (fun _ h9 => h9) rfl dX6_isItemWhole_25 ?_
    refine lv_bipush (v := (6 : Int32)) hx hb dX6_isItemWhole_28 (by decide) ?_
    refine lv_icmp_ne (tgt := 44) hx hb dX6_isItemWhole_30 (by decide) (fun c3 => ?_) (fun c3 => ?_)
    · replace h := ie c3 h
      refine lv_iconst (v := (0 : Int32)) hx hb dX6_isItemWhole_44 (by decide) ?_
      exact hend _ _ _ _ _ h hP hD hS dX6_isItemWhole_45 (by decide)
    · replace h := it c3 h
      refine lv_aload_n hx hb dX6_isItemWhole_33 rfl (lv_at hl 0 rfl) ?_
      refine va_get (D := (dC, dI)) (ci := 7) (v := .int (S.1 18)) (C := RX6) (T := TX6) (N := 10) hx hb hts hinX6 hown hK hP 20 rfl rfl 9 (by decide) (hts (.fieldLink RX6 50 "CableTester$Text" "duration" "I") (mm 3 rfl)) (fun _ h9 => h9) rfl dX6_isItemWhole_34 ?_
      refine lv_if_le (tgt := 44) hx hb dX6_isItemWhole_37 (by decide) (fun c4 => ?_) (fun c4 => ?_)
      · replace h := it c4 h
        refine lv_iconst (v := (0 : Int32)) hx hb dX6_isItemWhole_44 (by decide) ?_
        exact hend _ _ _ _ _ h hP hD hS dX6_isItemWhole_45 (by decide)
      · replace h := ie c4 h
        exact hj40 _ _ _ hP hD hS (lv_sub hl [] rfl) h
  rw [mX6_isItemWhole] at h
  refine lv_aload_n hx hb dX6_isItemWhole_0 rfl (lv_at hl 0 rfl) ?_
  refine va_get (D := (dC, dI)) (ci := 7) (v := .int (S.1 12)) (C := RX6) (T := TX6) (N := 10) hx hb hts hinX6 hown hK hP 20 rfl rfl 3 (by decide) (hts (.fieldLink RX6 22 "CableTester$Text" "state" "I") (mm 1 rfl)) (fun _ h9 => h9) rfl dX6_isItemWhole_1 ?_
  refine lv_bipush (v := (7 : Int32)) hx hb dX6_isItemWhole_4 (by decide) ?_
  refine lv_icmp_eq (tgt := 40) hx hb dX6_isItemWhole_6 (by decide) (fun c1 => ?_) (fun c1 => ?_)
  · replace h := it c1 h
    exact hj40 _ _ _ hP hD hS (lv_sub hl [] rfl) h
  · replace h := ie c1 h
    refine lv_aload_n hx hb dX6_isItemWhole_9 rfl (lv_at hl 0 rfl) ?_
    refine va_get (D := (dC, dI)) (ci := 7) (v := .int (S.1 12)) (C := RX6) (T := TX6) (N := 10) hx hb hts hinX6 hown hK hP 20 rfl rfl 3 (by decide) (hts (.fieldLink RX6 22 "CableTester$Text" "state" "I") (mm 1 rfl)) (fun _ h9 => h9) rfl dX6_isItemWhole_10 ?_
    refine lv_iconst (v := (4 : Int32)) hx hb dX6_isItemWhole_13 (by decide) ?_
    refine lv_icmp_ne (tgt := 24) hx hb dX6_isItemWhole_14 (by decide) (fun c2 => ?_) (fun c2 => ?_)
    · replace h := ie c2 h
      exact hj24 _ _ _ hP hD hS (lv_sub hl [0] rfl) h
    · replace h := it c2 h
      refine lv_aload_n hx hb dX6_isItemWhole_17 rfl (lv_at hl 0 rfl) ?_
      refine va_get (D := (dC, dI)) (ci := 7) (v := .int (S.1 16)) (C := RX6) (T := TX6) (N := 10) hx hb hts hinX6 hown hK hP 20 rfl rfl 7 (by decide) (hts (.fieldLink RX6 47 "CableTester$Text" "place" "I") (mm 2 rfl)) (fun _ h9 => h9) rfl dX6_isItemWhole_18 ?_
      refine lv_if_gt (tgt := 40) hx hb dX6_isItemWhole_21 (by decide) (fun c5 => ?_) (fun c5 => ?_)
      · replace h := it c5 h
        exact hj40 _ _ _ hP hD hS (lv_sub hl [] rfl) h
      · replace h := ie c5 h
        exact hj24 _ _ _ hP hD hS (lv_sub hl [0] rfl) h
def mX6_itemIsFault_18  (S : CS)   : Option (Int32) :=
  (some (1 : Int32))
def mX6_itemIsFault (S : CS)  : Option (Int32) :=
  (if (S.1 13) = (99 : Int32) then (mX6_itemIsFault_18 S) else (if (S.1 13) = (115 : Int32) then (mX6_itemIsFault_18 S) else (some (0 : Int32))))
abbrev rmX6_itemIsFault : Room := { frames := 0, cells := 0, slots := 0, locals := 0 }
theorem hdX6_itemIsFault : yX6_itemIsFault.cls = RX6 ∧ yX6_itemIsFault.cls ≠ "java/lang/invoke/MethodHandle" ∧ yX6_itemIsFault.cls ≠ "java/lang/invoke/VarHandle" ∧ (parseMethodDescriptor yX6_itemIsFault.desc).map (fun d => d.parameters.length) = some 0 := by decide +kernel
set_option maxRecDepth 100000 in
set_option maxHeartbeats 8000000 in
theorem ctX6_itemIsFault (l : Launch) (dC : Nat → ClassId) (dI : Nat → Nat → Nat) (cq : Nat → ClassId) (q : Nat → Nat) (S : CS) (M : MS) (o : Nat → Int64) (sz : Nat) (h0 : Nat)  (rr : Int32) (h : mX6_itemIsFault S = some rr) : CtR_i l yX6_itemIsFault wsX6_itemIsFault rmX6_itemIsFault (fun a => h0 ≤ a) (EV h0 q) dC dI cq q S M o sz [.ref (q 20)] rr := by
  refine enR_z (cc := cX6_itemIsFault) (maxL := 1) (by decide) rfl (Nat.le_of_ble_eq_true rfl) (fun p e s m args below meth c A Q ls F hA hP hK hD hDm hX hS hl hend => ?_)
  obtain ⟨hx, hb, hml, hown, hts⟩ := id F
  have hown : s.vm.findClass RX6 = some m.cls := hown
  have F : CallFix p m c cX6_itemIsFault 1 s args wsX6_itemIsFault RX6 := F
  have hl : lv_has ls 1 [(0, .ref (q 20))] := hl
  have hinX6 : ∀ w ∈ u_ws RX6 TX6 10, w ∈ wsX6_itemIsFault := fun w h => List.mem_cons_of_mem _ (List.mem_append_right _ h)
  have hj18 : ∀      (H : Heap) (locs : List Loc) (ls : Array Slot), va_P (dC, dI) vwCl (wA cq q S M o) H → va_D A (wA cq q S M o) → va_S A s.heap H locs → lv_has ls 1 [] → mX6_itemIsFault_18 S = some rr → W p l e rmX6_itemIsFault s m args below meth c H locs 0 0 Q (F0 m 18 ls []) := by
    intro  H locs ls hP hD hS hl h
    rw [mX6_itemIsFault_18] at h
    refine lv_iconst (v := (1 : Int32)) hx hb dX6_itemIsFault_18 (by decide) ?_
    refine lv_goto (tgt := 23) hx hb dX6_itemIsFault_19 (by decide) ?_
    exact hend _ _ _ _ _ h hP hD hS dX6_itemIsFault_23 (by decide)
  rw [mX6_itemIsFault] at h
  refine lv_aload_n hx hb dX6_itemIsFault_0 rfl (lv_at hl 0 rfl) ?_
  refine va_get (D := (dC, dI)) (ci := 7) (v := .int (S.1 13)) (C := RX6) (T := TX6) (N := 10) hx hb hts hinX6 hown hK hP 20 rfl rfl 4 (by decide) (hts (.fieldLink RX6 44 "CableTester$Text" "letter" "I") (mm 1 rfl)) (fun _ h9 => h9) rfl dX6_itemIsFault_1 ?_
  refine lv_bipush (v := (99 : Int32)) hx hb dX6_itemIsFault_4 (by decide) ?_
  refine lv_icmp_eq (tgt := 18) hx hb dX6_itemIsFault_6 (by decide) (fun c1 => ?_) (fun c1 => ?_)
  · replace h := it c1 h
    exact hj18 _ _ _ hP hD hS (lv_sub hl [] rfl) h
  · replace h := ie c1 h
    refine lv_aload_n hx hb dX6_itemIsFault_9 rfl (lv_at hl 0 rfl) ?_
    refine va_get (D := (dC, dI)) (ci := 7) (v := .int (S.1 13)) (C := RX6) (T := TX6) (N := 10) hx hb hts hinX6 hown hK hP 20 rfl rfl 4 (by decide) (hts (.fieldLink RX6 44 "CableTester$Text" "letter" "I") (mm 1 rfl)) (fun _ h9 => h9) rfl dX6_itemIsFault_10 ?_
    refine lv_bipush (v := (115 : Int32)) hx hb dX6_itemIsFault_13 (by decide) ?_
    refine lv_icmp_ne (tgt := 22) hx hb dX6_itemIsFault_15 (by decide) (fun c2 => ?_) (fun c2 => ?_)
    · replace h := ie c2 h
      refine lv_iconst (v := (0 : Int32)) hx hb dX6_itemIsFault_22 (by decide) ?_
      exact hend _ _ _ _ _ h hP hD hS dX6_itemIsFault_23 (by decide)
    · replace h := it c2 h
      exact hj18 _ _ _ hP hD hS (lv_sub hl [] rfl) h
def mX6_readLetter_55  (S : CS)   : Option (Int32 × CS) :=
  (some ((1 : Int32), S))
def mX6_readLetter (S : CS) (x1 : Int32) : Option (Int32 × CS) :=
  (bn (mX6_itemIsFault (sF (sF (sF (sF (sF (sF S 13 x1) 15 (-1 : Int32)) 16 (0 : Int32)) 17 (1 : Int32)) 18 (1 : Int32)) 12 (1 : Int32))) fun r1 => (if r1 = (0 : Int32) then (if ((sF (sF (sF (sF (sF (sF S 13 x1) 15 (-1 : Int32)) 16 (0 : Int32)) 17 (1 : Int32)) 18 (1 : Int32)) 12 (1 : Int32)).1 13) = (110 : Int32) then (mX6_readLetter_55 (sF (sF (sF (sF (sF (sF S 13 x1) 15 (-1 : Int32)) 16 (0 : Int32)) 17 (1 : Int32)) 18 (1 : Int32)) 12 (1 : Int32))) else (if ((sF (sF (sF (sF (sF (sF S 13 x1) 15 (-1 : Int32)) 16 (0 : Int32)) 17 (1 : Int32)) 18 (1 : Int32)) 12 (1 : Int32)).1 13) = (102 : Int32) then (mX6_readLetter_55 (sF (sF (sF (sF (sF (sF S 13 x1) 15 (-1 : Int32)) 16 (0 : Int32)) 17 (1 : Int32)) 18 (1 : Int32)) 12 (1 : Int32))) else (some ((0 : Int32), (sF (sF (sF (sF (sF (sF S 13 x1) 15 (-1 : Int32)) 16 (0 : Int32)) 17 (1 : Int32)) 18 (1 : Int32)) 12 (1 : Int32)))))) else (mX6_readLetter_55 (sF (sF (sF (sF (sF (sF S 13 x1) 15 (-1 : Int32)) 16 (0 : Int32)) 17 (1 : Int32)) 18 (1 : Int32)) 12 (1 : Int32)))))
abbrev rmX6_readLetter : Room := { frames := 1, cells := 0, slots := 0, locals := 20 }
theorem hdX6_readLetter : yX6_readLetter.cls = RX6 ∧ yX6_readLetter.cls ≠ "java/lang/invoke/MethodHandle" ∧ yX6_readLetter.cls ≠ "java/lang/invoke/VarHandle" ∧ (parseMethodDescriptor yX6_readLetter.desc).map (fun d => d.parameters.length) = some 1 := by decide +kernel
set_option maxRecDepth 100000 in
set_option maxHeartbeats 8000000 in
theorem ctX6_readLetter (l : Launch) (dC : Nat → ClassId) (dI : Nat → Nat → Nat) (cq : Nat → ClassId) (q : Nat → Nat) (S : CS) (M : MS) (o : Nat → Int64) (sz : Nat) (h0 : Nat) (x1 : Int32) (rr : Int32) (SS : CS) (h : mX6_readLetter S x1 = some (rr, SS)) : CtC_i l yX6_readLetter wsX6_readLetter rmX6_readLetter (fun a => h0 ≤ a) (EV h0 q) dC dI cq q S M o sz [.ref (q 20), .int x1] rr SS := by
  refine enC_z (cc := cX6_readLetter) (maxL := 2) (by decide) rfl (Nat.le_of_ble_eq_true rfl) (fun p e s m args below meth c A Q ls F hA hP hK hD hDm hX hS hl hend => ?_)
  obtain ⟨hx, hb, hml, hown, hts⟩ := id F
  have hown : s.vm.findClass RX6 = some m.cls := hown
  have F : CallFix p m c cX6_readLetter 2 s args wsX6_readLetter RX6 := F
  have hl : lv_has ls 2 [(0, .ref (q 20)), (1, .int x1)] := hl
  have hinX6 : ∀ w ∈ u_ws RX6 TX6 10, w ∈ wsX6_readLetter := fun w h => List.mem_cons_of_mem _ (List.mem_append_right _ h)
  have hj55 : ∀ (S : CS)     (H : Heap) (locs : List Loc) (ls : Array Slot), va_P (dC, dI) vwCl (wA cq q S M o) H → va_D A (wA cq q S M o) → va_S A s.heap H locs → lv_has ls 2 [] → mX6_readLetter_55 S = some (rr, SS) → W p l e rmX6_readLetter s m args below meth c H locs 0 0 Q (F0 m 55 ls []) := by
    intro S H locs ls hP hD hS hl h
    rw [mX6_readLetter_55] at h
    refine lv_iconst (v := (1 : Int32)) hx hb dX6_readLetter_55 (by decide) ?_
    refine lv_goto (tgt := 60) hx hb dX6_readLetter_56 (by decide) ?_
    exact hend _ _ _ _ _ _ h hP hD hS dX6_readLetter_60 (by decide)
  rw [mX6_readLetter] at h
  refine lv_aload_n hx hb dX6_readLetter_0 rfl (lv_at hl 0 rfl) ?_
  refine lv_iload_n hx hb dX6_readLetter_1 rfl (lv_at hl 1 rfl) ?_
  refine pt_20_4 F hinX6 (hts (.fieldLink RX6 44 "CableTester$Text" "letter" "I") (mm 1 rfl)) hK hP hD hS dX6_readLetter_2 (fun H locs hP hD hS => ?_)
  refine lv_aload_n hx hb dX6_readLetter_5 rfl (lv_at hl 0 rfl) ?_
  refine lv_iconst (v := (-1 : Int32)) hx hb dX6_readLetter_6 (by decide) ?_
  refine pt_20_6 F hinX6 (hts (.fieldLink RX6 74 "CableTester$Text" "second" "I") (mm 2 rfl)) hK hP hD hS dX6_readLetter_7 (fun H locs hP hD hS => ?_)
  refine lv_aload_n hx hb dX6_readLetter_10 rfl (lv_at hl 0 rfl) ?_
  refine lv_iconst (v := (0 : Int32)) hx hb dX6_readLetter_11 (by decide) ?_
  refine pt_20_7 F hinX6 (hts (.fieldLink RX6 47 "CableTester$Text" "place" "I") (mm 3 rfl)) hK hP hD hS dX6_readLetter_12 (fun H locs hP hD hS => ?_)
  refine lv_aload_n hx hb dX6_readLetter_15 rfl (lv_at hl 0 rfl) ?_
  refine lv_iconst (v := (1 : Int32)) hx hb dX6_readLetter_16 (by decide) ?_
  refine pt_20_8 F hinX6 (hts (.fieldLink RX6 77 "CableTester$Text" "period" "I") (mm 4 rfl)) hK hP hD hS dX6_readLetter_17 (fun H locs hP hD hS => ?_)
  refine lv_aload_n hx hb dX6_readLetter_20 rfl (lv_at hl 0 rfl) ?_
  refine lv_iconst (v := (1 : Int32)) hx hb dX6_readLetter_21 (by decide) ?_
  refine pt_20_9 F hinX6 (hts (.fieldLink RX6 50 "CableTester$Text" "duration" "I") (mm 5 rfl)) hK hP hD hS dX6_readLetter_22 (fun H locs hP hD hS => ?_)
  refine lv_aload_n hx hb dX6_readLetter_25 rfl (lv_at hl 0 rfl) ?_
  refine lv_iconst (v := (1 : Int32)) hx hb dX6_readLetter_26 (by decide) ?_
  refine pt_20_3 F hinX6 (hts (.fieldLink RX6 22 "CableTester$Text" "state" "I") (mm 6 rfl)) hK hP hD hS dX6_readLetter_27 (fun H locs hP hD hS => ?_)
  refine lv_aload_n hx hb dX6_readLetter_30 rfl (lv_at hl 0 rfl) ?_
  obtain ⟨r1, e2, h⟩ := bo h
  refine caVR_i (As := []) (rest := []) (ctX6_itemIsFault l dC dI cq q (sF (sF (sF (sF (sF (sF S 13 x1) 15 (-1 : Int32)) 16 (0 : Int32)) 17 (1 : Int32)) 18 (1 : Int32)) 12 (1 : Int32)) M o _ _ _ e2) F (cwV 0 hts gX6_readLetter_X6_itemIsFault rfl rfl rfl hdX6_itemIsFault ⟨Nat.le_of_ble_eq_true rfl, Nat.le_of_ble_eq_true rfl⟩) hK hP hD hDm hS hA EV.blind (fun U hU hW => EV.call hX hS hDm hU hW) (va_recv hK hP (ci := 7) (q0 := 20) rfl rfl) rfl hl.1 rfl (Nat.le_of_ble_eq_true rfl) dX6_readLetter_31 ⟨Nat.zero_le _, Nat.zero_le _⟩ (fun H locs hP hD hS => ?_)
  refine lv_if_ne (tgt := 55) hx hb dX6_readLetter_34 (by decide) (fun c3 => ?_) (fun c3 => ?_)
  · replace h := ie c3 h
    exact hj55 _ _ _ _ hP hD hS (lv_sub hl [] rfl) h
  · replace h := it c3 h
    refine lv_aload_n hx hb dX6_readLetter_37 rfl (lv_at hl 0 rfl) ?_
    refine va_get (D := (dC, dI)) (ci := 7) (v := .int ((sF (sF (sF (sF (sF (sF S 13 x1) 15 (-1 : Int32)) 16 (0 : Int32)) 17 (1 : Int32)) 18 (1 : Int32)) 12 (1 : Int32)).1 13)) (C := RX6) (T := TX6) (N := 10) hx hb hts hinX6 hown hK hP 20 rfl rfl 4 (by decide) (hts (.fieldLink RX6 44 "CableTester$Text" "letter" "I") (mm 1 rfl)) (fun _ h9 => h9) rfl dX6_readLetter_38 ?_
    refine lv_bipush (v := (110 : Int32)) hx hb dX6_readLetter_41 (by decide) ?_
    refine lv_icmp_eq (tgt := 55) hx hb dX6_readLetter_43 (by decide) (fun c4 => ?_) (fun c4 => ?_)
    · replace h := it c4 h
      exact hj55 _ _ _ _ hP hD hS (lv_sub hl [] rfl) h
    · replace h := ie c4 h
      refine lv_aload_n hx hb dX6_readLetter_46 rfl (lv_at hl 0 rfl) ?_
      refine va_get (D := (dC, dI)) (ci := 7) (v := .int ((sF (sF (sF (sF (sF (sF S 13 x1) 15 (-1 : Int32)) 16 (0 : Int32)) 17 (1 : Int32)) 18 (1 : Int32)) 12 (1 : Int32)).1 13)) (C := RX6) (T := TX6) (N := 10) hx hb hts hinX6 hown hK hP 20 rfl rfl 4 (by decide) (hts (.fieldLink RX6 44 "CableTester$Text" "letter" "I") (mm 1 rfl)) (fun _ h9 => h9) rfl dX6_readLetter_47 ?_
      refine lv_bipush (v := (102 : Int32)) hx hb dX6_readLetter_50 (by decide) ?_
      refine lv_icmp_ne (tgt := 59) hx hb dX6_readLetter_52 (by decide) (fun c5 => ?_) (fun c5 => ?_)
      · replace h := ie c5 h
        refine lv_iconst (v := (0 : Int32)) hx hb dX6_readLetter_59 (by decide) ?_
        exact hend _ _ _ _ _ _ h hP hD hS dX6_readLetter_60 (by decide)
      · replace h := it c5 h
        exact hj55 _ _ _ _ hP hD hS (lv_sub hl [] rfl) h
