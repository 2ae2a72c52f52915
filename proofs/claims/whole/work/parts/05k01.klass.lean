def mX3_separate_9_2 (n : Nat)   : Nat → CS → Int32 → Option (CS)
  | 0, _, _ => none
  | k + 1, S, x1 => (if (18 : Int32) ≤ x1 then (some S) else (if inb x1 18 then (mX3_separate_9_2 n k (sA S 10 x1.toNatClampNeg x1) (x1 + (1 : Int32))) else none))
def mX3_separate_9 (n : Nat) (S : CS)  : Option (CS) :=
  (mX3_separate_9_2 n n S (0 : Int32))
abbrev rmX3_separate_9 : Room := { frames := 0, cells := 0, slots := 0, locals := 0 }
set_option maxRecDepth 100000 in
set_option maxHeartbeats 8000000 in
theorem ctX3_separate_9 (l : Launch) (dC : Nat → ClassId) (dI : Nat → Nat → Nat) (cq : Nat → ClassId) (q : Nat → Nat) (S : CS) (M : MS) (o : Nat → Int64) (sz : Nat) (h0 : Nat) (n : Nat)  (SS : CS) (h : mX3_separate_9 n S = some SS) : CtC_v l yX3_separate wsX3_separate rmX3_separate_9 (fun a => h0 ≤ a) (EV h0 q) dC dI cq q S M o sz [.ref (q 9)] SS := by
  refine enC_v (cc := cX3_separate) (maxL := 2) (by decide) rfl (Nat.le_of_ble_eq_true rfl) (fun p e s m args below meth c A Q ls F hA hP hK hD hDm hX hS hl hend => ?_)
  obtain ⟨hx, hb, hml, hown, hts⟩ := id F
  have hown : s.vm.findClass RX3 = some m.cls := hown
  have F : CallFix p m c cX3_separate 2 s args wsX3_separate RX3 := F
  have hl : lv_has ls 2 [(0, .ref (q 9))] := hl
  have hinX3 : ∀ w ∈ u_ws RX3 TX3 1, w ∈ wsX3_separate := fun w h => List.mem_cons_of_mem _ (List.mem_append_right _ h)
  have hL2 : ∀   (k : Nat) (S : CS) (x1 : Int32) (H : Heap) (locs : List Loc) (ls : Array Slot), va_P (dC, dI) vwCl (wA cq q S M o) H → va_D A (wA cq q S M o) → va_S A s.heap H locs → lv_has ls 2 [(0, .ref (q 9)), (1, .int x1)] → mX3_separate_9_2 n k S x1 = some SS → W p l e rmX3_separate_9 s m args below meth c H locs 0 0 Q (F0 m 2 ls []) := by
    intro k
    induction k with
    | zero =>
      intro S x1 H locs ls hP hD hS hl h
      rw [mX3_separate_9_2] at h
      cases h
    | succ k ih =>
      intro S x1 H locs ls hP hD hS hl h
      rw [mX3_separate_9_2] at h
      refine lv_iload_n hx hb dX3_separate_2 rfl (lv_at hl 1 rfl) ?_
      refine lv_aload_n hx hb dX3_separate_3 rfl (lv_at hl 0 rfl) ?_
      refine va_get (D := (dC, dI)) (ci := 4) (v := .ref (q 10)) (C := RX3) (T := TX3) (N := 1) hx hb hts hinX3 hown hK hP 9 rfl rfl 0 (by decide) (hts (.fieldLink RX3 15 "CableTester$Groups" "groups" "[I") (mm 1 rfl)) (fun _ h9 => h9) rfl dX3_separate_4 ?_
      refine va_alen (D := (dC, dI)) hx hb hK hP 10 4 rfl rfl (v := (18 : Int32)) rfl dX3_separate_7 ?_
      refine lv_icmp_ge (tgt := 24) hx hb dX3_separate_8 (by decide) (fun c1 => ?_) (fun c1 => ?_)
      · replace h := it c1 h
        exact hend _ _ _ _ _ h hP hD hS dX3_separate_24
      · replace h := ie c1 h
        refine lv_aload_n hx hb dX3_separate_11 rfl (lv_at hl 0 rfl) ?_
        refine va_get (D := (dC, dI)) (ci := 4) (v := .ref (q 10)) (C := RX3) (T := TX3) (N := 1) hx hb hts hinX3 hown hK hP 9 rfl rfl 0 (by decide) (hts (.fieldLink RX3 15 "CableTester$Groups" "groups" "[I") (mm 1 rfl)) (fun _ h9 => h9) rfl dX3_separate_12 ?_
        refine lv_iload_n hx hb dX3_separate_15 rfl (lv_at hl 1 rfl) ?_
        refine lv_iload_n hx hb dX3_separate_16 rfl (lv_at hl 1 rfl) ?_
        obtain ⟨g2, h⟩ := gd h
        refine as_10 F hK hP hD hS (inb_ok g2) dX3_separate_17 (fun H locs hP hD hS => ?_)
        refine lv_iinc (v := (x1 + (1 : Int32))) (lv' := [(1, .int (x1 + (1 : Int32))), (0, .ref (q 9))]) hx hb dX3_separate_18 hl (k := 1) rfl rfl (by decide) rfl (fun ls hl => ?_)
        refine lv_goto (tgt := 2) hx hb dX3_separate_21 (by decide) ?_
        exact ih _ _ _ _ _ hP hD hS (lv_sub hl [1, 0] rfl) h
  rw [mX3_separate_9] at h
  refine lv_iconst (v := (0 : Int32)) hx hb dX3_separate_0 (by decide) ?_
  refine lv_istore_n (lv' := [(1, .int (0 : Int32)), (0, .ref (q 9))]) hx hb dX3_separate_1 rfl hl (by decide) rfl (fun ls hl => ?_)
  exact hL2 _ _ _ _ _ _ hP hD hS (lv_sub hl [1, 0] rfl) h
def mX3_groupOf_4 (S : CS) (x1 : Int32) : Option (Int32) :=
  (if x1 < (0 : Int32) then (some (-1 : Int32)) else (if (4 : Int32) ≤ x1 then (some (-1 : Int32)) else (if inb x1 4 then (some (S.2.1 5 x1.toNatClampNeg)) else none)))
abbrev rmX3_groupOf_4 : Room := { frames := 0, cells := 0, slots := 0, locals := 0 }
theorem hdX3_groupOf : yX3_groupOf.cls = RX3 ∧ yX3_groupOf.cls ≠ "java/lang/invoke/MethodHandle" ∧ yX3_groupOf.cls ≠ "java/lang/invoke/VarHandle" ∧ (parseMethodDescriptor yX3_groupOf.desc).map (fun d => d.parameters.length) = some 1 := by decide +kernel
set_option maxRecDepth 100000 in
set_option maxHeartbeats 8000000 in
theorem ctX3_groupOf_4 (l : Launch) (dC : Nat → ClassId) (dI : Nat → Nat → Nat) (cq : Nat → ClassId) (q : Nat → Nat) (S : CS) (M : MS) (o : Nat → Int64) (sz : Nat) (h0 : Nat) (x1 : Int32) (rr : Int32) (h : mX3_groupOf_4 S x1 = some rr) : CtR_i l yX3_groupOf wsX3_groupOf rmX3_groupOf_4 (fun a => h0 ≤ a) (EV h0 q) dC dI cq q S M o sz [.ref (q 4), .int x1] rr := by
  refine enR_i (cc := cX3_groupOf) (maxL := 2) (by decide) rfl (Nat.le_of_ble_eq_true rfl) (fun p e s m args below meth c A Q ls F hA hP hK hD hDm hX hS hl hend => ?_)
  obtain ⟨hx, hb, hml, hown, hts⟩ := id F
  have hown : s.vm.findClass RX3 = some m.cls := hown
  have F : CallFix p m c cX3_groupOf 2 s args wsX3_groupOf RX3 := F
  have hl : lv_has ls 2 [(0, .ref (q 4)), (1, .int x1)] := hl
  have hinX3 : ∀ w ∈ u_ws RX3 TX3 1, w ∈ wsX3_groupOf := fun w h => List.mem_cons_of_mem _ (List.mem_append_right _ h)
  rw [mX3_groupOf_4] at h
  refine lv_iload_n hx hb dX3_groupOf_0 rfl (lv_at hl 1 rfl) ?_
  refine lv_if_lt (tgt := 22) hx hb dX3_groupOf_1 (by decide) (fun c1 => ?_) (fun c1 => ?_)
  · replace h := it c1 h
    refine lv_iconst (v := (-1 : Int32)) hx hb dX3_groupOf_22 (by decide) ?_
    exact hend _ _ _ _ _ h hP hD hS dX3_groupOf_23
  · replace h := ie c1 h
    refine lv_iload_n hx hb dX3_groupOf_4 rfl (lv_at hl 1 rfl) ?_
    refine lv_aload_n hx hb dX3_groupOf_5 rfl (lv_at hl 0 rfl) ?_
    refine va_get (D := (dC, dI)) (ci := 4) (v := .ref (q 5)) (C := RX3) (T := TX3) (N := 1) hx hb hts hinX3 hown hK hP 4 rfl rfl 0 (by decide) (hts (.fieldLink RX3 15 "CableTester$Groups" "groups" "[I") (mm 1 rfl)) (fun _ h9 => h9) rfl dX3_groupOf_6 ?_
    refine va_alen (D := (dC, dI)) hx hb hK hP 5 1 rfl rfl (v := (4 : Int32)) rfl dX3_groupOf_9 ?_
    refine lv_icmp_ge (tgt := 22) hx hb dX3_groupOf_10 (by decide) (fun c2 => ?_) (fun c2 => ?_)
    · replace h := it c2 h
      refine lv_iconst (v := (-1 : Int32)) hx hb dX3_groupOf_22 (by decide) ?_
      exact hend _ _ _ _ _ h hP hD hS dX3_groupOf_23
    · replace h := ie c2 h
      refine lv_aload_n hx hb dX3_groupOf_13 rfl (lv_at hl 0 rfl) ?_
      refine va_get (D := (dC, dI)) (ci := 4) (v := .ref (q 5)) (C := RX3) (T := TX3) (N := 1) hx hb hts hinX3 hown hK hP 4 rfl rfl 0 (by decide) (hts (.fieldLink RX3 15 "CableTester$Groups" "groups" "[I") (mm 1 rfl)) (fun _ h9 => h9) rfl dX3_groupOf_14 ?_
      refine lv_iload_n hx hb dX3_groupOf_17 rfl (lv_at hl 1 rfl) ?_
      obtain ⟨g3, h⟩ := gd h
      refine va_iald (D := (dC, dI)) hx hb hK hP 5 1 rfl rfl (inb_ok g3) dX3_groupOf_18 ?_
      refine lv_goto (tgt := 23) hx hb dX3_groupOf_19 (by decide) ?_
      exact hend _ _ _ _ _ h hP hD hS dX3_groupOf_23
def mX3_groupOf_9 (S : CS) (x1 : Int32) : Option (Int32) :=
  (if x1 < (0 : Int32) then (some (-1 : Int32)) else (if (18 : Int32) ≤ x1 then (some (-1 : Int32)) else (if inb x1 18 then (some (S.2.1 10 x1.toNatClampNeg)) else none)))
abbrev rmX3_groupOf_9 : Room := { frames := 0, cells := 0, slots := 0, locals := 0 }
set_option maxRecDepth 100000 in
set_option maxHeartbeats 8000000 in
theorem ctX3_groupOf_9 (l : Launch) (dC : Nat → ClassId) (dI : Nat → Nat → Nat) (cq : Nat → ClassId) (q : Nat → Nat) (S : CS) (M : MS) (o : Nat → Int64) (sz : Nat) (h0 : Nat) (x1 : Int32) (rr : Int32) (h : mX3_groupOf_9 S x1 = some rr) : CtR_i l yX3_groupOf wsX3_groupOf rmX3_groupOf_9 (fun a => h0 ≤ a) (EV h0 q) dC dI cq q S M o sz [.ref (q 9), .int x1] rr := by
  refine enR_i (cc := cX3_groupOf) (maxL := 2) (by decide) rfl (Nat.le_of_ble_eq_true rfl) (fun p e s m args below meth c A Q ls F hA hP hK hD hDm hX hS hl hend => ?_)
  obtain ⟨hx, hb, hml, hown, hts⟩ := id F
  have hown : s.vm.findClass RX3 = some m.cls := hown
  have F : CallFix p m c cX3_groupOf 2 s args wsX3_groupOf RX3 := F
  have hl : lv_has ls 2 [(0, .ref (q 9)), (1, .int x1)] := hl
  have hinX3 : ∀ w ∈ u_ws RX3 TX3 1, w ∈ wsX3_groupOf := fun w h => List.mem_cons_of_mem _ (List.mem_append_right _ h)
  rw [mX3_groupOf_9] at h
  refine lv_iload_n hx hb dX3_groupOf_0 rfl (lv_at hl 1 rfl) ?_
  refine lv_if_lt (tgt := 22) hx hb dX3_groupOf_1 (by decide) (fun c1 => ?_) (fun c1 => ?_)
  · replace h := it c1 h
    refine lv_iconst (v := (-1 : Int32)) hx hb dX3_groupOf_22 (by decide) ?_
    exact hend _ _ _ _ _ h hP hD hS dX3_groupOf_23
  · replace h := ie c1 h
    refine lv_iload_n hx hb dX3_groupOf_4 rfl (lv_at hl 1 rfl) ?_
    refine lv_aload_n hx hb dX3_groupOf_5 rfl (lv_at hl 0 rfl) ?_
    refine va_get (D := (dC, dI)) (ci := 4) (v := .ref (q 10)) (C := RX3) (T := TX3) (N := 1) hx hb hts hinX3 hown hK hP 9 rfl rfl 0 (by decide) (hts (.fieldLink RX3 15 "CableTester$Groups" "groups" "[I") (mm 1 rfl)) (fun _ h9 => h9) rfl dX3_groupOf_6 ?_
    refine va_alen (D := (dC, dI)) hx hb hK hP 10 4 rfl rfl (v := (18 : Int32)) rfl dX3_groupOf_9 ?_
    refine lv_icmp_ge (tgt := 22) hx hb dX3_groupOf_10 (by decide) (fun c2 => ?_) (fun c2 => ?_)
    · replace h := it c2 h
      refine lv_iconst (v := (-1 : Int32)) hx hb dX3_groupOf_22 (by decide) ?_
      exact hend _ _ _ _ _ h hP hD hS dX3_groupOf_23
    · replace h := ie c2 h
      refine lv_aload_n hx hb dX3_groupOf_13 rfl (lv_at hl 0 rfl) ?_
      refine va_get (D := (dC, dI)) (ci := 4) (v := .ref (q 10)) (C := RX3) (T := TX3) (N := 1) hx hb hts hinX3 hown hK hP 9 rfl rfl 0 (by decide) (hts (.fieldLink RX3 15 "CableTester$Groups" "groups" "[I") (mm 1 rfl)) (fun _ h9 => h9) rfl dX3_groupOf_14 ?_
      refine lv_iload_n hx hb dX3_groupOf_17 rfl (lv_at hl 1 rfl) ?_
      obtain ⟨g3, h⟩ := gd h
      refine va_iald (D := (dC, dI)) hx hb hK hP 10 4 rfl rfl (inb_ok g3) dX3_groupOf_18 ?_
      refine lv_goto (tgt := 23) hx hb dX3_groupOf_19 (by decide) ?_
      exact hend _ _ _ _ _ h hP hD hS dX3_groupOf_23
def mX3_unite_4_54 (n : Nat) (K24 : CS → Int32 → Option (Int32 × CS)) (S : CS) (x3 : Int32) (x4 : Int32) (x5 : Int32)  : Option (Int32 × CS) :=
  (K24 S (x5 + (1 : Int32)))
def mX3_unite_4_24 (n : Nat)  (x3 : Int32) (x4 : Int32) : Nat → CS → Int32 → Option (Int32 × CS)
  | 0, _, _ => none
  | k + 1, S, x5 => (if (4 : Int32) ≤ x5 then (some ((1 : Int32), S)) else (if inb x5 4 then (if (S.2.1 5 x5.toNatClampNeg) = x4 then (if inb x5 4 then (mX3_unite_4_54 n (mX3_unite_4_24 n x3 x4 k) (sA S 5 x5.toNatClampNeg x3) x3 x4 x5) else none) else (mX3_unite_4_54 n (mX3_unite_4_24 n x3 x4 k) S x3 x4 x5)) else none))
def mX3_unite_4 (n : Nat) (S : CS) (x1 : Int32) (x2 : Int32) : Option (Int32 × CS) :=
  (bn (mX3_groupOf_4 S x1) fun r1 => (bn (mX3_groupOf_4 S x2) fun r3 => (if r1 = r3 then (some ((0 : Int32), S)) else (mX3_unite_4_24 n r1 r3 n S (0 : Int32)))))
abbrev rmX3_unite_4 : Room := { frames := 1, cells := 0, slots := 0, locals := 21 }
theorem hdX3_unite : yX3_unite.cls = RX3 ∧ yX3_unite.cls ≠ "java/lang/invoke/MethodHandle" ∧ yX3_unite.cls ≠ "java/lang/invoke/VarHandle" ∧ (parseMethodDescriptor yX3_unite.desc).map (fun d => d.parameters.length) = some 2 := by decide +kernel
set_option maxRecDepth 100000 in
set_option maxHeartbeats 8000000 in
theorem ctX3_unite_4 (l : Launch) (dC : Nat → ClassId) (dI : Nat → Nat → Nat) (cq : Nat → ClassId) (q : Nat → Nat) (S : CS) (M : MS) (o : Nat → Int64) (sz : Nat) (h0 : Nat) (n : Nat) (x1 : Int32) (x2 : Int32) (rr : Int32) (SS : CS) (h : mX3_unite_4 n S x1 x2 = some (rr, SS)) : CtC_i l yX3_unite wsX3_unite rmX3_unite_4 (fun a => h0 ≤ a) (EV h0 q) dC dI cq q S M o sz [.ref (q 4), .int x1, .int x2] rr SS := by
  refine enC_z (cc := cX3_unite) (maxL := 6) (by decide) rfl (Nat.le_of_ble_eq_true rfl) (fun p e s m args below meth c A Q ls F hA hP hK hD hDm hX hS hl hend => ?_)
  obtain ⟨hx, hb, hml, hown, hts⟩ := id F
  have hown : s.vm.findClass RX3 = some m.cls := hown
  have F : CallFix p m c cX3_unite 6 s args wsX3_unite RX3 := F
  have hl : lv_has ls 6 [(0, .ref (q 4)), (1, .int x1), (2, .int x2)] := hl
  have hinX3 : ∀ w ∈ u_ws RX3 TX3 1, w ∈ wsX3_unite := fun w h => List.mem_cons_of_mem _ (List.mem_append_right _ h)
  have hj54 : ∀ (S : CS) (x3 : Int32) (x4 : Int32) (x5 : Int32)   (K24 : CS → Int32 → Option (Int32 × CS)) (hK24 : ∀ (S9 : CS) (y5 : Int32) (H : Heap) (locs : List Loc) (ls : Array Slot), va_P (dC, dI) vwCl (wA cq q S9 M o) H → va_D A (wA cq q S9 M o) → va_S A s.heap H locs → lv_has ls 6 [(0, .ref (q 4)), (3, .int x3), (4, .int x4), (5, .int y5)] → K24 S9 y5 = some (rr, SS) → W p l e rmX3_unite_4 s m args below meth c H locs 0 0 Q (F0 m 24 ls [])) (H : Heap) (locs : List Loc) (ls : Array Slot), va_P (dC, dI) vwCl (wA cq q S M o) H → va_D A (wA cq q S M o) → va_S A s.heap H locs → lv_has ls 6 [(0, .ref (q 4)), (3, .int x3), (4, .int x4), (5, .int x5)] → mX3_unite_4_54 n K24 S x3 x4 x5 = some (rr, SS) → W p l e rmX3_unite_4 s m args below meth c H locs 0 0 Q (F0 m 54 ls []) := by
    intro S x3 x4 x5 K24 hK24 H locs ls hP hD hS hl h
    rw [mX3_unite_4_54] at h
    refine lv_iinc (v := (x5 + (1 : Int32))) (lv' := [(5, .int (x5 + (1 : Int32))), (0, .ref (q 4)), (3, .int x3), (4, .int x4)]) hx hb dX3_unite_54 hl (k := 3) rfl rfl (by decide) rfl (fun ls hl => ?_)
    refine lv_goto (tgt := 24) hx hb dX3_unite_57 (by decide) ?_
    exact hK24 _ _ _ _ _ hP hD hS (lv_sub hl [1, 2, 3, 0] rfl) h
  have hL24 : ∀ (x3 : Int32) (x4 : Int32)  (k : Nat) (S : CS) (x5 : Int32) (H : Heap) (locs : List Loc) (ls : Array Slot), va_P (dC, dI) vwCl (wA cq q S M o) H → va_D A (wA cq q S M o) → va_S A s.heap H locs → lv_has ls 6 [(0, .ref (q 4)), (3, .int x3), (4, .int x4), (5, .int x5)] → mX3_unite_4_24 n x3 x4 k S x5 = some (rr, SS) → W p l e rmX3_unite_4 s m args below meth c H locs 0 0 Q (F0 m 24 ls []) := by
    intro x3 x4
    intro k
    induction k with
    | zero =>
      intro S x5 H locs ls hP hD hS hl h
      rw [mX3_unite_4_24] at h
      cases h
    | succ k ih =>
      intro S x5 H locs ls hP hD hS hl h
      rw [mX3_unite_4_24] at h
      refine lv_iload hx hb dX3_unite_24 (lv_at hl 3 rfl) ?_
      refine lv_aload_n hx hb dX3_unite_26 rfl (lv_at hl 0 rfl) ?_
      refine va_get (D := (dC, dI)) (ci := 4) (v := .ref (q 5)) (C := RX3) (T := TX3) (N := 1) hx hb hts hinX3 hown hK hP 4 rfl rfl 0 (by decide) (hts (.fieldLink RX3 15 "CableTester$Groups" "groups" "[I") (mm 1 rfl)) (fun _ h9 => h9) rfl dX3_unite_27 ?_
      refine va_alen (D := (dC, dI)) hx hb hK hP 5 1 rfl rfl (v := (4 : Int32)) rfl dX3_unite_30 ?_
      refine lv_icmp_ge (tgt := 60) hx hb dX3_unite_31 (by decide) (fun c6 => ?_) (fun c6 => ?_)
      · replace h := it c6 h
        refine lv_iconst (v := (1 : Int32)) hx hb dX3_unite_60 (by decide) ?_
        exact hend _ _ _ _ _ _ h hP hD hS dX3_unite_61 (by decide)
      · replace h := ie c6 h
        refine lv_aload_n hx hb dX3_unite_34 rfl (lv_at hl 0 rfl) ?_
        refine va_get (D := (dC, dI)) (ci := 4) (v := .ref (q 5)) (C := RX3) (T := TX3) (N := 1) hx hb hts hinX3 hown hK hP 4 rfl rfl 0 (by decide) (hts (.fieldLink RX3 15 "CableTester$Groups" "groups" "[I") (mm 1 rfl)) (fun _ h9 => h9) rfl dX3_unite_35 ?_
        refine lv_iload hx hb dX3_unite_38 (lv_at hl 3 rfl) ?_
        obtain ⟨g7, h⟩ := gd h
        refine va_iald (D := (dC, dI)) hx hb hK hP 5 1 rfl rfl (inb_ok g7) dX3_unite_40 ?_
        refine lv_iload hx hb dX3_unite_41 (lv_at hl 2 rfl) ?_
        refine lv_icmp_ne (tgt := 54) hx hb dX3_unite_43 (by decide) (fun c8 => ?_) (fun c8 => ?_)
        · replace h := ie c8 h
          exact hj54 _ _ _ _ _ ih _ _ _ hP hD hS (lv_sub hl [0, 1, 2, 3] rfl) h
        · replace h := it c8 h
          refine lv_aload_n hx hb dX3_unite_46 rfl (lv_at hl 0 rfl) ?_
          refine va_get (D := (dC, dI)) (ci := 4) (v := .ref (q 5)) (C := RX3) (T := TX3) (N := 1) hx hb hts hinX3 hown hK hP 4 rfl rfl 0 (by decide) (hts (.fieldLink RX3 15 "CableTester$Groups" "groups" "[I") (mm 1 rfl)) (fun _ h9 => h9) rfl dX3_unite_47 ?_
          refine lv_iload hx hb dX3_unite_50 (lv_at hl 3 rfl) ?_
          refine lv_iload_n hx hb dX3_unite_52 rfl (lv_at hl 1 rfl) ?_
          obtain ⟨g9, h⟩ := gd h
          refine as_5 F hK hP hD hS (inb_ok g9) dX3_unite_53 (fun H locs hP hD hS => ?_)
          exact hj54 _ _ _ _ _ ih _ _ _ hP hD hS (lv_sub hl [0, 1, 2, 3] rfl) h
  rw [mX3_unite_4] at h
  refine lv_aload_n hx hb dX3_unite_0 rfl (lv_at hl 0 rfl) ?_
  refine lv_iload_n hx hb dX3_unite_1 rfl (lv_at hl 1 rfl) ?_
  obtain ⟨r1, e2, h⟩ := bo h
  refine caVR_i (As := [.int x1]) (rest := []) (ctX3_groupOf_4 l dC dI cq q S M o _ _ _ _ e2) F (cwV 1 hts gX3_unite_X3_groupOf rfl rfl rfl hdX3_groupOf ⟨Nat.le_of_ble_eq_true rfl, Nat.le_of_ble_eq_true rfl⟩) hK hP hD hDm hS hA EV.blind (fun U hU hW => EV.call hX hS hDm hU hW) (va_recv hK hP (ci := 4) (q0 := 4) rfl rfl) rfl hl.1 rfl (Nat.le_of_ble_eq_true rfl) dX3_unite_2 ⟨Nat.zero_le _, Nat.zero_le _⟩ (fun H locs hP hD hS => ?_)
  refine lv_istore_n (lv' := [(3, .int r1), (0, .ref (q 4)), (1, .int x1), (2, .int x2)]) hx hb dX3_unite_5 rfl hl (by decide) rfl (fun ls hl => ?_)
  refine lv_aload_n hx hb dX3_unite_6 rfl (lv_at hl 1 rfl) ?_
  refine lv_iload_n hx hb dX3_unite_7 rfl (lv_at hl 3 rfl) ?_
  obtain ⟨r3, e4, h⟩ := bo h
  refine caVR_i (As := [.int x2]) (rest := []) (ctX3_groupOf_4 l dC dI cq q S M o _ _ _ _ e4) F (cwV 1 hts gX3_unite_X3_groupOf rfl rfl rfl hdX3_groupOf ⟨Nat.le_of_ble_eq_true rfl, Nat.le_of_ble_eq_true rfl⟩) hK hP hD hDm hS hA EV.blind (fun U hU hW => EV.call hX hS hDm hU hW) (va_recv hK hP (ci := 4) (q0 := 4) rfl rfl) rfl hl.1 rfl (Nat.le_of_ble_eq_true rfl) dX3_unite_8 ⟨Nat.zero_le _, Nat.zero_le _⟩ (fun H locs hP hD hS => ?_)
  refine lv_istore (lv' := [(4, .int r3), (3, .int r1), (0, .ref (q 4)), (1, .int x1), (2, .int x2)]) hx hb dX3_unite_11 hl (by decide) rfl (fun ls hl => ?_)
  refine lv_iload_n hx hb dX3_unite_13 rfl (lv_at hl 1 rfl) ?_
  refine lv_iload hx hb dX3_unite_14 (lv_at hl 0 rfl) ?_
  refine lv_icmp_ne (tgt := 21) hx hb dX3_unite_16 (by decide) (fun c5 => ?_) (fun c5 => ?_)
  · replace h := ie c5 h
    refine lv_iconst (v := (0 : Int32)) hx hb dX3_unite_21 (by decide) ?_
    refine lv_istore (lv' := [(5, .int (0 : Int32)), (4, .int r3), (3, .int r1), (0, .ref (q 4)), (1, .int x1), (2, .int x2)]) hx hb dX3_unite_22 hl (by decide) rfl (fun ls hl => ?_)
    exact hL24 _ _ _ _ _ _ _ _ hP hD hS (lv_sub hl [3, 2, 1, 0] rfl) h
  · replace h := it c5 h
    refine lv_iconst (v := (0 : Int32)) hx hb dX3_unite_19 (by decide) ?_
    exact hend _ _ _ _ _ _ h hP hD hS dX3_unite_20 (by decide)
def mX3_unite_9_54 (n : Nat) (K24 : CS → Int32 → Option (Int32 × CS)) (S : CS) (x3 : Int32) (x4 : Int32) (x5 : Int32)  : Option (Int32 × CS) :=
  (K24 S (x5 + (1 : Int32)))
def mX3_unite_9_24 (n : Nat)  (x3 : Int32) (x4 : Int32) : Nat → CS → Int32 → Option (Int32 × CS)
  | 0, _, _ => none
  | k + 1, S, x5 => (if (18 : Int32) ≤ x5 then (some ((1 : Int32), S)) else (if inb x5 18 then (if (S.2.1 10 x5.toNatClampNeg) = x4 then (if inb x5 18 then (mX3_unite_9_54 n (mX3_unite_9_24 n x3 x4 k) (sA S 10 x5.toNatClampNeg x3) x3 x4 x5) else none) else (mX3_unite_9_54 n (mX3_unite_9_24 n x3 x4 k) S x3 x4 x5)) else none))
def mX3_unite_9 (n : Nat) (S : CS) (x1 : Int32) (x2 : Int32) : Option (Int32 × CS) :=
  (bn (mX3_groupOf_9 S x1) fun r1 => (bn (mX3_groupOf_9 S x2) fun r3 => (if r1 = r3 then (some ((0 : Int32), S)) else (mX3_unite_9_24 n r1 r3 n S (0 : Int32)))))
abbrev rmX3_unite_9 : Room := { frames := 1, cells := 0, slots := 0, locals := 21 }
set_option maxRecDepth 100000 in
set_option maxHeartbeats 8000000 in
theorem ctX3_unite_9 (l : Launch) (dC : Nat → ClassId) (dI : Nat → Nat → Nat) (cq : Nat → ClassId) (q : Nat → Nat) (S : CS) (M : MS) (o : Nat → Int64) (sz : Nat) (h0 : Nat) (n : Nat) (x1 : Int32) (x2 : Int32) (rr : Int32) (SS : CS) (h : mX3_unite_9 n S x1 x2 = some (rr, SS)) : CtC_i l yX3_unite wsX3_unite rmX3_unite_9 (fun a => h0 ≤ a) (EV h0 q) dC dI cq q S M o sz [.ref (q 9), .int x1, .int x2] rr SS := by
  refine enC_z (cc := cX3_unite) (maxL := 6) (by decide) rfl (Nat.le_of_ble_eq_true rfl) (fun p e s m args below meth c A Q ls F hA hP hK hD hDm hX hS hl hend => ?_)
  obtain ⟨hx, hb, hml, hown, hts⟩ := id F
  have hown : s.vm.findClass RX3 = some m.cls := hown
  have F : CallFix p m c cX3_unite 6 s args wsX3_unite RX3 := F
  have hl : lv_has ls 6 [(0, .ref (q 9)), (1, .int x1), (2, .int x2)] := hl
  have hinX3 : ∀ w ∈ u_ws RX3 TX3 1, w ∈ wsX3_unite := fun w h => List.mem_cons_of_mem _ (List.mem_append_right _ h)
  have hj54 : ∀ (S : CS) (x3 : Int32) (x4 : Int32) (x5 : Int32)   (K24 : CS → Int32 → Option (Int32 × CS)) (hK24 : ∀ (S9 : CS) (y5 : Int32) (H : Heap) (locs : List Loc) (ls : Array Slot), va_P (dC, dI) vwCl (wA cq q S9 M o) H → va_D A (wA cq q S9 M o) → va_S A s.heap H locs → lv_has ls 6 [(0, .ref (q 9)), (3, .int x3), (4, .int x4), (5, .int y5)] → K24 S9 y5 = some (rr, SS) → W p l e rmX3_unite_9 s m args below meth c H locs 0 0 Q (F0 m 24 ls [])) (H : Heap) (locs : List Loc) (ls : Array Slot), va_P (dC, dI) vwCl (wA cq q S M o) H → va_D A (wA cq q S M o) → va_S A s.heap H locs → lv_has ls 6 [(0, .ref (q 9)), (3, .int x3), (4, .int x4), (5, .int x5)] → mX3_unite_9_54 n K24 S x3 x4 x5 = some (rr, SS) → W p l e rmX3_unite_9 s m args below meth c H locs 0 0 Q (F0 m 54 ls []) := by
    intro S x3 x4 x5 K24 hK24 H locs ls hP hD hS hl h
    rw [mX3_unite_9_54] at h
    refine lv_iinc (v := (x5 + (1 : Int32))) (lv' := [(5, .int (x5 + (1 : Int32))), (0, .ref (q 9)), (3, .int x3), (4, .int x4)]) hx hb dX3_unite_54 hl (k := 3) rfl rfl (by decide) rfl (fun ls hl => ?_)
    refine lv_goto (tgt := 24) hx hb dX3_unite_57 (by decide) ?_
    exact hK24 _ _ _ _ _ hP hD hS (lv_sub hl [1, 2, 3, 0] rfl) h
  have hL24 : ∀ (x3 : Int32) (x4 : Int32)  (k : Nat) (S : CS) (x5 : Int32) (H : Heap) (locs : List Loc) (ls : Array Slot), va_P (dC, dI) vwCl (wA cq q S M o) H → va_D A (wA cq q S M o) → va_S A s.heap H locs → lv_has ls 6 [(0, .ref (q 9)), (3, .int x3), (4, .int x4), (5, .int x5)] → mX3_unite_9_24 n x3 x4 k S x5 = some (rr, SS) → W p l e rmX3_unite_9 s m args below meth c H locs 0 0 Q (F0 m 24 ls []) := by
    intro x3 x4
    intro k
    induction k with
    | zero =>
      intro S x5 H locs ls hP hD hS hl h
      rw [mX3_unite_9_24] at h
      cases h
    | succ k ih =>
      intro S x5 H locs ls hP hD hS hl h
      rw [mX3_unite_9_24] at h
      refine lv_iload hx hb dX3_unite_24 (lv_at hl 3 rfl) ?_
      refine lv_aload_n hx hb dX3_unite_26 rfl (lv_at hl 0 rfl) ?_
      refine va_get (D := (dC, dI)) (ci := 4) (v := .ref (q 10)) (C := RX3) (T := TX3) (N := 1) hx hb hts hinX3 hown hK hP 9 rfl rfl 0 (by decide) (hts (.fieldLink RX3 15 "CableTester$Groups" "groups" "[I") (mm 1 rfl)) (fun _ h9 => h9) rfl dX3_unite_27 ?_
      refine va_alen (D := (dC, dI)) hx hb hK hP 10 4 rfl rfl (v := (18 : Int32)) rfl dX3_unite_30 ?_
      refine lv_icmp_ge (tgt := 60) hx hb dX3_unite_31 (by decide) (fun c6 => ?_) (fun c6 => ?_)
      · replace h := it c6 h
        refine lv_iconst (v := (1 : Int32)) hx hb dX3_unite_60 (by decide) ?_
        exact hend _ _ _ _ _ _ h hP hD hS dX3_unite_61 (by decide)
      · replace h := ie c6 h
        refine lv_aload_n hx hb dX3_unite_34 rfl (lv_at hl 0 rfl) ?_
        refine va_get (D := (dC, dI)) (ci := 4) (v := .ref (q 10)) (C := RX3) (T := TX3) (N := 1) hx hb hts hinX3 hown hK hP 9 rfl rfl 0 (by decide) (hts (.fieldLink RX3 15 "CableTester$Groups" "groups" "[I") (mm 1 rfl)) (fun _ h9 => h9) rfl dX3_unite_35 ?_
        refine lv_iload hx hb dX3_unite_38 (lv_at hl 3 rfl) ?_
        obtain ⟨g7, h⟩ := gd h
        refine va_iald (D := (dC, dI)) hx hb hK hP 10 4 rfl rfl (inb_ok g7) dX3_unite_40 ?_
        refine lv_iload hx hb dX3_unite_41 (lv_at hl 2 rfl) ?_
        refine lv_icmp_ne (tgt := 54) hx hb dX3_unite_43 (by decide) (fun c8 => ?_) (fun c8 => ?_)
        · replace h := ie c8 h
          exact hj54 _ _ _ _ _ ih _ _ _ hP hD hS (lv_sub hl [0, 1, 2, 3] rfl) h
        · replace h := it c8 h
          refine lv_aload_n hx hb dX3_unite_46 rfl (lv_at hl 0 rfl) ?_
          refine va_get (D := (dC, dI)) (ci := 4) (v := .ref (q 10)) (C := RX3) (T := TX3) (N := 1) hx hb hts hinX3 hown hK hP 9 rfl rfl 0 (by decide) (hts (.fieldLink RX3 15 "CableTester$Groups" "groups" "[I") (mm 1 rfl)) (fun _ h9 => h9) rfl dX3_unite_47 ?_
          refine lv_iload hx hb dX3_unite_50 (lv_at hl 3 rfl) ?_
          refine lv_iload_n hx hb dX3_unite_52 rfl (lv_at hl 1 rfl) ?_
          obtain ⟨g9, h⟩ := gd h
          refine as_10 F hK hP hD hS (inb_ok g9) dX3_unite_53 (fun H locs hP hD hS => ?_)
          exact hj54 _ _ _ _ _ ih _ _ _ hP hD hS (lv_sub hl [0, 1, 2, 3] rfl) h
  rw [mX3_unite_9] at h
  refine lv_aload_n hx hb dX3_unite_0 rfl (lv_at hl 0 rfl) ?_
  refine lv_iload_n hx hb dX3_unite_1 rfl (lv_at hl 1 rfl) ?_
  obtain ⟨r1, e2, h⟩ := bo h
  refine caVR_i (As := [.int x1]) (rest := []) (ctX3_groupOf_9 l dC dI cq q S M o _ _ _ _ e2) F (cwV 1 hts gX3_unite_X3_groupOf rfl rfl rfl hdX3_groupOf ⟨Nat.le_of_ble_eq_true rfl, Nat.le_of_ble_eq_true rfl⟩) hK hP hD hDm hS hA EV.blind (fun U hU hW => EV.call hX hS hDm hU hW) (va_recv hK hP (ci := 4) (q0 := 9) rfl rfl) rfl hl.1 rfl (Nat.le_of_ble_eq_true rfl) dX3_unite_2 ⟨Nat.zero_le _, Nat.zero_le _⟩ (fun H locs hP hD hS => ?_)
  refine lv_istore_n (lv' := [(3, .int r1), (0, .ref (q 9)), (1, .int x1), (2, .int x2)]) hx hb dX3_unite_5 rfl hl (by decide) rfl (fun ls hl => ?_)
  refine lv_aload_n hx hb dX3_unite_6 rfl (lv_at hl 1 rfl) ?_
  refine lv_iload_n hx hb dX3_unite_7 rfl (lv_at hl 3 rfl) ?_
  obtain ⟨r3, e4, h⟩ := bo h
  refine caVR_i (As := [.int x2]) (rest := []) (ctX3_groupOf_9 l dC dI cq q S M o _ _ _ _ e4) F (cwV 1 hts gX3_unite_X3_groupOf rfl rfl rfl hdX3_groupOf ⟨Nat.le_of_ble_eq_true rfl, Nat.le_of_ble_eq_true rfl⟩) hK hP hD hDm hS hA EV.blind (fun U hU hW => EV.call hX hS hDm hU hW) (va_recv hK hP (ci := 4) (q0 := 9) rfl rfl) rfl hl.1 rfl (Nat.le_of_ble_eq_true rfl) dX3_unite_8 ⟨Nat.zero_le _, Nat.zero_le _⟩ (fun H locs hP hD hS => ?_)
  refine lv_istore (lv' := [(4, .int r3), (3, .int r1), (0, .ref (q 9)), (1, .int x1), (2, .int x2)]) hx hb dX3_unite_11 hl (by decide) rfl (fun ls hl => ?_)
  refine lv_iload_n hx hb dX3_unite_13 rfl (lv_at hl 1 rfl) ?_
  refine lv_iload hx hb dX3_unite_14 (lv_at hl 0 rfl) ?_
  refine lv_icmp_ne (tgt := 21) hx hb dX3_unite_16 (by decide) (fun c5 => ?_) (fun c5 => ?_)
  · replace h := ie c5 h
    refine lv_iconst (v := (0 : Int32)) hx hb dX3_unite_21 (by decide) ?_
    refine lv_istore (lv' := [(5, .int (0 : Int32)), (4, .int r3), (3, .int r1), (0, .ref (q 9)), (1, .int x1), (2, .int x2)]) hx hb dX3_unite_22 hl (by decide) rfl (fun ls hl => ?_)
    exact hL24 _ _ _ _ _ _ _ _ hP hD hS (lv_sub hl [3, 2, 1, 0] rfl) h
  · replace h := it c5 h
    refine lv_iconst (v := (0 : Int32)) hx hb dX3_unite_19 (by decide) ?_
    exact hend _ _ _ _ _ _ h hP hD hS dX3_unite_20 (by decide)
def mX0_wireAt (S : CS) (x1 : Int32) (x2 : Int32) : Option (Int32) :=
  (if ((x1 * (8 : Int32)) + x2) < (0 : Int32) then (some (-1 : Int32)) else (if (16 : Int32) ≤ ((x1 * (8 : Int32)) + x2) then (some (-1 : Int32)) else (if inb ((x1 * (8 : Int32)) + x2) 16 then (some (S.2.1 2 ((x1 * (8 : Int32)) + x2).toNatClampNeg)) else none)))
abbrev rmX0_wireAt : Room := { frames := 0, cells := 0, slots := 0, locals := 0 }
theorem hdX0_wireAt : yX0_wireAt.cls = RX0 ∧ yX0_wireAt.cls ≠ "java/lang/invoke/MethodHandle" ∧ yX0_wireAt.cls ≠ "java/lang/invoke/VarHandle" ∧ (parseMethodDescriptor yX0_wireAt.desc).map (fun d => d.parameters.length) = some 2 := by decide +kernel
set_option maxRecDepth 100000 in
set_option maxHeartbeats 8000000 in
theorem ctX0_wireAt (l : Launch) (dC : Nat → ClassId) (dI : Nat → Nat → Nat) (cq : Nat → ClassId) (q : Nat → Nat) (S : CS) (M : MS) (o : Nat → Int64) (sz : Nat) (h0 : Nat) (x1 : Int32) (x2 : Int32) (rr : Int32) (h : mX0_wireAt S x1 x2 = some rr) : CtR_i l yX0_wireAt wsX0_wireAt rmX0_wireAt (fun a => h0 ≤ a) (EV h0 q) dC dI cq q S M o sz [.ref (q 1), .int x1, .int x2] rr := by
  refine enR_i (cc := cX0_wireAt) (maxL := 4) (by decide) rfl (Nat.le_of_ble_eq_true rfl) (fun p e s m args below meth c A Q ls F hA hP hK hD hDm hX hS hl hend => ?_)
  obtain ⟨hx, hb, hml, hown, hts⟩ := id F
  have hown : s.vm.findClass RX0 = some m.cls := hown
  have F : CallFix p m c cX0_wireAt 4 s args wsX0_wireAt RX0 := F
  have hl : lv_has ls 4 [(0, .ref (q 1)), (1, .int x1), (2, .int x2)] := hl
  have hinX0 : ∀ w ∈ u_ws RX0 TX0 7, w ∈ wsX0_wireAt := fun w h => List.mem_cons_of_mem _ (List.mem_append_right _ h)
  rw [mX0_wireAt] at h
  refine lv_iload_n hx hb dX0_wireAt_0 rfl (lv_at hl 1 rfl) ?_
  refine lv_bipush (v := (8 : Int32)) hx hb dX0_wireAt_1 (by decide) ?_
  refine lv_imul hx hb dX0_wireAt_3 ?_
  refine lv_iload_n hx hb dX0_wireAt_4 rfl (lv_at hl 2 rfl) ?_
  refine lv_iadd hx hb dX0_wireAt_5 ?_
  refine lv_istore_n (lv' := [(3, .int ((x1 * (8 : Int32)) + x2)), (0, .ref (q 1)), (1, .int x1), (2, .int x2)]) hx hb dX0_wireAt_6 rfl hl (by decide) rfl (fun ls hl => ?_)
  refine lv_iload_n hx hb dX0_wireAt_7 rfl (lv_at hl 0 rfl) ?_
  refine lv_if_lt (tgt := 29) hx hb dX0_wireAt_8 (by decide) (fun c1 => ?_) (fun c1 => ?_)
  · replace h := it c1 h
    refine lv_iconst (v := (-1 : Int32)) hx hb dX0_wireAt_29 (by decide) ?_
    exact hend _ _ _ _ _ h hP hD hS dX0_wireAt_30
  · replace h := ie c1 h
    refine lv_iload_n hx hb dX0_wireAt_11 rfl (lv_at hl 0 rfl) ?_
    refine lv_aload_n hx hb dX0_wireAt_12 rfl (lv_at hl 1 rfl) ?_
    refine va_get (D := (dC, dI)) (ci := 1) (v := .ref (q 2)) (C := RX0) (T := TX0) (N := 7) hx hb hts hinX0 hown hK hP 1 rfl rfl 4 (by decide) (hts (.fieldLink RX0 9 "CableTester$Cable" "wires" "[I") (mm 1 rfl)) (fun _ h9 => h9) rfl dX0_wireAt_13 ?_
    refine va_alen (D := (dC, dI)) hx hb hK hP 2 0 rfl rfl (v := (16 : Int32)) rfl dX0_wireAt_16 ?_
    refine lv_icmp_ge (tgt := 29) hx hb dX0_wireAt_17 (by decide) (fun c2 => ?_) (fun c2 => ?_)
    · replace h := it c2 h
      refine lv_iconst (v := (-1 : Int32)) hx hb dX0_wireAt_29 (by decide) ?_
      exact hend _ _ _ _ _ h hP hD hS dX0_wireAt_30
    · replace h := ie c2 h
      refine lv_aload_n hx hb dX0_wireAt_20 rfl (lv_at hl 1 rfl) ?_
      refine va_get (D := (dC, dI)) (ci := 1) (v := .ref (q 2)) (C := RX0) (T := TX0) (N := 7) hx hb hts hinX0 hown hK hP 1 rfl rfl 4 (by decide) (hts (.fieldLink RX0 9 "CableTester$Cable" "wires" "[I") (mm 1 rfl)) (fun _ h9 => h9) rfl dX0_wireAt_21 ?_
      refine lv_iload_n hx hb dX0_wireAt_24 rfl (lv_at hl 0 rfl) ?_
      obtain ⟨g3, h⟩ := gd h
      refine va_iald (D := (dC, dI)) hx hb hK hP 2 0 rfl rfl (inb_ok g3) dX0_wireAt_25 ?_
      refine lv_goto (tgt := 30) hx hb dX0_wireAt_26 (by decide) ?_
      exact hend _ _ _ _ _ h hP hD hS dX0_wireAt_30
def mX0_swapWires (S : CS) (x1 : Int32) (x2 : Int32) (x3 : Int32) : Option (CS) :=
  (if ((x1 * (8 : Int32)) + x2) < (0 : Int32) then (some S) else (if (16 : Int32) ≤ ((x1 * (8 : Int32)) + x2) then (some S) else (if ((x1 * (8 : Int32)) + x3) < (0 : Int32) then (some S) else (if ((x1 * (8 : Int32)) + x3) < (16 : Int32) then (if inb ((x1 * (8 : Int32)) + x2) 16 then (if inb ((x1 * (8 : Int32)) + x3) 16 then (if inb ((x1 * (8 : Int32)) + x2) 16 then (if inb ((x1 * (8 : Int32)) + x3) 16 then (some (sA (sA S 2 ((x1 * (8 : Int32)) + x2).toNatClampNeg (S.2.1 2 ((x1 * (8 : Int32)) + x3).toNatClampNeg)) 2 ((x1 * (8 : Int32)) + x3).toNatClampNeg (S.2.1 2 ((x1 * (8 : Int32)) + x2).toNatClampNeg))) else none) else none) else none) else none) else (some S)))))
abbrev rmX0_swapWires : Room := { frames := 0, cells := 0, slots := 0, locals := 0 }
theorem hdX0_swapWires : yX0_swapWires.cls = RX0 ∧ yX0_swapWires.cls ≠ "java/lang/invoke/MethodHandle" ∧ yX0_swapWires.cls ≠ "java/lang/invoke/VarHandle" ∧ (parseMethodDescriptor yX0_swapWires.desc).map (fun d => d.parameters.length) = some 3 := by decide +kernel
set_option maxRecDepth 100000 in
set_option maxHeartbeats 8000000 in
theorem ctX0_swapWires (l : Launch) (dC : Nat → ClassId) (dI : Nat → Nat → Nat) (cq : Nat → ClassId) (q : Nat → Nat) (S : CS) (M : MS) (o : Nat → Int64) (sz : Nat) (h0 : Nat) (x1 : Int32) (x2 : Int32) (x3 : Int32) (SS : CS) (h : mX0_swapWires S x1 x2 x3 = some SS) : CtC_v l yX0_swapWires wsX0_swapWires rmX0_swapWires (fun a => h0 ≤ a) (EV h0 q) dC dI cq q S M o sz [.ref (q 1), .int x1, .int x2, .int x3] SS := by
  refine enC_v (cc := cX0_swapWires) (maxL := 7) (by decide) rfl (Nat.le_of_ble_eq_true rfl) (fun p e s m args below meth c A Q ls F hA hP hK hD hDm hX hS hl hend => ?_)
  obtain ⟨hx, hb, hml, hown, hts⟩ := id F
  have hown : s.vm.findClass RX0 = some m.cls := hown
  have F : CallFix p m c cX0_swapWires 7 s args wsX0_swapWires RX0 := F
  have hl : lv_has ls 7 [(0, .ref (q 1)), (1, .int x1), (2, .int x2), (3, .int x3)] := hl
  have hinX0 : ∀ w ∈ u_ws RX0 TX0 7, w ∈ wsX0_swapWires := fun w h => List.mem_cons_of_mem _ (List.mem_append_right _ h)
  rw [mX0_swapWires] at h
  refine lv_iload_n hx hb dX0_swapWires_0 rfl (lv_at hl 1 rfl) ?_
  refine lv_bipush (v := (8 : Int32)) hx hb dX0_swapWires_1 (by decide) ?_
  refine lv_imul hx hb dX0_swapWires_3 ?_
  refine lv_iload_n hx hb dX0_swapWires_4 rfl (lv_at hl 2 rfl) ?_
  refine lv_iadd hx hb dX0_swapWires_5 ?_
  refine lv_istore (lv' := [(4, .int ((x1 * (8 : Int32)) + x2)), (0, .ref (q 1)), (1, .int x1), (2, .int x2), (3, .int x3)]) hx hb dX0_swapWires_6 hl (by decide) rfl (fun ls hl => ?_)
  refine lv_iload_n hx hb dX0_swapWires_8 rfl (lv_at hl 2 rfl) ?_
  refine lv_bipush (v := (8 : Int32)) hx hb dX0_swapWires_9 (by decide) ?_
  refine lv_imul hx hb dX0_swapWires_11 ?_
  refine lv_iload_n hx hb dX0_swapWires_12 rfl (lv_at hl 4 rfl) ?_
  refine lv_iadd hx hb dX0_swapWires_13 ?_
  refine lv_istore (lv' := [(5, .int ((x1 * (8 : Int32)) + x3)), (4, .int ((x1 * (8 : Int32)) + x2)), (0, .ref (q 1)), (1, .int x1), (2, .int x2), (3, .int x3)]) hx hb dX0_swapWires_14 hl (by decide) rfl (fun ls hl => ?_)
  refine lv_iload hx hb dX0_swapWires_16 (lv_at hl 1 rfl) ?_
  refine lv_if_lt (tgt := 46) hx hb dX0_swapWires_18 (by decide) (fun c1 => ?_) (fun c1 => ?_)
  · replace h := it c1 h
    exact hend _ _ _ _ _ h hP hD hS dX0_swapWires_46
  · replace h := ie c1 h
    refine lv_iload hx hb dX0_swapWires_21 (lv_at hl 1 rfl) ?_
    refine lv_aload_n hx hb dX0_swapWires_23 rfl (lv_at hl 2 rfl) ?_
    refine va_get (D := (dC, dI)) (ci := 1) (v := .ref (q 2)) (C := RX0) (T := TX0) (N := 7) hx hb hts hinX0 hown hK hP 1 rfl rfl 4 (by decide) (hts (.fieldLink RX0 9 "CableTester$Cable" "wires" "[I") (mm 1 rfl)) (fun _ h9 => h9) rfl dX0_swapWires_24 ?_
    refine va_alen (D := (dC, dI)) hx hb hK hP 2 0 rfl rfl (v := (16 : Int32)) rfl dX0_swapWires_27 ?_
    refine lv_icmp_ge (tgt := 46) hx hb dX0_swapWires_28 (by decide) (fun c2 => ?_) (fun c2 => ?_)
    · replace h := it c2 h
      exact hend _ _ _ _ _ h hP hD hS dX0_swapWires_46
    · replace h := ie c2 h
      refine lv_iload hx hb dX0_swapWires_31 (lv_at hl 0 rfl) ?_
      refine lv_if_lt (tgt := 46) hx hb dX0_swapWires_33 (by decide) (fun c3 => ?_) (fun c3 => ?_)
      · replace h := it c3 h
        exact hend _ _ _ _ _ h hP hD hS dX0_swapWires_46
      · replace h := ie c3 h
        refine lv_iload hx hb dX0_swapWires_36 (lv_at hl 0 rfl) ?_
        refine lv_aload_n hx hb dX0_swapWires_38 rfl (lv_at hl 2 rfl) ?_
        refine va_get (D := (dC, dI)) (ci := 1) (v := .ref (q 2)) (C := RX0) (T := TX0) (N := 7) hx hb hts hinX0 hown hK hP 1 rfl rfl 4 (by decide) (hts (.fieldLink RX0 9 "CableTester$Cable" "wires" "[I") (mm 1 rfl)) (fun _ h9 => h9) rfl dX0_swapWires_39 ?_
        refine va_alen (D := (dC, dI)) hx hb hK hP 2 0 rfl rfl (v := (16 : Int32)) rfl dX0_swapWires_42 ?_
        refine lv_icmp_lt (tgt := 47) hx hb dX0_swapWires_43 (by decide) (fun c4 => ?_) (fun c4 => ?_)
        · replace h := it c4 h
          refine lv_aload_n hx hb dX0_swapWires_47 rfl (lv_at hl 2 rfl) ?_
          refine va_get (D := (dC, dI)) (ci := 1) (v := .ref (q 2)) (C := RX0) (T := TX0) (N := 7) hx hb hts hinX0 hown hK hP 1 rfl rfl 4 (by decide) (hts (.fieldLink RX0 9 "CableTester$Cable" "wires" "[I") (mm 1 rfl)) (fun _ h9 => h9) rfl dX0_swapWires_48 ?_
          refine lv_iload hx hb dX0_swapWires_51 (lv_at hl 1 rfl) ?_
          obtain ⟨g5, h⟩ := gd h
          refine va_iald (D := (dC, dI)) hx hb hK hP 2 0 rfl rfl (inb_ok g5) dX0_swapWires_53 ?_
          refine lv_istore (lv' := [(6, .int (S.2.1 2 ((x1 * (8 : Int32)) + x2).toNatClampNeg)), (5, .int ((x1 * (8 : Int32)) + x3)), (4, .int ((x1 * (8 : Int32)) + x2)), (0, .ref (q 1)), (1, .int x1), (2, .int x2), (3, .int x3)]) hx hb dX0_swapWires_54 hl (by decide) rfl (fun ls hl => ?_)
          refine lv_aload_n hx hb dX0_swapWires_56 rfl (lv_at hl 3 rfl) ?_
          refine va_get (D := (dC, dI)) (ci := 1) (v := .ref (q 2)) (C := RX0) (T := TX0) (N := 7) hx hb hts hinX0 hown hK hP 1 rfl rfl 4 (by decide) (hts (.fieldLink RX0 9 "CableTester$Cable" "wires" "[I") (mm 1 rfl)) (fun _ h9 => h9) rfl dX0_swapWires_57 ?_
          refine lv_iload hx hb dX0_swapWires_60 (lv_at hl 2 rfl) ?_
          refine lv_aload_n hx hb dX0_swapWires_62 rfl (lv_at hl 3 rfl) ?_
          refine va_get (D := (dC, dI)) (ci := 1) (v := .ref (q 2)) (C := RX0) (T := TX0) (N := 7) hx hb hts hinX0 hown hK hP 1 rfl rfl 4 (by decide) (hts (.fieldLink RX0 9 "CableTester$Cable" "wires" "[I") (mm 1 rfl)) (fun _ h9 => h9) rfl dX0_swapWires_63 ?_
          refine lv_iload hx hb dX0_swapWires_66 (lv_at hl 1 rfl) ?_
          obtain ⟨g6, h⟩ := gd h
          refine va_iald (D := (dC, dI)) hx hb hK hP 2 0 rfl rfl (inb_ok g6) dX0_swapWires_68 ?_
          obtain ⟨g7, h⟩ := gd h
          refine as_2 F hK hP hD hS (inb_ok g7) dX0_swapWires_69 (fun H locs hP hD hS => ?_)
          refine lv_aload_n hx hb dX0_swapWires_70 rfl (lv_at hl 3 rfl) ?_
          refine va_get (D := (dC, dI)) (ci := 1) (v := .ref (q 2)) (C := RX0) (T := TX0) (N := 7) hx hb hts hinX0 hown hK hP 1 rfl rfl 4 (by decide) (hts (.fieldLink RX0 9 "CableTester$Cable" "wires" "[I") (mm 1 rfl)) (fun _ h9 => h9) rfl dX0_swapWires_71 ?_
          refine lv_iload hx hb dX0_swapWires_74 (lv_at hl 1 rfl) ?_
          refine lv_iload hx hb dX0_swapWires_76 (lv_at hl 0 rfl) ?_
          obtain ⟨g8, h⟩ := gd h
          refine as_2 F hK hP hD hS (inb_ok g8) dX0_swapWires_78 (fun H locs hP hD hS => ?_)
          exact hend _ _ _ _ _ h hP hD hS dX0_swapWires_79
        · replace h := ie c4 h
          exact hend _ _ _ _ _ h hP hD hS dX0_swapWires_46
def mX0_presentFaults_39 (n : Nat) (K4 : Int32 → Int32 → Option (Int32)) (S : CS) (x1 : Int32) (x2 : Int32) (x3 : Int32)  : Option (Int32) :=
  (K4 x2 (x3 + (1 : Int32)))
def mX0_presentFaults_4 (n : Nat)  (S : CS) (x1 : Int32) : Nat → Int32 → Int32 → Option (Int32)
  | 0, _, _ => none
  | k + 1, x2, x3 => (bn (mJx4a65c_size_8abf5 S) fun r1 => (if r1 ≤ x3 then (some x2) else (bn (mJx4a65c_get_915e3 S x3) fun r4 => (bn (mX2_isPresent r4 x1) fun r8 => (if r8 = (0 : Int32) then (mX0_presentFaults_39 n (mX0_presentFaults_4 n S x1 k) S x1 x2 x3) else (mX0_presentFaults_39 n (mX0_presentFaults_4 n S x1 k) S x1 (x2 ||| ((1 : Int32) <<< (x3 &&& 31))) x3))))))
def mX0_presentFaults (n : Nat) (S : CS) (x1 : Int32) : Option (Int32) :=
  (mX0_presentFaults_4 n S x1 n (0 : Int32) (0 : Int32))
abbrev rmX0_presentFaults : Room := { frames := 3, cells := 0, slots := 0, locals := 64 }
theorem hdX0_presentFaults : yX0_presentFaults.cls = RX0 ∧ yX0_presentFaults.cls ≠ "java/lang/invoke/MethodHandle" ∧ yX0_presentFaults.cls ≠ "java/lang/invoke/VarHandle" ∧ (parseMethodDescriptor yX0_presentFaults.desc).map (fun d => d.parameters.length) = some 1 := by decide +kernel
set_option maxRecDepth 100000 in
set_option maxHeartbeats 8000000 in
theorem ctX0_presentFaults (l : Launch) (dC : Nat → ClassId) (dI : Nat → Nat → Nat) (cq : Nat → ClassId) (q : Nat → Nat) (S : CS) (M : MS) (o : Nat → Int64) (sz : Nat) (h0 : Nat) (n : Nat) (x1 : Int32) (rr : Int32) (h : mX0_presentFaults n S x1 = some rr) : CtR_i l yX0_presentFaults wsX0_presentFaults rmX0_presentFaults (fun a => h0 ≤ a) (EV h0 q) dC dI cq q S M o sz [.ref (q 1), .int x1] rr := by
  refine enR_i (cc := cX0_presentFaults) (maxL := 4) (by decide) rfl (Nat.le_of_ble_eq_true rfl) (fun p e s m args below meth c A Q ls F hA hP hK hD hDm hX hS hl hend => ?_)
  obtain ⟨hx, hb, hml, hown, hts⟩ := id F
  have hown : s.vm.findClass RX0 = some m.cls := hown
  have F : CallFix p m c cX0_presentFaults 4 s args wsX0_presentFaults RX0 := F
  have hl : lv_has ls 4 [(0, .ref (q 1)), (1, .int x1)] := hl
  have hinX0 : ∀ w ∈ u_ws RX0 TX0 7, w ∈ wsX0_presentFaults := fun w h => List.mem_cons_of_mem _ (List.mem_append_left _ (List.mem_append_left _ (List.mem_append_right _ h)))
  have hj39 : ∀  (x1 : Int32) (x2 : Int32) (x3 : Int32)   (K4 : Int32 → Int32 → Option (Int32)) (hK4 : ∀ (y2 : Int32) (y3 : Int32) (H : Heap) (locs : List Loc) (ls : Array Slot), va_P (dC, dI) vwCl (wA cq q S M o) H → va_D A (wA cq q S M o) → va_S A s.heap H locs → lv_has ls 4 [(0, .ref (q 1)), (1, .int x1), (2, .int y2), (3, .int y3)] → K4 y2 y3 = some rr → W p l e rmX0_presentFaults s m args below meth c H locs 0 0 Q (F0 m 4 ls [])) (H : Heap) (locs : List Loc) (ls : Array Slot), va_P (dC, dI) vwCl (wA cq q S M o) H → va_D A (wA cq q S M o) → va_S A s.heap H locs → lv_has ls 4 [(0, .ref (q 1)), (1, .int x1), (2, .int x2), (3, .int x3)] → mX0_presentFaults_39 n K4 S x1 x2 x3 = some rr → W p l e rmX0_presentFaults s m args below meth c H locs 0 0 Q (F0 m 39 ls []) := by
    intro x1 x2 x3 K4 hK4 H locs ls hP hD hS hl h
    rw [mX0_presentFaults_39] at h
    refine lv_iinc (v := (x3 + (1 : Int32))) (lv' := [(3, .int (x3 + (1 : Int32))), (0, .ref (q 1)), (1, .int x1), (2, .int x2)]) hx hb dX0_presentFaults_39 hl (k := 3) rfl rfl (by decide) rfl (fun ls hl => ?_)
    refine lv_goto (tgt := 4) hx hb dX0_presentFaults_42 (by decide) ?_
    exact hK4 _ _ _ _ _ hP hD hS (lv_sub hl [1, 2, 3, 0] rfl) h
  have hL4 : ∀ (x1 : Int32)  (k : Nat)  (x2 : Int32) (x3 : Int32) (H : Heap) (locs : List Loc) (ls : Array Slot), va_P (dC, dI) vwCl (wA cq q S M o) H → va_D A (wA cq q S M o) → va_S A s.heap H locs → lv_has ls 4 [(0, .ref (q 1)), (1, .int x1), (2, .int x2), (3, .int x3)] → mX0_presentFaults_4 n S x1 k x2 x3 = some rr → W p l e rmX0_presentFaults s m args below meth c H locs 0 0 Q (F0 m 4 ls []) := by
    intro x1
    intro k
    induction k with
    | zero =>
      intro x2 x3 H locs ls hP hD hS hl h
      rw [mX0_presentFaults_4] at h
      cases h
    | succ k ih =>
      intro x2 x3 H locs ls hP hD hS hl h
      rw [mX0_presentFaults_4] at h
      refine lv_iload_n hx hb dX0_presentFaults_4 rfl (lv_at hl 3 rfl) ?_
      refine lv_aload_n hx hb dX0_presentFaults_5 rfl (lv_at hl 0 rfl) ?_
      refine va_get (D := (dC, dI)) (ci := 1) (v := .ref (q 3)) (C := RX0) (T := TX0) (N := 7) hx hb hts hinX0 hown hK hP 1 rfl rfl 5 (by decide) (hts (.fieldLink RX0 18 "CableTester$Cable" "faults" "Ljava/util/ArrayList;") (mm 1 rfl)) (fun _ h9 => h9) rfl dX0_presentFaults_6 ?_
      obtain ⟨r1, e2, h⟩ := bo h
      refine caVR_i (As := []) (rest := [.int x3]) (ctJx4a65c_size_8abf5 l dC dI cq q S M o _ _ _ e2) F (cwV 0 hts gX0_presentFaults_Jx4a65c_size_8abf5 rfl rfl rfl hdJx4a65c_size_8abf5 ⟨Nat.le_of_ble_eq_true rfl, Nat.le_of_ble_eq_true rfl⟩) hK hP hD hDm hS hA EV.blind (fun U hU hW => EV.call hX hS hDm hU hW) (va_recv hK hP (ci := 0) (q0 := 3) rfl rfl) rfl hl.1 rfl (Nat.le_of_ble_eq_true rfl) dX0_presentFaults_9 ⟨Nat.zero_le _, Nat.zero_le _⟩ (fun H locs hP hD hS => ?_)
      refine lv_icmp_ge (tgt := 45) hx hb dX0_presentFaults_12 (by decide) (fun c3 => ?_) (fun c3 => ?_)
      · replace h := it c3 h
        refine lv_iload_n hx hb dX0_presentFaults_45 rfl (lv_at hl 2 rfl) ?_
        exact hend _ _ _ _ _ h hP hD hS dX0_presentFaults_46
      · replace h := ie c3 h
        refine lv_aload_n hx hb dX0_presentFaults_15 rfl (lv_at hl 0 rfl) ?_
        refine va_get (D := (dC, dI)) (ci := 1) (v := .ref (q 3)) (C := RX0) (T := TX0) (N := 7) hx hb hts hinX0 hown hK hP 1 rfl rfl 5 (by decide) (hts (.fieldLink RX0 18 "CableTester$Cable" "faults" "Ljava/util/ArrayList;") (mm 1 rfl)) (fun _ h9 => h9) rfl dX0_presentFaults_16 ?_
        refine lv_iload_n hx hb dX0_presentFaults_19 rfl (lv_at hl 3 rfl) ?_
        obtain ⟨r4, e5, h⟩ := bo h
        refine caVR_r (As := [.int x3]) (rest := []) (ctJx4a65c_get_915e3 l dC dI cq q S M o _ _ _ _ e5) F (cwV 1 hts gX0_presentFaults_Jx4a65c_get_915e3 rfl rfl rfl hdJx4a65c_get_915e3 ⟨Nat.le_of_ble_eq_true rfl, Nat.le_of_ble_eq_true rfl⟩) hK hP hD hDm hS hA EV.blind (fun U hU hW => EV.call hX hS hDm hU hW) (va_recv hK hP (ci := 0) (q0 := 3) rfl rfl) rfl hl.1 rfl (Nat.le_of_ble_eq_true rfl) dX0_presentFaults_20 ⟨Nat.zero_le _, Nat.zero_le _⟩ (fun H locs hP hD hS => ?_)
        have hw6 := mJx4a65c_get_915e3_mem e5
        obtain ⟨kw7, hkw7⟩ := wA_w (cq := cq) (q := q) (S := S) (M := M) (o := o) hw6
        refine va_castS (nm := RX2) hx hb hown (hts (.classLink RX0 59 "CableTester$Fault") (mm 2 rfl)) (hK.1 3 _ rfl).2 (va_recv hK hP (ci := 3) (q0 := kw7) rfl hkw7) dX0_presentFaults_23 ?_
        refine lv_iload_n hx hb dX0_presentFaults_26 rfl (lv_at hl 1 rfl) ?_
        obtain ⟨r8, e9, h⟩ := bo h
        obtain ⟨kw10, hkw10⟩ := wA_w (cq := cq) (q := q) (S := S) (M := M) (o := o) hw6
        refine caVR_i (As := [.int x1]) (rest := []) (ctX2_isPresent l dC dI cq q S M o _ _ _ hw6 _ _ e9) F (cwV 1 hts gX0_presentFaults_X2_isPresent rfl rfl rfl hdX2_isPresent ⟨Nat.le_of_ble_eq_true rfl, Nat.le_of_ble_eq_true rfl⟩) hK hP hD hDm hS hA EV.blind (fun U hU hW => EV.call hX hS hDm hU hW) (va_recv hK hP (ci := 3) (q0 := kw10) rfl hkw10) rfl hl.1 rfl (Nat.le_of_ble_eq_true rfl) dX0_presentFaults_27 ⟨Nat.zero_le _, Nat.zero_le _⟩ (fun H locs hP hD hS => ?_)
        refine lv_if_eq (tgt := 39) hx hb dX0_presentFaults_30 (by decide) (fun c11 => ?_) (fun c11 => ?_)
        · replace h := it c11 h
          exact hj39 _ _ _ _ ih _ _ _ hP hD hS (lv_sub hl [0, 1, 2, 3] rfl) h
        · replace h := ie c11 h
          refine lv_iload_n hx hb dX0_presentFaults_33 rfl (lv_at hl 2 rfl) ?_
          refine lv_iconst (v := (1 : Int32)) hx hb dX0_presentFaults_34 (by decide) ?_
          refine lv_iload_n hx hb dX0_presentFaults_35 rfl (lv_at hl 3 rfl) ?_
          refine lv_ishl hx hb dX0_presentFaults_36 ?_
          refine lv_ior hx hb dX0_presentFaults_37 ?_
          refine lv_istore_n (lv' := [(2, .int (x2 ||| ((1 : Int32) <<< (x3 &&& 31)))), (0, .ref (q 1)), (1, .int x1), (3, .int x3)]) hx hb dX0_presentFaults_38 rfl hl (by decide) rfl (fun ls hl => ?_)
          exact hj39 _ _ _ _ ih _ _ _ hP hD hS (lv_sub hl [1, 2, 0, 3] rfl) h
  rw [mX0_presentFaults] at h
  refine lv_iconst (v := (0 : Int32)) hx hb dX0_presentFaults_0 (by decide) ?_
  refine lv_istore_n (lv' := [(2, .int (0 : Int32)), (0, .ref (q 1)), (1, .int x1)]) hx hb dX0_presentFaults_1 rfl hl (by decide) rfl (fun ls hl => ?_)
  refine lv_iconst (v := (0 : Int32)) hx hb dX0_presentFaults_2 (by decide) ?_
  refine lv_istore_n (lv' := [(3, .int (0 : Int32)), (2, .int (0 : Int32)), (0, .ref (q 1)), (1, .int x1)]) hx hb dX0_presentFaults_3 rfl hl (by decide) rfl (fun ls hl => ?_)
  exact hL4 _ _ _ _ _ _ _ hP hD hS (lv_sub hl [2, 3, 1, 0] rfl) h
def mX0_firstEvent_82 (n : Nat) (K5 : Int32 → Int32 → Option (Int32)) (S : CS) (x1 : Int32) (x2 : Int32) (x3 : Int32) (x4 : Int32)  : Option (Int32) :=
  (K5 x3 (x4 + (1 : Int32)))
def mX0_firstEvent_79 (n : Nat) (K5 : Int32 → Int32 → Option (Int32)) (S : CS) (x1 : Int32) (x2 : Int32) (x4 : Int32)  : Option (Int32) :=
  (mX0_firstEvent_82 n (K5) S x1 x2 x4 x4)
def mX0_firstEvent_5 (n : Nat)  (S : CS) (x1 : Int32) (x2 : Int32) : Nat → Int32 → Int32 → Option (Int32)
  | 0, _, _ => none
  | k + 1, x3, x4 => (bn (mJx4a65c_size_8abf5 S) fun r1 => (if r1 ≤ x4 then (some x3) else (if ((x2 >>> (x4 &&& 31)) &&& (1 : Int32)) = (0 : Int32) then (mX0_firstEvent_82 n (mX0_firstEvent_5 n S x1 x2 k) S x1 x2 x3 x4) else (bn (mJx4a65c_get_915e3 S x4) fun r5 => (bn (mX2_touches r5 x1) fun r9 => (if r9 = (0 : Int32) then (mX0_firstEvent_82 n (mX0_firstEvent_5 n S x1 x2 k) S x1 x2 x3 x4) else (if x3 = (-1 : Int32) then (mX0_firstEvent_79 n (mX0_firstEvent_5 n S x1 x2 k) S x1 x2 x4) else (bn (mJx4a65c_get_915e3 S x4) fun r14 => (bn (mJx4a65c_get_915e3 S x3) fun r18 => (bn (mX2_isMetBefore r14 r18) fun r22 => (if r22 = (0 : Int32) then (mX0_firstEvent_82 n (mX0_firstEvent_5 n S x1 x2 k) S x1 x2 x3 x4) else (mX0_firstEvent_79 n (mX0_firstEvent_5 n S x1 x2 k) S x1 x2 x4))))))))))))
def mX0_firstEvent (n : Nat) (S : CS) (x1 : Int32) (x2 : Int32) : Option (Int32) :=
  (mX0_firstEvent_5 n S x1 x2 n (-1 : Int32) (0 : Int32))
abbrev rmX0_firstEvent : Room := { frames := 3, cells := 0, slots := 0, locals := 64 }
theorem hdX0_firstEvent : yX0_firstEvent.cls = RX0 ∧ yX0_firstEvent.cls ≠ "java/lang/invoke/MethodHandle" ∧ yX0_firstEvent.cls ≠ "java/lang/invoke/VarHandle" ∧ (parseMethodDescriptor yX0_firstEvent.desc).map (fun d => d.parameters.length) = some 2 := by decide +kernel
set_option maxRecDepth 100000 in
set_option maxHeartbeats 8000000 in
theorem ctX0_firstEvent (l : Launch) (dC : Nat → ClassId) (dI : Nat → Nat → Nat) (cq : Nat → ClassId) (q : Nat → Nat) (S : CS) (M : MS) (o : Nat → Int64) (sz : Nat) (h0 : Nat) (n : Nat) (x1 : Int32) (x2 : Int32) (rr : Int32) (h : mX0_firstEvent n S x1 x2 = some rr) : CtR_i l yX0_firstEvent wsX0_firstEvent rmX0_firstEvent (fun a => h0 ≤ a) (EV h0 q) dC dI cq q S M o sz [.ref (q 1), .int x1, .int x2] rr := by
  refine enR_i (cc := cX0_firstEvent) (maxL := 5) (by decide) rfl (Nat.le_of_ble_eq_true rfl) (fun p e s m args below meth c A Q ls F hA hP hK hD hDm hX hS hl hend => ?_)
  obtain ⟨hx, hb, hml, hown, hts⟩ := id F
  have hown : s.vm.findClass RX0 = some m.cls := hown
  have F : CallFix p m c cX0_firstEvent 5 s args wsX0_firstEvent RX0 := F
  have hl : lv_has ls 5 [(0, .ref (q 1)), (1, .int x1), (2, .int x2)] := hl
  have hinX0 : ∀ w ∈ u_ws RX0 TX0 7, w ∈ wsX0_firstEvent := fun w h => List.mem_cons_of_mem _ (List.mem_append_left _ (List.mem_append_left _ (List.mem_append_right _ h)))
  have hj82 : ∀  (x1 : Int32) (x2 : Int32) (x3 : Int32) (x4 : Int32)   (K5 : Int32 → Int32 → Option (Int32)) (hK5 : ∀ (y3 : Int32) (y4 : Int32) (H : Heap) (locs : List Loc) (ls : Array Slot), va_P (dC, dI) vwCl (wA cq q S M o) H → va_D A (wA cq q S M o) → va_S A s.heap H locs → lv_has ls 5 [(0, .ref (q 1)), (1, .int x1), (2, .int x2), (3, .int y3), (4, .int y4)] → K5 y3 y4 = some rr → W p l e rmX0_firstEvent s m args below meth c H locs 0 0 Q (F0 m 5 ls [])) (H : Heap) (locs : List Loc) (ls : Array Slot), va_P (dC, dI) vwCl (wA cq q S M o) H → va_D A (wA cq q S M o) → va_S A s.heap H locs → lv_has ls 5 [(0, .ref (q 1)), (1, .int x1), (2, .int x2), (3, .int x3), (4, .int x4)] → mX0_firstEvent_82 n K5 S x1 x2 x3 x4 = some rr → W p l e rmX0_firstEvent s m args below meth c H locs 0 0 Q (F0 m 82 ls []) := by
    intro x1 x2 x3 x4 K5 hK5 H locs ls hP hD hS hl h
    rw [mX0_firstEvent_82] at h
    refine lv_iinc (v := (x4 + (1 : Int32))) (lv' := [(4, .int (x4 + (1 : Int32))), (0, .ref (q 1)), (1, .int x1), (2, .int x2), (3, .int x3)]) hx hb dX0_firstEvent_82 hl (k := 4) rfl rfl (by decide) rfl (fun ls hl => ?_)
    refine lv_goto (tgt := 5) hx hb dX0_firstEvent_85 (by decide) ?_
    exact hK5 _ _ _ _ _ hP hD hS (lv_sub hl [1, 2, 3, 4, 0] rfl) h
  have hj79 : ∀  (x1 : Int32) (x2 : Int32) (x4 : Int32)   (K5 : Int32 → Int32 → Option (Int32)) (hK5 : ∀ (y3 : Int32) (y4 : Int32) (H : Heap) (locs : List Loc) (ls : Array Slot), va_P (dC, dI) vwCl (wA cq q S M o) H → va_D A (wA cq q S M o) → va_S A s.heap H locs → lv_has ls 5 [(0, .ref (q 1)), (1, .int x1), (2, .int x2), (3, .int y3), (4, .int y4)] → K5 y3 y4 = some rr → W p l e rmX0_firstEvent s m args below meth c H locs 0 0 Q (F0 m 5 ls [])) (H : Heap) (locs : List Loc) (ls : Array Slot), va_P (dC, dI) vwCl (wA cq q S M o) H → va_D A (wA cq q S M o) → va_S A s.heap H locs → lv_has ls 5 [(0, .ref (q 1)), (1, .int x1), (2, .int x2), (4, .int x4)] → mX0_firstEvent_79 n K5 S x1 x2 x4 = some rr → W p l e rmX0_firstEvent s m args below meth c H locs 0 0 Q (F0 m 79 ls []) := by
    intro x1 x2 x4 K5 hK5 H locs ls hP hD hS hl h
    rw [mX0_firstEvent_79] at h
    refine lv_iload hx hb dX0_firstEvent_79 (lv_at hl 3 rfl) ?_
    refine lv_istore_n (lv' := [(3, .int x4), (0, .ref (q 1)), (1, .int x1), (2, .int x2), (4, .int x4)]) hx hb dX0_firstEvent_81 rfl hl (by decide) rfl (fun ls hl => ?_)
    exact hj82 _ _ _ _ _ hK5 _ _ _ hP hD hS (lv_sub hl [1, 2, 3, 0, 4] rfl) h
  have hL5 : ∀ (x1 : Int32) (x2 : Int32)  (k : Nat)  (x3 : Int32) (x4 : Int32) (H : Heap) (locs : List Loc) (ls : Array Slot), va_P (dC, dI) vwCl (wA cq q S M o) H → va_D A (wA cq q S M o) → va_S A s.heap H locs → lv_has ls 5 [(0, .ref (q 1)), (1, .int x1), (2, .int x2), (3, .int x3), (4, .int x4)] → mX0_firstEvent_5 n S x1 x2 k x3 x4 = some rr → W p l e rmX0_firstEvent s m args below meth c H locs 0 0 Q (F0 m 5 ls []) := by
    intro x1 x2
    intro k
    induction k with
    | zero =>
      intro x3 x4 H locs ls hP hD hS hl h
      rw [mX0_firstEvent_5] at h
      cases h
    | succ k ih =>
      intro x3 x4 H locs ls hP hD hS hl h
      rw [mX0_firstEvent_5] at h
      refine lv_iload hx hb dX0_firstEvent_5 (lv_at hl 4 rfl) ?_
      refine lv_aload_n hx hb dX0_firstEvent_7 rfl (lv_at hl 0 rfl) ?_
      refine va_get (D := (dC, dI)) (ci := 1) (v := .ref (q 3)) (C := RX0) (T := TX0) (N := 7) hx hb hts hinX0 hown hK hP 1 rfl rfl 5 (by decide) (hts (.fieldLink RX0 18 "CableTester$Cable" "faults" "Ljava/util/ArrayList;") (mm 1 rfl)) (fun _ h9 => h9) rfl dX0_firstEvent_8 ?_
      obtain ⟨r1, e2, h⟩ := bo h
      refine caVR_i (As := []) (rest := [.int x4]) (ctJx4a65c_size_8abf5 l dC dI cq q S M o _ _ _ e2) F (cwV 0 hts gX0_firstEvent_Jx4a65c_size_8abf5 rfl rfl rfl hdJx4a65c_size_8abf5 ⟨Nat.le_of_ble_eq_true rfl, Nat.le_of_ble_eq_true rfl⟩) hK hP hD hDm hS hA EV.blind (fun U hU hW => EV.call hX hS hDm hU hW) (va_recv hK hP (ci := 0) (q0 := 3) rfl rfl) rfl hl.1 rfl (Nat.le_of_ble_eq_true rfl) dX0_firstEvent_11 ⟨Nat.zero_le _, Nat.zero_le _⟩ (fun H locs hP hD hS => ?_)
      refine lv_icmp_ge (tgt := 88) hx hb dX0_firstEvent_14 (by decide) (fun c3 => ?_) (fun c3 => ?_)
      · replace h := it c3 h
        refine lv_iload_n hx hb dX0_firstEvent_88 rfl (lv_at hl 3 rfl) ?_
        exact hend _ _ _ _ _ h hP hD hS dX0_firstEvent_89
      · replace h := ie c3 h
        refine lv_iload_n hx hb dX0_firstEvent_17 rfl (lv_at hl 2 rfl) ?_
        refine lv_iload hx hb dX0_firstEvent_18 (lv_at hl 4 rfl) ?_
        refine lv_ishr hx hb dX0_firstEvent_20 ?_
        refine lv_iconst (v := (1 : Int32)) hx hb dX0_firstEvent_21 (by decide) ?_
        refine lv_iand hx hb dX0_firstEvent_22 ?_
        refine lv_if_eq (tgt := 82) hx hb dX0_firstEvent_23 (by decide) (fun c4 => ?_) (fun c4 => ?_)
        · replace h := it c4 h
          exact hj82 _ _ _ _ _ ih _ _ _ hP hD hS (lv_sub hl [0, 1, 2, 3, 4] rfl) h
        · replace h := ie c4 h
          refine lv_aload_n hx hb dX0_firstEvent_26 rfl (lv_at hl 0 rfl) ?_
          refine va_get (D := (dC, dI)) (ci := 1) (v := .ref (q 3)) (C := RX0) (T := TX0) (N := 7) hx hb hts hinX0 hown hK hP 1 rfl rfl 5 (by decide) (hts (.fieldLink RX0 18 "CableTester$Cable" "faults" "Ljava/util/ArrayList;") (mm 1 rfl)) (fun _ h9 => h9) rfl dX0_firstEvent_27 ?_
          refine lv_iload hx hb dX0_firstEvent_30 (lv_at hl 4 rfl) ?_
          obtain ⟨r5, e6, h⟩ := bo h
          refine caVR_r (As := [.int x4]) (rest := []) (ctJx4a65c_get_915e3 l dC dI cq q S M o _ _ _ _ e6) F (cwV 1 hts gX0_firstEvent_Jx4a65c_get_915e3 rfl rfl rfl hdJx4a65c_get_915e3 ⟨Nat.le_of_ble_eq_true rfl, Nat.le_of_ble_eq_true rfl⟩) hK hP hD hDm hS hA EV.blind (fun U hU hW => EV.call hX hS hDm hU hW) (va_recv hK hP (ci := 0) (q0 := 3) rfl rfl) rfl hl.1 rfl (Nat.le_of_ble_eq_true rfl) dX0_firstEvent_32 ⟨Nat.zero_le _, Nat.zero_le _⟩ (fun H locs hP hD hS => ?_)
          have hw7 := mJx4a65c_get_915e3_mem e6
          obtain ⟨kw8, hkw8⟩ := wA_w (cq := cq) (q := q) (S := S) (M := M) (o := o) hw7
          refine va_castS (nm := RX2) hx hb hown (hts (.classLink RX0 59 "CableTester$Fault") (mm 2 rfl)) (hK.1 3 _ rfl).2 (va_recv hK hP (ci := 3) (q0 := kw8) rfl hkw8) dX0_firstEvent_35 ?_
          refine lv_iload_n hx hb dX0_firstEvent_38 rfl (lv_at hl 1 rfl) ?_
          obtain ⟨r9, e10, h⟩ := bo h
          obtain ⟨kw11, hkw11⟩ := wA_w (cq := cq) (q := q) (S := S) (M := M) (o := o) hw7
          refine caVR_i (As := [.int x1]) (rest := []) (ctX2_touches l dC dI cq q S M o _ _ _ hw7 _ _ e10) F (cwV 1 hts gX0_firstEvent_X2_touches rfl rfl rfl hdX2_touches ⟨Nat.le_of_ble_eq_true rfl, Nat.le_of_ble_eq_true rfl⟩) hK hP hD hDm hS hA EV.blind (fun U hU hW => EV.call hX hS hDm hU hW) (va_recv hK hP (ci := 3) (q0 := kw11) rfl hkw11) rfl hl.1 rfl (Nat.le_of_ble_eq_true rfl) dX0_firstEvent_39 ⟨Nat.zero_le _, Nat.zero_le _⟩ (fun H locs hP hD hS => ?_)
          refine lv_if_eq (tgt := 82) hx hb dX0_firstEvent_42 (by decide) (fun c12 => ?_) (fun c12 => ?_)
          · replace h := it c12 h
            exact hj82 _ _ _ _ _ ih _ _ _ hP hD hS (lv_sub hl [0, 1, 2, 3, 4] rfl) h
          · replace h := ie c12 h
            refine lv_iload_n hx hb dX0_firstEvent_45 rfl (lv_at hl 3 rfl) ?_
            refine lv_iconst (v := (-1 : Int32)) hx hb dX0_firstEvent_46 (by decide) ?_
            refine lv_icmp_eq (tgt := 79) hx hb dX0_firstEvent_47 (by decide) (fun c13 => ?_) (fun c13 => ?_)
            · replace h := it c13 h
              exact hj79 _ _ _ _ ih _ _ _ hP hD hS (lv_sub hl [0, 1, 2, 4] rfl) h
            · replace h := ie c13 h
              refine lv_aload_n hx hb dX0_firstEvent_50 rfl (lv_at hl 0 rfl) ?_
              refine va_get (D := (dC, dI)) (ci := 1) (v := .ref (q 3)) (C := RX0) (T := TX0) (N := 7) hx hb hts hinX0 hown hK hP 1 rfl rfl 5 (by decide) (hts (.fieldLink RX0 18 "CableTester$Cable" "faults" "Ljava/util/ArrayList;") (mm 1 rfl)) (fun _ h9 => h9) rfl dX0_firstEvent_51 ?_
              refine lv_iload hx hb dX0_firstEvent_54 (lv_at hl 4 rfl) ?_
              obtain ⟨r14, e15, h⟩ := bo h
              refine caVR_r (As := [.int x4]) (rest := []) (ctJx4a65c_get_915e3 l dC dI cq q S M o _ _ _ _ e15) F (cwV 1 hts gX0_firstEvent_Jx4a65c_get_915e3 rfl rfl rfl hdJx4a65c_get_915e3 ⟨Nat.le_of_ble_eq_true rfl, Nat.le_of_ble_eq_true rfl⟩) hK hP hD hDm hS hA EV.blind (fun U hU hW => EV.call hX hS hDm hU hW) (va_recv hK hP (ci := 0) (q0 := 3) rfl rfl) rfl hl.1 rfl (Nat.le_of_ble_eq_true rfl) dX0_firstEvent_56 ⟨Nat.zero_le _, Nat.zero_le _⟩ (fun H locs hP hD hS => ?_)
              have hw16 := mJx4a65c_get_915e3_mem e15
              obtain ⟨kw17, hkw17⟩ := wA_w (cq := cq) (q := q) (S := S) (M := M) (o := o) hw16
              refine va_castS (nm := RX2) hx hb hown (hts (.classLink RX0 59 "CableTester$Fault") (mm 2 rfl)) (hK.1 3 _ rfl).2 (va_recv hK hP (ci := 3) (q0 := kw17) rfl hkw17) dX0_firstEvent_59 ?_
              refine lv_aload_n hx hb dX0_firstEvent_62 rfl (lv_at hl 0 rfl) ?_
              refine va_get (D := (dC, dI)) (ci := 1) (v := .ref (q 3)) (C := RX0) (T := TX0) (N := 7) hx hb hts hinX0 hown hK hP 1 rfl rfl 5 (by decide) (hts (.fieldLink RX0 18 "CableTester$Cable" "faults" "Ljava/util/ArrayList;") (mm 1 rfl)) (fun _ h9 => h9) rfl dX0_firstEvent_63 ?_
              refine lv_iload_n hx hb dX0_firstEvent_66 rfl (lv_at hl 3 rfl) ?_
              obtain ⟨r18, e19, h⟩ := bo h
              refine caVR_r (As := [.int x3]) (rest := [.ref r14.1]) (ctJx4a65c_get_915e3 l dC dI cq q S M o _ _ _ _ e19) F (cwV 1 hts gX0_firstEvent_Jx4a65c_get_915e3 rfl rfl rfl hdJx4a65c_get_915e3 ⟨Nat.le_of_ble_eq_true rfl, Nat.le_of_ble_eq_true rfl⟩) hK hP hD hDm hS hA EV.blind (fun U hU hW => EV.call hX hS hDm hU hW) (va_recv hK hP (ci := 0) (q0 := 3) rfl rfl) rfl hl.1 rfl (Nat.le_of_ble_eq_true rfl) dX0_firstEvent_67 ⟨Nat.zero_le _, Nat.zero_le _⟩ (fun H locs hP hD hS => ?_)
              have hw20 := mJx4a65c_get_915e3_mem e19
              obtain ⟨kw21, hkw21⟩ := wA_w (cq := cq) (q := q) (S := S) (M := M) (o := o) hw20
              refine va_castS (nm := RX2) hx hb hown (hts (.classLink RX0 59 "CableTester$Fault") (mm 2 rfl)) (hK.1 3 _ rfl).2 (va_recv hK hP (ci := 3) (q0 := kw21) rfl hkw21) dX0_firstEvent_70 ?_
              obtain ⟨r22, e23, h⟩ := bo h
              obtain ⟨kw24, hkw24⟩ := wA_w (cq := cq) (q := q) (S := S) (M := M) (o := o) hw16
              refine caVR_i (As := [.ref r18.1]) (rest := []) (ctX2_isMetBefore l dC dI cq q S M o _ _ _ hw16 _ hw20 _ e23) F (cwV 1 hts gX0_firstEvent_X2_isMetBefore rfl rfl rfl hdX2_isMetBefore ⟨Nat.le_of_ble_eq_true rfl, Nat.le_of_ble_eq_true rfl⟩) hK hP hD hDm hS hA EV.blind (fun U hU hW => EV.call hX hS hDm hU hW) (va_recv hK hP (ci := 3) (q0 := kw24) rfl hkw24) rfl hl.1 rfl (Nat.le_of_ble_eq_true rfl) dX0_firstEvent_73 ⟨Nat.zero_le _, Nat.zero_le _⟩ (fun H locs hP hD hS => ?_)
              refine lv_if_eq (tgt := 82) hx hb dX0_firstEvent_76 (by decide) (fun c25 => ?_) (fun c25 => ?_)
              · replace h := it c25 h
                exact hj82 _ _ _ _ _ ih _ _ _ hP hD hS (lv_sub hl [0, 1, 2, 3, 4] rfl) h
              · replace h := ie c25 h
                exact hj79 _ _ _ _ ih _ _ _ hP hD hS (lv_sub hl [0, 1, 2, 4] rfl) h
  rw [mX0_firstEvent] at h
  refine lv_iconst (v := (-1 : Int32)) hx hb dX0_firstEvent_0 (by decide) ?_
  refine lv_istore_n (lv' := [(3, .int (-1 : Int32)), (0, .ref (q 1)), (1, .int x1), (2, .int x2)]) hx hb dX0_firstEvent_1 rfl hl (by decide) rfl (fun ls hl => ?_)
  refine lv_iconst (v := (0 : Int32)) hx hb dX0_firstEvent_2 (by decide) ?_
  refine lv_istore (lv' := [(4, .int (0 : Int32)), (3, .int (-1 : Int32)), (0, .ref (q 1)), (1, .int x1), (2, .int x2)]) hx hb dX0_firstEvent_3 hl (by decide) rfl (fun ls hl => ?_)
  exact hL5 _ _ _ _ _ _ _ _ hP hD hS (lv_sub hl [2, 3, 4, 1, 0] rfl) h
def mX0_rounded (x0 : Int32) (x1 : Int32) : Option (Int32) :=
  (if x1 ≤ (0 : Int32) then (some (0 : Int32)) else (if ¬ ((2 : Int32) * x1) = 0 then (some ((((2 : Int32) * x0) + x1) / ((2 : Int32) * x1))) else none))
abbrev rmX0_rounded : Room := { frames := 0, cells := 0, slots := 0, locals := 0 }
theorem hdX0_rounded : yX0_rounded.cls ≠ "java/lang/invoke/MethodHandle" ∧ yX0_rounded.cls ≠ "java/lang/invoke/VarHandle" ∧ (parseMethodDescriptor yX0_rounded.desc).map (fun d => d.parameters.length) = some 2 := by decide +kernel
set_option maxRecDepth 100000 in
set_option maxHeartbeats 8000000 in
theorem ctX0_rounded (l : Launch) (dC : Nat → ClassId) (dI : Nat → Nat → Nat) (cq : Nat → ClassId) (q : Nat → Nat) (S : CS) (M : MS) (o : Nat → Int64) (sz : Nat) (h0 : Nat) (x0 : Int32) (x1 : Int32) (rr : Int32) (h : mX0_rounded x0 x1 = some rr) : CtR_i l yX0_rounded wsX0_rounded rmX0_rounded (fun a => h0 ≤ a) (EV h0 q) dC dI cq q S M o sz [.int x0, .int x1] rr := by
  refine enR_i (cc := cX0_rounded) (maxL := 2) (by decide) rfl (Nat.le_of_ble_eq_true rfl) (fun p e s m args below meth c A Q ls F hA hP hK hD hDm hX hS hl hend => ?_)
  obtain ⟨hx, hb, hml, hown, hts⟩ := id F
  have hown : s.vm.findClass RX0 = some m.cls := hown
  have F : CallFix p m c cX0_rounded 2 s args wsX0_rounded RX0 := F
  have hl : lv_has ls 2 [(0, .int x0), (1, .int x1)] := hl
  rw [mX0_rounded] at h
  refine lv_iload_n hx hb dX0_rounded_0 rfl (lv_at hl 1 rfl) ?_
  refine lv_if_le (tgt := 16) hx hb dX0_rounded_1 (by decide) (fun c1 => ?_) (fun c1 => ?_)
  · replace h := it c1 h
    refine lv_iconst (v := (0 : Int32)) hx hb dX0_rounded_16 (by decide) ?_
    exact hend _ _ _ _ _ h hP hD hS dX0_rounded_17
  · replace h := ie c1 h
    refine lv_iconst (v := (2 : Int32)) hx hb dX0_rounded_4 (by decide) ?_
    refine lv_iload_n hx hb dX0_rounded_5 rfl (lv_at hl 0 rfl) ?_
    refine lv_imul hx hb dX0_rounded_6 ?_
    refine lv_iload_n hx hb dX0_rounded_7 rfl (lv_at hl 1 rfl) ?_
    refine lv_iadd hx hb dX0_rounded_8 ?_
    refine lv_iconst (v := (2 : Int32)) hx hb dX0_rounded_9 (by decide) ?_
    refine lv_iload_n hx hb dX0_rounded_10 rfl (lv_at hl 1 rfl) ?_
    refine lv_imul hx hb dX0_rounded_11 ?_
    obtain ⟨g2, h⟩ := gd h
    refine lv_idiv hx hb dX0_rounded_12 g2 ?_
    refine lv_goto (tgt := 17) hx hb dX0_rounded_13 (by decide) ?_
    exact hend _ _ _ _ _ h hP hD hS dX0_rounded_17
def mX0_echoAt_81 (n : Nat)  (S : CS) (x2 : Int32) (x3 : Int32) (x4 : Int32) (t0 : Int32) : Option (Int32) :=
  (bn (mX0_rounded ((200 : Int32) * t0) ((3 : Int32) * (S.1 1))) fun r10 => (if x2 = (0 : Int32) then (if x4 = (0 : Int32) then (some (0 : Int32)) else (bn (mJx4a65c_get_915e3 S x3) fun r14 => (bn (mX2_isShort r14) fun r18 => (if r18 = (0 : Int32) then (some (0 : Int32)) else (some (1 : Int32)))))) else (if x2 = (1 : Int32) then (some r10) else (if x2 = (2 : Int32) then (bn (mX0_rounded (((3 : Int32) * (S.1 1)) * r10) (200 : Int32)) fun r24 => (some r24)) else (some t0)))))
def mX0_echoAt_53 (n : Nat)  (S : CS) (x2 : Int32) (x3 : Int32) (t0 : Int32) : Option (Int32) :=
  (if t0 = (0 : Int32) then (mX0_echoAt_81 n S x2 x3 t0 (S.1 0)) else (bn (mJx4a65c_get_915e3 S x3) fun r26 => (mX0_echoAt_81 n S x2 x3 t0 (r26.2 2))))
def mX0_echoAt_52 (n : Nat)  (S : CS) (x2 : Int32) (x3 : Int32)  : Option (Int32) :=
  (mX0_echoAt_53 n S x2 x3 (0 : Int32))
def mX0_echoAt_33 (n : Nat)  (S : CS) (x2 : Int32) (x3 : Int32)  : Option (Int32) :=
  (if x3 < (0 : Int32) then (mX0_echoAt_52 n S x2 x3) else (bn (mJx4a65c_size_8abf5 S) fun r31 => (if r31 ≤ x3 then (mX0_echoAt_52 n S x2 x3) else (mX0_echoAt_53 n S x2 x3 (1 : Int32)))))
def mX0_echoAt (n : Nat) (S : CS) (x1 : Int32) (x2 : Int32) : Option (Int32) :=
  (bn (mX0_wireAt S (0 : Int32) x1) fun r1 => (bn (mX0_presentFaults n S (S.1 3)) fun r3 => (bn (mX0_firstEvent n S r1 r3) fun r5 => (if r5 = (-1 : Int32) then (if (S.1 2) = (0 : Int32) then (mX0_echoAt_33 n S x2 r5) else (some (-1 : Int32))) else (mX0_echoAt_33 n S x2 r5)))))
abbrev rmX0_echoAt : Room := { frames := 4, cells := 0, slots := 0, locals := 88 }
theorem hdX0_echoAt : yX0_echoAt.cls = RX0 ∧ yX0_echoAt.cls ≠ "java/lang/invoke/MethodHandle" ∧ yX0_echoAt.cls ≠ "java/lang/invoke/VarHandle" ∧ (parseMethodDescriptor yX0_echoAt.desc).map (fun d => d.parameters.length) = some 2 := by decide +kernel
set_option maxRecDepth 100000 in
set_option maxHeartbeats 8000000 in
theorem ctX0_echoAt (l : Launch) (dC : Nat → ClassId) (dI : Nat → Nat → Nat) (cq : Nat → ClassId) (q : Nat → Nat) (S : CS) (M : MS) (o : Nat → Int64) (sz : Nat) (h0 : Nat) (n : Nat) (x1 : Int32) (x2 : Int32) (rr : Int32) (h : mX0_echoAt n S x1 x2 = some rr) : CtR_i l yX0_echoAt wsX0_echoAt rmX0_echoAt (fun a => h0 ≤ a) (EV h0 q) dC dI cq q S M o sz [.ref (q 1), .int x1, .int x2] rr := by
  refine enR_i (cc := cX0_echoAt) (maxL := 7) (by decide) rfl (Nat.le_of_ble_eq_true rfl) (fun p e s m args below meth c A Q ls F hA hP hK hD hDm hX hS hl hend => ?_)
  obtain ⟨hx, hb, hml, hown, hts⟩ := id F
  have hown : s.vm.findClass RX0 = some m.cls := hown
  have F : CallFix p m c cX0_echoAt 7 s args wsX0_echoAt RX0 := F
  have hl : lv_has ls 7 [(0, .ref (q 1)), (1, .int x1), (2, .int x2)] := hl
  have hinX0 : ∀ w ∈ u_ws RX0 TX0 7, w ∈ wsX0_echoAt := fun w h => List.mem_cons_of_mem _ (List.mem_append_left _ (List.mem_append_left _ (List.mem_append_right _ h)))
  have hinX2 : ∀ w ∈ u_ws RX2 TX2 5, w ∈ wsX0_echoAt := fun w h => List.mem_cons_of_mem _ (List.mem_append_left _ (List.mem_append_right _ h))
  have hj81 : ∀  (x2 : Int32) (x3 : Int32) (x4 : Int32) (t0 : Int32)   (H : Heap) (locs : List Loc) (ls : Array Slot), va_P (dC, dI) vwCl (wA cq q S M o) H → va_D A (wA cq q S M o) → va_S A s.heap H locs → lv_has ls 7 [(0, .ref (q 1)), (2, .int x2), (3, .int x3), (4, .int x4)] → mX0_echoAt_81 n S x2 x3 x4 t0 = some rr → W p l e rmX0_echoAt s m args below meth c H locs 0 0 Q (F0 m 81 ls [.int t0]) := by
    intro x2 x3 x4 t0 H locs ls hP hD hS hl h
    rw [mX0_echoAt_81] at h
    refine lv_istore (lv' := [(5, .int t0), (0, .ref (q 1)), (2, .int x2), (3, .int x3), (4, .int x4)]) hx hb dX0_echoAt_81 hl (by decide) rfl (fun ls hl => ?_)
    refine lv_sipush (v := (200 : Int32)) hx hb dX0_echoAt_83 (by decide) ?_
    refine lv_iload hx hb dX0_echoAt_86 (lv_at hl 0 rfl) ?_
    refine lv_imul hx hb dX0_echoAt_88 ?_
    refine lv_iconst (v := (3 : Int32)) hx hb dX0_echoAt_89 (by decide) ?_
    refine lv_aload_n hx hb dX0_echoAt_90 rfl (lv_at hl 1 rfl) ?_
    refine va_get (D := (dC, dI)) (ci := 1) (v := .int (S.1 1)) (C := RX0) (T := TX0) (N := 7) hx hb hts hinX0 hown hK hP 1 rfl rfl 1 (by decide) (hts (.fieldLink RX0 35 "CableTester$Cable" "velocity" "I") (mm 6 rfl)) (fun _ h9 => h9) rfl dX0_echoAt_91 ?_
    refine lv_imul hx hb dX0_echoAt_94 ?_
    obtain ⟨r10, e11, h⟩ := bo h
    refine caSR_i (As := [.int ((200 : Int32) * t0), .int ((3 : Int32) * (S.1 1))]) (rest := []) (ctX0_rounded l dC dI cq q S M o _ _ _ _ _ e11) F (va_cwS 2 hts gX0_echoAt_X0_rounded rfl rfl rfl hdX0_rounded ⟨Nat.le_of_ble_eq_true rfl, Nat.le_of_ble_eq_true rfl⟩) hK hP hD hDm hS hA EV.blind (fun U hU hW => EV.call hX hS hDm hU hW) rfl hl.1 rfl (Nat.le_of_ble_eq_true rfl) dX0_echoAt_95 ⟨Nat.zero_le _, Nat.zero_le _⟩ (fun H locs hP hD hS => ?_)
    refine lv_istore (lv' := [(6, .int r10), (5, .int t0), (0, .ref (q 1)), (2, .int x2), (3, .int x3), (4, .int x4)]) hx hb dX0_echoAt_98 hl (by decide) rfl (fun ls hl => ?_)
    refine lv_iload_n hx hb dX0_echoAt_100 rfl (lv_at hl 3 rfl) ?_
    by_cases c12 : x2 = (0 : Int32)
    · replace h := it c12 h
      refine lv_tableIn (tgt := 128) (off := 27) hx hb dX0_echoAt_101 (by rw [c12]; decide) (by rw [c12]; decide) (by rw [c12]; decide) (by decide) ?_
      refine lv_iload hx hb dX0_echoAt_128 (lv_at hl 5 rfl) ?_
      refine lv_if_eq (tgt := 154) hx hb dX0_echoAt_130 (by decide) (fun c13 => ?_) (fun c13 => ?_)
      · replace h := it c13 h
        refine lv_iconst (v := (0 : Int32)) hx hb dX0_echoAt_154 (by decide) ?_
        exact hend _ _ _ _ _ h hP hD hS dX0_echoAt_155
      · replace h := ie c13 h
        refine lv_aload_n hx hb dX0_echoAt_133 rfl (lv_at hl 2 rfl) ?_
        refine va_get (D := (dC, dI)) (ci := 1) (v := .ref (q 3)) (C := RX0) (T := TX0) (N := 7) hx hb hts hinX0 hown hK hP 1 rfl rfl 5 (by decide) (hts (.fieldLink RX0 18 "CableTester$Cable" "faults" "Ljava/util/ArrayList;") (mm 3 rfl)) (fun _ h9 => h9) rfl dX0_echoAt_134 ?_
        refine lv_iload_n hx hb dX0_echoAt_137 rfl (lv_at hl 4 rfl) ?_
        obtain ⟨r14, e15, h⟩ := bo h
        refine caVR_r (As := [.int x3]) (rest := []) (ctJx4a65c_get_915e3 l dC dI cq q S M o _ _ _ _ e15) F (cwV 1 hts gX0_echoAt_Jx4a65c_get_915e3 rfl rfl rfl hdJx4a65c_get_915e3 ⟨Nat.le_of_ble_eq_true rfl, Nat.le_of_ble_eq_true rfl⟩) hK hP hD hDm hS hA EV.blind (fun U hU hW => EV.call hX hS hDm hU hW) (va_recv hK hP (ci := 0) (q0 := 3) rfl rfl) rfl hl.1 rfl (Nat.le_of_ble_eq_true rfl) dX0_echoAt_138 ⟨Nat.zero_le _, Nat.zero_le _⟩ (fun H locs hP hD hS => ?_)
        have hw16 := mJx4a65c_get_915e3_mem e15
        obtain ⟨kw17, hkw17⟩ := wA_w (cq := cq) (q := q) (S := S) (M := M) (o := o) hw16
        refine va_castS (nm := RX2) hx hb hown (hts (.classLink RX0 59 "CableTester$Fault") (mm 4 rfl)) (hK.1 3 _ rfl).2 (va_recv hK hP (ci := 3) (q0 := kw17) rfl hkw17) dX0_echoAt_141 ?_
        obtain ⟨r18, e19, h⟩ := bo h
        obtain ⟨kw20, hkw20⟩ := wA_w (cq := cq) (q := q) (S := S) (M := M) (o := o) hw16
        refine caVR_i (As := []) (rest := []) (ctX2_isShort l dC dI cq q S M o _ _ _ hw16 _ e19) F (cwV 0 hts gX0_echoAt_X2_isShort rfl rfl rfl hdX2_isShort ⟨Nat.le_of_ble_eq_true rfl, Nat.le_of_ble_eq_true rfl⟩) hK hP hD hDm hS hA EV.blind (fun U hU hW => EV.call hX hS hDm hU hW) (va_recv hK hP (ci := 3) (q0 := kw20) rfl hkw20) rfl hl.1 rfl (Nat.le_of_ble_eq_true rfl) dX0_echoAt_144 ⟨Nat.zero_le _, Nat.zero_le _⟩ (fun H locs hP hD hS => ?_)
        refine lv_if_eq (tgt := 154) hx hb dX0_echoAt_147 (by decide) (fun c21 => ?_) (fun c21 => ?_)
        · replace h := it c21 h
          refine lv_iconst (v := (0 : Int32)) hx hb dX0_echoAt_154 (by decide) ?_
          exact hend _ _ _ _ _ h hP hD hS dX0_echoAt_155
        · replace h := ie c21 h
          refine lv_iconst (v := (1 : Int32)) hx hb dX0_echoAt_150 (by decide) ?_
          refine lv_goto (tgt := 155) hx hb dX0_echoAt_151 (by decide) ?_
          exact hend _ _ _ _ _ h hP hD hS dX0_echoAt_155
    replace h := ie c12 h
    by_cases c22 : x2 = (1 : Int32)
    · replace h := it c22 h
      refine lv_tableIn (tgt := 156) (off := 55) hx hb dX0_echoAt_101 (by rw [c22]; decide) (by rw [c22]; decide) (by rw [c22]; decide) (by decide) ?_
      refine lv_iload hx hb dX0_echoAt_156 (lv_at hl 0 rfl) ?_
      exact hend _ _ _ _ _ h hP hD hS dX0_echoAt_158
    replace h := ie c22 h
    by_cases c23 : x2 = (2 : Int32)
    · replace h := it c23 h
      refine lv_tableIn (tgt := 159) (off := 58) hx hb dX0_echoAt_101 (by rw [c23]; decide) (by rw [c23]; decide) (by rw [c23]; decide) (by decide) ?_
      refine lv_iconst (v := (3 : Int32)) hx hb dX0_echoAt_159 (by decide) ?_
      refine lv_aload_n hx hb dX0_echoAt_160 rfl (lv_at hl 2 rfl) ?_
      refine va_get (D := (dC, dI)) (ci := 1) (v := .int (S.1 1)) (C := RX0) (T := TX0) (N := 7) hx hb hts hinX0 hown hK hP 1 rfl rfl 1 (by decide) (hts (.fieldLink RX0 35 "CableTester$Cable" "velocity" "I") (mm 6 rfl)) (fun _ h9 => h9) rfl dX0_echoAt_161 ?_
      refine lv_imul hx hb dX0_echoAt_164 ?_
      refine lv_iload hx hb dX0_echoAt_165 (lv_at hl 0 rfl) ?_
      refine lv_imul hx hb dX0_echoAt_167 ?_
      refine lv_sipush (v := (200 : Int32)) hx hb dX0_echoAt_168 (by decide) ?_
      obtain ⟨r24, e25, h⟩ := bo h
      refine caSR_i (As := [.int (((3 : Int32) * (S.1 1)) * r10), .int (200 : Int32)]) (rest := []) (ctX0_rounded l dC dI cq q S M o _ _ _ _ _ e25) F (va_cwS 2 hts gX0_echoAt_X0_rounded rfl rfl rfl hdX0_rounded ⟨Nat.le_of_ble_eq_true rfl, Nat.le_of_ble_eq_true rfl⟩) hK hP hD hDm hS hA EV.blind (fun U hU hW => EV.call hX hS hDm hU hW) rfl hl.1 rfl (Nat.le_of_ble_eq_true rfl) dX0_echoAt_171 ⟨Nat.zero_le _, Nat.zero_le _⟩ (fun H locs hP hD hS => ?_)
      exact hend _ _ _ _ _ h hP hD hS dX0_echoAt_174
    replace h := ie c23 h
    refine lv_tableOut (tgt := 175) hx hb dX0_echoAt_101 (by have z0 := ne_i (n := 0) rfl c12; have z1 := ne_i (n := 1) rfl c22; have z2 := ne_i (n := 2) rfl c23; omega) (by decide) ?_
    refine lv_iload hx hb dX0_echoAt_175 (lv_at hl 1 rfl) ?_
    exact hend _ _ _ _ _ h hP hD hS dX0_echoAt_177
  have hj53 : ∀  (x2 : Int32) (x3 : Int32) (t0 : Int32)   (H : Heap) (locs : List Loc) (ls : Array Slot), va_P (dC, dI) vwCl (wA cq q S M o) H → va_D A (wA cq q S M o) → va_S A s.heap H locs → lv_has ls 7 [(0, .ref (q 1)), (2, .int x2), (3, .int x3)] → mX0_echoAt_53 n S x2 x3 t0 = some rr → W p l e rmX0_echoAt s m args below meth c H locs 0 0 Q (F0 m 53 ls [.int t0]) := by
    intro x2 x3 t0 H locs ls hP hD hS hl h
    rw [mX0_echoAt_53] at h
    refine lv_istore (lv' := [(4, .int t0), (0, .ref (q 1)), (2, .int x2), (3, .int x3)]) hx hb dX0_echoAt_53 hl (by decide) rfl (fun ls hl => ?_)
    refine lv_iload hx hb dX0_echoAt_55 (lv_at hl 0 rfl) ?_
    refine lv_if_eq (tgt := 77) hx hb dX0_echoAt_57 (by decide) (fun c9 => ?_) (fun c9 => ?_)
    · replace h := it c9 h
      refine lv_aload_n hx hb dX0_echoAt_77 rfl (lv_at hl 1 rfl) ?_
      refine va_get (D := (dC, dI)) (ci := 1) (v := .int (S.1 0)) (C := RX0) (T := TX0) (N := 7) hx hb hts hinX0 hown hK hP 1 rfl rfl 0 (by decide) (hts (.fieldLink RX0 31 "CableTester$Cable" "length" "I") (mm 5 rfl)) (fun _ h9 => h9) rfl dX0_echoAt_78 ?_
      exact hj81 _ _ _ _ _ _ _ hP hD hS (lv_sub hl [1, 2, 3, 0] rfl) h
    · replace h := ie c9 h
      refine lv_aload_n hx hb dX0_echoAt_60 rfl (lv_at hl 1 rfl) ?_
      refine va_get (D := (dC, dI)) (ci := 1) (v := .ref (q 3)) (C := RX0) (T := TX0) (N := 7) hx hb hts hinX0 hown hK hP 1 rfl rfl 5 (by decide) (hts (.fieldLink RX0 18 "CableTester$Cable" "faults" "Ljava/util/ArrayList;") (mm 3 rfl)) (fun _ h9 => h9) rfl dX0_echoAt_61 ?_
      refine lv_iload_n hx hb dX0_echoAt_64 rfl (lv_at hl 3 rfl) ?_
      obtain ⟨r26, e27, h⟩ := bo h
      refine caVR_r (As := [.int x3]) (rest := []) (ctJx4a65c_get_915e3 l dC dI cq q S M o _ _ _ _ e27) F (cwV 1 hts gX0_echoAt_Jx4a65c_get_915e3 rfl rfl rfl hdJx4a65c_get_915e3 ⟨Nat.le_of_ble_eq_true rfl, Nat.le_of_ble_eq_true rfl⟩) hK hP hD hDm hS hA EV.blind (fun U hU hW => EV.call hX hS hDm hU hW) (va_recv hK hP (ci := 0) (q0 := 3) rfl rfl) rfl hl.1 rfl (Nat.le_of_ble_eq_true rfl) dX0_echoAt_65 ⟨Nat.zero_le _, Nat.zero_le _⟩ (fun H locs hP hD hS => ?_)
      have hw28 := mJx4a65c_get_915e3_mem e27
      obtain ⟨kw29, hkw29⟩ := wA_w (cq := cq) (q := q) (S := S) (M := M) (o := o) hw28
      refine va_castS (nm := RX2) hx hb hown (hts (.classLink RX0 59 "CableTester$Fault") (mm 4 rfl)) (hK.1 3 _ rfl).2 (va_recv hK hP (ci := 3) (q0 := kw29) rfl hkw29) dX0_echoAt_68 ?_
      obtain ⟨kw30, hkw30⟩ := wA_w (cq := cq) (q := q) (S := S) (M := M) (o := o) hw28
      refine va_getN (D := (dC, dI)) (ci := 3) (v := .int (r26.2 2)) (C := RX2) (T := TX2) (N := 5) hx hb hts hinX2 hown hK hP kw30 hkw30 rfl 2 (by decide) (va_Nw.use rfl hX.1.2.2.2.2.2.2.2.2.2.2.2.2.2.2.2.2.2.2.2.1) (fun _ h9 => h9) rfl dX0_echoAt_71 ?_
      refine lv_goto (tgt := 81) hx hb dX0_echoAt_74 (by decide) ?_
      exact hj81 _ _ _ _ _ _ _ hP hD hS (lv_sub hl [1, 2, 3, 0] rfl) h
  have hj52 : ∀  (x2 : Int32) (x3 : Int32)    (H : Heap) (locs : List Loc) (ls : Array Slot), va_P (dC, dI) vwCl (wA cq q S M o) H → va_D A (wA cq q S M o) → va_S A s.heap H locs → lv_has ls 7 [(0, .ref (q 1)), (2, .int x2), (3, .int x3)] → mX0_echoAt_52 n S x2 x3 = some rr → W p l e rmX0_echoAt s m args below meth c H locs 0 0 Q (F0 m 52 ls []) := by
    intro x2 x3 H locs ls hP hD hS hl h
    rw [mX0_echoAt_52] at h
    refine lv_iconst (v := (0 : Int32)) hx hb dX0_echoAt_52 (by decide) ?_
    exact hj53 _ _ _ _ _ _ hP hD hS (lv_sub hl [0, 1, 2] rfl) h
  have hj33 : ∀  (x2 : Int32) (x3 : Int32)    (H : Heap) (locs : List Loc) (ls : Array Slot), va_P (dC, dI) vwCl (wA cq q S M o) H → va_D A (wA cq q S M o) → va_S A s.heap H locs → lv_has ls 7 [(0, .ref (q 1)), (2, .int x2), (3, .int x3)] → mX0_echoAt_33 n S x2 x3 = some rr → W p l e rmX0_echoAt s m args below meth c H locs 0 0 Q (F0 m 33 ls []) := by
    intro x2 x3 H locs ls hP hD hS hl h
    rw [mX0_echoAt_33] at h
    refine lv_iload_n hx hb dX0_echoAt_33 rfl (lv_at hl 2 rfl) ?_
    refine lv_if_lt (tgt := 52) hx hb dX0_echoAt_34 (by decide) (fun c8 => ?_) (fun c8 => ?_)
    · replace h := it c8 h
      exact hj52 _ _ _ _ _ hP hD hS (lv_sub hl [0, 1, 2] rfl) h
    · replace h := ie c8 h
      refine lv_iload_n hx hb dX0_echoAt_37 rfl (lv_at hl 2 rfl) ?_
      refine lv_aload_n hx hb dX0_echoAt_38 rfl (lv_at hl 0 rfl) ?_
      refine va_get (D := (dC, dI)) (ci := 1) (v := .ref (q 3)) (C := RX0) (T := TX0) (N := 7) hx hb hts hinX0 hown hK hP 1 rfl rfl 5 (by decide) (hts (.fieldLink RX0 18 "CableTester$Cable" "faults" "Ljava/util/ArrayList;") (mm 3 rfl)) (fun _ h9 => h9) rfl dX0_echoAt_39 ?_
      obtain ⟨r31, e32, h⟩ := bo h
      refine caVR_i (As := []) (rest := [.int x3]) (ctJx4a65c_size_8abf5 l dC dI cq q S M o _ _ _ e32) F (cwV 0 hts gX0_echoAt_Jx4a65c_size_8abf5 rfl rfl rfl hdJx4a65c_size_8abf5 ⟨Nat.le_of_ble_eq_true rfl, Nat.le_of_ble_eq_true rfl⟩) hK hP hD hDm hS hA EV.blind (fun U hU hW => EV.call hX hS hDm hU hW) (va_recv hK hP (ci := 0) (q0 := 3) rfl rfl) rfl hl.1 rfl (Nat.le_of_ble_eq_true rfl) dX0_echoAt_42 ⟨Nat.zero_le _, Nat.zero_le _⟩ (fun H locs hP hD hS => ?_)
      refine lv_icmp_ge (tgt := 52) hx hb dX0_echoAt_45 (by decide) (fun c33 => ?_) (fun c33 => ?_)
      · replace h := it c33 h
        exact hj52 _ _ _ _ _ hP hD hS (lv_sub hl [0, 1, 2] rfl) h
      · replace h := ie c33 h
        refine lv_iconst (v := (1 : Int32)) hx hb dX0_echoAt_48 (by decide) ?_
        refine lv_goto (tgt := 53) hx hb dX0_echoAt_49 (by decide) ?_
        exact hj53 _ _ _ _ _ _ hP hD hS (lv_sub hl [0, 1, 2] rfl) h
  rw [mX0_echoAt] at h
  refine lv_aload_n hx hb dX0_echoAt_0 rfl (lv_at hl 0 rfl) ?_
  refine lv_aload_n hx hb dX0_echoAt_1 rfl (lv_at hl 0 rfl) ?_
  refine lv_iconst (v := (0 : Int32)) hx hb dX0_echoAt_2 (by decide) ?_
  refine lv_iload_n hx hb dX0_echoAt_3 rfl (lv_at hl 1 rfl) ?_
  obtain ⟨r1, e2, h⟩ := bo h
  refine caVR_i (As := [.int (0 : Int32), .int x1]) (rest := [.ref (q 1)]) (ctX0_wireAt l dC dI cq q S M o _ _ _ _ _ e2) F (cwV 2 hts gX0_echoAt_X0_wireAt rfl rfl rfl hdX0_wireAt ⟨Nat.le_of_ble_eq_true rfl, Nat.le_of_ble_eq_true rfl⟩) hK hP hD hDm hS hA EV.blind (fun U hU hW => EV.call hX hS hDm hU hW) (va_recv hK hP (ci := 1) (q0 := 1) rfl rfl) rfl hl.1 rfl (Nat.le_of_ble_eq_true rfl) dX0_echoAt_4 ⟨Nat.zero_le _, Nat.zero_le _⟩ (fun H locs hP hD hS => ?_)
  refine lv_aload_n hx hb dX0_echoAt_7 rfl (lv_at hl 0 rfl) ?_
  refine lv_aload_n hx hb dX0_echoAt_8 rfl (lv_at hl 0 rfl) ?_
  refine va_get (D := (dC, dI)) (ci := 1) (v := .int (S.1 3)) (C := RX0) (T := TX0) (N := 7) hx hb hts hinX0 hown hK hP 1 rfl rfl 3 (by decide) (hts (.fieldLink RX0 41 "CableTester$Cable" "tick" "I") (mm 1 rfl)) (fun _ h9 => h9) rfl dX0_echoAt_9 ?_
  obtain ⟨r3, e4, h⟩ := bo h
  refine caVR_i (As := [.int (S.1 3)]) (rest := [.int r1, .ref (q 1)]) (ctX0_presentFaults l dC dI cq q S M o _ _ _ _ _ e4) F (cwV 1 hts gX0_echoAt_X0_presentFaults rfl rfl rfl hdX0_presentFaults ⟨Nat.le_of_ble_eq_true rfl, Nat.le_of_ble_eq_true rfl⟩) hK hP hD hDm hS hA EV.blind (fun U hU hW => EV.call hX hS hDm hU hW) (va_recv hK hP (ci := 1) (q0 := 1) rfl rfl) rfl hl.1 rfl (Nat.le_of_ble_eq_true rfl) dX0_echoAt_12 ⟨Nat.zero_le _, Nat.zero_le _⟩ (fun H locs hP hD hS => ?_)
  obtain ⟨r5, e6, h⟩ := bo h
  refine caVR_i (As := [.int r1, .int r3]) (rest := []) (ctX0_firstEvent l dC dI cq q S M o _ _ _ _ _ _ e6) F (cwV 2 hts gX0_echoAt_X0_firstEvent rfl rfl rfl hdX0_firstEvent ⟨Nat.le_of_ble_eq_true rfl, Nat.le_of_ble_eq_true rfl⟩) hK hP hD hDm hS hA EV.blind (fun U hU hW => EV.call hX hS hDm hU hW) (va_recv hK hP (ci := 1) (q0 := 1) rfl rfl) rfl hl.1 rfl (Nat.le_of_ble_eq_true rfl) dX0_echoAt_15 ⟨Nat.zero_le _, Nat.zero_le _⟩ (fun H locs hP hD hS => ?_)
  refine lv_istore_n (lv' := [(3, .int r5), (0, .ref (q 1)), (1, .int x1), (2, .int x2)]) hx hb dX0_echoAt_18 rfl hl (by decide) rfl (fun ls hl => ?_)
  refine lv_iload_n hx hb dX0_echoAt_19 rfl (lv_at hl 0 rfl) ?_
  refine lv_iconst (v := (-1 : Int32)) hx hb dX0_echoAt_20 (by decide) ?_
  refine lv_icmp_ne (tgt := 33) hx hb dX0_echoAt_21 (by decide) (fun c7 => ?_) (fun c7 => ?_)
  · replace h := ie c7 h
    exact hj33 _ _ _ _ _ hP hD hS (lv_sub hl [1, 3, 0] rfl) h
  · replace h := it c7 h
    refine lv_aload_n hx hb dX0_echoAt_24 rfl (lv_at hl 1 rfl) ?_
    refine va_get (D := (dC, dI)) (ci := 1) (v := .int (S.1 2)) (C := RX0) (T := TX0) (N := 7) hx hb hts hinX0 hown hK hP 1 rfl rfl 2 (by decide) (hts (.fieldLink RX0 38 "CableTester$Cable" "unit" "I") (mm 2 rfl)) (fun _ h9 => h9) rfl dX0_echoAt_25 ?_
    refine lv_if_eq (tgt := 33) hx hb dX0_echoAt_28 (by decide) (fun c34 => ?_) (fun c34 => ?_)
    · replace h := it c34 h
      exact hj33 _ _ _ _ _ hP hD hS (lv_sub hl [1, 3, 0] rfl) h
    · replace h := ie c34 h
      refine lv_iconst (v := (-1 : Int32)) hx hb dX0_echoAt_31 (by decide) ?_
      exact hend _ _ _ _ _ h hP hD hS dX0_echoAt_32
