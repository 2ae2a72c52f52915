def mX8_load_212 (n : Nat) (K77 : MS → Int32 → Option (Int32 × MS)) (M : MS) (x2 : Int32)  : Option (Int32 × MS) :=
  (K77 M (x2 + (1 : Int32)))
def mX8_load_129 (n : Nat) (K77 : MS → Int32 → Option (Int32 × MS)) (M : MS) (x2 : Int32) (x3 : Int32) (t0 : Int32) : Option (Int32 × MS) :=
  (if inb (x3 + (1 : Int32)) 150 then (if inb (x3 + (2 : Int32)) 150 then (bn (mX8_swap M t0 (M.2.1 29 (x3 + (1 : Int32)).toNatClampNeg) (M.2.1 29 (x3 + (2 : Int32)).toNatClampNeg)) fun M23 => (mX8_load_212 n (K77) M23 x2)) else none) else none)
def mX8_load_112 (n : Nat) (K77 : MS → Int32 → Option (Int32 × MS)) (M : MS) (x2 : Int32) (x3 : Int32)  : Option (Int32 × MS) :=
  (if inb x3 150 then (if (M.2.1 29 x3.toNatClampNeg) = (110 : Int32) then (mX8_load_129 n (K77) M x2 x3 (0 : Int32)) else (mX8_load_129 n (K77) M x2 x3 (1 : Int32))) else none)
def mX8_load_168 (n : Nat) (K77 : MS → Int32 → Option (Int32 × MS)) (M : MS) (x2 : Int32) (x3 : Int32) (t0 : Int32) : Option (Int32 × MS) :=
  (if inb (x3 + (1 : Int32)) 150 then (if inb (x3 + (2 : Int32)) 150 then (if inb (x3 + (3 : Int32)) 150 then (if inb (x3 + (4 : Int32)) 150 then (if inb (x3 + (5 : Int32)) 150 then (bm (mX8_add M t0 (M.2.1 29 (x3 + (1 : Int32)).toNatClampNeg) (M.2.1 29 (x3 + (2 : Int32)).toNatClampNeg) (M.2.1 29 (x3 + (3 : Int32)).toNatClampNeg) (M.2.1 29 (x3 + (4 : Int32)).toNatClampNeg) (M.2.1 29 (x3 + (5 : Int32)).toNatClampNeg)) fun r33 M35 => (mX8_load_212 n (K77) M35 x2)) else none) else none) else none) else none) else none)
def mX8_load_77 (n : Nat)   : Nat → MS → Int32 → Option (Int32 × MS)
  | 0, _, _ => none
  | k + 1, M, x2 => (if (M.1 21) ≤ x2 then (some (((sG M 10 (0 : Int32)).1 21), (sG M 10 (0 : Int32)))) else (if inb ((6 : Int32) * x2) 150 then (if (M.2.1 29 ((6 : Int32) * x2).toNatClampNeg) = (110 : Int32) then (mX8_load_112 n (mX8_load_77 n k) M x2 ((6 : Int32) * x2)) else (if inb ((6 : Int32) * x2) 150 then (if (M.2.1 29 ((6 : Int32) * x2).toNatClampNeg) = (102 : Int32) then (mX8_load_112 n (mX8_load_77 n k) M x2 ((6 : Int32) * x2)) else (if inb ((6 : Int32) * x2) 150 then (if (M.2.1 29 ((6 : Int32) * x2).toNatClampNeg) = (115 : Int32) then (mX8_load_168 n (mX8_load_77 n k) M x2 ((6 : Int32) * x2) (1 : Int32)) else (mX8_load_168 n (mX8_load_77 n k) M x2 ((6 : Int32) * x2) (0 : Int32))) else none)) else none)) else none))
def mX8_load_63 (n : Nat)  (M : MS)  (t0 : Int32) : Option (Int32 × MS) :=
  (if ((sG M 0 t0).1 0) ≤ (0 : Int32) then (mX8_load_77 n n (sG M 0 t0) (0 : Int32)) else (some ((0 : Int32), (sG M 0 t0))))
def mX8_load_34 (n : Nat)  (M : MS)  (t0 : Int32) : Option (Int32 × MS) :=
  (if ((sG M 0 t0).1 0) ≤ (0 : Int32) then (bn (mX8_endItem (sG M 0 t0)) fun M9 => (bn (mX8_canLoad n M9) fun r10 => (if r10 = (0 : Int32) then (mX8_load_63 n M9 (2 : Int32)) else (mX8_load_63 n M9 (0 : Int32))))) else (some ((0 : Int32), (sG M 0 t0))))
def mX8_load_23 (n : Nat)  (M : MS)  (t0 : Int32) : Option (Int32 × MS) :=
  (if t0 = (0 : Int32) then (mX8_load_34 n M (1 : Int32)) else (mX8_load_34 n M (0 : Int32)))
def mX8_load_22 (n : Nat)  (M : MS)   : Option (Int32 × MS) :=
  (mX8_load_23 n M (0 : Int32))
def mX8_load (n : Nat) (M : MS)  : Option (Int32 × MS) :=
  (bm (mX8_readText n M) fun r1 M3 => (if r1 = (M3.1 10) then (bn (mX8_canEnd M3) fun r36 => (if r36 = (0 : Int32) then (mX8_load_22 n M3) else (mX8_load_23 n M3 (1 : Int32)))) else (mX8_load_22 n M3)))
abbrev rmX8_load : Room := { frames := 4, cells := 0, slots := 0, locals := 87 }
theorem hdX8_load : yX8_load.cls = RX8 ∧ yX8_load.cls ≠ "java/lang/invoke/MethodHandle" ∧ yX8_load.cls ≠ "java/lang/invoke/VarHandle" ∧ (parseMethodDescriptor yX8_load.desc).map (fun d => d.parameters.length) = some 0 := by decide +kernel
set_option maxRecDepth 100000 in
set_option maxHeartbeats 8000000 in
theorem ctX8_load (l : Launch) (dC : Nat → ClassId) (dI : Nat → Nat → Nat) (cq : Nat → ClassId) (q : Nat → Nat) (S : CS) (M : MS) (o : Nat → Int64) (sz : Nat) (n : Nat)  (rr : Int32) (MM : MS) (h : mX8_load n M = some (rr, MM)) : CtM_i l yX8_load wsX8_load rmX8_load (fun _ => True) (fun _ => True) dC dI cq q S M o sz [.ref (q 22)] rr MM := by
  refine enM_i (cc := cX8_load) (maxL := 4) (by decide) rfl (Nat.le_of_ble_eq_true rfl) (fun p e s m args below meth c A Q ls F hA hP hK hD hDm hX hS hl hend => ?_)
  obtain ⟨hx, hb, hml, hown, hts⟩ := id F
  have hown : s.vm.findClass RX8 = some m.cls := hown
  have F : CallFix p m c cX8_load 4 s args wsX8_load RX8 := F
  have hl : lv_has ls 4 [(0, .ref (q 22))] := hl
  have hinX8 : ∀ w ∈ u_ws RX8 TX8 29, w ∈ wsX8_load := fun w h => List.mem_cons_of_mem _ (List.mem_append_right _ h)
  have hj212 : ∀ (M : MS) (x2 : Int32)  (K77 : MS → Int32 → Option (Int32 × MS)) (hK77 : ∀ (M9 : MS) (y2 : Int32) (H : Heap) (locs : List Loc) (ls : Array Slot), va_P (dC, dI) vwCl (wA cq q S M9 o) H → va_D A (wA cq q S M9 o) → va_S A s.heap H locs → lv_has ls 4 [(0, .ref (q 22)), (2, .int y2)] → K77 M9 y2 = some (rr, MM) → W p l e rmX8_load s m args below meth c H locs 0 0 Q (F0 m 77 ls [])) (H : Heap) (locs : List Loc) (ls : Array Slot), va_P (dC, dI) vwCl (wA cq q S M o) H → va_D A (wA cq q S M o) → va_S A s.heap H locs → lv_has ls 4 [(0, .ref (q 22)), (2, .int x2)] → mX8_load_212 n K77 M x2 = some (rr, MM) → W p l e rmX8_load s m args below meth c H locs 0 0 Q (F0 m 212 ls []) := by
    intro M x2 K77 hK77 H locs ls hP hD hS hl h
    rw [mX8_load_212] at h
    refine lv_iinc (v := (x2 + (1 : Int32))) (lv' := [(2, .int (x2 + (1 : Int32))), (0, .ref (q 22))]) hx hb dX8_load_212 hl (k := 1) rfl rfl (by decide) rfl (fun ls hl => ?_)
    refine lv_goto (tgt := 77) hx hb dX8_load_215 (by decide) ?_
    exact hK77 _ _ _ _ _ hP hD hS (lv_sub hl [1, 0] rfl) h
  have hj129 : ∀ (M : MS) (x2 : Int32) (x3 : Int32) (t0 : Int32) (K77 : MS → Int32 → Option (Int32 × MS)) (hK77 : ∀ (M9 : MS) (y2 : Int32) (H : Heap) (locs : List Loc) (ls : Array Slot), va_P (dC, dI) vwCl (wA cq q S M9 o) H → va_D A (wA cq q S M9 o) → va_S A s.heap H locs → lv_has ls 4 [(0, .ref (q 22)), (2, .int y2)] → K77 M9 y2 = some (rr, MM) → W p l e rmX8_load s m args below meth c H locs 0 0 Q (F0 m 77 ls [])) (H : Heap) (locs : List Loc) (ls : Array Slot), va_P (dC, dI) vwCl (wA cq q S M o) H → va_D A (wA cq q S M o) → va_S A s.heap H locs → lv_has ls 4 [(0, .ref (q 22)), (2, .int x2), (3, .int x3)] → mX8_load_129 n K77 M x2 x3 t0 = some (rr, MM) → W p l e rmX8_load s m args below meth c H locs 0 0 Q (F0 m 129 ls [.int t0, .ref (q 22)]) := by
    intro M x2 x3 t0 K77 hK77 H locs ls hP hD hS hl h
    rw [mX8_load_129] at h
    refine lv_aload_n hx hb dX8_load_129 rfl (lv_at hl 0 rfl) ?_
    refine va_get (D := (dC, dI)) (ci := 9) (v := .ref (q 29)) (C := RX8) (T := TX8) (N := 29) hx hb hts hinX8 hown hK hP 22 rfl rfl 22 (by decide) (hts (.fieldLink RX8 28 "CableTesterModel" "read" "[I") (mm 4 rfl)) (fun _ h9 => h9) rfl dX8_load_130 ?_
    refine lv_iload_n hx hb dX8_load_133 rfl (lv_at hl 2 rfl) ?_
    refine lv_iconst (v := (1 : Int32)) hx hb dX8_load_134 (by decide) ?_
    refine lv_iadd hx hb dX8_load_135 ?_
    obtain ⟨g19, h⟩ := gd h
    refine va_iald (D := (dC, dI)) hx hb hK hP 29 18 rfl rfl (inb_ok g19) dX8_load_136 ?_
    refine lv_aload_n hx hb dX8_load_137 rfl (lv_at hl 0 rfl) ?_
    refine va_get (D := (dC, dI)) (ci := 9) (v := .ref (q 29)) (C := RX8) (T := TX8) (N := 29) hx hb hts hinX8 hown hK hP 22 rfl rfl 22 (by decide) (hts (.fieldLink RX8 28 "CableTesterModel" "read" "[I") (mm 4 rfl)) (fun _ h9 => h9) rfl dX8_load_138 ?_
    refine lv_iload_n hx hb dX8_load_141 rfl (lv_at hl 2 rfl) ?_
    refine lv_iconst (v := (2 : Int32)) hx hb dX8_load_142 (by decide) ?_
    refine lv_iadd hx hb dX8_load_143 ?_
    obtain ⟨g20, h⟩ := gd h
    refine va_iald (D := (dC, dI)) hx hb hK hP 29 18 rfl rfl (inb_ok g20) dX8_load_144 ?_
    obtain ⟨M23, e22, h⟩ := bo h
    refine caVM_v (As := [.int t0, .int (M.2.1 29 (x3 + (1 : Int32)).toNatClampNeg), .int (M.2.1 29 (x3 + (2 : Int32)).toNatClampNeg)]) (rest := []) (ctX8_swap l dC dI cq q S M o _ _ _ _ _ e22) F (cwV 3 hts gX8_load_X8_swap rfl rfl rfl hdX8_swap ⟨Nat.le_of_ble_eq_true rfl, Nat.le_of_ble_eq_true rfl⟩) hK hP hD hDm hS hA (fun _ _ _ _ _ => trivial) (fun _ _ _ => trivial) (va_recv hK hP (ci := 9) (q0 := 22) rfl rfl) rfl hl.1 rfl (Nat.le_of_ble_eq_true rfl) dX8_load_145 ⟨Nat.zero_le _, Nat.zero_le _⟩ (fun H locs hP hD hS => ?_)
    refine lv_goto (tgt := 212) hx hb dX8_load_148 (by decide) ?_
    exact hj212 _ _ _ hK77 _ _ _ hP hD hS (lv_sub hl [0, 1] rfl) h
  have hj112 : ∀ (M : MS) (x2 : Int32) (x3 : Int32)  (K77 : MS → Int32 → Option (Int32 × MS)) (hK77 : ∀ (M9 : MS) (y2 : Int32) (H : Heap) (locs : List Loc) (ls : Array Slot), va_P (dC, dI) vwCl (wA cq q S M9 o) H → va_D A (wA cq q S M9 o) → va_S A s.heap H locs → lv_has ls 4 [(0, .ref (q 22)), (2, .int y2)] → K77 M9 y2 = some (rr, MM) → W p l e rmX8_load s m args below meth c H locs 0 0 Q (F0 m 77 ls [])) (H : Heap) (locs : List Loc) (ls : Array Slot), va_P (dC, dI) vwCl (wA cq q S M o) H → va_D A (wA cq q S M o) → va_S A s.heap H locs → lv_has ls 4 [(0, .ref (q 22)), (2, .int x2), (3, .int x3)] → mX8_load_112 n K77 M x2 x3 = some (rr, MM) → W p l e rmX8_load s m args below meth c H locs 0 0 Q (F0 m 112 ls []) := by
    intro M x2 x3 K77 hK77 H locs ls hP hD hS hl h
    rw [mX8_load_112] at h
    refine lv_aload_n hx hb dX8_load_112 rfl (lv_at hl 0 rfl) ?_
    refine lv_aload_n hx hb dX8_load_113 rfl (lv_at hl 0 rfl) ?_
    refine va_get (D := (dC, dI)) (ci := 9) (v := .ref (q 29)) (C := RX8) (T := TX8) (N := 29) hx hb hts hinX8 hown hK hP 22 rfl rfl 22 (by decide) (hts (.fieldLink RX8 28 "CableTesterModel" "read" "[I") (mm 4 rfl)) (fun _ h9 => h9) rfl dX8_load_114 ?_
    refine lv_iload_n hx hb dX8_load_117 rfl (lv_at hl 2 rfl) ?_
    obtain ⟨g17, h⟩ := gd h
    refine va_iald (D := (dC, dI)) hx hb hK hP 29 18 rfl rfl (inb_ok g17) dX8_load_118 ?_
    refine lv_bipush (v := (110 : Int32)) hx hb dX8_load_119 (by decide) ?_
    refine lv_icmp_ne (tgt := 128) hx hb dX8_load_121 (by decide) (fun c18 => ?_) (fun c18 => ?_)
    · replace h := ie c18 h
      refine lv_iconst (v := (1 : Int32)) hx hb dX8_load_128 (by decide) ?_
      exact hj129 _ _ _ _ _ hK77 _ _ _ hP hD hS (lv_sub hl [0, 1, 2] rfl) h
    · replace h := it c18 h
      refine lv_iconst (v := (0 : Int32)) hx hb dX8_load_124 (by decide) ?_
      refine lv_goto (tgt := 129) hx hb dX8_load_125 (by decide) ?_
      exact hj129 _ _ _ _ _ hK77 _ _ _ hP hD hS (lv_sub hl [0, 1, 2] rfl) h
  have hj168 : ∀ (M : MS) (x2 : Int32) (x3 : Int32) (t0 : Int32) (K77 : MS → Int32 → Option (Int32 × MS)) (hK77 : ∀ (M9 : MS) (y2 : Int32) (H : Heap) (locs : List Loc) (ls : Array Slot), va_P (dC, dI) vwCl (wA cq q S M9 o) H → va_D A (wA cq q S M9 o) → va_S A s.heap H locs → lv_has ls 4 [(0, .ref (q 22)), (2, .int y2)] → K77 M9 y2 = some (rr, MM) → W p l e rmX8_load s m args below meth c H locs 0 0 Q (F0 m 77 ls [])) (H : Heap) (locs : List Loc) (ls : Array Slot), va_P (dC, dI) vwCl (wA cq q S M o) H → va_D A (wA cq q S M o) → va_S A s.heap H locs → lv_has ls 4 [(0, .ref (q 22)), (2, .int x2), (3, .int x3)] → mX8_load_168 n K77 M x2 x3 t0 = some (rr, MM) → W p l e rmX8_load s m args below meth c H locs 0 0 Q (F0 m 168 ls [.int t0, .ref (q 22)]) := by
    intro M x2 x3 t0 K77 hK77 H locs ls hP hD hS hl h
    rw [mX8_load_168] at h
    refine lv_aload_n hx hb dX8_load_168 rfl (lv_at hl 0 rfl) ?_
    refine va_get (D := (dC, dI)) (ci := 9) (v := .ref (q 29)) (C := RX8) (T := TX8) (N := 29) hx hb hts hinX8 hown hK hP 22 rfl rfl 22 (by decide) (hts (.fieldLink RX8 28 "CableTesterModel" "read" "[I") (mm 4 rfl)) (fun _ h9 => h9) rfl dX8_load_169 ?_
    refine lv_iload_n hx hb dX8_load_172 rfl (lv_at hl 2 rfl) ?_
    refine lv_iconst (v := (1 : Int32)) hx hb dX8_load_173 (by decide) ?_
    refine lv_iadd hx hb dX8_load_174 ?_
    obtain ⟨g28, h⟩ := gd h
    refine va_iald (D := (dC, dI)) hx hb hK hP 29 18 rfl rfl (inb_ok g28) dX8_load_175 ?_
    refine lv_aload_n hx hb dX8_load_176 rfl (lv_at hl 0 rfl) ?_
    refine va_get (D := (dC, dI)) (ci := 9) (v := .ref (q 29)) (C := RX8) (T := TX8) (N := 29) hx hb hts hinX8 hown hK hP 22 rfl rfl 22 (by decide) (hts (.fieldLink RX8 28 "CableTesterModel" "read" "[I") (mm 4 rfl)) (fun _ h9 => h9) rfl dX8_load_177 ?_
    refine lv_iload_n hx hb dX8_load_180 rfl (lv_at hl 2 rfl) ?_
    refine lv_iconst (v := (2 : Int32)) hx hb dX8_load_181 (by decide) ?_
    refine lv_iadd hx hb dX8_load_182 ?_
    obtain ⟨g29, h⟩ := gd h
    refine va_iald (D := (dC, dI)) hx hb hK hP 29 18 rfl rfl (inb_ok g29) dX8_load_183 ?_
    refine lv_aload_n hx hb dX8_load_184 rfl (lv_at hl 0 rfl) ?_
    refine va_get (D := (dC, dI)) (ci := 9) (v := .ref (q 29)) (C := RX8) (T := TX8) (N := 29) hx hb hts hinX8 hown hK hP 22 rfl rfl 22 (by decide) (hts (.fieldLink RX8 28 "CableTesterModel" "read" "[I") (mm 4 rfl)) (fun _ h9 => h9) rfl dX8_load_185 ?_
    refine lv_iload_n hx hb dX8_load_188 rfl (lv_at hl 2 rfl) ?_
    refine lv_iconst (v := (3 : Int32)) hx hb dX8_load_189 (by decide) ?_
    refine lv_iadd hx hb dX8_load_190 ?_
    obtain ⟨g30, h⟩ := gd h
    refine va_iald (D := (dC, dI)) hx hb hK hP 29 18 rfl rfl (inb_ok g30) dX8_load_191 ?_
    refine lv_aload_n hx hb dX8_load_192 rfl (lv_at hl 0 rfl) ?_
    refine va_get (D := (dC, dI)) (ci := 9) (v := .ref (q 29)) (C := RX8) (T := TX8) (N := 29) hx hb hts hinX8 hown hK hP 22 rfl rfl 22 (by decide) (hts (.fieldLink RX8 28 "CableTesterModel" "read" "[I") (mm 4 rfl)) (fun _ h9 => h9) rfl dX8_load_193 ?_
    refine lv_iload_n hx hb dX8_load_196 rfl (lv_at hl 2 rfl) ?_
    refine lv_iconst (v := (4 : Int32)) hx hb dX8_load_197 (by decide) ?_
    refine lv_iadd hx hb dX8_load_198 ?_
    obtain ⟨g31, h⟩ := gd h
    refine va_iald (D := (dC, dI)) hx hb hK hP 29 18 rfl rfl (inb_ok g31) dX8_load_199 ?_
    refine lv_aload_n hx hb dX8_load_200 rfl (lv_at hl 0 rfl) ?_
    refine va_get (D := (dC, dI)) (ci := 9) (v := .ref (q 29)) (C := RX8) (T := TX8) (N := 29) hx hb hts hinX8 hown hK hP 22 rfl rfl 22 (by decide) (hts (.fieldLink RX8 28 "CableTesterModel" "read" "[I") (mm 4 rfl)) (fun _ h9 => h9) rfl dX8_load_201 ?_
    refine lv_iload_n hx hb dX8_load_204 rfl (lv_at hl 2 rfl) ?_
    refine lv_iconst (v := (5 : Int32)) hx hb dX8_load_205 (by decide) ?_
    refine lv_iadd hx hb dX8_load_206 ?_
    obtain ⟨g32, h⟩ := gd h
    refine va_iald (D := (dC, dI)) hx hb hK hP 29 18 rfl rfl (inb_ok g32) dX8_load_207 ?_
    obtain ⟨r33, M35, e34, h⟩ := bp h
    refine caVM_i (As := [.int t0, .int (M.2.1 29 (x3 + (1 : Int32)).toNatClampNeg), .int (M.2.1 29 (x3 + (2 : Int32)).toNatClampNeg), .int (M.2.1 29 (x3 + (3 : Int32)).toNatClampNeg), .int (M.2.1 29 (x3 + (4 : Int32)).toNatClampNeg), .int (M.2.1 29 (x3 + (5 : Int32)).toNatClampNeg)]) (rest := []) (ctX8_add l dC dI cq q S M o _ _ _ _ _ _ _ _ _ e34) F (cwV 6 hts gX8_load_X8_add rfl rfl rfl hdX8_add ⟨Nat.le_of_ble_eq_true rfl, Nat.le_of_ble_eq_true rfl⟩) hK hP hD hDm hS hA (fun _ _ _ _ _ => trivial) (fun _ _ _ => trivial) (va_recv hK hP (ci := 9) (q0 := 22) rfl rfl) rfl hl.1 rfl (Nat.le_of_ble_eq_true rfl) dX8_load_208 ⟨Nat.zero_le _, Nat.zero_le _⟩ (fun H locs hP hD hS => ?_)
    refine lv_pop hx hb dX8_load_211 rfl ?_
    exact hj212 _ _ _ hK77 _ _ _ hP hD hS (lv_sub hl [0, 1] rfl) h
  have hL77 : ∀   (k : Nat) (M : MS) (x2 : Int32) (H : Heap) (locs : List Loc) (ls : Array Slot), va_P (dC, dI) vwCl (wA cq q S M o) H → va_D A (wA cq q S M o) → va_S A s.heap H locs → lv_has ls 4 [(0, .ref (q 22)), (2, .int x2)] → mX8_load_77 n k M x2 = some (rr, MM) → W p l e rmX8_load s m args below meth c H locs 0 0 Q (F0 m 77 ls []) := by
    intro k
    induction k with
    | zero =>
      intro M x2 H locs ls hP hD hS hl h
      rw [mX8_load_77] at h
      cases h
    | succ k ih =>
      intro M x2 H locs ls hP hD hS hl h
      rw [mX8_load_77] at h
      refine lv_iload_n hx hb dX8_load_77 rfl (lv_at hl 1 rfl) ?_
      refine lv_aload_n hx hb dX8_load_78 rfl (lv_at hl 0 rfl) ?_
      refine va_get (D := (dC, dI)) (ci := 9) (v := .int (M.1 21)) (C := RX8) (T := TX8) (N := 29) hx hb hts hinX8 hown hK hP 22 rfl rfl 21 (by decide) (hts (.fieldLink RX8 155 "CableTesterModel" "items" "I") (mm 3 rfl)) (fun _ h9 => h9) rfl dX8_load_79 ?_
      refine lv_icmp_ge (tgt := 218) hx hb dX8_load_82 (by decide) (fun c14 => ?_) (fun c14 => ?_)
      · replace h := it c14 h
        refine lv_aload_n hx hb dX8_load_218 rfl (lv_at hl 0 rfl) ?_
        refine lv_iconst (v := (0 : Int32)) hx hb dX8_load_219 (by decide) ?_
        refine pt_22_10 F hinX8 (hts (.fieldLink RX8 127 "CableTesterModel" "letters" "I") (mm 1 rfl)) hK hP hD hS dX8_load_220 (fun H locs hP hD hS => ?_)
        refine lv_aload_n hx hb dX8_load_223 rfl (lv_at hl 0 rfl) ?_
        refine va_get (D := (dC, dI)) (ci := 9) (v := .int ((sG M 10 (0 : Int32)).1 21)) (C := RX8) (T := TX8) (N := 29) hx hb hts hinX8 hown hK hP 22 rfl rfl 21 (by decide) (hts (.fieldLink RX8 155 "CableTesterModel" "items" "I") (mm 3 rfl)) (fun _ h9 => h9) rfl dX8_load_224 ?_
        exact hend _ _ _ _ _ _ h hP hD hS dX8_load_227
      · replace h := ie c14 h
        refine lv_bipush (v := (6 : Int32)) hx hb dX8_load_85 (by decide) ?_
        refine lv_iload_n hx hb dX8_load_87 rfl (lv_at hl 1 rfl) ?_
        refine lv_imul hx hb dX8_load_88 ?_
        refine lv_istore_n (lv' := [(3, .int ((6 : Int32) * x2)), (0, .ref (q 22)), (2, .int x2)]) hx hb dX8_load_89 rfl hl (by decide) rfl (fun ls hl => ?_)
        refine lv_aload_n hx hb dX8_load_90 rfl (lv_at hl 1 rfl) ?_
        refine va_get (D := (dC, dI)) (ci := 9) (v := .ref (q 29)) (C := RX8) (T := TX8) (N := 29) hx hb hts hinX8 hown hK hP 22 rfl rfl 22 (by decide) (hts (.fieldLink RX8 28 "CableTesterModel" "read" "[I") (mm 4 rfl)) (fun _ h9 => h9) rfl dX8_load_91 ?_
        refine lv_iload_n hx hb dX8_load_94 rfl (lv_at hl 0 rfl) ?_
        obtain ⟨g15, h⟩ := gd h
        refine va_iald (D := (dC, dI)) hx hb hK hP 29 18 rfl rfl (inb_ok g15) dX8_load_95 ?_
        refine lv_bipush (v := (110 : Int32)) hx hb dX8_load_96 (by decide) ?_
        refine lv_icmp_eq (tgt := 112) hx hb dX8_load_98 (by decide) (fun c16 => ?_) (fun c16 => ?_)
        · replace h := it c16 h
          exact hj112 _ _ _ _ ih _ _ _ hP hD hS (lv_sub hl [1, 2, 0] rfl) h
        · replace h := ie c16 h
          refine lv_aload_n hx hb dX8_load_101 rfl (lv_at hl 1 rfl) ?_
          refine va_get (D := (dC, dI)) (ci := 9) (v := .ref (q 29)) (C := RX8) (T := TX8) (N := 29) hx hb hts hinX8 hown hK hP 22 rfl rfl 22 (by decide) (hts (.fieldLink RX8 28 "CableTesterModel" "read" "[I") (mm 4 rfl)) (fun _ h9 => h9) rfl dX8_load_102 ?_
          refine lv_iload_n hx hb dX8_load_105 rfl (lv_at hl 0 rfl) ?_
          obtain ⟨g24, h⟩ := gd h
          refine va_iald (D := (dC, dI)) hx hb hK hP 29 18 rfl rfl (inb_ok g24) dX8_load_106 ?_
          refine lv_bipush (v := (102 : Int32)) hx hb dX8_load_107 (by decide) ?_
          refine lv_icmp_ne (tgt := 151) hx hb dX8_load_109 (by decide) (fun c25 => ?_) (fun c25 => ?_)
          · replace h := ie c25 h
            refine lv_aload_n hx hb dX8_load_151 rfl (lv_at hl 1 rfl) ?_
            refine lv_aload_n hx hb dX8_load_152 rfl (lv_at hl 1 rfl) ?_
            refine va_get (D := (dC, dI)) (ci := 9) (v := .ref (q 29)) (C := RX8) (T := TX8) (N := 29) hx hb hts hinX8 hown hK hP 22 rfl rfl 22 (by decide) (hts (.fieldLink RX8 28 "CableTesterModel" "read" "[I") (mm 4 rfl)) (fun _ h9 => h9) rfl dX8_load_153 ?_
            refine lv_iload_n hx hb dX8_load_156 rfl (lv_at hl 0 rfl) ?_
            obtain ⟨g26, h⟩ := gd h
            refine va_iald (D := (dC, dI)) hx hb hK hP 29 18 rfl rfl (inb_ok g26) dX8_load_157 ?_
            refine lv_bipush (v := (115 : Int32)) hx hb dX8_load_158 (by decide) ?_
            refine lv_icmp_ne (tgt := 167) hx hb dX8_load_160 (by decide) (fun c27 => ?_) (fun c27 => ?_)
            · replace h := ie c27 h
              refine lv_iconst (v := (0 : Int32)) hx hb dX8_load_167 (by decide) ?_
              exact hj168 _ _ _ _ _ ih _ _ _ hP hD hS (lv_sub hl [1, 2, 0] rfl) h
            · replace h := it c27 h
              refine lv_iconst (v := (1 : Int32)) hx hb dX8_load_163 (by decide) ?_
              refine lv_goto (tgt := 168) hx hb dX8_load_164 (by decide) ?_
              exact hj168 _ _ _ _ _ ih _ _ _ hP hD hS (lv_sub hl [1, 2, 0] rfl) h
          · replace h := it c25 h
            exact hj112 _ _ _ _ ih _ _ _ hP hD hS (lv_sub hl [1, 2, 0] rfl) h
  have hj63 : ∀ (M : MS)  (t0 : Int32)  (H : Heap) (locs : List Loc) (ls : Array Slot), va_P (dC, dI) vwCl (wA cq q S M o) H → va_D A (wA cq q S M o) → va_S A s.heap H locs → lv_has ls 4 [(0, .ref (q 22))] → mX8_load_63 n M t0 = some (rr, MM) → W p l e rmX8_load s m args below meth c H locs 0 0 Q (F0 m 63 ls [.int t0, .ref (q 22)]) := by
    intro M t0 H locs ls hP hD hS hl h
    rw [mX8_load_63] at h
    refine pt_22_0 F hinX8 (hts (.fieldLink RX8 44 "CableTesterModel" "thrown" "I") (mm 2 rfl)) hK hP hD hS dX8_load_63 (fun H locs hP hD hS => ?_)
    refine lv_aload_n hx hb dX8_load_66 rfl (lv_at hl 0 rfl) ?_
    refine va_get (D := (dC, dI)) (ci := 9) (v := .int ((sG M 0 t0).1 0)) (C := RX8) (T := TX8) (N := 29) hx hb hts hinX8 hown hK hP 22 rfl rfl 0 (by decide) (hts (.fieldLink RX8 44 "CableTesterModel" "thrown" "I") (mm 2 rfl)) (fun _ h9 => h9) rfl dX8_load_67 ?_
    refine lv_if_le (tgt := 75) hx hb dX8_load_70 (by decide) (fun c13 => ?_) (fun c13 => ?_)
    · replace h := it c13 h
      refine lv_iconst (v := (0 : Int32)) hx hb dX8_load_75 (by decide) ?_
      refine lv_istore_n (lv' := [(2, .int (0 : Int32)), (0, .ref (q 22))]) hx hb dX8_load_76 rfl hl (by decide) rfl (fun ls hl => ?_)
      exact hL77 _ _ _ _ _ _ hP hD hS (lv_sub hl [1, 0] rfl) h
    · replace h := ie c13 h
      refine lv_iconst (v := (0 : Int32)) hx hb dX8_load_73 (by decide) ?_
      exact hend _ _ _ _ _ _ h hP hD hS dX8_load_74
  have hj34 : ∀ (M : MS)  (t0 : Int32)  (H : Heap) (locs : List Loc) (ls : Array Slot), va_P (dC, dI) vwCl (wA cq q S M o) H → va_D A (wA cq q S M o) → va_S A s.heap H locs → lv_has ls 4 [(0, .ref (q 22))] → mX8_load_34 n M t0 = some (rr, MM) → W p l e rmX8_load s m args below meth c H locs 0 0 Q (F0 m 34 ls [.int t0, .ref (q 22)]) := by
    intro M t0 H locs ls hP hD hS hl h
    rw [mX8_load_34] at h
    refine pt_22_0 F hinX8 (hts (.fieldLink RX8 44 "CableTesterModel" "thrown" "I") (mm 2 rfl)) hK hP hD hS dX8_load_34 (fun H locs hP hD hS => ?_)
    refine lv_aload_n hx hb dX8_load_37 rfl (lv_at hl 0 rfl) ?_
    refine va_get (D := (dC, dI)) (ci := 9) (v := .int ((sG M 0 t0).1 0)) (C := RX8) (T := TX8) (N := 29) hx hb hts hinX8 hown hK hP 22 rfl rfl 0 (by decide) (hts (.fieldLink RX8 44 "CableTesterModel" "thrown" "I") (mm 2 rfl)) (fun _ h9 => h9) rfl dX8_load_38 ?_
    refine lv_if_le (tgt := 46) hx hb dX8_load_41 (by decide) (fun c6 => ?_) (fun c6 => ?_)
    · replace h := it c6 h
      refine lv_aload_n hx hb dX8_load_46 rfl (lv_at hl 0 rfl) ?_
      obtain ⟨M9, e8, h⟩ := bo h
      refine caVM_v (As := []) (rest := []) (ctX8_endItem l dC dI cq q S (sG M 0 t0) o _ _ e8) F (cwV 0 hts gX8_load_X8_endItem rfl rfl rfl hdX8_endItem ⟨Nat.le_of_ble_eq_true rfl, Nat.le_of_ble_eq_true rfl⟩) hK hP hD hDm hS hA (fun _ _ _ _ _ => trivial) (fun _ _ _ => trivial) (va_recv hK hP (ci := 9) (q0 := 22) rfl rfl) rfl hl.1 rfl (Nat.le_of_ble_eq_true rfl) dX8_load_47 ⟨Nat.zero_le _, Nat.zero_le _⟩ (fun H locs hP hD hS => ?_)
      refine lv_aload_n hx hb dX8_load_50 rfl (lv_at hl 0 rfl) ?_
      refine lv_aload_n hx hb dX8_load_51 rfl (lv_at hl 0 rfl) ?_
      obtain ⟨r10, e11, h⟩ := bo h
      refine caVR_i (As := []) (rest := [.ref (q 22)]) (ctX8_canLoad l dC dI cq q S M9 o _ _ _ e11) F (cwV 0 hts gX8_load_X8_canLoad rfl rfl rfl hdX8_canLoad ⟨Nat.le_of_ble_eq_true rfl, Nat.le_of_ble_eq_true rfl⟩) hK hP hD hDm hS hA (fun _ _ _ _ _ => trivial) (fun _ _ _ => trivial) (va_recv hK hP (ci := 9) (q0 := 22) rfl rfl) rfl hl.1 rfl (Nat.le_of_ble_eq_true rfl) dX8_load_52 ⟨Nat.zero_le _, Nat.zero_le _⟩ (fun H locs hP hD hS => ?_)
      refine lv_if_eq (tgt := 62) hx hb dX8_load_55 (by decide) (fun c12 => ?_) (fun c12 => ?_)
      · replace h := it c12 h
        refine lv_iconst (v := (2 : Int32)) hx hb dX8_load_62 (by decide) ?_
        exact hj63 _ _ _ _ _ hP hD hS (lv_sub hl [0] rfl) h
      · replace h := ie c12 h
        refine lv_iconst (v := (0 : Int32)) hx hb dX8_load_58 (by decide) ?_
        refine lv_goto (tgt := 63) hx hb dX8_load_59 (by decide) ?_
        exact hj63 _ _ _ _ _ hP hD hS (lv_sub hl [0] rfl) h
    · replace h := ie c6 h
      refine lv_iconst (v := (0 : Int32)) hx hb dX8_load_44 (by decide) ?_
      exact hend _ _ _ _ _ _ h hP hD hS dX8_load_45
  have hj23 : ∀ (M : MS)  (t0 : Int32)  (H : Heap) (locs : List Loc) (ls : Array Slot), va_P (dC, dI) vwCl (wA cq q S M o) H → va_D A (wA cq q S M o) → va_S A s.heap H locs → lv_has ls 4 [(0, .ref (q 22))] → mX8_load_23 n M t0 = some (rr, MM) → W p l e rmX8_load s m args below meth c H locs 0 0 Q (F0 m 23 ls [.int t0]) := by
    intro M t0 H locs ls hP hD hS hl h
    rw [mX8_load_23] at h
    refine lv_istore_n (lv' := [(1, .int t0), (0, .ref (q 22))]) hx hb dX8_load_23 rfl hl (by decide) rfl (fun ls hl => ?_)
    refine lv_aload_n hx hb dX8_load_24 rfl (lv_at hl 1 rfl) ?_
    refine lv_iload_n hx hb dX8_load_25 rfl (lv_at hl 0 rfl) ?_
    refine lv_if_eq (tgt := 33) hx hb dX8_load_26 (by decide) (fun c5 => ?_) (fun c5 => ?_)
    · replace h := it c5 h
      refine lv_iconst (v := (1 : Int32)) hx hb dX8_load_33 (by decide) ?_
      exact hj34 _ _ _ _ _ hP hD hS (lv_sub hl [1] rfl) h
    · replace h := ie c5 h
      refine lv_iconst (v := (0 : Int32)) hx hb dX8_load_29 (by decide) ?_
      refine lv_goto (tgt := 34) hx hb dX8_load_30 (by decide) ?_
      exact hj34 _ _ _ _ _ hP hD hS (lv_sub hl [1] rfl) h
  have hj22 : ∀ (M : MS)    (H : Heap) (locs : List Loc) (ls : Array Slot), va_P (dC, dI) vwCl (wA cq q S M o) H → va_D A (wA cq q S M o) → va_S A s.heap H locs → lv_has ls 4 [(0, .ref (q 22))] → mX8_load_22 n M = some (rr, MM) → W p l e rmX8_load s m args below meth c H locs 0 0 Q (F0 m 22 ls []) := by
    intro M H locs ls hP hD hS hl h
    rw [mX8_load_22] at h
    refine lv_iconst (v := (0 : Int32)) hx hb dX8_load_22 (by decide) ?_
    exact hj23 _ _ _ _ _ hP hD hS (lv_sub hl [0] rfl) h
  rw [mX8_load] at h
  refine lv_aload_n hx hb dX8_load_0 rfl (lv_at hl 0 rfl) ?_
  obtain ⟨r1, M3, e2, h⟩ := bp h
  refine caVM_i (As := []) (rest := []) (ctX8_readText l dC dI cq q S M o _ _ _ _ e2) F (cwV 0 hts gX8_load_X8_readText rfl rfl rfl hdX8_readText ⟨Nat.le_of_ble_eq_true rfl, Nat.le_of_ble_eq_true rfl⟩) hK hP hD hDm hS hA (fun _ _ _ _ _ => trivial) (fun _ _ _ => trivial) (va_recv hK hP (ci := 9) (q0 := 22) rfl rfl) rfl hl.1 rfl (Nat.le_of_ble_eq_true rfl) dX8_load_1 ⟨Nat.zero_le _, Nat.zero_le _⟩ (fun H locs hP hD hS => ?_)
  refine lv_aload_n hx hb dX8_load_4 rfl (lv_at hl 0 rfl) ?_
  refine va_get (D := (dC, dI)) (ci := 9) (v := .int (M3.1 10)) (C := RX8) (T := TX8) (N := 29) hx hb hts hinX8 hown hK hP 22 rfl rfl 10 (by decide) (hts (.fieldLink RX8 127 "CableTesterModel" "letters" "I") (mm 1 rfl)) (fun _ h9 => h9) rfl dX8_load_5 ?_
  refine lv_icmp_ne (tgt := 22) hx hb dX8_load_8 (by decide) (fun c4 => ?_) (fun c4 => ?_)
  · replace h := ie c4 h
    exact hj22 _ _ _ _ hP hD hS (lv_sub hl [0] rfl) h
  · replace h := it c4 h
    refine lv_aload_n hx hb dX8_load_11 rfl (lv_at hl 0 rfl) ?_
    obtain ⟨r36, e37, h⟩ := bo h
    refine caVR_i (As := []) (rest := []) (ctX8_canEnd l dC dI cq q S M3 o _ _ e37) F (cwV 0 hts gX8_load_X8_canEnd rfl rfl rfl hdX8_canEnd ⟨Nat.le_of_ble_eq_true rfl, Nat.le_of_ble_eq_true rfl⟩) hK hP hD hDm hS hA (fun _ _ _ _ _ => trivial) (fun _ _ _ => trivial) (va_recv hK hP (ci := 9) (q0 := 22) rfl rfl) rfl hl.1 rfl (Nat.le_of_ble_eq_true rfl) dX8_load_12 ⟨Nat.zero_le _, Nat.zero_le _⟩ (fun H locs hP hD hS => ?_)
    refine lv_if_eq (tgt := 22) hx hb dX8_load_15 (by decide) (fun c38 => ?_) (fun c38 => ?_)
    · replace h := it c38 h
      exact hj22 _ _ _ _ hP hD hS (lv_sub hl [0] rfl) h
    · replace h := ie c38 h
      refine lv_iconst (v := (1 : Int32)) hx hb dX8_load_18 (by decide) ?_
      refine lv_goto (tgt := 23) hx hb dX8_load_19 (by decide) ?_
      exact hj23 _ _ _ _ _ hP hD hS (lv_sub hl [0] rfl) h
def mX8_joinedNow (n : Nat) (M : MS) (x1 : Int32) (x2 : Int32) (x3 : Int32) : Option (Int32 × MS) :=
  (bn (mX8_layNets n M (M.1 4)) fun M3 => (bn (mX8_same n M3 (((8 : Int32) * x1) + x2) x3) fun r4 => (if x1 = x3 then (some ((r4 &&& (((1 : Int32) <<< (x2 &&& 31)) ^^^ (-1 : Int32))), M3)) else (some (r4, M3)))))
abbrev rmX8_joinedNow : Room := { frames := 5, cells := 0, slots := 0, locals := 115 }
theorem hdX8_joinedNow : yX8_joinedNow.cls = RX8 ∧ yX8_joinedNow.cls ≠ "java/lang/invoke/MethodHandle" ∧ yX8_joinedNow.cls ≠ "java/lang/invoke/VarHandle" ∧ (parseMethodDescriptor yX8_joinedNow.desc).map (fun d => d.parameters.length) = some 3 := by decide +kernel
set_option maxRecDepth 100000 in
set_option maxHeartbeats 8000000 in
theorem ctX8_joinedNow (l : Launch) (dC : Nat → ClassId) (dI : Nat → Nat → Nat) (cq : Nat → ClassId) (q : Nat → Nat) (S : CS) (M : MS) (o : Nat → Int64) (sz : Nat) (n : Nat) (x1 : Int32) (x2 : Int32) (x3 : Int32) (rr : Int32) (MM : MS) (h : mX8_joinedNow n M x1 x2 x3 = some (rr, MM)) : CtM_i l yX8_joinedNow wsX8_joinedNow rmX8_joinedNow (fun _ => True) (fun _ => True) dC dI cq q S M o sz [.ref (q 22), .int x1, .int x2, .int x3] rr MM := by
  refine enM_i (cc := cX8_joinedNow) (maxL := 5) (by decide) rfl (Nat.le_of_ble_eq_true rfl) (fun p e s m args below meth c A Q ls F hA hP hK hD hDm hX hS hl hend => ?_)
  obtain ⟨hx, hb, hml, hown, hts⟩ := id F
  have hown : s.vm.findClass RX8 = some m.cls := hown
  have F : CallFix p m c cX8_joinedNow 5 s args wsX8_joinedNow RX8 := F
  have hl : lv_has ls 5 [(0, .ref (q 22)), (1, .int x1), (2, .int x2), (3, .int x3)] := hl
  have hinX8 : ∀ w ∈ u_ws RX8 TX8 29, w ∈ wsX8_joinedNow := fun w h => List.mem_cons_of_mem _ (List.mem_append_right _ h)
  rw [mX8_joinedNow] at h
  refine lv_aload_n hx hb dX8_joinedNow_0 rfl (lv_at hl 0 rfl) ?_
  refine lv_aload_n hx hb dX8_joinedNow_1 rfl (lv_at hl 0 rfl) ?_
  refine va_get (D := (dC, dI)) (ci := 9) (v := .int (M.1 4)) (C := RX8) (T := TX8) (N := 29) hx hb hts hinX8 hown hK hP 22 rfl rfl 4 (by decide) (hts (.fieldLink RX8 61 "CableTesterModel" "tick" "I") (mm 1 rfl)) (fun _ h9 => h9) rfl dX8_joinedNow_2 ?_
  obtain ⟨M3, e2, h⟩ := bo h
  refine caVM_v (As := [.int (M.1 4)]) (rest := []) (ctX8_layNets l dC dI cq q S M o _ _ _ _ e2) F (cwV 1 hts gX8_joinedNow_X8_layNets rfl rfl rfl hdX8_layNets ⟨Nat.le_of_ble_eq_true rfl, Nat.le_of_ble_eq_true rfl⟩) hK hP hD hDm hS hA (fun _ _ _ _ _ => trivial) (fun _ _ _ => trivial) (va_recv hK hP (ci := 9) (q0 := 22) rfl rfl) rfl hl.1 rfl (Nat.le_of_ble_eq_true rfl) dX8_joinedNow_5 ⟨Nat.zero_le _, Nat.zero_le _⟩ (fun H locs hP hD hS => ?_)
  refine lv_aload_n hx hb dX8_joinedNow_8 rfl (lv_at hl 0 rfl) ?_
  refine lv_bipush (v := (8 : Int32)) hx hb dX8_joinedNow_9 (by decide) ?_
  refine lv_iload_n hx hb dX8_joinedNow_11 rfl (lv_at hl 1 rfl) ?_
  refine lv_imul hx hb dX8_joinedNow_12 ?_
  refine lv_iload_n hx hb dX8_joinedNow_13 rfl (lv_at hl 2 rfl) ?_
  refine lv_iadd hx hb dX8_joinedNow_14 ?_
  refine lv_iload_n hx hb dX8_joinedNow_15 rfl (lv_at hl 3 rfl) ?_
  obtain ⟨r4, e5, h⟩ := bo h
  refine caVR_i (As := [.int (((8 : Int32) * x1) + x2), .int x3]) (rest := []) (ctX8_same l dC dI cq q S M3 o _ _ _ _ _ e5) F (cwV 2 hts gX8_joinedNow_X8_same rfl rfl rfl hdX8_same ⟨Nat.le_of_ble_eq_true rfl, Nat.le_of_ble_eq_true rfl⟩) hK hP hD hDm hS hA (fun _ _ _ _ _ => trivial) (fun _ _ _ => trivial) (va_recv hK hP (ci := 9) (q0 := 22) rfl rfl) rfl hl.1 rfl (Nat.le_of_ble_eq_true rfl) dX8_joinedNow_16 ⟨Nat.zero_le _, Nat.zero_le _⟩ (fun H locs hP hD hS => ?_)
  refine lv_istore (lv' := [(4, .int r4), (0, .ref (q 22)), (1, .int x1), (2, .int x2), (3, .int x3)]) hx hb dX8_joinedNow_19 hl (by decide) rfl (fun ls hl => ?_)
  refine lv_iload_n hx hb dX8_joinedNow_21 rfl (lv_at hl 2 rfl) ?_
  refine lv_iload_n hx hb dX8_joinedNow_22 rfl (lv_at hl 4 rfl) ?_
  refine lv_icmp_ne (tgt := 37) hx hb dX8_joinedNow_23 (by decide) (fun c6 => ?_) (fun c6 => ?_)
  · replace h := ie c6 h
    refine lv_iload hx hb dX8_joinedNow_37 (lv_at hl 0 rfl) ?_
    exact hend _ _ _ _ _ _ h hP hD hS dX8_joinedNow_39
  · replace h := it c6 h
    refine lv_iload hx hb dX8_joinedNow_26 (lv_at hl 0 rfl) ?_
    refine lv_iconst (v := (1 : Int32)) hx hb dX8_joinedNow_28 (by decide) ?_
    refine lv_iload_n hx hb dX8_joinedNow_29 rfl (lv_at hl 3 rfl) ?_
    refine lv_ishl hx hb dX8_joinedNow_30 ?_
    refine lv_iconst (v := (-1 : Int32)) hx hb dX8_joinedNow_31 (by decide) ?_
    refine lv_ixor hx hb dX8_joinedNow_32 ?_
    refine lv_iand hx hb dX8_joinedNow_33 ?_
    refine lv_goto (tgt := 39) hx hb dX8_joinedNow_34 (by decide) ?_
    exact hend _ _ _ _ _ _ h hP hD hS dX8_joinedNow_39
def mX8_joined_31 (n : Nat)  (M : MS) (x1 : Int32) (x2 : Int32) (x3 : Int32) (t0 : Int32) : Option (Int32 × MS) :=
  (if ((sG M 0 t0).1 0) ≤ (0 : Int32) then (bm (mX8_joinedNow n (sG M 0 t0) x1 x2 x3) fun r5 M7 => (some (r5, M7))) else (some ((0 : Int32), (sG M 0 t0))))
def mX8_joined_15 (n : Nat)  (M : MS) (x1 : Int32) (x2 : Int32) (x3 : Int32)  : Option (Int32 × MS) :=
  (mX8_joined_31 n M x1 x2 x3 (1 : Int32))
def mX8_joined (n : Nat) (M : MS) (x1 : Int32) (x2 : Int32) (x3 : Int32) : Option (Int32 × MS) :=
  (bn (mX8_isEnd x1) fun r1 => (if r1 = (0 : Int32) then (mX8_joined_15 n M x1 x2 x3) else (bn (mX8_isEnd x3) fun r8 => (if r8 = (0 : Int32) then (mX8_joined_15 n M x1 x2 x3) else (bn (mX8_isWire x2) fun r11 => (if r11 = (0 : Int32) then (mX8_joined_31 n M x1 x2 x3 (2 : Int32)) else (mX8_joined_31 n M x1 x2 x3 (0 : Int32))))))))
abbrev rmX8_joined : Room := { frames := 6, cells := 0, slots := 0, locals := 139 }
theorem hdX8_joined : yX8_joined.cls = RX8 ∧ yX8_joined.cls ≠ "java/lang/invoke/MethodHandle" ∧ yX8_joined.cls ≠ "java/lang/invoke/VarHandle" ∧ (parseMethodDescriptor yX8_joined.desc).map (fun d => d.parameters.length) = some 3 := by decide +kernel
set_option maxRecDepth 100000 in
set_option maxHeartbeats 8000000 in
theorem ctX8_joined (l : Launch) (dC : Nat → ClassId) (dI : Nat → Nat → Nat) (cq : Nat → ClassId) (q : Nat → Nat) (S : CS) (M : MS) (o : Nat → Int64) (sz : Nat) (n : Nat) (x1 : Int32) (x2 : Int32) (x3 : Int32) (rr : Int32) (MM : MS) (h : mX8_joined n M x1 x2 x3 = some (rr, MM)) : CtM_i l yX8_joined wsX8_joined rmX8_joined (fun _ => True) (fun _ => True) dC dI cq q S M o sz [.ref (q 22), .int x1, .int x2, .int x3] rr MM := by
  refine enM_i (cc := cX8_joined) (maxL := 4) (by decide) rfl (Nat.le_of_ble_eq_true rfl) (fun p e s m args below meth c A Q ls F hA hP hK hD hDm hX hS hl hend => ?_)
  obtain ⟨hx, hb, hml, hown, hts⟩ := id F
  have hown : s.vm.findClass RX8 = some m.cls := hown
  have F : CallFix p m c cX8_joined 4 s args wsX8_joined RX8 := F
  have hl : lv_has ls 4 [(0, .ref (q 22)), (1, .int x1), (2, .int x2), (3, .int x3)] := hl
  have hinX8 : ∀ w ∈ u_ws RX8 TX8 29, w ∈ wsX8_joined := fun w h => List.mem_cons_of_mem _ (List.mem_append_right _ h)
  have hj31 : ∀ (M : MS) (x1 : Int32) (x2 : Int32) (x3 : Int32) (t0 : Int32)  (H : Heap) (locs : List Loc) (ls : Array Slot), va_P (dC, dI) vwCl (wA cq q S M o) H → va_D A (wA cq q S M o) → va_S A s.heap H locs → lv_has ls 4 [(0, .ref (q 22)), (1, .int x1), (2, .int x2), (3, .int x3)] → mX8_joined_31 n M x1 x2 x3 t0 = some (rr, MM) → W p l e rmX8_joined s m args below meth c H locs 0 0 Q (F0 m 31 ls [.int t0, .ref (q 22)]) := by
    intro M x1 x2 x3 t0 H locs ls hP hD hS hl h
    rw [mX8_joined_31] at h
    refine pt_22_0 F hinX8 (hts (.fieldLink RX8 44 "CableTesterModel" "thrown" "I") (mm 1 rfl)) hK hP hD hS dX8_joined_31 (fun H locs hP hD hS => ?_)
    refine lv_aload_n hx hb dX8_joined_34 rfl (lv_at hl 0 rfl) ?_
    refine va_get (D := (dC, dI)) (ci := 9) (v := .int ((sG M 0 t0).1 0)) (C := RX8) (T := TX8) (N := 29) hx hb hts hinX8 hown hK hP 22 rfl rfl 0 (by decide) (hts (.fieldLink RX8 44 "CableTesterModel" "thrown" "I") (mm 1 rfl)) (fun _ h9 => h9) rfl dX8_joined_35 ?_
    refine lv_if_le (tgt := 45) hx hb dX8_joined_38 (by decide) (fun c4 => ?_) (fun c4 => ?_)
    · replace h := it c4 h
      refine lv_aload_n hx hb dX8_joined_45 rfl (lv_at hl 0 rfl) ?_
      refine lv_iload_n hx hb dX8_joined_46 rfl (lv_at hl 1 rfl) ?_
      refine lv_iload_n hx hb dX8_joined_47 rfl (lv_at hl 2 rfl) ?_
      refine lv_iload_n hx hb dX8_joined_48 rfl (lv_at hl 3 rfl) ?_
      obtain ⟨r5, M7, e6, h⟩ := bp h
      refine caVM_i (As := [.int x1, .int x2, .int x3]) (rest := []) (ctX8_joinedNow l dC dI cq q S (sG M 0 t0) o _ _ _ _ _ _ _ e6) F (cwV 3 hts gX8_joined_X8_joinedNow rfl rfl rfl hdX8_joinedNow ⟨Nat.le_of_ble_eq_true rfl, Nat.le_of_ble_eq_true rfl⟩) hK hP hD hDm hS hA (fun _ _ _ _ _ => trivial) (fun _ _ _ => trivial) (va_recv hK hP (ci := 9) (q0 := 22) rfl rfl) rfl hl.1 rfl (Nat.le_of_ble_eq_true rfl) dX8_joined_49 ⟨Nat.zero_le _, Nat.zero_le _⟩ (fun H locs hP hD hS => ?_)
      exact hend _ _ _ _ _ _ h hP hD hS dX8_joined_52
    · replace h := ie c4 h
      refine lv_iconst (v := (0 : Int32)) hx hb dX8_joined_41 (by decide) ?_
      refine lv_goto (tgt := 52) hx hb dX8_joined_42 (by decide) ?_
      exact hend _ _ _ _ _ _ h hP hD hS dX8_joined_52
  have hj15 : ∀ (M : MS) (x1 : Int32) (x2 : Int32) (x3 : Int32)   (H : Heap) (locs : List Loc) (ls : Array Slot), va_P (dC, dI) vwCl (wA cq q S M o) H → va_D A (wA cq q S M o) → va_S A s.heap H locs → lv_has ls 4 [(0, .ref (q 22)), (1, .int x1), (2, .int x2), (3, .int x3)] → mX8_joined_15 n M x1 x2 x3 = some (rr, MM) → W p l e rmX8_joined s m args below meth c H locs 0 0 Q (F0 m 15 ls [.ref (q 22)]) := by
    intro M x1 x2 x3 H locs ls hP hD hS hl h
    rw [mX8_joined_15] at h
    refine lv_iconst (v := (1 : Int32)) hx hb dX8_joined_15 (by decide) ?_
    refine lv_goto (tgt := 31) hx hb dX8_joined_16 (by decide) ?_
    exact hj31 _ _ _ _ _ _ _ _ hP hD hS (lv_sub hl [0, 1, 2, 3] rfl) h
  rw [mX8_joined] at h
  refine lv_aload_n hx hb dX8_joined_0 rfl (lv_at hl 0 rfl) ?_
  refine lv_iload_n hx hb dX8_joined_1 rfl (lv_at hl 1 rfl) ?_
  obtain ⟨r1, e2, h⟩ := bo h
  refine caSR_i (As := [.int x1]) (rest := [.ref (q 22)]) (ctX8_isEnd l dC dI cq q S M o _ _ _ e2) F (va_cwS 1 hts gX8_joined_X8_isEnd rfl rfl rfl hdX8_isEnd ⟨Nat.le_of_ble_eq_true rfl, Nat.le_of_ble_eq_true rfl⟩) hK hP hD hDm hS hA (fun _ _ _ _ _ => trivial) (fun _ _ _ => trivial) rfl hl.1 rfl (Nat.le_of_ble_eq_true rfl) dX8_joined_2 ⟨Nat.zero_le _, Nat.zero_le _⟩ (fun H locs hP hD hS => ?_)
  refine lv_if_eq (tgt := 15) hx hb dX8_joined_5 (by decide) (fun c3 => ?_) (fun c3 => ?_)
  · replace h := it c3 h
    exact hj15 _ _ _ _ _ _ _ hP hD hS (lv_sub hl [0, 1, 2, 3] rfl) h
  · replace h := ie c3 h
    refine lv_iload_n hx hb dX8_joined_8 rfl (lv_at hl 3 rfl) ?_
    obtain ⟨r8, e9, h⟩ := bo h
    refine caSR_i (As := [.int x3]) (rest := [.ref (q 22)]) (ctX8_isEnd l dC dI cq q S M o _ _ _ e9) F (va_cwS 1 hts gX8_joined_X8_isEnd rfl rfl rfl hdX8_isEnd ⟨Nat.le_of_ble_eq_true rfl, Nat.le_of_ble_eq_true rfl⟩) hK hP hD hDm hS hA (fun _ _ _ _ _ => trivial) (fun _ _ _ => trivial) rfl hl.1 rfl (Nat.le_of_ble_eq_true rfl) dX8_joined_9 ⟨Nat.zero_le _, Nat.zero_le _⟩ (fun H locs hP hD hS => ?_)
    refine lv_if_ne (tgt := 19) hx hb dX8_joined_12 (by decide) (fun c10 => ?_) (fun c10 => ?_)
    · replace h := ie c10 h
      refine lv_iload_n hx hb dX8_joined_19 rfl (lv_at hl 2 rfl) ?_
      obtain ⟨r11, e12, h⟩ := bo h
      refine caSR_i (As := [.int x2]) (rest := [.ref (q 22)]) (ctX8_isWire l dC dI cq q S M o _ _ _ e12) F (va_cwS 1 hts gX8_joined_X8_isWire rfl rfl rfl hdX8_isWire ⟨Nat.le_of_ble_eq_true rfl, Nat.le_of_ble_eq_true rfl⟩) hK hP hD hDm hS hA (fun _ _ _ _ _ => trivial) (fun _ _ _ => trivial) rfl hl.1 rfl (Nat.le_of_ble_eq_true rfl) dX8_joined_20 ⟨Nat.zero_le _, Nat.zero_le _⟩ (fun H locs hP hD hS => ?_)
      refine lv_if_eq (tgt := 30) hx hb dX8_joined_23 (by decide) (fun c13 => ?_) (fun c13 => ?_)
      · replace h := it c13 h
        refine lv_iconst (v := (2 : Int32)) hx hb dX8_joined_30 (by decide) ?_
        exact hj31 _ _ _ _ _ _ _ _ hP hD hS (lv_sub hl [0, 1, 2, 3] rfl) h
      · replace h := ie c13 h
        refine lv_iconst (v := (0 : Int32)) hx hb dX8_joined_26 (by decide) ?_
        refine lv_goto (tgt := 31) hx hb dX8_joined_27 (by decide) ?_
        exact hj31 _ _ _ _ _ _ _ _ hP hD hS (lv_sub hl [0, 1, 2, 3] rfl) h
    · replace h := it c10 h
      exact hj15 _ _ _ _ _ _ _ hP hD hS (lv_sub hl [0, 1, 2, 3] rfl) h
def mX8_status_13 (n : Nat)  (M : MS) (x1 : Int32) (t0 : Int32) : Option (Int32 × MS) :=
  (if ((sG M 0 t0).1 0) ≤ (0 : Int32) then (bn (mX8_layNets n (sG M 0 t0) ((sG M 0 t0).1 4)) fun M7 => (bn (mX8_statusNow n M7 x1) fun r8 => (some (r8, M7)))) else (some ((0 : Int32), (sG M 0 t0))))
def mX8_status (n : Nat) (M : MS) (x1 : Int32) : Option (Int32 × MS) :=
  (bn (mX8_isWire x1) fun r1 => (if r1 = (0 : Int32) then (mX8_status_13 n M x1 (1 : Int32)) else (mX8_status_13 n M x1 (0 : Int32))))
abbrev rmX8_status : Room := { frames := 5, cells := 0, slots := 0, locals := 115 }
theorem hdX8_status : yX8_status.cls = RX8 ∧ yX8_status.cls ≠ "java/lang/invoke/MethodHandle" ∧ yX8_status.cls ≠ "java/lang/invoke/VarHandle" ∧ (parseMethodDescriptor yX8_status.desc).map (fun d => d.parameters.length) = some 1 := by decide +kernel
set_option maxRecDepth 100000 in
set_option maxHeartbeats 8000000 in
theorem ctX8_status (l : Launch) (dC : Nat → ClassId) (dI : Nat → Nat → Nat) (cq : Nat → ClassId) (q : Nat → Nat) (S : CS) (M : MS) (o : Nat → Int64) (sz : Nat) (n : Nat) (x1 : Int32) (rr : Int32) (MM : MS) (h : mX8_status n M x1 = some (rr, MM)) : CtM_i l yX8_status wsX8_status rmX8_status (fun _ => True) (fun _ => True) dC dI cq q S M o sz [.ref (q 22), .int x1] rr MM := by
  refine enM_i (cc := cX8_status) (maxL := 2) (by decide) rfl (Nat.le_of_ble_eq_true rfl) (fun p e s m args below meth c A Q ls F hA hP hK hD hDm hX hS hl hend => ?_)
  obtain ⟨hx, hb, hml, hown, hts⟩ := id F
  have hown : s.vm.findClass RX8 = some m.cls := hown
  have F : CallFix p m c cX8_status 2 s args wsX8_status RX8 := F
  have hl : lv_has ls 2 [(0, .ref (q 22)), (1, .int x1)] := hl
  have hinX8 : ∀ w ∈ u_ws RX8 TX8 29, w ∈ wsX8_status := fun w h => List.mem_cons_of_mem _ (List.mem_append_right _ h)
  have hj13 : ∀ (M : MS) (x1 : Int32) (t0 : Int32)  (H : Heap) (locs : List Loc) (ls : Array Slot), va_P (dC, dI) vwCl (wA cq q S M o) H → va_D A (wA cq q S M o) → va_S A s.heap H locs → lv_has ls 2 [(0, .ref (q 22)), (1, .int x1)] → mX8_status_13 n M x1 t0 = some (rr, MM) → W p l e rmX8_status s m args below meth c H locs 0 0 Q (F0 m 13 ls [.int t0, .ref (q 22)]) := by
    intro M x1 t0 H locs ls hP hD hS hl h
    rw [mX8_status_13] at h
    refine pt_22_0 F hinX8 (hts (.fieldLink RX8 44 "CableTesterModel" "thrown" "I") (mm 1 rfl)) hK hP hD hS dX8_status_13 (fun H locs hP hD hS => ?_)
    refine lv_aload_n hx hb dX8_status_16 rfl (lv_at hl 0 rfl) ?_
    refine va_get (D := (dC, dI)) (ci := 9) (v := .int ((sG M 0 t0).1 0)) (C := RX8) (T := TX8) (N := 29) hx hb hts hinX8 hown hK hP 22 rfl rfl 0 (by decide) (hts (.fieldLink RX8 44 "CableTesterModel" "thrown" "I") (mm 1 rfl)) (fun _ h9 => h9) rfl dX8_status_17 ?_
    refine lv_if_le (tgt := 25) hx hb dX8_status_20 (by decide) (fun c4 => ?_) (fun c4 => ?_)
    · replace h := it c4 h
      refine lv_aload_n hx hb dX8_status_25 rfl (lv_at hl 0 rfl) ?_
      refine lv_aload_n hx hb dX8_status_26 rfl (lv_at hl 0 rfl) ?_
      refine va_get (D := (dC, dI)) (ci := 9) (v := .int ((sG M 0 t0).1 4)) (C := RX8) (T := TX8) (N := 29) hx hb hts hinX8 hown hK hP 22 rfl rfl 4 (by decide) (hts (.fieldLink RX8 61 "CableTesterModel" "tick" "I") (mm 2 rfl)) (fun _ h9 => h9) rfl dX8_status_27 ?_
      obtain ⟨M7, e6, h⟩ := bo h
      refine caVM_v (As := [.int ((sG M 0 t0).1 4)]) (rest := []) (ctX8_layNets l dC dI cq q S (sG M 0 t0) o _ _ _ _ e6) F (cwV 1 hts gX8_status_X8_layNets rfl rfl rfl hdX8_layNets ⟨Nat.le_of_ble_eq_true rfl, Nat.le_of_ble_eq_true rfl⟩) hK hP hD hDm hS hA (fun _ _ _ _ _ => trivial) (fun _ _ _ => trivial) (va_recv hK hP (ci := 9) (q0 := 22) rfl rfl) rfl hl.1 rfl (Nat.le_of_ble_eq_true rfl) dX8_status_30 ⟨Nat.zero_le _, Nat.zero_le _⟩ (fun H locs hP hD hS => ?_)
      refine lv_aload_n hx hb dX8_status_33 rfl (lv_at hl 0 rfl) ?_
      refine lv_iload_n hx hb dX8_status_34 rfl (lv_at hl 1 rfl) ?_
      obtain ⟨r8, e9, h⟩ := bo h
      refine caVR_i (As := [.int x1]) (rest := []) (ctX8_statusNow l dC dI cq q S M7 o _ _ _ _ e9) F (cwV 1 hts gX8_status_X8_statusNow rfl rfl rfl hdX8_statusNow ⟨Nat.le_of_ble_eq_true rfl, Nat.le_of_ble_eq_true rfl⟩) hK hP hD hDm hS hA (fun _ _ _ _ _ => trivial) (fun _ _ _ => trivial) (va_recv hK hP (ci := 9) (q0 := 22) rfl rfl) rfl hl.1 rfl (Nat.le_of_ble_eq_true rfl) dX8_status_35 ⟨Nat.zero_le _, Nat.zero_le _⟩ (fun H locs hP hD hS => ?_)
      exact hend _ _ _ _ _ _ h hP hD hS dX8_status_38
    · replace h := ie c4 h
      refine lv_iconst (v := (0 : Int32)) hx hb dX8_status_23 (by decide) ?_
      exact hend _ _ _ _ _ _ h hP hD hS dX8_status_24
  rw [mX8_status] at h
  refine lv_aload_n hx hb dX8_status_0 rfl (lv_at hl 0 rfl) ?_
  refine lv_iload_n hx hb dX8_status_1 rfl (lv_at hl 1 rfl) ?_
  obtain ⟨r1, e2, h⟩ := bo h
  refine caSR_i (As := [.int x1]) (rest := [.ref (q 22)]) (ctX8_isWire l dC dI cq q S M o _ _ _ e2) F (va_cwS 1 hts gX8_status_X8_isWire rfl rfl rfl hdX8_isWire ⟨Nat.le_of_ble_eq_true rfl, Nat.le_of_ble_eq_true rfl⟩) hK hP hD hDm hS hA (fun _ _ _ _ _ => trivial) (fun _ _ _ => trivial) rfl hl.1 rfl (Nat.le_of_ble_eq_true rfl) dX8_status_2 ⟨Nat.zero_le _, Nat.zero_le _⟩ (fun H locs hP hD hS => ?_)
  refine lv_if_eq (tgt := 12) hx hb dX8_status_5 (by decide) (fun c3 => ?_) (fun c3 => ?_)
  · replace h := it c3 h
    refine lv_iconst (v := (1 : Int32)) hx hb dX8_status_12 (by decide) ?_
    exact hj13 _ _ _ _ _ _ hP hD hS (lv_sub hl [0, 1] rfl) h
  · replace h := ie c3 h
    refine lv_iconst (v := (0 : Int32)) hx hb dX8_status_8 (by decide) ?_
    refine lv_goto (tgt := 13) hx hb dX8_status_9 (by decide) ?_
    exact hj13 _ _ _ _ _ _ hP hD hS (lv_sub hl [0, 1] rfl) h
def mX8_event_100 (n : Nat) (K11 : Int32 → Int32 → Option (Int32)) (M : MS) (x1 : Int32) (x3 : Int32) (t0 : Int32) : Option (Int32) :=
  (K11 t0 (x3 + (1 : Int32)))
def mX8_event_99 (n : Nat) (K11 : Int32 → Int32 → Option (Int32)) (M : MS) (x1 : Int32) (x2 : Int32) (x3 : Int32)  : Option (Int32) :=
  (mX8_event_100 n (K11) M x1 x3 x2)
def mX8_event_68 (n : Nat) (K11 : Int32 → Int32 → Option (Int32)) (M : MS) (x1 : Int32) (x2 : Int32) (x3 : Int32) (x4 : Int32) (t0 : Int32) (t1 : Int32) : Option (Int32) :=
  (if x4 = (0 : Int32) then (mX8_event_99 n (K11) M x1 x2 x3) else (bn (mX8_isPresent M x3 (M.1 4)) fun r11 => (if r11 = (0 : Int32) then (mX8_event_99 n (K11) M x1 x2 x3) else (if x2 ≤ (t1 + t0) then (mX8_event_99 n (K11) M x1 x2 x3) else (mX8_event_100 n (K11) M x1 x3 (t1 + t0))))))
def mX8_event_44 (n : Nat) (K11 : Int32 → Int32 → Option (Int32)) (M : MS) (x1 : Int32) (x2 : Int32) (x3 : Int32) (t0 : Int32) : Option (Int32) :=
  (bn (mX8_of M x3 (3 : Int32)) fun r5 => (bn (mX8_of M x3 (0 : Int32)) fun r7 => (if r7 = (0 : Int32) then (mX8_event_68 n (K11) M x1 x2 x3 t0 (1 : Int32) ((2 : Int32) * r5)) else (mX8_event_68 n (K11) M x1 x2 x3 t0 (0 : Int32) ((2 : Int32) * r5)))))
def mX8_event_39 (n : Nat) (K11 : Int32 → Int32 → Option (Int32)) (M : MS) (x1 : Int32) (x2 : Int32) (x3 : Int32)  : Option (Int32) :=
  (mX8_event_44 n (K11) M x1 x2 x3 (1 : Int32))
def mX8_event_11 (n : Nat)  (M : MS) (x1 : Int32) : Nat → Int32 → Int32 → Option (Int32)
  | 0, _, _ => none
  | k + 1, x2, x3 => (if (M.1 7) ≤ x3 then (some x2) else (bn (mX8_of M x3 (1 : Int32)) fun r2 => (if r2 = x1 then (mX8_event_39 n (mX8_event_11 n M x1 k) M x1 x2 x3) else (bn (mX8_of M x3 (2 : Int32)) fun r15 => (if r15 = x1 then (mX8_event_39 n (mX8_event_11 n M x1 k) M x1 x2 x3) else (mX8_event_44 n (mX8_event_11 n M x1 k) M x1 x2 x3 (0 : Int32)))))))
def mX8_event (n : Nat) (M : MS) (x1 : Int32) : Option (Int32) :=
  (mX8_event_11 n M x1 n (((2 : Int32) * (M.1 1)) + (1 : Int32)) (0 : Int32))
abbrev rmX8_event : Room := { frames := 2, cells := 0, slots := 0, locals := 44 }
theorem hdX8_event : yX8_event.cls = RX8 ∧ yX8_event.cls ≠ "java/lang/invoke/MethodHandle" ∧ yX8_event.cls ≠ "java/lang/invoke/VarHandle" ∧ (parseMethodDescriptor yX8_event.desc).map (fun d => d.parameters.length) = some 1 := by decide +kernel
set_option maxRecDepth 100000 in
set_option maxHeartbeats 8000000 in
theorem ctX8_event (l : Launch) (dC : Nat → ClassId) (dI : Nat → Nat → Nat) (cq : Nat → ClassId) (q : Nat → Nat) (S : CS) (M : MS) (o : Nat → Int64) (sz : Nat) (n : Nat) (x1 : Int32) (rr : Int32) (h : mX8_event n M x1 = some rr) : CtR_i l yX8_event wsX8_event rmX8_event (fun _ => True) (fun _ => True) dC dI cq q S M o sz [.ref (q 22), .int x1] rr := by
  refine enR_i (cc := cX8_event) (maxL := 6) (by decide) rfl (Nat.le_of_ble_eq_true rfl) (fun p e s m args below meth c A Q ls F hA hP hK hD hDm hX hS hl hend => ?_)
  obtain ⟨hx, hb, hml, hown, hts⟩ := id F
  have hown : s.vm.findClass RX8 = some m.cls := hown
  have F : CallFix p m c cX8_event 6 s args wsX8_event RX8 := F
  have hl : lv_has ls 6 [(0, .ref (q 22)), (1, .int x1)] := hl
  have hinX8 : ∀ w ∈ u_ws RX8 TX8 29, w ∈ wsX8_event := fun w h => List.mem_cons_of_mem _ (List.mem_append_right _ h)
  have hj100 : ∀  (x1 : Int32) (x3 : Int32) (t0 : Int32) (K11 : Int32 → Int32 → Option (Int32)) (hK11 : ∀ (y2 : Int32) (y3 : Int32) (H : Heap) (locs : List Loc) (ls : Array Slot), va_P (dC, dI) vwCl (wA cq q S M o) H → va_D A (wA cq q S M o) → va_S A s.heap H locs → lv_has ls 6 [(0, .ref (q 22)), (1, .int x1), (2, .int y2), (3, .int y3)] → K11 y2 y3 = some rr → W p l e rmX8_event s m args below meth c H locs 0 0 Q (F0 m 11 ls [])) (H : Heap) (locs : List Loc) (ls : Array Slot), va_P (dC, dI) vwCl (wA cq q S M o) H → va_D A (wA cq q S M o) → va_S A s.heap H locs → lv_has ls 6 [(0, .ref (q 22)), (1, .int x1), (3, .int x3)] → mX8_event_100 n K11 M x1 x3 t0 = some rr → W p l e rmX8_event s m args below meth c H locs 0 0 Q (F0 m 100 ls [.int t0]) := by
    intro x1 x3 t0 K11 hK11 H locs ls hP hD hS hl h
    rw [mX8_event_100] at h
    refine lv_istore_n (lv' := [(2, .int t0), (0, .ref (q 22)), (1, .int x1), (3, .int x3)]) hx hb dX8_event_100 rfl hl (by decide) rfl (fun ls hl => ?_)
    refine lv_iinc (v := (x3 + (1 : Int32))) (lv' := [(3, .int (x3 + (1 : Int32))), (2, .int t0), (0, .ref (q 22)), (1, .int x1)]) hx hb dX8_event_101 hl (k := 3) rfl rfl (by decide) rfl (fun ls hl => ?_)
    refine lv_goto (tgt := 11) hx hb dX8_event_104 (by decide) ?_
    exact hK11 _ _ _ _ _ hP hD hS (lv_sub hl [2, 3, 1, 0] rfl) h
  have hj99 : ∀  (x1 : Int32) (x2 : Int32) (x3 : Int32)  (K11 : Int32 → Int32 → Option (Int32)) (hK11 : ∀ (y2 : Int32) (y3 : Int32) (H : Heap) (locs : List Loc) (ls : Array Slot), va_P (dC, dI) vwCl (wA cq q S M o) H → va_D A (wA cq q S M o) → va_S A s.heap H locs → lv_has ls 6 [(0, .ref (q 22)), (1, .int x1), (2, .int y2), (3, .int y3)] → K11 y2 y3 = some rr → W p l e rmX8_event s m args below meth c H locs 0 0 Q (F0 m 11 ls [])) (H : Heap) (locs : List Loc) (ls : Array Slot), va_P (dC, dI) vwCl (wA cq q S M o) H → va_D A (wA cq q S M o) → va_S A s.heap H locs → lv_has ls 6 [(0, .ref (q 22)), (1, .int x1), (2, .int x2), (3, .int x3)] → mX8_event_99 n K11 M x1 x2 x3 = some rr → W p l e rmX8_event s m args below meth c H locs 0 0 Q (F0 m 99 ls []) := by
    intro x1 x2 x3 K11 hK11 H locs ls hP hD hS hl h
    rw [mX8_event_99] at h
    refine lv_iload_n hx hb dX8_event_99 rfl (lv_at hl 2 rfl) ?_
    exact hj100 _ _ _ _ hK11 _ _ _ hP hD hS (lv_sub hl [0, 1, 3] rfl) h
  have hj68 : ∀  (x1 : Int32) (x2 : Int32) (x3 : Int32) (x4 : Int32) (t0 : Int32) (t1 : Int32) (K11 : Int32 → Int32 → Option (Int32)) (hK11 : ∀ (y2 : Int32) (y3 : Int32) (H : Heap) (locs : List Loc) (ls : Array Slot), va_P (dC, dI) vwCl (wA cq q S M o) H → va_D A (wA cq q S M o) → va_S A s.heap H locs → lv_has ls 6 [(0, .ref (q 22)), (1, .int x1), (2, .int y2), (3, .int y3)] → K11 y2 y3 = some rr → W p l e rmX8_event s m args below meth c H locs 0 0 Q (F0 m 11 ls [])) (H : Heap) (locs : List Loc) (ls : Array Slot), va_P (dC, dI) vwCl (wA cq q S M o) H → va_D A (wA cq q S M o) → va_S A s.heap H locs → lv_has ls 6 [(0, .ref (q 22)), (1, .int x1), (2, .int x2), (3, .int x3), (4, .int x4)] → mX8_event_68 n K11 M x1 x2 x3 x4 t0 t1 = some rr → W p l e rmX8_event s m args below meth c H locs 0 0 Q (F0 m 68 ls [.int t0, .int t1]) := by
    intro x1 x2 x3 x4 t0 t1 K11 hK11 H locs ls hP hD hS hl h
    rw [mX8_event_68] at h
    refine lv_iadd hx hb dX8_event_68 ?_
    refine lv_istore (lv' := [(5, .int (t1 + t0)), (0, .ref (q 22)), (1, .int x1), (2, .int x2), (3, .int x3), (4, .int x4)]) hx hb dX8_event_69 hl (by decide) rfl (fun ls hl => ?_)
    refine lv_iload hx hb dX8_event_71 (lv_at hl 5 rfl) ?_
    refine lv_if_eq (tgt := 99) hx hb dX8_event_73 (by decide) (fun c10 => ?_) (fun c10 => ?_)
    · replace h := it c10 h
      exact hj99 _ _ _ _ hK11 _ _ _ hP hD hS (lv_sub hl [1, 2, 3, 4] rfl) h
    · replace h := ie c10 h
      refine lv_aload_n hx hb dX8_event_76 rfl (lv_at hl 1 rfl) ?_
      refine lv_iload_n hx hb dX8_event_77 rfl (lv_at hl 4 rfl) ?_
      refine lv_aload_n hx hb dX8_event_78 rfl (lv_at hl 1 rfl) ?_
      refine va_get (D := (dC, dI)) (ci := 9) (v := .int (M.1 4)) (C := RX8) (T := TX8) (N := 29) hx hb hts hinX8 hown hK hP 22 rfl rfl 4 (by decide) (hts (.fieldLink RX8 61 "CableTesterModel" "tick" "I") (mm 3 rfl)) (fun _ h9 => h9) rfl dX8_event_79 ?_
      obtain ⟨r11, e12, h⟩ := bo h
      refine caVR_i (As := [.int x3, .int (M.1 4)]) (rest := []) (ctX8_isPresent l dC dI cq q S M o _ _ _ _ e12) F (cwV 2 hts gX8_event_X8_isPresent rfl rfl rfl hdX8_isPresent ⟨Nat.le_of_ble_eq_true rfl, Nat.le_of_ble_eq_true rfl⟩) hK hP hD hDm hS hA (fun _ _ _ _ _ => trivial) (fun _ _ _ => trivial) (va_recv hK hP (ci := 9) (q0 := 22) rfl rfl) rfl hl.1 rfl (Nat.le_of_ble_eq_true rfl) dX8_event_82 ⟨Nat.zero_le _, Nat.zero_le _⟩ (fun H locs hP hD hS => ?_)
      refine lv_if_eq (tgt := 99) hx hb dX8_event_85 (by decide) (fun c13 => ?_) (fun c13 => ?_)
      · replace h := it c13 h
        exact hj99 _ _ _ _ hK11 _ _ _ hP hD hS (lv_sub hl [1, 2, 3, 4] rfl) h
      · replace h := ie c13 h
        refine lv_iload hx hb dX8_event_88 (lv_at hl 0 rfl) ?_
        refine lv_iload_n hx hb dX8_event_90 rfl (lv_at hl 3 rfl) ?_
        refine lv_icmp_ge (tgt := 99) hx hb dX8_event_91 (by decide) (fun c14 => ?_) (fun c14 => ?_)
        · replace h := it c14 h
          exact hj99 _ _ _ _ hK11 _ _ _ hP hD hS (lv_sub hl [1, 2, 3, 4] rfl) h
        · replace h := ie c14 h
          refine lv_iload hx hb dX8_event_94 (lv_at hl 0 rfl) ?_
          refine lv_goto (tgt := 100) hx hb dX8_event_96 (by decide) ?_
          exact hj100 _ _ _ _ hK11 _ _ _ hP hD hS (lv_sub hl [1, 2, 4] rfl) h
  have hj44 : ∀  (x1 : Int32) (x2 : Int32) (x3 : Int32) (t0 : Int32) (K11 : Int32 → Int32 → Option (Int32)) (hK11 : ∀ (y2 : Int32) (y3 : Int32) (H : Heap) (locs : List Loc) (ls : Array Slot), va_P (dC, dI) vwCl (wA cq q S M o) H → va_D A (wA cq q S M o) → va_S A s.heap H locs → lv_has ls 6 [(0, .ref (q 22)), (1, .int x1), (2, .int y2), (3, .int y3)] → K11 y2 y3 = some rr → W p l e rmX8_event s m args below meth c H locs 0 0 Q (F0 m 11 ls [])) (H : Heap) (locs : List Loc) (ls : Array Slot), va_P (dC, dI) vwCl (wA cq q S M o) H → va_D A (wA cq q S M o) → va_S A s.heap H locs → lv_has ls 6 [(0, .ref (q 22)), (1, .int x1), (2, .int x2), (3, .int x3)] → mX8_event_44 n K11 M x1 x2 x3 t0 = some rr → W p l e rmX8_event s m args below meth c H locs 0 0 Q (F0 m 44 ls [.int t0]) := by
    intro x1 x2 x3 t0 K11 hK11 H locs ls hP hD hS hl h
    rw [mX8_event_44] at h
    refine lv_istore (lv' := [(4, .int t0), (0, .ref (q 22)), (1, .int x1), (2, .int x2), (3, .int x3)]) hx hb dX8_event_44 hl (by decide) rfl (fun ls hl => ?_)
    refine lv_iconst (v := (2 : Int32)) hx hb dX8_event_46 (by decide) ?_
    refine lv_aload_n hx hb dX8_event_47 rfl (lv_at hl 1 rfl) ?_
    refine lv_iload_n hx hb dX8_event_48 rfl (lv_at hl 4 rfl) ?_
    refine lv_iconst (v := (3 : Int32)) hx hb dX8_event_49 (by decide) ?_
    obtain ⟨r5, e6, h⟩ := bo h
    refine caVR_i (As := [.int x3, .int (3 : Int32)]) (rest := [.int (2 : Int32)]) (ctX8_of l dC dI cq q S M o _ _ _ _ e6) F (cwV 2 hts gX8_event_X8_of rfl rfl rfl hdX8_of ⟨Nat.le_of_ble_eq_true rfl, Nat.le_of_ble_eq_true rfl⟩) hK hP hD hDm hS hA (fun _ _ _ _ _ => trivial) (fun _ _ _ => trivial) (va_recv hK hP (ci := 9) (q0 := 22) rfl rfl) rfl hl.1 rfl (Nat.le_of_ble_eq_true rfl) dX8_event_50 ⟨Nat.zero_le _, Nat.zero_le _⟩ (fun H locs hP hD hS => ?_)
    refine lv_imul hx hb dX8_event_53 ?_
    refine lv_aload_n hx hb dX8_event_54 rfl (lv_at hl 1 rfl) ?_
    refine lv_iload_n hx hb dX8_event_55 rfl (lv_at hl 4 rfl) ?_
    refine lv_iconst (v := (0 : Int32)) hx hb dX8_event_56 (by decide) ?_
    obtain ⟨r7, e8, h⟩ := bo h
    refine caVR_i (As := [.int x3, .int (0 : Int32)]) (rest := [.int ((2 : Int32) * r5)]) (ctX8_of l dC dI cq q S M o _ _ _ _ e8) F (cwV 2 hts gX8_event_X8_of rfl rfl rfl hdX8_of ⟨Nat.le_of_ble_eq_true rfl, Nat.le_of_ble_eq_true rfl⟩) hK hP hD hDm hS hA (fun _ _ _ _ _ => trivial) (fun _ _ _ => trivial) (va_recv hK hP (ci := 9) (q0 := 22) rfl rfl) rfl hl.1 rfl (Nat.le_of_ble_eq_true rfl) dX8_event_57 ⟨Nat.zero_le _, Nat.zero_le _⟩ (fun H locs hP hD hS => ?_)
    refine lv_if_ne (tgt := 67) hx hb dX8_event_60 (by decide) (fun c9 => ?_) (fun c9 => ?_)
    · replace h := ie c9 h
      refine lv_iconst (v := (0 : Int32)) hx hb dX8_event_67 (by decide) ?_
      exact hj68 _ _ _ _ _ _ _ hK11 _ _ _ hP hD hS (lv_sub hl [1, 2, 3, 4, 0] rfl) h
    · replace h := it c9 h
      refine lv_iconst (v := (1 : Int32)) hx hb dX8_event_63 (by decide) ?_
      refine lv_goto (tgt := 68) hx hb dX8_event_64 (by decide) ?_
      exact hj68 _ _ _ _ _ _ _ hK11 _ _ _ hP hD hS (lv_sub hl [1, 2, 3, 4, 0] rfl) h
  have hj39 : ∀  (x1 : Int32) (x2 : Int32) (x3 : Int32)  (K11 : Int32 → Int32 → Option (Int32)) (hK11 : ∀ (y2 : Int32) (y3 : Int32) (H : Heap) (locs : List Loc) (ls : Array Slot), va_P (dC, dI) vwCl (wA cq q S M o) H → va_D A (wA cq q S M o) → va_S A s.heap H locs → lv_has ls 6 [(0, .ref (q 22)), (1, .int x1), (2, .int y2), (3, .int y3)] → K11 y2 y3 = some rr → W p l e rmX8_event s m args below meth c H locs 0 0 Q (F0 m 11 ls [])) (H : Heap) (locs : List Loc) (ls : Array Slot), va_P (dC, dI) vwCl (wA cq q S M o) H → va_D A (wA cq q S M o) → va_S A s.heap H locs → lv_has ls 6 [(0, .ref (q 22)), (1, .int x1), (2, .int x2), (3, .int x3)] → mX8_event_39 n K11 M x1 x2 x3 = some rr → W p l e rmX8_event s m args below meth c H locs 0 0 Q (F0 m 39 ls []) := by
    intro x1 x2 x3 K11 hK11 H locs ls hP hD hS hl h
    rw [mX8_event_39] at h
    refine lv_iconst (v := (1 : Int32)) hx hb dX8_event_39 (by decide) ?_
    refine lv_goto (tgt := 44) hx hb dX8_event_40 (by decide) ?_
    exact hj44 _ _ _ _ _ hK11 _ _ _ hP hD hS (lv_sub hl [0, 1, 2, 3] rfl) h
  have hL11 : ∀ (x1 : Int32)  (k : Nat)  (x2 : Int32) (x3 : Int32) (H : Heap) (locs : List Loc) (ls : Array Slot), va_P (dC, dI) vwCl (wA cq q S M o) H → va_D A (wA cq q S M o) → va_S A s.heap H locs → lv_has ls 6 [(0, .ref (q 22)), (1, .int x1), (2, .int x2), (3, .int x3)] → mX8_event_11 n M x1 k x2 x3 = some rr → W p l e rmX8_event s m args below meth c H locs 0 0 Q (F0 m 11 ls []) := by
    intro x1
    intro k
    induction k with
    | zero =>
      intro x2 x3 H locs ls hP hD hS hl h
      rw [mX8_event_11] at h
      cases h
    | succ k ih =>
      intro x2 x3 H locs ls hP hD hS hl h
      rw [mX8_event_11] at h
      refine lv_iload_n hx hb dX8_event_11 rfl (lv_at hl 3 rfl) ?_
      refine lv_aload_n hx hb dX8_event_12 rfl (lv_at hl 0 rfl) ?_
      refine va_get (D := (dC, dI)) (ci := 9) (v := .int (M.1 7)) (C := RX8) (T := TX8) (N := 29) hx hb hts hinX8 hown hK hP 22 rfl rfl 7 (by decide) (hts (.fieldLink RX8 64 "CableTesterModel" "many" "I") (mm 2 rfl)) (fun _ h9 => h9) rfl dX8_event_13 ?_
      refine lv_icmp_ge (tgt := 107) hx hb dX8_event_16 (by decide) (fun c1 => ?_) (fun c1 => ?_)
      · replace h := it c1 h
        refine lv_iload_n hx hb dX8_event_107 rfl (lv_at hl 2 rfl) ?_
        exact hend _ _ _ _ _ h hP hD hS dX8_event_108
      · replace h := ie c1 h
        refine lv_aload_n hx hb dX8_event_19 rfl (lv_at hl 0 rfl) ?_
        refine lv_iload_n hx hb dX8_event_20 rfl (lv_at hl 3 rfl) ?_
        refine lv_iconst (v := (1 : Int32)) hx hb dX8_event_21 (by decide) ?_
        obtain ⟨r2, e3, h⟩ := bo h
        refine caVR_i (As := [.int x3, .int (1 : Int32)]) (rest := []) (ctX8_of l dC dI cq q S M o _ _ _ _ e3) F (cwV 2 hts gX8_event_X8_of rfl rfl rfl hdX8_of ⟨Nat.le_of_ble_eq_true rfl, Nat.le_of_ble_eq_true rfl⟩) hK hP hD hDm hS hA (fun _ _ _ _ _ => trivial) (fun _ _ _ => trivial) (va_recv hK hP (ci := 9) (q0 := 22) rfl rfl) rfl hl.1 rfl (Nat.le_of_ble_eq_true rfl) dX8_event_22 ⟨Nat.zero_le _, Nat.zero_le _⟩ (fun H locs hP hD hS => ?_)
        refine lv_iload_n hx hb dX8_event_25 rfl (lv_at hl 1 rfl) ?_
        refine lv_icmp_eq (tgt := 39) hx hb dX8_event_26 (by decide) (fun c4 => ?_) (fun c4 => ?_)
        · replace h := it c4 h
          exact hj39 _ _ _ _ ih _ _ _ hP hD hS (lv_sub hl [0, 1, 2, 3] rfl) h
        · replace h := ie c4 h
          refine lv_aload_n hx hb dX8_event_29 rfl (lv_at hl 0 rfl) ?_
          refine lv_iload_n hx hb dX8_event_30 rfl (lv_at hl 3 rfl) ?_
          refine lv_iconst (v := (2 : Int32)) hx hb dX8_event_31 (by decide) ?_
          obtain ⟨r15, e16, h⟩ := bo h
          refine caVR_i (As := [.int x3, .int (2 : Int32)]) (rest := []) (ctX8_of l dC dI cq q S M o _ _ _ _ e16) F (cwV 2 hts gX8_event_X8_of rfl rfl rfl hdX8_of ⟨Nat.le_of_ble_eq_true rfl, Nat.le_of_ble_eq_true rfl⟩) hK hP hD hDm hS hA (fun _ _ _ _ _ => trivial) (fun _ _ _ => trivial) (va_recv hK hP (ci := 9) (q0 := 22) rfl rfl) rfl hl.1 rfl (Nat.le_of_ble_eq_true rfl) dX8_event_32 ⟨Nat.zero_le _, Nat.zero_le _⟩ (fun H locs hP hD hS => ?_)
          refine lv_iload_n hx hb dX8_event_35 rfl (lv_at hl 1 rfl) ?_
          refine lv_icmp_ne (tgt := 43) hx hb dX8_event_36 (by decide) (fun c17 => ?_) (fun c17 => ?_)
          · replace h := ie c17 h
            refine lv_iconst (v := (0 : Int32)) hx hb dX8_event_43 (by decide) ?_
            exact hj44 _ _ _ _ _ ih _ _ _ hP hD hS (lv_sub hl [0, 1, 2, 3] rfl) h
          · replace h := it c17 h
            exact hj39 _ _ _ _ ih _ _ _ hP hD hS (lv_sub hl [0, 1, 2, 3] rfl) h
  rw [mX8_event] at h
  refine lv_iconst (v := (2 : Int32)) hx hb dX8_event_0 (by decide) ?_
  refine lv_aload_n hx hb dX8_event_1 rfl (lv_at hl 0 rfl) ?_
  refine va_get (D := (dC, dI)) (ci := 9) (v := .int (M.1 1)) (C := RX8) (T := TX8) (N := 29) hx hb hts hinX8 hown hK hP 22 rfl rfl 1 (by decide) (hts (.fieldLink RX8 52 "CableTesterModel" "length" "I") (mm 1 rfl)) (fun _ h9 => h9) rfl dX8_event_2 ?_
  refine lv_imul hx hb dX8_event_5 ?_
  refine lv_iconst (v := (1 : Int32)) hx hb dX8_event_6 (by decide) ?_
  refine lv_iadd hx hb dX8_event_7 ?_
  refine lv_istore_n (lv' := [(2, .int (((2 : Int32) * (M.1 1)) + (1 : Int32))), (0, .ref (q 22)), (1, .int x1)]) hx hb dX8_event_8 rfl hl (by decide) rfl (fun ls hl => ?_)
  refine lv_iconst (v := (0 : Int32)) hx hb dX8_event_9 (by decide) ?_
  refine lv_istore_n (lv' := [(3, .int (0 : Int32)), (2, .int (((2 : Int32) * (M.1 1)) + (1 : Int32))), (0, .ref (q 22)), (1, .int x1)]) hx hb dX8_event_10 rfl hl (by decide) rfl (fun ls hl => ?_)
  exact hL11 _ _ _ _ _ _ _ hP hD hS (lv_sub hl [2, 3, 1, 0] rfl) h
def mX8_echoNow_57 (n : Nat)  (M : MS) (x2 : Int32) (x3 : Int32) (x4 : Int32) (x5 : Int32)  : Option (Int32) :=
  (if x2 = (0 : Int32) then (some ((1 : Int32) - (x3 - x3 / (2 : Int32) * (2 : Int32)))) else (if x2 = (1 : Int32) then (some x5) else (if x2 = (2 : Int32) then (some (((((6 : Int32) * (M.1 2)) * x5) + (200 : Int32)) / (400 : Int32))) else (some x4))))
def mX8_echoNow (n : Nat) (M : MS) (x1 : Int32) (x2 : Int32) : Option (Int32) :=
  (if inb x1 16 then (bn (mX8_event n M (M.2.1 23 x1.toNatClampNeg)) fun r2 => (if ¬ ((6 : Int32) * (M.1 2)) = 0 then (if (r2 / (2 : Int32)) = (M.1 1) then (if (M.1 3) ≤ (0 : Int32) then (mX8_echoNow_57 n M x2 r2 (r2 / (2 : Int32)) ((((400 : Int32) * (r2 / (2 : Int32))) + ((3 : Int32) * (M.1 2))) / ((6 : Int32) * (M.1 2)))) else (some (-1 : Int32))) else (mX8_echoNow_57 n M x2 r2 (r2 / (2 : Int32)) ((((400 : Int32) * (r2 / (2 : Int32))) + ((3 : Int32) * (M.1 2))) / ((6 : Int32) * (M.1 2))))) else none)) else none)
abbrev rmX8_echoNow : Room := { frames := 3, cells := 0, slots := 0, locals := 69 }
theorem hdX8_echoNow : yX8_echoNow.cls = RX8 ∧ yX8_echoNow.cls ≠ "java/lang/invoke/MethodHandle" ∧ yX8_echoNow.cls ≠ "java/lang/invoke/VarHandle" ∧ (parseMethodDescriptor yX8_echoNow.desc).map (fun d => d.parameters.length) = some 2 := by decide +kernel
set_option maxRecDepth 100000 in
set_option maxHeartbeats 8000000 in
theorem ctX8_echoNow (l : Launch) (dC : Nat → ClassId) (dI : Nat → Nat → Nat) (cq : Nat → ClassId) (q : Nat → Nat) (S : CS) (M : MS) (o : Nat → Int64) (sz : Nat) (n : Nat) (x1 : Int32) (x2 : Int32) (rr : Int32) (h : mX8_echoNow n M x1 x2 = some rr) : CtR_i l yX8_echoNow wsX8_echoNow rmX8_echoNow (fun _ => True) (fun _ => True) dC dI cq q S M o sz [.ref (q 22), .int x1, .int x2] rr := by
  refine enR_i (cc := cX8_echoNow) (maxL := 6) (by decide) rfl (Nat.le_of_ble_eq_true rfl) (fun p e s m args below meth c A Q ls F hA hP hK hD hDm hX hS hl hend => ?_)
  obtain ⟨hx, hb, hml, hown, hts⟩ := id F
  have hown : s.vm.findClass RX8 = some m.cls := hown
  have F : CallFix p m c cX8_echoNow 6 s args wsX8_echoNow RX8 := F
  have hl : lv_has ls 6 [(0, .ref (q 22)), (1, .int x1), (2, .int x2)] := hl
  have hinX8 : ∀ w ∈ u_ws RX8 TX8 29, w ∈ wsX8_echoNow := fun w h => List.mem_cons_of_mem _ (List.mem_append_right _ h)
  have hj57 : ∀  (x2 : Int32) (x3 : Int32) (x4 : Int32) (x5 : Int32)   (H : Heap) (locs : List Loc) (ls : Array Slot), va_P (dC, dI) vwCl (wA cq q S M o) H → va_D A (wA cq q S M o) → va_S A s.heap H locs → lv_has ls 6 [(0, .ref (q 22)), (2, .int x2), (3, .int x3), (4, .int x4), (5, .int x5)] → mX8_echoNow_57 n M x2 x3 x4 x5 = some rr → W p l e rmX8_echoNow s m args below meth c H locs 0 0 Q (F0 m 57 ls []) := by
    intro x2 x3 x4 x5 H locs ls hP hD hS hl h
    rw [mX8_echoNow_57] at h
    refine lv_iload_n hx hb dX8_echoNow_57 rfl (lv_at hl 1 rfl) ?_
    by_cases c6 : x2 = (0 : Int32)
    · replace h := it c6 h
      refine lv_tableIn (tgt := 84) (off := 26) hx hb dX8_echoNow_58 (by rw [c6]; decide) (by rw [c6]; decide) (by rw [c6]; decide) (by decide) ?_
      refine lv_iconst (v := (1 : Int32)) hx hb dX8_echoNow_84 (by decide) ?_
      refine lv_iload_n hx hb dX8_echoNow_85 rfl (lv_at hl 2 rfl) ?_
      refine lv_iconst (v := (2 : Int32)) hx hb dX8_echoNow_86 (by decide) ?_
      refine lv_irem hx hb dX8_echoNow_87 (by decide) ?_
      refine lv_isub hx hb dX8_echoNow_88 ?_
      exact hend _ _ _ _ _ h hP hD hS dX8_echoNow_89
    replace h := ie c6 h
    by_cases c7 : x2 = (1 : Int32)
    · replace h := it c7 h
      refine lv_tableIn (tgt := 90) (off := 32) hx hb dX8_echoNow_58 (by rw [c7]; decide) (by rw [c7]; decide) (by rw [c7]; decide) (by decide) ?_
      refine lv_iload hx hb dX8_echoNow_90 (lv_at hl 4 rfl) ?_
      exact hend _ _ _ _ _ h hP hD hS dX8_echoNow_92
    replace h := ie c7 h
    by_cases c8 : x2 = (2 : Int32)
    · replace h := it c8 h
      refine lv_tableIn (tgt := 93) (off := 35) hx hb dX8_echoNow_58 (by rw [c8]; decide) (by rw [c8]; decide) (by rw [c8]; decide) (by decide) ?_
      refine lv_bipush (v := (6 : Int32)) hx hb dX8_echoNow_93 (by decide) ?_
      refine lv_aload_n hx hb dX8_echoNow_95 rfl (lv_at hl 0 rfl) ?_
      refine va_get (D := (dC, dI)) (ci := 9) (v := .int (M.1 2)) (C := RX8) (T := TX8) (N := 29) hx hb hts hinX8 hown hK hP 22 rfl rfl 2 (by decide) (hts (.fieldLink RX8 55 "CableTesterModel" "velocity" "I") (mm 2 rfl)) (fun _ h9 => h9) rfl dX8_echoNow_96 ?_
      refine lv_imul hx hb dX8_echoNow_99 ?_
      refine lv_iload hx hb dX8_echoNow_100 (lv_at hl 4 rfl) ?_
      refine lv_imul hx hb dX8_echoNow_102 ?_
      refine lv_sipush (v := (200 : Int32)) hx hb dX8_echoNow_103 (by decide) ?_
      refine lv_iadd hx hb dX8_echoNow_106 ?_
      refine lv_sipush (v := (400 : Int32)) hx hb dX8_echoNow_107 (by decide) ?_
      refine lv_idiv hx hb dX8_echoNow_110 (by decide) ?_
      exact hend _ _ _ _ _ h hP hD hS dX8_echoNow_111
    replace h := ie c8 h
    refine lv_tableOut (tgt := 112) hx hb dX8_echoNow_58 (by have z0 := ne_i (n := 0) rfl c6; have z1 := ne_i (n := 1) rfl c7; have z2 := ne_i (n := 2) rfl c8; omega) (by decide) ?_
    refine lv_iload hx hb dX8_echoNow_112 (lv_at hl 3 rfl) ?_
    exact hend _ _ _ _ _ h hP hD hS dX8_echoNow_114
  rw [mX8_echoNow] at h
  refine lv_aload_n hx hb dX8_echoNow_0 rfl (lv_at hl 0 rfl) ?_
  refine lv_aload_n hx hb dX8_echoNow_1 rfl (lv_at hl 0 rfl) ?_
  refine va_get (D := (dC, dI)) (ci := 9) (v := .ref (q 23)) (C := RX8) (T := TX8) (N := 29) hx hb hts hinX8 hown hK hP 22 rfl rfl 5 (by decide) (hts (.fieldLink RX8 7 "CableTesterModel" "wires" "[I") (mm 1 rfl)) (fun _ h9 => h9) rfl dX8_echoNow_2 ?_
  refine lv_iload_n hx hb dX8_echoNow_5 rfl (lv_at hl 1 rfl) ?_
  obtain ⟨g1, h⟩ := gd h
  refine va_iald (D := (dC, dI)) hx hb hK hP 23 12 rfl rfl (inb_ok g1) dX8_echoNow_6 ?_
  obtain ⟨r2, e3, h⟩ := bo h
  refine caVR_i (As := [.int (M.2.1 23 x1.toNatClampNeg)]) (rest := []) (ctX8_event l dC dI cq q S M o _ _ _ _ e3) F (cwV 1 hts gX8_echoNow_X8_event rfl rfl rfl hdX8_event ⟨Nat.le_of_ble_eq_true rfl, Nat.le_of_ble_eq_true rfl⟩) hK hP hD hDm hS hA (fun _ _ _ _ _ => trivial) (fun _ _ _ => trivial) (va_recv hK hP (ci := 9) (q0 := 22) rfl rfl) rfl hl.1 rfl (Nat.le_of_ble_eq_true rfl) dX8_echoNow_7 ⟨Nat.zero_le _, Nat.zero_le _⟩ (fun H locs hP hD hS => ?_)
  refine lv_istore_n (lv' := [(3, .int r2), (0, .ref (q 22)), (1, .int x1), (2, .int x2)]) hx hb dX8_echoNow_10 rfl hl (by decide) rfl (fun ls hl => ?_)
  refine lv_iload_n hx hb dX8_echoNow_11 rfl (lv_at hl 0 rfl) ?_
  refine lv_iconst (v := (2 : Int32)) hx hb dX8_echoNow_12 (by decide) ?_
  refine lv_idiv hx hb dX8_echoNow_13 (by decide) ?_
  refine lv_istore (lv' := [(4, .int (r2 / (2 : Int32))), (3, .int r2), (0, .ref (q 22)), (1, .int x1), (2, .int x2)]) hx hb dX8_echoNow_14 hl (by decide) rfl (fun ls hl => ?_)
  refine lv_sipush (v := (400 : Int32)) hx hb dX8_echoNow_16 (by decide) ?_
  refine lv_iload hx hb dX8_echoNow_19 (lv_at hl 0 rfl) ?_
  refine lv_imul hx hb dX8_echoNow_21 ?_
  refine lv_iconst (v := (3 : Int32)) hx hb dX8_echoNow_22 (by decide) ?_
  refine lv_aload_n hx hb dX8_echoNow_23 rfl (lv_at hl 2 rfl) ?_
  refine va_get (D := (dC, dI)) (ci := 9) (v := .int (M.1 2)) (C := RX8) (T := TX8) (N := 29) hx hb hts hinX8 hown hK hP 22 rfl rfl 2 (by decide) (hts (.fieldLink RX8 55 "CableTesterModel" "velocity" "I") (mm 2 rfl)) (fun _ h9 => h9) rfl dX8_echoNow_24 ?_
  refine lv_imul hx hb dX8_echoNow_27 ?_
  refine lv_iadd hx hb dX8_echoNow_28 ?_
  refine lv_bipush (v := (6 : Int32)) hx hb dX8_echoNow_29 (by decide) ?_
  refine lv_aload_n hx hb dX8_echoNow_31 rfl (lv_at hl 2 rfl) ?_
  refine va_get (D := (dC, dI)) (ci := 9) (v := .int (M.1 2)) (C := RX8) (T := TX8) (N := 29) hx hb hts hinX8 hown hK hP 22 rfl rfl 2 (by decide) (hts (.fieldLink RX8 55 "CableTesterModel" "velocity" "I") (mm 2 rfl)) (fun _ h9 => h9) rfl dX8_echoNow_32 ?_
  refine lv_imul hx hb dX8_echoNow_35 ?_
  obtain ⟨g4, h⟩ := gd h
  refine lv_idiv hx hb dX8_echoNow_36 g4 ?_
  refine lv_istore (lv' := [(5, .int ((((400 : Int32) * (r2 / (2 : Int32))) + ((3 : Int32) * (M.1 2))) / ((6 : Int32) * (M.1 2)))), (4, .int (r2 / (2 : Int32))), (3, .int r2), (0, .ref (q 22)), (1, .int x1), (2, .int x2)]) hx hb dX8_echoNow_37 hl (by decide) rfl (fun ls hl => ?_)
  refine lv_iload hx hb dX8_echoNow_39 (lv_at hl 1 rfl) ?_
  refine lv_aload_n hx hb dX8_echoNow_41 rfl (lv_at hl 3 rfl) ?_
  refine va_get (D := (dC, dI)) (ci := 9) (v := .int (M.1 1)) (C := RX8) (T := TX8) (N := 29) hx hb hts hinX8 hown hK hP 22 rfl rfl 1 (by decide) (hts (.fieldLink RX8 52 "CableTesterModel" "length" "I") (mm 3 rfl)) (fun _ h9 => h9) rfl dX8_echoNow_42 ?_
  refine lv_icmp_ne (tgt := 57) hx hb dX8_echoNow_45 (by decide) (fun c5 => ?_) (fun c5 => ?_)
  · replace h := ie c5 h
    exact hj57 _ _ _ _ _ _ _ hP hD hS (lv_sub hl [3, 5, 2, 1, 0] rfl) h
  · replace h := it c5 h
    refine lv_aload_n hx hb dX8_echoNow_48 rfl (lv_at hl 3 rfl) ?_
    refine va_get (D := (dC, dI)) (ci := 9) (v := .int (M.1 3)) (C := RX8) (T := TX8) (N := 29) hx hb hts hinX8 hown hK hP 22 rfl rfl 3 (by decide) (hts (.fieldLink RX8 58 "CableTesterModel" "remote" "I") (mm 4 rfl)) (fun _ h9 => h9) rfl dX8_echoNow_49 ?_
    refine lv_if_le (tgt := 57) hx hb dX8_echoNow_52 (by decide) (fun c9 => ?_) (fun c9 => ?_)
    · replace h := it c9 h
      exact hj57 _ _ _ _ _ _ _ hP hD hS (lv_sub hl [3, 5, 2, 1, 0] rfl) h
    · replace h := ie c9 h
      refine lv_iconst (v := (-1 : Int32)) hx hb dX8_echoNow_55 (by decide) ?_
      exact hend _ _ _ _ _ h hP hD hS dX8_echoNow_56
def mX8_echo_26 (n : Nat)  (M : MS) (x1 : Int32) (x2 : Int32) (t0 : Int32) : Option (Int32 × MS) :=
  (if ((sG M 0 t0).1 0) ≤ (0 : Int32) then (bn (mX8_echoNow n (sG M 0 t0) x1 x2) fun r8 => (some (r8, (sG M 0 t0)))) else (some ((0 : Int32), (sG M 0 t0))))
def mX8_echo (n : Nat) (M : MS) (x1 : Int32) (x2 : Int32) : Option (Int32 × MS) :=
  (bn (mX8_isWire x1) fun r1 => (if r1 = (0 : Int32) then (mX8_echo_26 n M x1 x2 (1 : Int32)) else (bn (mX8_within x2 (0 : Int32) (3 : Int32)) fun r4 => (if r4 = (0 : Int32) then (mX8_echo_26 n M x1 x2 (2 : Int32)) else (mX8_echo_26 n M x1 x2 (0 : Int32))))))
abbrev rmX8_echo : Room := { frames := 4, cells := 0, slots := 0, locals := 94 }
theorem hdX8_echo : yX8_echo.cls = RX8 ∧ yX8_echo.cls ≠ "java/lang/invoke/MethodHandle" ∧ yX8_echo.cls ≠ "java/lang/invoke/VarHandle" ∧ (parseMethodDescriptor yX8_echo.desc).map (fun d => d.parameters.length) = some 2 := by decide +kernel
set_option maxRecDepth 100000 in
set_option maxHeartbeats 8000000 in
theorem ctX8_echo (l : Launch) (dC : Nat → ClassId) (dI : Nat → Nat → Nat) (cq : Nat → ClassId) (q : Nat → Nat) (S : CS) (M : MS) (o : Nat → Int64) (sz : Nat) (n : Nat) (x1 : Int32) (x2 : Int32) (rr : Int32) (MM : MS) (h : mX8_echo n M x1 x2 = some (rr, MM)) : CtM_i l yX8_echo wsX8_echo rmX8_echo (fun _ => True) (fun _ => True) dC dI cq q S M o sz [.ref (q 22), .int x1, .int x2] rr MM := by
  refine enM_i (cc := cX8_echo) (maxL := 3) (by decide) rfl (Nat.le_of_ble_eq_true rfl) (fun p e s m args below meth c A Q ls F hA hP hK hD hDm hX hS hl hend => ?_)
  obtain ⟨hx, hb, hml, hown, hts⟩ := id F
  have hown : s.vm.findClass RX8 = some m.cls := hown
  have F : CallFix p m c cX8_echo 3 s args wsX8_echo RX8 := F
  have hl : lv_has ls 3 [(0, .ref (q 22)), (1, .int x1), (2, .int x2)] := hl
  have hinX8 : ∀ w ∈ u_ws RX8 TX8 29, w ∈ wsX8_echo := fun w h => List.mem_cons_of_mem _ (List.mem_append_right _ h)
  have hj26 : ∀ (M : MS) (x1 : Int32) (x2 : Int32) (t0 : Int32)  (H : Heap) (locs : List Loc) (ls : Array Slot), va_P (dC, dI) vwCl (wA cq q S M o) H → va_D A (wA cq q S M o) → va_S A s.heap H locs → lv_has ls 3 [(0, .ref (q 22)), (1, .int x1), (2, .int x2)] → mX8_echo_26 n M x1 x2 t0 = some (rr, MM) → W p l e rmX8_echo s m args below meth c H locs 0 0 Q (F0 m 26 ls [.int t0, .ref (q 22)]) := by
    intro M x1 x2 t0 H locs ls hP hD hS hl h
    rw [mX8_echo_26] at h
    refine pt_22_0 F hinX8 (hts (.fieldLink RX8 44 "CableTesterModel" "thrown" "I") (mm 1 rfl)) hK hP hD hS dX8_echo_26 (fun H locs hP hD hS => ?_)
    refine lv_aload_n hx hb dX8_echo_29 rfl (lv_at hl 0 rfl) ?_
    refine va_get (D := (dC, dI)) (ci := 9) (v := .int ((sG M 0 t0).1 0)) (C := RX8) (T := TX8) (N := 29) hx hb hts hinX8 hown hK hP 22 rfl rfl 0 (by decide) (hts (.fieldLink RX8 44 "CableTesterModel" "thrown" "I") (mm 1 rfl)) (fun _ h9 => h9) rfl dX8_echo_30 ?_
    refine lv_if_le (tgt := 40) hx hb dX8_echo_33 (by decide) (fun c7 => ?_) (fun c7 => ?_)
    · replace h := it c7 h
      refine lv_aload_n hx hb dX8_echo_40 rfl (lv_at hl 0 rfl) ?_
      refine lv_iload_n hx hb dX8_echo_41 rfl (lv_at hl 1 rfl) ?_
      refine lv_iload_n hx hb dX8_echo_42 rfl (lv_at hl 2 rfl) ?_
      obtain ⟨r8, e9, h⟩ := bo h
      refine caVR_i (As := [.int x1, .int x2]) (rest := []) (ctX8_echoNow l dC dI cq q S (sG M 0 t0) o _ _ _ _ _ e9) F (cwV 2 hts gX8_echo_X8_echoNow rfl rfl rfl hdX8_echoNow ⟨Nat.le_of_ble_eq_true rfl, Nat.le_of_ble_eq_true rfl⟩) hK hP hD hDm hS hA (fun _ _ _ _ _ => trivial) (fun _ _ _ => trivial) (va_recv hK hP (ci := 9) (q0 := 22) rfl rfl) rfl hl.1 rfl (Nat.le_of_ble_eq_true rfl) dX8_echo_43 ⟨Nat.zero_le _, Nat.zero_le _⟩ (fun H locs hP hD hS => ?_)
      exact hend _ _ _ _ _ _ h hP hD hS dX8_echo_46
    · replace h := ie c7 h
      refine lv_iconst (v := (0 : Int32)) hx hb dX8_echo_36 (by decide) ?_
      refine lv_goto (tgt := 46) hx hb dX8_echo_37 (by decide) ?_
      exact hend _ _ _ _ _ _ h hP hD hS dX8_echo_46
  rw [mX8_echo] at h
  refine lv_aload_n hx hb dX8_echo_0 rfl (lv_at hl 0 rfl) ?_
  refine lv_iload_n hx hb dX8_echo_1 rfl (lv_at hl 1 rfl) ?_
  obtain ⟨r1, e2, h⟩ := bo h
  refine caSR_i (As := [.int x1]) (rest := [.ref (q 22)]) (ctX8_isWire l dC dI cq q S M o _ _ _ e2) F (va_cwS 1 hts gX8_echo_X8_isWire rfl rfl rfl hdX8_isWire ⟨Nat.le_of_ble_eq_true rfl, Nat.le_of_ble_eq_true rfl⟩) hK hP hD hDm hS hA (fun _ _ _ _ _ => trivial) (fun _ _ _ => trivial) rfl hl.1 rfl (Nat.le_of_ble_eq_true rfl) dX8_echo_2 ⟨Nat.zero_le _, Nat.zero_le _⟩ (fun H locs hP hD hS => ?_)
  refine lv_if_ne (tgt := 12) hx hb dX8_echo_5 (by decide) (fun c3 => ?_) (fun c3 => ?_)
  · replace h := ie c3 h
    refine lv_iload_n hx hb dX8_echo_12 rfl (lv_at hl 2 rfl) ?_
    refine lv_iconst (v := (0 : Int32)) hx hb dX8_echo_13 (by decide) ?_
    refine lv_iconst (v := (3 : Int32)) hx hb dX8_echo_14 (by decide) ?_
    obtain ⟨r4, e5, h⟩ := bo h
    refine caSR_i (As := [.int x2, .int (0 : Int32), .int (3 : Int32)]) (rest := [.ref (q 22)]) (ctX8_within l dC dI cq q S M o _ _ _ _ _ e5) F (va_cwS 3 hts gX8_echo_X8_within rfl rfl rfl hdX8_within ⟨Nat.le_of_ble_eq_true rfl, Nat.le_of_ble_eq_true rfl⟩) hK hP hD hDm hS hA (fun _ _ _ _ _ => trivial) (fun _ _ _ => trivial) rfl hl.1 rfl (Nat.le_of_ble_eq_true rfl) dX8_echo_15 ⟨Nat.zero_le _, Nat.zero_le _⟩ (fun H locs hP hD hS => ?_)
    refine lv_if_eq (tgt := 25) hx hb dX8_echo_18 (by decide) (fun c6 => ?_) (fun c6 => ?_)
    · replace h := it c6 h
      refine lv_iconst (v := (2 : Int32)) hx hb dX8_echo_25 (by decide) ?_
      exact hj26 _ _ _ _ _ _ _ hP hD hS (lv_sub hl [0, 1, 2] rfl) h
    · replace h := ie c6 h
      refine lv_iconst (v := (0 : Int32)) hx hb dX8_echo_21 (by decide) ?_
      refine lv_goto (tgt := 26) hx hb dX8_echo_22 (by decide) ?_
      exact hj26 _ _ _ _ _ _ _ hP hD hS (lv_sub hl [0, 1, 2] rfl) h
  · replace h := it c3 h
    refine lv_iconst (v := (1 : Int32)) hx hb dX8_echo_8 (by decide) ?_
    refine lv_goto (tgt := 26) hx hb dX8_echo_9 (by decide) ?_
    exact hj26 _ _ _ _ _ _ _ hP hD hS (lv_sub hl [0, 1, 2] rfl) h
def mX8_talk_64 (n : Nat) (K7 : Int32 → Int32 → Option (Int32)) (K27 : Int32 → Int32 → Option (Int32)) (M : MS) (x1 : Int32) (x2 : Int32) (x4 : Int32) (x5 : Int32) (t0 : Int32) (t1 : Int32) : Option (Int32) :=
  (K27 (t1 + t0) (x5 + (1 : Int32)))
def mX8_talk_27 (n : Nat) (K7 : Int32 → Int32 → Option (Int32)) (M : MS) (x1 : Int32) (x2 : Int32) (x4 : Int32) : Nat → Int32 → Int32 → Option (Int32)
  | 0, _, _ => none
  | k + 1, x3, x5 => (if (((2 : Int32) * x2) + (2 : Int32)) ≤ x5 then (K7 x3 (x4 + (1 : Int32))) else (if inb x4 16 then (if inb x5 16 then (if ((M.2.1 23 x4.toNatClampNeg) / (2 : Int32)) = ((M.2.1 23 x5.toNatClampNeg) / (2 : Int32)) then (mX8_talk_64 n (K7) (mX8_talk_27 n K7 M x1 x2 x4 k) M x1 x2 x4 x5 (1 : Int32) x3) else (mX8_talk_64 n (K7) (mX8_talk_27 n K7 M x1 x2 x4 k) M x1 x2 x4 x5 (0 : Int32) x3)) else none) else none))
def mX8_talk_7 (n : Nat)  (M : MS) (x1 : Int32) (x2 : Int32) : Nat → Int32 → Int32 → Option (Int32)
  | 0, _, _ => none
  | k + 1, x3, x4 => (if (((2 : Int32) * x1) + (2 : Int32)) ≤ x4 then (some x3) else (if x1 = x2 then (some x3) else (mX8_talk_27 n (mX8_talk_7 n M x1 x2 k) M x1 x2 x4 n x3 ((2 : Int32) * x2))))
def mX8_talk (n : Nat) (M : MS) (x1 : Int32) (x2 : Int32) : Option (Int32) :=
  (mX8_talk_7 n M x1 x2 n (0 : Int32) ((2 : Int32) * x1))
abbrev rmX8_talk : Room := { frames := 0, cells := 0, slots := 0, locals := 0 }
theorem hdX8_talk : yX8_talk.cls = RX8 ∧ yX8_talk.cls ≠ "java/lang/invoke/MethodHandle" ∧ yX8_talk.cls ≠ "java/lang/invoke/VarHandle" ∧ (parseMethodDescriptor yX8_talk.desc).map (fun d => d.parameters.length) = some 2 := by decide +kernel
set_option maxRecDepth 100000 in
set_option maxHeartbeats 8000000 in
theorem ctX8_talk (l : Launch) (dC : Nat → ClassId) (dI : Nat → Nat → Nat) (cq : Nat → ClassId) (q : Nat → Nat) (S : CS) (M : MS) (o : Nat → Int64) (sz : Nat) (n : Nat) (x1 : Int32) (x2 : Int32) (rr : Int32) (h : mX8_talk n M x1 x2 = some rr) : CtR_i l yX8_talk wsX8_talk rmX8_talk (fun _ => True) (fun _ => True) dC dI cq q S M o sz [.ref (q 22), .int x1, .int x2] rr := by
  refine enR_i (cc := cX8_talk) (maxL := 6) (by decide) rfl (Nat.le_of_ble_eq_true rfl) (fun p e s m args below meth c A Q ls F hA hP hK hD hDm hX hS hl hend => ?_)
  obtain ⟨hx, hb, hml, hown, hts⟩ := id F
  have hown : s.vm.findClass RX8 = some m.cls := hown
  have F : CallFix p m c cX8_talk 6 s args wsX8_talk RX8 := F
  have hl : lv_has ls 6 [(0, .ref (q 22)), (1, .int x1), (2, .int x2)] := hl
  have hinX8 : ∀ w ∈ u_ws RX8 TX8 29, w ∈ wsX8_talk := fun w h => List.mem_cons_of_mem _ (List.mem_append_right _ h)
  have hj64 : ∀  (x1 : Int32) (x2 : Int32) (x4 : Int32) (x5 : Int32) (t0 : Int32) (t1 : Int32) (K7 : Int32 → Int32 → Option (Int32)) (hK7 : ∀ (y3 : Int32) (y4 : Int32) (H : Heap) (locs : List Loc) (ls : Array Slot), va_P (dC, dI) vwCl (wA cq q S M o) H → va_D A (wA cq q S M o) → va_S A s.heap H locs → lv_has ls 6 [(0, .ref (q 22)), (1, .int x1), (2, .int x2), (3, .int y3), (4, .int y4)] → K7 y3 y4 = some rr → W p l e rmX8_talk s m args below meth c H locs 0 0 Q (F0 m 7 ls [])) (K27 : Int32 → Int32 → Option (Int32)) (hK27 : ∀ (y3 : Int32) (y5 : Int32) (H : Heap) (locs : List Loc) (ls : Array Slot), va_P (dC, dI) vwCl (wA cq q S M o) H → va_D A (wA cq q S M o) → va_S A s.heap H locs → lv_has ls 6 [(0, .ref (q 22)), (1, .int x1), (2, .int x2), (3, .int y3), (4, .int x4), (5, .int y5)] → K27 y3 y5 = some rr → W p l e rmX8_talk s m args below meth c H locs 0 0 Q (F0 m 27 ls [])) (H : Heap) (locs : List Loc) (ls : Array Slot), va_P (dC, dI) vwCl (wA cq q S M o) H → va_D A (wA cq q S M o) → va_S A s.heap H locs → lv_has ls 6 [(0, .ref (q 22)), (1, .int x1), (2, .int x2), (4, .int x4), (5, .int x5)] → mX8_talk_64 n K7 K27 M x1 x2 x4 x5 t0 t1 = some rr → W p l e rmX8_talk s m args below meth c H locs 0 0 Q (F0 m 64 ls [.int t0, .int t1]) := by
    intro x1 x2 x4 x5 t0 t1 K7 hK7 K27 hK27 H locs ls hP hD hS hl h
    rw [mX8_talk_64] at h
    refine lv_iadd hx hb dX8_talk_64 ?_
    refine lv_istore_n (lv' := [(3, .int (t1 + t0)), (0, .ref (q 22)), (1, .int x1), (2, .int x2), (4, .int x4), (5, .int x5)]) hx hb dX8_talk_65 rfl hl (by decide) rfl (fun ls hl => ?_)
    refine lv_iinc (v := (x5 + (1 : Int32))) (lv' := [(5, .int (x5 + (1 : Int32))), (3, .int (t1 + t0)), (0, .ref (q 22)), (1, .int x1), (2, .int x2), (4, .int x4)]) hx hb dX8_talk_66 hl (k := 5) rfl rfl (by decide) rfl (fun ls hl => ?_)
    refine lv_goto (tgt := 27) hx hb dX8_talk_69 (by decide) ?_
    exact hK27 _ _ _ _ _ hP hD hS (lv_sub hl [2, 3, 4, 1, 5, 0] rfl) h
  have hL27 : ∀ (x1 : Int32) (x2 : Int32) (x4 : Int32) (K7 : Int32 → Int32 → Option (Int32)) (hK7 : ∀ (y3 : Int32) (y4 : Int32) (H : Heap) (locs : List Loc) (ls : Array Slot), va_P (dC, dI) vwCl (wA cq q S M o) H → va_D A (wA cq q S M o) → va_S A s.heap H locs → lv_has ls 6 [(0, .ref (q 22)), (1, .int x1), (2, .int x2), (3, .int y3), (4, .int y4)] → K7 y3 y4 = some rr → W p l e rmX8_talk s m args below meth c H locs 0 0 Q (F0 m 7 ls [])) (k : Nat)  (x3 : Int32) (x5 : Int32) (H : Heap) (locs : List Loc) (ls : Array Slot), va_P (dC, dI) vwCl (wA cq q S M o) H → va_D A (wA cq q S M o) → va_S A s.heap H locs → lv_has ls 6 [(0, .ref (q 22)), (1, .int x1), (2, .int x2), (3, .int x3), (4, .int x4), (5, .int x5)] → mX8_talk_27 n K7 M x1 x2 x4 k x3 x5 = some rr → W p l e rmX8_talk s m args below meth c H locs 0 0 Q (F0 m 27 ls []) := by
    intro x1 x2 x4 K7 hK7
    intro k
    induction k with
    | zero =>
      intro x3 x5 H locs ls hP hD hS hl h
      rw [mX8_talk_27] at h
      cases h
    | succ k ih =>
      intro x3 x5 H locs ls hP hD hS hl h
      rw [mX8_talk_27] at h
      refine lv_iload hx hb dX8_talk_27 (lv_at hl 5 rfl) ?_
      refine lv_iconst (v := (2 : Int32)) hx hb dX8_talk_29 (by decide) ?_
      refine lv_iload_n hx hb dX8_talk_30 rfl (lv_at hl 2 rfl) ?_
      refine lv_imul hx hb dX8_talk_31 ?_
      refine lv_iconst (v := (2 : Int32)) hx hb dX8_talk_32 (by decide) ?_
      refine lv_iadd hx hb dX8_talk_33 ?_
      refine lv_icmp_ge (tgt := 72) hx hb dX8_talk_34 (by decide) (fun c3 => ?_) (fun c3 => ?_)
      · replace h := it c3 h
        refine lv_iinc (v := (x4 + (1 : Int32))) (lv' := [(4, .int (x4 + (1 : Int32))), (0, .ref (q 22)), (1, .int x1), (2, .int x2), (3, .int x3), (5, .int x5)]) hx hb dX8_talk_72 hl (k := 4) rfl rfl (by decide) rfl (fun ls hl => ?_)
        refine lv_goto (tgt := 7) hx hb dX8_talk_75 (by decide) ?_
        exact hK7 _ _ _ _ _ hP hD hS (lv_sub hl [1, 2, 3, 4, 0] rfl) h
      · replace h := ie c3 h
        refine lv_iload_n hx hb dX8_talk_37 rfl (lv_at hl 3 rfl) ?_
        refine lv_aload_n hx hb dX8_talk_38 rfl (lv_at hl 0 rfl) ?_
        refine va_get (D := (dC, dI)) (ci := 9) (v := .ref (q 23)) (C := RX8) (T := TX8) (N := 29) hx hb hts hinX8 hown hK hP 22 rfl rfl 5 (by decide) (hts (.fieldLink RX8 7 "CableTesterModel" "wires" "[I") (mm 1 rfl)) (fun _ h9 => h9) rfl dX8_talk_39 ?_
        refine lv_iload hx hb dX8_talk_42 (lv_at hl 4 rfl) ?_
        obtain ⟨g4, h⟩ := gd h
        refine va_iald (D := (dC, dI)) hx hb hK hP 23 12 rfl rfl (inb_ok g4) dX8_talk_44 ?_
        refine lv_iconst (v := (2 : Int32)) hx hb dX8_talk_45 (by decide) ?_
        refine lv_idiv hx hb dX8_talk_46 (by decide) ?_
        refine lv_aload_n hx hb dX8_talk_47 rfl (lv_at hl 0 rfl) ?_
        refine va_get (D := (dC, dI)) (ci := 9) (v := .ref (q 23)) (C := RX8) (T := TX8) (N := 29) hx hb hts hinX8 hown hK hP 22 rfl rfl 5 (by decide) (hts (.fieldLink RX8 7 "CableTesterModel" "wires" "[I") (mm 1 rfl)) (fun _ h9 => h9) rfl dX8_talk_48 ?_
        refine lv_iload hx hb dX8_talk_51 (lv_at hl 5 rfl) ?_
        obtain ⟨g5, h⟩ := gd h
        refine va_iald (D := (dC, dI)) hx hb hK hP 23 12 rfl rfl (inb_ok g5) dX8_talk_53 ?_
        refine lv_iconst (v := (2 : Int32)) hx hb dX8_talk_54 (by decide) ?_
        refine lv_idiv hx hb dX8_talk_55 (by decide) ?_
        refine lv_icmp_ne (tgt := 63) hx hb dX8_talk_56 (by decide) (fun c6 => ?_) (fun c6 => ?_)
        · replace h := ie c6 h
          refine lv_iconst (v := (0 : Int32)) hx hb dX8_talk_63 (by decide) ?_
          exact hj64 _ _ _ _ _ _ _ hK7 _ ih _ _ _ hP hD hS (lv_sub hl [0, 1, 2, 4, 5] rfl) h
        · replace h := it c6 h
          refine lv_iconst (v := (1 : Int32)) hx hb dX8_talk_59 (by decide) ?_
          refine lv_goto (tgt := 64) hx hb dX8_talk_60 (by decide) ?_
          exact hj64 _ _ _ _ _ _ _ hK7 _ ih _ _ _ hP hD hS (lv_sub hl [0, 1, 2, 4, 5] rfl) h
  have hL7 : ∀ (x1 : Int32) (x2 : Int32)  (k : Nat)  (x3 : Int32) (x4 : Int32) (H : Heap) (locs : List Loc) (ls : Array Slot), va_P (dC, dI) vwCl (wA cq q S M o) H → va_D A (wA cq q S M o) → va_S A s.heap H locs → lv_has ls 6 [(0, .ref (q 22)), (1, .int x1), (2, .int x2), (3, .int x3), (4, .int x4)] → mX8_talk_7 n M x1 x2 k x3 x4 = some rr → W p l e rmX8_talk s m args below meth c H locs 0 0 Q (F0 m 7 ls []) := by
    intro x1 x2
    intro k
    induction k with
    | zero =>
      intro x3 x4 H locs ls hP hD hS hl h
      rw [mX8_talk_7] at h
      cases h
    | succ k ih =>
      intro x3 x4 H locs ls hP hD hS hl h
      rw [mX8_talk_7] at h
      refine lv_iload hx hb dX8_talk_7 (lv_at hl 4 rfl) ?_
      refine lv_iconst (v := (2 : Int32)) hx hb dX8_talk_9 (by decide) ?_
      refine lv_iload_n hx hb dX8_talk_10 rfl (lv_at hl 1 rfl) ?_
      refine lv_imul hx hb dX8_talk_11 ?_
      refine lv_iconst (v := (2 : Int32)) hx hb dX8_talk_12 (by decide) ?_
      refine lv_iadd hx hb dX8_talk_13 ?_
      refine lv_icmp_ge (tgt := 78) hx hb dX8_talk_14 (by decide) (fun c1 => ?_) (fun c1 => ?_)
      · replace h := it c1 h
        refine lv_iload_n hx hb dX8_talk_78 rfl (lv_at hl 3 rfl) ?_
        exact hend _ _ _ _ _ h hP hD hS dX8_talk_79
      · replace h := ie c1 h
        refine lv_iload_n hx hb dX8_talk_17 rfl (lv_at hl 1 rfl) ?_
        refine lv_iload_n hx hb dX8_talk_18 rfl (lv_at hl 2 rfl) ?_
        refine lv_icmp_eq (tgt := 78) hx hb dX8_talk_19 (by decide) (fun c2 => ?_) (fun c2 => ?_)
        · replace h := it c2 h
          refine lv_iload_n hx hb dX8_talk_78 rfl (lv_at hl 3 rfl) ?_
          exact hend _ _ _ _ _ h hP hD hS dX8_talk_79
        · replace h := ie c2 h
          refine lv_iconst (v := (2 : Int32)) hx hb dX8_talk_22 (by decide) ?_
          refine lv_iload_n hx hb dX8_talk_23 rfl (lv_at hl 2 rfl) ?_
          refine lv_imul hx hb dX8_talk_24 ?_
          refine lv_istore (lv' := [(5, .int ((2 : Int32) * x2)), (0, .ref (q 22)), (1, .int x1), (2, .int x2), (3, .int x3), (4, .int x4)]) hx hb dX8_talk_25 hl (by decide) rfl (fun ls hl => ?_)
          exact hL27 _ _ _ _ ih _ _ _ _ _ _ hP hD hS (lv_sub hl [1, 2, 3, 4, 5, 0] rfl) h
  rw [mX8_talk] at h
  refine lv_iconst (v := (0 : Int32)) hx hb dX8_talk_0 (by decide) ?_
  refine lv_istore_n (lv' := [(3, .int (0 : Int32)), (0, .ref (q 22)), (1, .int x1), (2, .int x2)]) hx hb dX8_talk_1 rfl hl (by decide) rfl (fun ls hl => ?_)
  refine lv_iconst (v := (2 : Int32)) hx hb dX8_talk_2 (by decide) ?_
  refine lv_iload_n hx hb dX8_talk_3 rfl (lv_at hl 2 rfl) ?_
  refine lv_imul hx hb dX8_talk_4 ?_
  refine lv_istore (lv' := [(4, .int ((2 : Int32) * x1)), (3, .int (0 : Int32)), (0, .ref (q 22)), (1, .int x1), (2, .int x2)]) hx hb dX8_talk_5 hl (by decide) rfl (fun ls hl => ?_)
  exact hL7 _ _ _ _ _ _ _ _ hP hD hS (lv_sub hl [2, 3, 4, 1, 0] rfl) h
