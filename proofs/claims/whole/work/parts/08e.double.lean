abbrev CtD (l : Launch) (y : MethodName) (ws : List Cond) (rm : Room) (Dm : Nat → Prop) (X : State → Prop) (dC : Nat → ClassId) (dI : Nat → Nat → Nat) (cq : Nat → ClassId) (q : Nat → Nat) (S : CS) (M : MS) (o : Nat → Int64) (sz : Nat) (av : List Value) (v : UInt64) (u1 : CS × MS) : Prop := MetD lw_cs l y ws rm (PreX Dm X dC dI cq q S M o sz av) (va_Qd (fun (r : UInt64) (u : CS × MS) => alike64 r v = true ∧ u = u1) (fun u t => Bk dC dI cq q (va_A (wA cq q S M o) sz) u.1 u.2 o t) (va_A (wA cq q S M o) sz)) 0 0 (va_A (wA cq q S M o) sz)
theorem enD {l : Launch} {dC : Nat → ClassId} {dI : Nat → Nat → Nat} {cq : Nat → ClassId} {q : Nat → Nat} {S : CS} {M : MS} {o : Nat → Int64} {y : MethodName} {ws ws' : List Cond} {cc : ByteArray} {maxL : Nat} {rm : Room} {Dm : Nat → Prop} {X : State → Prop} {sz : Nat} {av : List Value} {v : UInt64} {u1 : CS × MS} (hy : plainName y.cls = true) (hw : ws = Cond.code y cc maxL (some .double) :: ws') (hlen : (lg_sl av).length ≤ maxL)
    (body : ∀ (p : Program) (e : Env) (s : State) (m : MethodId) (args : Array Value) (below : List Frame) (meth : Method) (c : Code) (A : Nat → Prop) (Q : State → Prop) (ls : Array Slot), CallFix p m c cc maxL s args ws y.cls → (∀ a, s.heap.size ≤ a → A a) → va_P (dC, dI) vwCl (wA cq q S M o) s.heap → va_K (dC, dI) vwCl (tyA cq) s → va_D A (wA cq q S M o) → (∀ a, A a → Dm a) → X s → va_S A s.heap s.heap [] → lv_has ls maxL (lv_args 0 av) →
      (∀ (H : Heap) (locs : List Loc) (r : UInt64) (pc : Nat) (ls : Array Slot) (d : Drawn), s.drawn.sameBut d lw_cs → alike64 r v = true → va_P (dC, dI) vwCl (wA cq q u1.1 u1.2 o) H → va_D A (wA cq q u1.1 u1.2 o) → va_S A s.heap H locs → decode cc pc = .ok (.dreturn, 1) → W p l e rm (s.setDrawn d) m args below meth c H locs 0 0 Q (F0 m pc ls [.double r])) →
      W p l e rm s m args below meth c s.heap [] 0 0 Q (F0 m 0 ls [])) :
    CtD l y ws rm Dm X dC dI cq q S M o sz av v u1 := by
  refine MetD.ofW (cc := cc) (maxL := maxL) (ret := (some .double)) hy hw ?_
  intro p e s m args below meth c s₁ B hml hv hd0
  obtain ⟨rfl, hsz, hP, hK, hD0, hz0, hX⟩ := hv
  have hx := B.exec
  have hb := B.bytes
  have hr := B.returns
  have hts := atoms_spec (ws := ws) B.pre
  have hown : s.vm.findClass y.cls = some m.cls := findClass_of_methodNamed B.named
  have hlocks := B.notSynchronized
  subst hsz
  have hD := hD0.self (sz := s.heap.size)
  have hA : ∀ a : Nat, s.heap.size ≤ a → va_A (wA cq q S M o) s.heap.size a := fun a h => Or.inr h
  have hl := lv_entry av (n := maxL) hlen
  rw [lg_entry_eq]
  refine body p e s m _ below meth c _ _ _ ⟨hx, hb, hml, hown, hts⟩ hA hP hK hD (fun a h => h.elim (fun ⟨k, e, h⟩ => hD0.2 k (a, e) h) (fun h => hz0 a h)) hX va_S.rf hl ?_
  intro H locs r pc ls d hd hal hP hD hS hdg
  refine W.endD hd ?_
  exact W.dret hx hb hr (fun t ht hW => ⟨⟨r, u1, rfl, ⟨hal, rfl⟩, by rw [ht]; exact hP, va_K.moved hW.alike hK, hD⟩, hS.F ht⟩) hS.2.2 hdg
def mX4_shareOfWrong_13 (n : Nat)  (S : CS)  : Nat → Int32 → Int32 → Option (UInt64)
  | 0, _, _ => none
  | k + 1, x1, x2 => (if (8 : Int32) ≤ x2 then (some (FP.ddiv (FP.i2d x1) (FP.i2d ((8 : Int32) * (S.1 9))))) else (bn (mX4_timesWrong S x2) fun r3 => (mX4_shareOfWrong_13 n S k (x1 + r3) (x2 + (1 : Int32)))))
def mX4_shareOfWrong (n : Nat) (S : CS) : Option (UInt64) :=
  (if (0 : Int32) < (S.1 9) then (mX4_shareOfWrong_13 n S n (0 : Int32) (0 : Int32)) else (some FP.dconst0))
abbrev rmX4_shareOfWrong : Room := { frames := 2, cells := 0, slots := 0, locals := 42 }
theorem hdX4_shareOfWrong : yX4_shareOfWrong.cls = RX4 ∧ yX4_shareOfWrong.cls ≠ "java/lang/invoke/MethodHandle" ∧ yX4_shareOfWrong.cls ≠ "java/lang/invoke/VarHandle" ∧ (parseMethodDescriptor yX4_shareOfWrong.desc).map (fun d => d.parameters.length) = some 0 := by decide +kernel
set_option maxRecDepth 100000 in
set_option maxHeartbeats 8000000 in
theorem ctX4_shareOfWrong (l : Launch) (dC : Nat → ClassId) (dI : Nat → Nat → Nat) (cq : Nat → ClassId) (q : Nat → Nat) (S : CS) (M : MS) (o : Nat → Int64) (sz : Nat) (h0 : Nat) (n : Nat) (rr : UInt64) (h : mX4_shareOfWrong n S = some rr) : CtD l yX4_shareOfWrong wsX4_shareOfWrong rmX4_shareOfWrong (fun a => h0 ≤ a) (EV h0 q) dC dI cq q S M o sz [.ref (q 18)] rr (S, M) := by
  refine enD (cc := cX4_shareOfWrong) (maxL := 3) (by decide) rfl (Nat.le_of_ble_eq_true rfl) (fun p e s m args below meth c A Q ls F hA hP hK hD hDm hX hS hl hend => ?_)
  obtain ⟨hx, hb, hml, hown, hts⟩ := id F
  have hown : s.vm.findClass RX4 = some m.cls := hown
  have F : CallFix p m c cX4_shareOfWrong 3 s args wsX4_shareOfWrong RX4 := F
  have hl : lv_has ls 3 [(0, .ref (q 18))] := hl
  have hinX4 : ∀ w ∈ u_ws RX4 TX4 2, w ∈ wsX4_shareOfWrong := fun w h => List.mem_cons_of_mem _ (List.mem_append_right _ h)
  have hL13 : ∀   (k : Nat)  (x1 : Int32) (x2 : Int32) (H : Heap) (locs : List Loc) (ls : Array Slot), va_P (dC, dI) vwCl (wA cq q S M o) H → va_D A (wA cq q S M o) → va_S A s.heap H locs → lv_has ls 3 [(0, .ref (q 18)), (1, .int x1), (2, .int x2)] → mX4_shareOfWrong_13 n S k x1 x2 = some rr → W p l e rmX4_shareOfWrong s m args below meth c H locs 0 0 Q (F0 m 13 ls []) := by
    intro k
    induction k with
    | zero =>
      intro x1 x2 H locs ls hP hD hS hl h
      rw [mX4_shareOfWrong_13] at h
      cases h
    | succ k ih =>
      intro x1 x2 H locs ls hP hD hS hl h
      rw [mX4_shareOfWrong_13] at h
      refine lv_iload_n hx hb dX4_shareOfWrong_13 rfl (lv_at hl 2 rfl) ?_
      refine lv_bipush (v := (8 : Int32)) hx hb dX4_shareOfWrong_14 (by decide) ?_
      refine lv_icmp_ge (tgt := 33) hx hb dX4_shareOfWrong_16 (by decide) (fun c2 => ?_) (fun c2 => ?_)
      · replace h := it c2 h
        refine lv_iload_n hx hb dX4_shareOfWrong_33 rfl (lv_at hl 1 rfl) ?_
        refine lv_i2d hx hb dX4_shareOfWrong_34 ?_
        refine lv_bipush (v := (8 : Int32)) hx hb dX4_shareOfWrong_35 (by decide) ?_
        refine lv_aload_n hx hb dX4_shareOfWrong_37 rfl (lv_at hl 0 rfl) ?_
        refine va_get (D := (dC, dI)) (ci := 5) (v := .int (S.1 9)) (C := RX4) (T := TX4) (N := 2) hx hb hts hinX4 hown hK hP 18 rfl rfl 1 (by decide) (hts (.fieldLink RX4 15 "CableTester$History" "kept" "I") (mm 1 rfl)) (fun _ h9 => h9) rfl dX4_shareOfWrong_38 ?_
        refine lv_imul hx hb dX4_shareOfWrong_41 ?_
        refine lv_i2d hx hb dX4_shareOfWrong_42 ?_
        refine W.base ?_
        refine lv_ddiv_any (Drawn.sameBut.refl s.drawn lw_cs) lw_bits hx hb dX4_shareOfWrong_43 (fun r9 d9 hal hd9 => ?_)
        exact hend _ _ _ _ _ _ hd9 (by cases h; exact hal) (by cases h; exact hP) (by cases h; exact hD) hS dX4_shareOfWrong_44
      · replace h := ie c2 h
        refine lv_iload_n hx hb dX4_shareOfWrong_19 rfl (lv_at hl 1 rfl) ?_
        refine lv_aload_n hx hb dX4_shareOfWrong_20 rfl (lv_at hl 0 rfl) ?_
        refine lv_iload_n hx hb dX4_shareOfWrong_21 rfl (lv_at hl 2 rfl) ?_
        obtain ⟨r3, e4, h⟩ := bo h
        refine caVR_i (As := [.int x2]) (rest := [.int x1]) (ctX4_timesWrong l dC dI cq q S M o _ _ _ _ e4) F (cwV 1 hts gX4_shareOfWrong_X4_timesWrong rfl rfl rfl hdX4_timesWrong ⟨Nat.le_of_ble_eq_true rfl, Nat.le_of_ble_eq_true rfl⟩) hK hP hD hDm hS hA EV.blind (fun U hU hW => EV.call hX hS hDm hU hW) (va_recv hK hP (ci := 5) (q0 := 18) rfl rfl) rfl hl.1 rfl (Nat.le_of_ble_eq_true rfl) dX4_shareOfWrong_22 ⟨Nat.zero_le _, Nat.zero_le _⟩ (fun H locs hP hD hS => ?_)
        refine lv_iadd hx hb dX4_shareOfWrong_25 ?_
        refine lv_istore_n (lv' := [(1, .int (x1 + r3)), (0, .ref (q 18)), (2, .int x2)]) hx hb dX4_shareOfWrong_26 rfl hl (by decide) rfl (fun ls hl => ?_)
        refine lv_iinc (v := (x2 + (1 : Int32))) (lv' := [(2, .int (x2 + (1 : Int32))), (1, .int (x1 + r3)), (0, .ref (q 18))]) hx hb dX4_shareOfWrong_27 hl (k := 2) rfl rfl (by decide) rfl (fun ls hl => ?_)
        refine lv_goto (tgt := 13) hx hb dX4_shareOfWrong_30 (by decide) ?_
        exact ih _ _ _ _ _ hP hD hS (lv_sub hl [2, 1, 0] rfl) h
  rw [mX4_shareOfWrong] at h
  refine lv_aload_n hx hb dX4_shareOfWrong_0 rfl (lv_at hl 0 rfl) ?_
  refine va_get (D := (dC, dI)) (ci := 5) (v := .int (S.1 9)) (C := RX4) (T := TX4) (N := 2) hx hb hts hinX4 hown hK hP 18 rfl rfl 1 (by decide) (hts (.fieldLink RX4 15 "CableTester$History" "kept" "I") (mm 1 rfl)) (fun _ h9 => h9) rfl dX4_shareOfWrong_1 ?_
  refine lv_if_gt (tgt := 9) hx hb dX4_shareOfWrong_4 (by decide) (fun c1 => ?_) (fun c1 => ?_)
  · replace h := it c1 h
    refine lv_iconst (v := (0 : Int32)) hx hb dX4_shareOfWrong_9 (by decide) ?_
    refine lv_istore_n (lv' := [(1, .int (0 : Int32)), (0, .ref (q 18))]) hx hb dX4_shareOfWrong_10 rfl hl (by decide) rfl (fun ls hl => ?_)
    refine lv_iconst (v := (0 : Int32)) hx hb dX4_shareOfWrong_11 (by decide) ?_
    refine lv_istore_n (lv' := [(2, .int (0 : Int32)), (1, .int (0 : Int32)), (0, .ref (q 18))]) hx hb dX4_shareOfWrong_12 rfl hl (by decide) rfl (fun ls hl => ?_)
    exact hL13 _ _ _ _ _ _ hP hD hS (lv_sub hl [2, 1, 0] rfl) h
  · replace h := ie c1 h
    refine lv_dconst0 hx hb dX4_shareOfWrong_7 ?_
    refine W.base ?_
    exact hend _ _ _ _ _ _ (Drawn.sameBut.refl s.drawn lw_cs) (by cases h; exact alike64_refl _) (by cases h; exact hP) (by cases h; exact hD) hS dX4_shareOfWrong_8
def mX8_wrongShare_9 (n : Nat)   : Nat → MS → Int32 → Int32 → Option (UInt64 × MS)
  | 0, _, _, _ => none
  | k + 1, M, x1, x2 => (if (8 : Int32) ≤ x2 then (if (M.1 9) = (0 : Int32) then (some (FP.dconst0, M)) else (if (FP.dmul FP.dconst1 (FP.i2d x1)) &&& 0x7fffffffffffffff ≤ 0x7ff0000000000000 then (some ((FP.ddiv (FP.dmul FP.dconst1 (FP.i2d x1)) (FP.i2d ((8 : Int32) * (M.1 9)))), M)) else none)) else (bn (mX8_wrongRecords n M x2) fun r4 => (mX8_wrongShare_9 n k M (x1 + r4) (x2 + (1 : Int32)))))
def mX8_wrongShare (n : Nat) (M : MS) : Option (UInt64 × MS) :=
  (mX8_wrongShare_9 n n (sG M 0 (0 : Int32)) (0 : Int32) (0 : Int32))
abbrev rmX8_wrongShare : Room := { frames := 2, cells := 0, slots := 0, locals := 45 }
theorem hdX8_wrongShare : yX8_wrongShare.cls = RX8 ∧ yX8_wrongShare.cls ≠ "java/lang/invoke/MethodHandle" ∧ yX8_wrongShare.cls ≠ "java/lang/invoke/VarHandle" ∧ (parseMethodDescriptor yX8_wrongShare.desc).map (fun d => d.parameters.length) = some 0 := by decide +kernel
set_option maxRecDepth 100000 in
set_option maxHeartbeats 8000000 in
theorem ctX8_wrongShare (l : Launch) (dC : Nat → ClassId) (dI : Nat → Nat → Nat) (cq : Nat → ClassId) (q : Nat → Nat) (S : CS) (M : MS) (o : Nat → Int64) (sz : Nat) (n : Nat) (rr : UInt64) (MM : MS) (h : mX8_wrongShare n M = some (rr, MM)) : CtD l yX8_wrongShare wsX8_wrongShare rmX8_wrongShare (fun _ => True) (fun _ => True) dC dI cq q S M o sz [.ref (q 22)] rr (S, MM) := by
  refine enD (cc := cX8_wrongShare) (maxL := 3) (by decide) rfl (Nat.le_of_ble_eq_true rfl) (fun p e s m args below meth c A Q ls F hA hP hK hD hDm hX hS hl hend => ?_)
  obtain ⟨hx, hb, hml, hown, hts⟩ := id F
  have hown : s.vm.findClass RX8 = some m.cls := hown
  have F : CallFix p m c cX8_wrongShare 3 s args wsX8_wrongShare RX8 := F
  have hl : lv_has ls 3 [(0, .ref (q 22))] := hl
  have hinX8 : ∀ w ∈ u_ws RX8 TX8 29, w ∈ wsX8_wrongShare := fun w h => List.mem_cons_of_mem _ (List.mem_append_right _ h)
  have hL9 : ∀   (k : Nat) (M : MS) (x1 : Int32) (x2 : Int32) (H : Heap) (locs : List Loc) (ls : Array Slot), va_P (dC, dI) vwCl (wA cq q S M o) H → va_D A (wA cq q S M o) → va_S A s.heap H locs → lv_has ls 3 [(0, .ref (q 22)), (1, .int x1), (2, .int x2)] → mX8_wrongShare_9 n k M x1 x2 = some (rr, MM) → W p l e rmX8_wrongShare s m args below meth c H locs 0 0 Q (F0 m 9 ls []) := by
    intro k
    induction k with
    | zero =>
      intro M x1 x2 H locs ls hP hD hS hl h
      rw [mX8_wrongShare_9] at h
      cases h
    | succ k ih =>
      intro M x1 x2 H locs ls hP hD hS hl h
      rw [mX8_wrongShare_9] at h
      refine lv_iload_n hx hb dX8_wrongShare_9 rfl (lv_at hl 2 rfl) ?_
      refine lv_bipush (v := (8 : Int32)) hx hb dX8_wrongShare_10 (by decide) ?_
      refine lv_icmp_ge (tgt := 29) hx hb dX8_wrongShare_12 (by decide) (fun c1 => ?_) (fun c1 => ?_)
      · replace h := it c1 h
        refine lv_aload_n hx hb dX8_wrongShare_29 rfl (lv_at hl 0 rfl) ?_
        refine va_get (D := (dC, dI)) (ci := 9) (v := .int (M.1 9)) (C := RX8) (T := TX8) (N := 29) hx hb hts hinX8 hown hK hP 22 rfl rfl 9 (by decide) (hts (.fieldLink RX8 67 "CableTesterModel" "records" "I") (mm 2 rfl)) (fun _ h9 => h9) rfl dX8_wrongShare_30 ?_
        refine lv_if_ne (tgt := 40) hx hb dX8_wrongShare_33 (by decide) (fun c2 => ?_) (fun c2 => ?_)
        · replace h := ie c2 h
          refine lv_dconst1 hx hb dX8_wrongShare_40 ?_
          refine lv_iload_n hx hb dX8_wrongShare_41 rfl (lv_at hl 1 rfl) ?_
          refine lv_i2d hx hb dX8_wrongShare_42 ?_
          obtain ⟨g3, h⟩ := gd h
          refine lv_dmul hx hb dX8_wrongShare_43 g3 ?_
          refine lv_bipush (v := (8 : Int32)) hx hb dX8_wrongShare_44 (by decide) ?_
          refine lv_aload_n hx hb dX8_wrongShare_46 rfl (lv_at hl 0 rfl) ?_
          refine va_get (D := (dC, dI)) (ci := 9) (v := .int (M.1 9)) (C := RX8) (T := TX8) (N := 29) hx hb hts hinX8 hown hK hP 22 rfl rfl 9 (by decide) (hts (.fieldLink RX8 67 "CableTesterModel" "records" "I") (mm 2 rfl)) (fun _ h9 => h9) rfl dX8_wrongShare_47 ?_
          refine lv_imul hx hb dX8_wrongShare_50 ?_
          refine lv_i2d hx hb dX8_wrongShare_51 ?_
          refine W.base ?_
          refine lv_ddiv_any (Drawn.sameBut.refl s.drawn lw_cs) lw_bits hx hb dX8_wrongShare_52 (fun r9 d9 hal hd9 => ?_)
          exact hend _ _ _ _ _ _ hd9 (by cases h; exact hal) (by cases h; exact hP) (by cases h; exact hD) hS dX8_wrongShare_53
        · replace h := it c2 h
          refine lv_dconst0 hx hb dX8_wrongShare_36 ?_
          refine lv_goto (tgt := 53) hx hb dX8_wrongShare_37 (by decide) ?_
          refine W.base ?_
          exact hend _ _ _ _ _ _ (Drawn.sameBut.refl s.drawn lw_cs) (by cases h; exact alike64_refl _) (by cases h; exact hP) (by cases h; exact hD) hS dX8_wrongShare_53
      · replace h := ie c1 h
        refine lv_iload_n hx hb dX8_wrongShare_15 rfl (lv_at hl 1 rfl) ?_
        refine lv_aload_n hx hb dX8_wrongShare_16 rfl (lv_at hl 0 rfl) ?_
        refine lv_iload_n hx hb dX8_wrongShare_17 rfl (lv_at hl 2 rfl) ?_
        obtain ⟨r4, e5, h⟩ := bo h
        refine caVR_i (As := [.int x2]) (rest := [.int x1]) (ctX8_wrongRecords l dC dI cq q S M o _ _ _ _ e5) F (cwV 1 hts gX8_wrongShare_X8_wrongRecords rfl rfl rfl hdX8_wrongRecords ⟨Nat.le_of_ble_eq_true rfl, Nat.le_of_ble_eq_true rfl⟩) hK hP hD hDm hS hA (fun _ _ _ _ _ => trivial) (fun _ _ _ => trivial) (va_recv hK hP (ci := 9) (q0 := 22) rfl rfl) rfl hl.1 rfl (Nat.le_of_ble_eq_true rfl) dX8_wrongShare_18 ⟨Nat.zero_le _, Nat.zero_le _⟩ (fun H locs hP hD hS => ?_)
        refine lv_iadd hx hb dX8_wrongShare_21 ?_
        refine lv_istore_n (lv' := [(1, .int (x1 + r4)), (0, .ref (q 22)), (2, .int x2)]) hx hb dX8_wrongShare_22 rfl hl (by decide) rfl (fun ls hl => ?_)
        refine lv_iinc (v := (x2 + (1 : Int32))) (lv' := [(2, .int (x2 + (1 : Int32))), (1, .int (x1 + r4)), (0, .ref (q 22))]) hx hb dX8_wrongShare_23 hl (k := 2) rfl rfl (by decide) rfl (fun ls hl => ?_)
        refine lv_goto (tgt := 9) hx hb dX8_wrongShare_26 (by decide) ?_
        exact ih _ _ _ _ _ _ hP hD hS (lv_sub hl [2, 1, 0] rfl) h
  rw [mX8_wrongShare] at h
  refine lv_aload_n hx hb dX8_wrongShare_0 rfl (lv_at hl 0 rfl) ?_
  refine lv_iconst (v := (0 : Int32)) hx hb dX8_wrongShare_1 (by decide) ?_
  refine pt_22_0 F hinX8 (hts (.fieldLink RX8 44 "CableTesterModel" "thrown" "I") (mm 1 rfl)) hK hP hD hS dX8_wrongShare_2 (fun H locs hP hD hS => ?_)
  refine lv_iconst (v := (0 : Int32)) hx hb dX8_wrongShare_5 (by decide) ?_
  refine lv_istore_n (lv' := [(1, .int (0 : Int32)), (0, .ref (q 22))]) hx hb dX8_wrongShare_6 rfl hl (by decide) rfl (fun ls hl => ?_)
  refine lv_iconst (v := (0 : Int32)) hx hb dX8_wrongShare_7 (by decide) ?_
  refine lv_istore_n (lv' := [(2, .int (0 : Int32)), (1, .int (0 : Int32)), (0, .ref (q 22))]) hx hb dX8_wrongShare_8 rfl hl (by decide) rfl (fun ls hl => ?_)
  exact hL9 _ _ _ _ _ _ _ hP hD hS (lv_sub hl [2, 1, 0] rfl) h
abbrev rmX7_wrongShare : Room := { frames := 6, cells := 0, slots := 0, locals := 150 }
theorem hdX7_wrongShare : yX7_wrongShare.cls = RX7 ∧ yX7_wrongShare.cls ≠ "java/lang/invoke/MethodHandle" ∧ yX7_wrongShare.cls ≠ "java/lang/invoke/VarHandle" ∧ (parseMethodDescriptor yX7_wrongShare.desc).map (fun d => d.parameters.length) = some 0 := by decide +kernel
set_option maxRecDepth 100000 in
set_option maxHeartbeats 8000000 in
theorem ctX7_wrongShare (l : Launch) (dC : Nat → ClassId) (dI : Nat → Nat → Nat) (cq : Nat → ClassId) (q : Nat → Nat) (S : CS) (M : MS) (o : Nat → Int64) (sz : Nat) (h0 : Nat) (n : Nat) (rr : UInt64) (h : mX4_shareOfWrong n S = some rr) : CtD l yX7_wrongShare wsX7_wrongShare rmX7_wrongShare (fun a => h0 ≤ a) (EV h0 q) dC dI cq q S M o sz [.ref (q 0)] rr (S, M) := by
  refine enD (cc := cX7_wrongShare) (maxL := 1) (by decide) rfl (Nat.le_of_ble_eq_true rfl) (fun p e s m args below meth c A Q ls F hA hP hK hD hDm hX hS hl hend => ?_)
  obtain ⟨hx, hb, hml, hown, hts⟩ := id F
  have hown : s.vm.findClass RX7 = some m.cls := hown
  have F : CallFix p m c cX7_wrongShare 1 s args wsX7_wrongShare RX7 := F
  have hl : lv_has ls 1 [(0, .ref (q 0))] := hl
  have hinX7 : ∀ w ∈ u_ws RX7 TX7 5, w ∈ wsX7_wrongShare := fun w h => List.mem_cons_of_mem _ (List.mem_append_left _ (List.mem_append_right _ h))
  refine lv_aload_n hx hb dX7_wrongShare_0 rfl (lv_at hl 0 rfl) ?_
  refine va_get (D := (dC, dI)) (ci := 8) (v := .ref (q 18)) (C := RX7) (T := TX7) (N := 5) hx hb hts hinX7 hown hK hP 0 rfl rfl 3 (by decide) (hts (.fieldLink RX7 33 "CableTester" "history" "LCableTester$History;") (mm 1 rfl)) (fun _ h9 => h9) rfl dX7_wrongShare_1 ?_
  have hFc := freeW hD hS hA
  refine W.base ?_
  refine va_calldD (Drawn.sameBut.refl s.drawn lw_cs) (va_runV_D (As := []) (rest := []) ⟨hx, hb, hml, hown, dr_words hts _⟩ (ctX4_shareOfWrong l dC dI cq q S M o _ h0 n rr h) (cwV 0 (dr_words hts _) gX7_wrongShare_X4_shareOfWrong rfl rfl rfl hdX4_shareOfWrong ⟨Nat.le_of_ble_eq_true rfl, Nat.le_of_ble_eq_true rfl⟩) ⟨PreX.blind EV.blind, va_recv hK hP (ci := 5) (q0 := 18) rfl rfl, fun U hU hW => ⟨rfl, by rw [hU], by rw [hU]; exact hP, va_K.moved hW.alike hK, hD.weaken (fun _ _ _ h => hDm _ h), fun a h => hDm a (hA a (Nat.le_trans hS.1 h)), EV.call hX hS hDm hU hW⟩⟩ rfl rfl hl.1 rfl (lv_room (Nat.le_of_ble_eq_true rfl)) dX7_wrongShare_4 ⟨Nat.le_of_ble_eq_true rfl, Nat.le_of_ble_eq_true rfl⟩) hS (fun a _ h => hFc a h) hFc (fun r u t H1 locs1 ht hvm hw hB hz1 hk1 hS1 d1 hd1 => ?_)
  obtain ⟨hal, rfl⟩ := hw
  obtain ⟨hP1, hK1, hD1⟩ := hB
  rw [ht] at hP1
  exact hend _ _ _ _ _ _ hd1 hal hP1 (hD1.weaken (fun i z _ hz => hFc _ hz)) hS1 dX7_wrongShare_7
