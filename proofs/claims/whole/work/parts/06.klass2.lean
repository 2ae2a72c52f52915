theorem nfw : 0 + (nativeFrameWords "java/lang/System" "arraycopy" 5 + 11) ≤ 100 := by decide
/-- given is copied to best -/
def sCp (S : CS) : CS := (S.1, va_up S.2.1 17 (va_cpy (S.2.1 16) (S.2.1 17) (0 : Int32).toNatClampNeg (0 : Int32).toNatClampNeg (8 : Int32).toNatClampNeg), S.2.2)
theorem cp17 {l : Launch} {dC : Nat → ClassId} {dI : Nat → Nat → Nat} {cq : Nat → ClassId} {q : Nat → Nat} {S : CS} {M : MS} {o : Nat → Int64} {p : Program} {e : Env} {R : Room} {s : State} {m : MethodId} {args : Array Value} {below : List Frame} {meth : Method} {c : Code} {H : Heap} {locs : List Loc} {cells slots : Nat} {Q : State → Prop} {A : Nat → Prop} {cc : ByteArray} {Ts : List Cond} {index pc nL : Nat} {own : String} {ls : Array Slot} (F : CallFix p m c cc nL s args Ts own) (hml : c.maxLocals = nL) (hl1 : ls.size = nL)
    (hlink : (Cond.methodLink own index arraycopyName).before args s = true) (hnat : (Cond.native arraycopyName).before args s = true) (hstat : (Cond.static arraycopyName).before args s = true) (hini : (Cond.initialized "java/lang/System").before args s = true) (hK : va_K (dC, dI) vwCl (tyA cq) s) (hP : va_P (dC, dI) vwCl (wA cq q S M o) H) (hD : va_D A (wA cq q S M o)) (hS : va_S A s.heap H locs) (hf : 1 ≤ R.frames) (hlo : 0 + (nativeFrameWords "java/lang/System" "arraycopy" 5 + 11) ≤ R.locals) (hdg : decode cc pc = .ok (.invokestatic index, 3))
    (kk : ∀ (H1 : Heap) (locs1 : List Loc), va_P (dC, dI) vwCl (wA cq q (sCp S) M o) H1 → va_D A (wA cq q (sCp S) M o) → va_S A s.heap H1 locs1 → W p l e R s m args below meth c H1 locs1 cells slots Q (F0 m (pc + 3) ls [])) :
    W p l e R s m args below meth c H locs cells slots Q (F0 m pc ls [.int 8, .int 0, .ref (q 17), .int 0, .ref (q 16)]) :=
  va_copyi (D := (dC, dI)) F.1 F.2.1 (hml.trans hl1.symm) F.2.2.2.1 hlink hnat hstat hini hK hP hD hS 16 17 9 10 (ty := .int) rfl rfl rfl rfl rfl (by decide) (by decide) (by decide) (by decide) (by decide) (fun _ _ => rfl) hf hlo hdg (fun H1 locs1 hP hD hS => kk H1 locs1 hP hD hS)
def mX1_tryFarPins_105 (n : Nat) (T : CS → Int32 → Int32 → Int32 → Option (CS)) (K44 : CS → Int32 → Option (CS)) (S : CS) (x1 : Int32) (x2 : Int32) (x3 : Int32) (x4 : Int32)  : Option (CS) :=
  (K44 S (x4 + (1 : Int32)))
def mX1_tryFarPins_102 (n : Nat) (T : CS → Int32 → Int32 → Int32 → Option (CS)) (K44 : CS → Int32 → Option (CS)) (S : CS) (x1 : Int32) (x2 : Int32) (x3 : Int32) (x4 : Int32) (t0 : Int32) (t1 : Int32) (t2 : Int32) : Option (CS) :=
  (bn (T S t2 t1 t0) fun S10 => (mX1_tryFarPins_105 n T (K44) S10 x1 x2 x3 x4))
def mX1_tryFarPins_44 (n : Nat) (T : CS → Int32 → Int32 → Int32 → Option (CS))  (x1 : Int32) (x2 : Int32) (x3 : Int32) : Nat → CS → Int32 → Option (CS)
  | 0, _, _ => none
  | k + 1, S, x4 => (if (8 : Int32) ≤ x4 then (some S) else (if inb x1 8 then (if (((S.2.1 15 x1.toNatClampNeg) &&& (x2 ^^^ (-1 : Int32))) &&& ((1 : Int32) <<< (x4 &&& 31))) = (0 : Int32) then (mX1_tryFarPins_105 n T (mX1_tryFarPins_44 n T x1 x2 x3 k) S x1 x2 x3 x4) else (if inb x1 8 then (bn (mX1_closesCycle n (sA S 16 x1.toNatClampNeg x4) x1) fun r7 => (if r7 = (0 : Int32) then (mX1_tryFarPins_102 n T (mX1_tryFarPins_44 n T x1 x2 x3 k) (sA S 16 x1.toNatClampNeg x4) x1 x2 x3 x4 x3 (x2 ||| ((1 : Int32) <<< (x4 &&& 31))) (x1 + (1 : Int32))) else (mX1_tryFarPins_102 n T (mX1_tryFarPins_44 n T x1 x2 x3 k) (sA S 16 x1.toNatClampNeg x4) x1 x2 x3 x4 (x3 + (1 : Int32)) (x2 ||| ((1 : Int32) <<< (x4 &&& 31))) (x1 + (1 : Int32))))) else none)) else none))
def mX1_tryFarPins (n : Nat) : Nat → CS → Int32 → Int32 → Int32 → Option (CS)
  | 0, _, _, _, _ => none
  | d + 1, S, x1, x2, x3 => (if (S.1 8) < ((x3 + (8 : Int32)) - x1) then (if x1 < (8 : Int32) then (mX1_tryFarPins_44 n (mX1_tryFarPins n d) x1 x2 x3 n S (0 : Int32)) else (some (sCp (sF S 8 x3)))) else (some S))
def rmX1_tryFarPins (d : Nat) : Room := { frames := d + 2, cells := 0, slots := 0, locals := d * 24 + 200 }
theorem hdX1_tryFarPins : yX1_tryFarPins.cls = RX1 ∧ yX1_tryFarPins.cls ≠ "java/lang/invoke/MethodHandle" ∧ yX1_tryFarPins.cls ≠ "java/lang/invoke/VarHandle" ∧ (parseMethodDescriptor yX1_tryFarPins.desc).map (fun d => d.parameters.length) = some 3 := by decide +kernel
set_option maxRecDepth 100000 in
set_option maxHeartbeats 8000000 in
theorem ctX1_tryFarPins (l : Launch) (dC : Nat → ClassId) (dI : Nat → Nat → Nat) (cq : Nat → ClassId) (q : Nat → Nat) (M : MS) (o : Nat → Int64) (h0 n d : Nat) : ∀ (S : CS) (sz : Nat) (x1 : Int32) (x2 : Int32) (x3 : Int32) (SS : CS), mX1_tryFarPins n d S x1 x2 x3 = some SS → CtC_v l yX1_tryFarPins wsX1_tryFarPins (rmX1_tryFarPins d) (fun a => h0 ≤ a) (EV h0 q) dC dI cq q S M o sz [.ref (q 13), .int x1, .int x2, .int x3] SS := by
  induction d with
  | zero =>
    intro S sz x1 x2 x3 SS h
    rw [mX1_tryFarPins] at h
    cases h
  | succ d hT =>
  intro S sz x1 x2 x3 SS h
  generalize hTe : mX1_tryFarPins n d = T at hT
  rw [mX1_tryFarPins, hTe] at h
  refine enC_v (cc := cX1_tryFarPins) (maxL := 5) (by decide) rfl (Nat.le_of_ble_eq_true rfl) (fun p e s m args below meth c A Q ls F hA hP hK hD hDm hX hS hl hend => ?_)
  obtain ⟨hx, hb, hml, hown, hts⟩ := id F
  have hown : s.vm.findClass RX1 = some m.cls := hown
  have F : CallFix p m c cX1_tryFarPins 5 s args wsX1_tryFarPins RX1 := F
  have hl : lv_has ls 5 [(0, .ref (q 13)), (1, .int x1), (2, .int x2), (3, .int x3)] := hl
  have hinX1 : ∀ w ∈ u_ws RX1 TX1 5, w ∈ wsX1_tryFarPins := fun w h => List.mem_cons_of_mem _ (List.mem_append_right _ h)
  have hj105 : ∀ (S : CS) (x1 : Int32) (x2 : Int32) (x3 : Int32) (x4 : Int32)   (K44 : CS → Int32 → Option (CS)) (hK44 : ∀ (S9 : CS) (y4 : Int32) (H : Heap) (locs : List Loc) (ls : Array Slot), va_P (dC, dI) vwCl (wA cq q S9 M o) H → va_D A (wA cq q S9 M o) → va_S A s.heap H locs → lv_has ls 5 [(0, .ref (q 13)), (1, .int x1), (2, .int x2), (3, .int x3), (4, .int y4)] → K44 S9 y4 = some SS → W p l e (rmX1_tryFarPins (d + 1)) s m args below meth c H locs 0 0 Q (F0 m 44 ls [])) (H : Heap) (locs : List Loc) (ls : Array Slot), va_P (dC, dI) vwCl (wA cq q S M o) H → va_D A (wA cq q S M o) → va_S A s.heap H locs → lv_has ls 5 [(0, .ref (q 13)), (1, .int x1), (2, .int x2), (3, .int x3), (4, .int x4)] → mX1_tryFarPins_105 n T K44 S x1 x2 x3 x4 = some SS → W p l e (rmX1_tryFarPins (d + 1)) s m args below meth c H locs 0 0 Q (F0 m 105 ls []) := by
    intro S x1 x2 x3 x4 K44 hK44 H locs ls hP hD hS hl h
    rw [mX1_tryFarPins_105] at h
    refine lv_iinc (v := (x4 + (1 : Int32))) (lv' := [(4, .int (x4 + (1 : Int32))), (0, .ref (q 13)), (1, .int x1), (2, .int x2), (3, .int x3)]) hx hb dX1_tryFarPins_105 hl (k := 4) rfl rfl (by decide) rfl (fun ls hl => ?_)
    refine lv_goto (tgt := 44) hx hb dX1_tryFarPins_108 (by decide) ?_
    exact hK44 _ _ _ _ _ hP hD hS (lv_sub hl [1, 2, 3, 4, 0] rfl) h
  have hj102 : ∀ (S : CS) (x1 : Int32) (x2 : Int32) (x3 : Int32) (x4 : Int32) (t0 : Int32) (t1 : Int32) (t2 : Int32)  (K44 : CS → Int32 → Option (CS)) (hK44 : ∀ (S9 : CS) (y4 : Int32) (H : Heap) (locs : List Loc) (ls : Array Slot), va_P (dC, dI) vwCl (wA cq q S9 M o) H → va_D A (wA cq q S9 M o) → va_S A s.heap H locs → lv_has ls 5 [(0, .ref (q 13)), (1, .int x1), (2, .int x2), (3, .int x3), (4, .int y4)] → K44 S9 y4 = some SS → W p l e (rmX1_tryFarPins (d + 1)) s m args below meth c H locs 0 0 Q (F0 m 44 ls [])) (H : Heap) (locs : List Loc) (ls : Array Slot), va_P (dC, dI) vwCl (wA cq q S M o) H → va_D A (wA cq q S M o) → va_S A s.heap H locs → lv_has ls 5 [(0, .ref (q 13)), (1, .int x1), (2, .int x2), (3, .int x3), (4, .int x4)] → mX1_tryFarPins_102 n T K44 S x1 x2 x3 x4 t0 t1 t2 = some SS → W p l e (rmX1_tryFarPins (d + 1)) s m args below meth c H locs 0 0 Q (F0 m 102 ls [.int t0, .int t1, .int t2, .ref (q 13)]) := by
    intro S x1 x2 x3 x4 t0 t1 t2 K44 hK44 H locs ls hP hD hS hl h
    rw [mX1_tryFarPins_102] at h
    obtain ⟨S10, e11, h⟩ := bo h
    refine caVC_v (As := [.int t2, .int t1, .int t0]) (rest := []) (hT _ _ _ _ _ _ e11) F (cwV 3 hts gX1_tryFarPins_X1_tryFarPins rfl rfl rfl hdX1_tryFarPins ⟨Nat.le_refl _, by show 8 + (5 + 11) + (d * 24 + 200) ≤ (d + 1) * 24 + 200; omega⟩) hK hP hD hDm hS hA EV.blind (fun U hU hW => EV.call hX hS hDm hU hW) (va_recv hK hP (ci := 2) (q0 := 13) rfl rfl) rfl hl.1 rfl (Nat.le_of_ble_eq_true rfl) dX1_tryFarPins_102 ⟨Nat.zero_le _, Nat.zero_le _⟩ (fun H locs hP hD hS => ?_)
    exact hj105 _ _ _ _ _ _ hK44 _ _ _ hP hD hS (lv_sub hl [0, 1, 2, 3, 4] rfl) h
  have hL44 : ∀ (x1 : Int32) (x2 : Int32) (x3 : Int32)  (k : Nat) (S : CS) (x4 : Int32) (H : Heap) (locs : List Loc) (ls : Array Slot), va_P (dC, dI) vwCl (wA cq q S M o) H → va_D A (wA cq q S M o) → va_S A s.heap H locs → lv_has ls 5 [(0, .ref (q 13)), (1, .int x1), (2, .int x2), (3, .int x3), (4, .int x4)] → mX1_tryFarPins_44 n T x1 x2 x3 k S x4 = some SS → W p l e (rmX1_tryFarPins (d + 1)) s m args below meth c H locs 0 0 Q (F0 m 44 ls []) := by
    intro x1 x2 x3
    intro k
    induction k with
    | zero =>
      intro S x4 H locs ls hP hD hS hl h
      rw [mX1_tryFarPins_44] at h
      cases h
    | succ k ih =>
      intro S x4 H locs ls hP hD hS hl h
      rw [mX1_tryFarPins_44] at h
      refine lv_iload hx hb dX1_tryFarPins_44 (lv_at hl 4 rfl) ?_
      refine lv_bipush (v := (8 : Int32)) hx hb dX1_tryFarPins_46 (by decide) ?_
      refine lv_icmp_ge (tgt := 111) hx hb dX1_tryFarPins_48 (by decide) (fun c3 => ?_) (fun c3 => ?_)
      · replace h := it c3 h
        exact hend _ _ _ _ _ h hP hD hS dX1_tryFarPins_111
      · replace h := ie c3 h
        refine lv_aload_n hx hb dX1_tryFarPins_51 rfl (lv_at hl 0 rfl) ?_
        refine va_get (D := (dC, dI)) (ci := 2) (v := .ref (q 15)) (C := RX1) (T := TX1) (N := 5) hx hb hts hinX1 hown hK hP 13 rfl rfl 1 (by decide) (hts (.fieldLink RX1 15 "CableTester$Explainer" "allowed" "[I") (mm 8 rfl)) (fun _ h9 => h9) rfl dX1_tryFarPins_52 ?_
        refine lv_iload_n hx hb dX1_tryFarPins_55 rfl (lv_at hl 1 rfl) ?_
        obtain ⟨g4, h⟩ := gd h
        refine va_iald (D := (dC, dI)) hx hb hK hP 15 8 rfl rfl (inb_ok g4) dX1_tryFarPins_56 ?_
        refine lv_iload_n hx hb dX1_tryFarPins_57 rfl (lv_at hl 2 rfl) ?_
        refine lv_iconst (v := (-1 : Int32)) hx hb dX1_tryFarPins_58 (by decide) ?_
        refine lv_ixor hx hb dX1_tryFarPins_59 ?_
        refine lv_iand hx hb dX1_tryFarPins_60 ?_
        refine lv_iconst (v := (1 : Int32)) hx hb dX1_tryFarPins_61 (by decide) ?_
        refine lv_iload hx hb dX1_tryFarPins_62 (lv_at hl 4 rfl) ?_
        refine lv_ishl hx hb dX1_tryFarPins_64 ?_
        refine lv_iand hx hb dX1_tryFarPins_65 ?_
        refine lv_if_eq (tgt := 105) hx hb dX1_tryFarPins_66 (by decide) (fun c5 => ?_) (fun c5 => ?_)
        · replace h := it c5 h
          exact hj105 _ _ _ _ _ _ ih _ _ _ hP hD hS (lv_sub hl [0, 1, 2, 3, 4] rfl) h
        · replace h := ie c5 h
          refine lv_aload_n hx hb dX1_tryFarPins_69 rfl (lv_at hl 0 rfl) ?_
          refine va_get (D := (dC, dI)) (ci := 2) (v := .ref (q 16)) (C := RX1) (T := TX1) (N := 5) hx hb hts hinX1 hown hK hP 13 rfl rfl 2 (by decide) (hts (.fieldLink RX1 18 "CableTester$Explainer" "given" "[I") (mm 2 rfl)) (fun _ h9 => h9) rfl dX1_tryFarPins_70 ?_
          refine lv_iload_n hx hb dX1_tryFarPins_73 rfl (lv_at hl 1 rfl) ?_
          refine lv_iload hx hb dX1_tryFarPins_74 (lv_at hl 4 rfl) ?_
          obtain ⟨g6, h⟩ := gd h
          refine as_16 F hK hP hD hS (inb_ok g6) dX1_tryFarPins_76 (fun H locs hP hD hS => ?_)
          refine lv_aload_n hx hb dX1_tryFarPins_77 rfl (lv_at hl 0 rfl) ?_
          refine lv_iload_n hx hb dX1_tryFarPins_78 rfl (lv_at hl 1 rfl) ?_
          refine lv_iconst (v := (1 : Int32)) hx hb dX1_tryFarPins_79 (by decide) ?_
          refine lv_iadd hx hb dX1_tryFarPins_80 ?_
          refine lv_iload_n hx hb dX1_tryFarPins_81 rfl (lv_at hl 2 rfl) ?_
          refine lv_iconst (v := (1 : Int32)) hx hb dX1_tryFarPins_82 (by decide) ?_
          refine lv_iload hx hb dX1_tryFarPins_83 (lv_at hl 4 rfl) ?_
          refine lv_ishl hx hb dX1_tryFarPins_85 ?_
          refine lv_ior hx hb dX1_tryFarPins_86 ?_
          refine lv_aload_n hx hb dX1_tryFarPins_87 rfl (lv_at hl 0 rfl) ?_
          refine lv_iload_n hx hb dX1_tryFarPins_88 rfl (lv_at hl 1 rfl) ?_
          obtain ⟨r7, e8, h⟩ := bo h
          refine caVR_i (As := [.int x1]) (rest := [.int (x2 ||| ((1 : Int32) <<< (x4 &&& 31))), .int (x1 + (1 : Int32)), .ref (q 13)]) (ctX1_closesCycle l dC dI cq q (sA S 16 x1.toNatClampNeg x4) M o _ _ _ _ _ e8) F (cwV 1 hts gX1_tryFarPins_X1_closesCycle rfl rfl rfl hdX1_closesCycle ⟨by show 0 + 1 ≤ d + 1 + 2; omega, by show 8 + (4 + 11) + 0 ≤ (d + 1) * 24 + 200; omega⟩) hK hP hD hDm hS hA EV.blind (fun U hU hW => EV.call hX hS hDm hU hW) (va_recv hK hP (ci := 2) (q0 := 13) rfl rfl) rfl hl.1 rfl (Nat.le_of_ble_eq_true rfl) dX1_tryFarPins_89 ⟨Nat.zero_le _, Nat.zero_le _⟩ (fun H locs hP hD hS => ?_)
          refine lv_if_eq (tgt := 101) hx hb dX1_tryFarPins_92 (by decide) (fun c9 => ?_) (fun c9 => ?_)
          · replace h := it c9 h
            refine lv_iload_n hx hb dX1_tryFarPins_101 rfl (lv_at hl 3 rfl) ?_
            exact hj102 _ _ _ _ _ _ _ _ _ ih _ _ _ hP hD hS (lv_sub hl [0, 1, 2, 3, 4] rfl) h
          · replace h := ie c9 h
            refine lv_iload_n hx hb dX1_tryFarPins_95 rfl (lv_at hl 3 rfl) ?_
            refine lv_iconst (v := (1 : Int32)) hx hb dX1_tryFarPins_96 (by decide) ?_
            refine lv_iadd hx hb dX1_tryFarPins_97 ?_
            refine lv_goto (tgt := 102) hx hb dX1_tryFarPins_98 (by decide) ?_
            exact hj102 _ _ _ _ _ _ _ _ _ ih _ _ _ hP hD hS (lv_sub hl [0, 1, 2, 3, 4] rfl) h
  refine lv_iload_n hx hb dX1_tryFarPins_0 rfl (lv_at hl 3 rfl) ?_
  refine lv_bipush (v := (8 : Int32)) hx hb dX1_tryFarPins_1 (by decide) ?_
  refine lv_iadd hx hb dX1_tryFarPins_3 ?_
  refine lv_iload_n hx hb dX1_tryFarPins_4 rfl (lv_at hl 1 rfl) ?_
  refine lv_isub hx hb dX1_tryFarPins_5 ?_
  refine lv_aload_n hx hb dX1_tryFarPins_6 rfl (lv_at hl 0 rfl) ?_
  refine va_get (D := (dC, dI)) (ci := 2) (v := .int (S.1 8)) (C := RX1) (T := TX1) (N := 5) hx hb hts hinX1 hown hK hP 13 rfl rfl 4 (by decide) (hts (.fieldLink RX1 28 "CableTester$Explainer" "bestCycles" "I") (mm 1 rfl)) (fun _ h9 => h9) rfl dX1_tryFarPins_7 ?_
  refine lv_icmp_gt (tgt := 14) hx hb dX1_tryFarPins_10 (by decide) (fun c1 => ?_) (fun c1 => ?_)
  · replace h := it c1 h
    refine lv_iload_n hx hb dX1_tryFarPins_14 rfl (lv_at hl 1 rfl) ?_
    refine lv_bipush (v := (8 : Int32)) hx hb dX1_tryFarPins_15 (by decide) ?_
    refine lv_icmp_lt (tgt := 41) hx hb dX1_tryFarPins_17 (by decide) (fun c2 => ?_) (fun c2 => ?_)
    · replace h := it c2 h
      refine lv_iconst (v := (0 : Int32)) hx hb dX1_tryFarPins_41 (by decide) ?_
      refine lv_istore (lv' := [(4, .int (0 : Int32)), (0, .ref (q 13)), (1, .int x1), (2, .int x2), (3, .int x3)]) hx hb dX1_tryFarPins_42 hl (by decide) rfl (fun ls hl => ?_)
      exact hL44 _ _ _ _ _ _ _ _ _ hP hD hS (lv_sub hl [1, 2, 3, 4, 0] rfl) h
    · replace h := ie c2 h
      refine lv_aload_n hx hb dX1_tryFarPins_20 rfl (lv_at hl 0 rfl) ?_
      refine lv_iload_n hx hb dX1_tryFarPins_21 rfl (lv_at hl 3 rfl) ?_
      refine pt_13_4 F hinX1 (hts (.fieldLink RX1 28 "CableTester$Explainer" "bestCycles" "I") (mm 1 rfl)) hK hP hD hS dX1_tryFarPins_22 (fun H locs hP hD hS => ?_)
      refine lv_aload_n hx hb dX1_tryFarPins_25 rfl (lv_at hl 0 rfl) ?_
      refine va_get (D := (dC, dI)) (ci := 2) (v := .ref (q 16)) (C := RX1) (T := TX1) (N := 5) hx hb hts hinX1 hown hK hP 13 rfl rfl 2 (by decide) (hts (.fieldLink RX1 18 "CableTester$Explainer" "given" "[I") (mm 2 rfl)) (fun _ h9 => h9) rfl dX1_tryFarPins_26 ?_
      refine lv_iconst (v := (0 : Int32)) hx hb dX1_tryFarPins_29 (by decide) ?_
      refine lv_aload_n hx hb dX1_tryFarPins_30 rfl (lv_at hl 0 rfl) ?_
      refine va_get (D := (dC, dI)) (ci := 2) (v := .ref (q 17)) (C := RX1) (T := TX1) (N := 5) hx hb hts hinX1 hown hK hP 13 rfl rfl 3 (by decide) (hts (.fieldLink RX1 21 "CableTester$Explainer" "best" "[I") (mm 3 rfl)) (fun _ h9 => h9) rfl dX1_tryFarPins_31 ?_
      refine lv_iconst (v := (0 : Int32)) hx hb dX1_tryFarPins_34 (by decide) ?_
      refine lv_bipush (v := (8 : Int32)) hx hb dX1_tryFarPins_35 (by decide) ?_
      refine cp17 F hml hl.1 (hts (.methodLink RX1 51 arraycopyName) (mm 4 rfl)) (hts (.native arraycopyName) (mm 5 rfl)) (hts (.static arraycopyName) (mm 6 rfl)) (hts (.initialized "java/lang/System") (mm 7 rfl)) hK hP hD hS (by show 1 ≤ d + 1 + 2; omega) (Nat.le_trans nfw (by show 100 ≤ (d + 1) * 24 + 200; omega)) dX1_tryFarPins_37 (fun H locs hP hD hS => ?_)
      exact hend _ _ _ _ _ h hP hD hS dX1_tryFarPins_40
  · replace h := ie c1 h
    exact hend _ _ _ _ _ h hP hD hS dX1_tryFarPins_13
def mX1_findBest (n : Nat) (S : CS)  : Option (CS) :=
  (bn (mX1_allowFewestCuts n S) fun S3 => (bn (mX1_tryFarPins n 9 (sF S3 8 (0 : Int32)) (0 : Int32) (0 : Int32) (0 : Int32)) fun S6 => (some S6)))
abbrev rmX1_findBest : Room := { frames := 12, cells := 0, slots := 0, locals := 440 }
theorem hdX1_findBest : yX1_findBest.cls = RX1 ∧ yX1_findBest.cls ≠ "java/lang/invoke/MethodHandle" ∧ yX1_findBest.cls ≠ "java/lang/invoke/VarHandle" ∧ (parseMethodDescriptor yX1_findBest.desc).map (fun d => d.parameters.length) = some 1 := by decide +kernel
set_option maxRecDepth 100000 in
set_option maxHeartbeats 8000000 in
theorem ctX1_findBest (l : Launch) (dC : Nat → ClassId) (dI : Nat → Nat → Nat) (cq : Nat → ClassId) (q : Nat → Nat) (S : CS) (M : MS) (o : Nat → Int64) (sz : Nat) (h0 : Nat) (n : Nat)  (SS : CS) (h : mX1_findBest n S = some SS) : CtC_v l yX1_findBest wsX1_findBest rmX1_findBest (fun a => h0 ≤ a) (EV h0 q) dC dI cq q S M o sz [.ref (q 13), .ref (q 6)] SS := by
  refine enC_v (cc := cX1_findBest) (maxL := 2) (by decide) rfl (Nat.le_of_ble_eq_true rfl) (fun p e s m args below meth c A Q ls F hA hP hK hD hDm hX hS hl hend => ?_)
  obtain ⟨hx, hb, hml, hown, hts⟩ := id F
  have hown : s.vm.findClass RX1 = some m.cls := hown
  have F : CallFix p m c cX1_findBest 2 s args wsX1_findBest RX1 := F
  have hl : lv_has ls 2 [(0, .ref (q 13)), (1, .ref (q 6))] := hl
  have hinX1 : ∀ w ∈ u_ws RX1 TX1 5, w ∈ wsX1_findBest := fun w h => List.mem_cons_of_mem _ (List.mem_append_left _ (List.mem_append_right _ h))
  rw [mX1_findBest] at h
  refine lv_aload_n hx hb dX1_findBest_0 rfl (lv_at hl 0 rfl) ?_
  refine lv_aload_n hx hb dX1_findBest_1 rfl (lv_at hl 1 rfl) ?_
  obtain ⟨S3, e2, h⟩ := bo h
  refine caVC_v (As := [.ref (q 6)]) (rest := []) (ctX1_allowFewestCuts l dC dI cq q S M o _ _ _ _ e2) F (cwV 1 hts gX1_findBest_X1_allowFewestCuts rfl rfl rfl hdX1_allowFewestCuts ⟨Nat.le_of_ble_eq_true rfl, Nat.le_of_ble_eq_true rfl⟩) hK hP hD hDm hS hA EV.blind (fun U hU hW => EV.call hX hS hDm hU hW) (va_recv hK hP (ci := 2) (q0 := 13) rfl rfl) rfl hl.1 rfl (Nat.le_of_ble_eq_true rfl) dX1_findBest_2 ⟨Nat.zero_le _, Nat.zero_le _⟩ (fun H locs hP hD hS => ?_)
  refine lv_aload_n hx hb dX1_findBest_5 rfl (lv_at hl 0 rfl) ?_
  refine lv_iconst (v := (0 : Int32)) hx hb dX1_findBest_6 (by decide) ?_
  refine pt_13_4 F hinX1 (hts (.fieldLink RX1 28 "CableTester$Explainer" "bestCycles" "I") (mm 1 rfl)) hK hP hD hS dX1_findBest_7 (fun H locs hP hD hS => ?_)
  refine lv_aload_n hx hb dX1_findBest_10 rfl (lv_at hl 0 rfl) ?_
  refine lv_iconst (v := (0 : Int32)) hx hb dX1_findBest_11 (by decide) ?_
  refine lv_iconst (v := (0 : Int32)) hx hb dX1_findBest_12 (by decide) ?_
  refine lv_iconst (v := (0 : Int32)) hx hb dX1_findBest_13 (by decide) ?_
  obtain ⟨S6, e5, h⟩ := bo h
  refine caVC_v (As := [.int (0 : Int32), .int (0 : Int32), .int (0 : Int32)]) (rest := []) (ctX1_tryFarPins l dC dI cq q M o _ n 9 (sF S3 8 (0 : Int32)) _ _ _ _ _ e5) F (cwV 3 hts gX1_findBest_X1_tryFarPins rfl rfl rfl hdX1_tryFarPins ⟨Nat.le_of_ble_eq_true rfl, Nat.le_of_ble_eq_true rfl⟩) hK hP hD hDm hS hA EV.blind (fun U hU hW => EV.call hX hS hDm hU hW) (va_recv hK hP (ci := 2) (q0 := 13) rfl rfl) rfl hl.1 rfl (Nat.le_of_ble_eq_true rfl) dX1_findBest_14 ⟨Nat.zero_le _, Nat.zero_le _⟩ (fun H locs hP hD hS => ?_)
  exact hend _ _ _ _ _ h hP hD hS dX1_findBest_17
def mX7_measure (n : Nat) (S : CS)  : Option (CS) :=
  (bn (mX0_presentFaults n S (S.1 3)) fun r1 => (bn (mX5_measure n S r1) fun S5 => (some S5)))
abbrev rmX7_measure : Room := { frames := 5, cells := 0, slots := 0, locals := 110 }
theorem hdX7_measure : yX7_measure.cls = RX7 ∧ yX7_measure.cls ≠ "java/lang/invoke/MethodHandle" ∧ yX7_measure.cls ≠ "java/lang/invoke/VarHandle" ∧ (parseMethodDescriptor yX7_measure.desc).map (fun d => d.parameters.length) = some 0 := by decide +kernel
set_option maxRecDepth 100000 in
set_option maxHeartbeats 8000000 in
theorem ctX7_measure (l : Launch) (dC : Nat → ClassId) (dI : Nat → Nat → Nat) (cq : Nat → ClassId) (q : Nat → Nat) (S : CS) (M : MS) (o : Nat → Int64) (sz : Nat) (h0 : Nat) (n : Nat)  (SS : CS) (h : mX7_measure n S = some SS) : CtC_v l yX7_measure wsX7_measure rmX7_measure (fun a => h0 ≤ a) (EV h0 q) dC dI cq q S M o sz [.ref (q 0)] SS := by
  refine enC_v (cc := cX7_measure) (maxL := 1) (by decide) rfl (Nat.le_of_ble_eq_true rfl) (fun p e s m args below meth c A Q ls F hA hP hK hD hDm hX hS hl hend => ?_)
  obtain ⟨hx, hb, hml, hown, hts⟩ := id F
  have hown : s.vm.findClass RX7 = some m.cls := hown
  have F : CallFix p m c cX7_measure 1 s args wsX7_measure RX7 := F
  have hl : lv_has ls 1 [(0, .ref (q 0))] := hl
  have hinX0 : ∀ w ∈ u_ws RX0 TX0 7, w ∈ wsX7_measure := fun w h => List.mem_cons_of_mem _ (List.mem_append_left _ (List.mem_append_left _ (List.mem_append_left _ (List.mem_append_left _ (List.mem_append_right _ h)))))
  have hinX7 : ∀ w ∈ u_ws RX7 TX7 5, w ∈ wsX7_measure := fun w h => List.mem_cons_of_mem _ (List.mem_append_left _ (List.mem_append_left _ (List.mem_append_left _ (List.mem_append_left _ (List.mem_append_left _ (List.mem_append_right _ h))))))
  rw [mX7_measure] at h
  refine lv_aload_n hx hb dX7_measure_0 rfl (lv_at hl 0 rfl) ?_
  refine va_get (D := (dC, dI)) (ci := 8) (v := .ref (q 6)) (C := RX7) (T := TX7) (N := 5) hx hb hts hinX7 hown hK hP 0 rfl rfl 1 (by decide) (hts (.fieldLink RX7 19 "CableTester" "nets" "LCableTester$Nets;") (mm 1 rfl)) (fun _ h9 => h9) rfl dX7_measure_1 ?_
  refine lv_aload_n hx hb dX7_measure_4 rfl (lv_at hl 0 rfl) ?_
  refine va_get (D := (dC, dI)) (ci := 8) (v := .ref (q 1)) (C := RX7) (T := TX7) (N := 5) hx hb hts hinX7 hown hK hP 0 rfl rfl 0 (by decide) (hts (.fieldLink RX7 10 "CableTester" "cable" "LCableTester$Cable;") (mm 2 rfl)) (fun _ h9 => h9) rfl dX7_measure_5 ?_
  refine lv_aload_n hx hb dX7_measure_8 rfl (lv_at hl 0 rfl) ?_
  refine va_get (D := (dC, dI)) (ci := 8) (v := .ref (q 1)) (C := RX7) (T := TX7) (N := 5) hx hb hts hinX7 hown hK hP 0 rfl rfl 0 (by decide) (hts (.fieldLink RX7 10 "CableTester" "cable" "LCableTester$Cable;") (mm 2 rfl)) (fun _ h9 => h9) rfl dX7_measure_9 ?_
  refine lv_aload_n hx hb dX7_measure_12 rfl (lv_at hl 0 rfl) ?_
  refine va_get (D := (dC, dI)) (ci := 8) (v := .ref (q 1)) (C := RX7) (T := TX7) (N := 5) hx hb hts hinX7 hown hK hP 0 rfl rfl 0 (by decide) (hts (.fieldLink RX7 10 "CableTester" "cable" "LCableTester$Cable;") (mm 2 rfl)) (fun _ h9 => h9) rfl dX7_measure_13 ?_
  refine va_getN (D := (dC, dI)) (ci := 1) (v := .int (S.1 3)) (C := RX0) (T := TX0) (N := 7) hx hb hts hinX0 hown hK hP 1 rfl rfl 3 (by decide) (va_Nw.use rfl hX.1.2.2.2.2.1) (fun _ h9 => h9) rfl dX7_measure_16 ?_
  obtain ⟨r1, e2, h⟩ := bo h
  refine caVR_i (As := [.int (S.1 3)]) (rest := [.ref (q 1), .ref (q 6)]) (ctX0_presentFaults l dC dI cq q S M o _ _ _ _ _ e2) F (cwV 1 hts gX7_measure_X0_presentFaults rfl rfl rfl hdX0_presentFaults ⟨Nat.le_of_ble_eq_true rfl, Nat.le_of_ble_eq_true rfl⟩) hK hP hD hDm hS hA EV.blind (fun U hU hW => EV.call hX hS hDm hU hW) (va_recv hK hP (ci := 1) (q0 := 1) rfl rfl) rfl hl.1 rfl (Nat.le_of_ble_eq_true rfl) dX7_measure_19 ⟨Nat.zero_le _, Nat.zero_le _⟩ (fun H locs hP hD hS => ?_)
  obtain ⟨S5, e4, h⟩ := bo h
  refine caVC_v (As := [.ref (q 1), .int r1]) (rest := []) (ctX5_measure l dC dI cq q S M o _ _ _ _ _ e4) F (cwV 2 hts gX7_measure_X5_measure rfl rfl rfl hdX5_measure ⟨Nat.le_of_ble_eq_true rfl, Nat.le_of_ble_eq_true rfl⟩) hK hP hD hDm hS hA EV.blind (fun U hU hW => EV.call hX hS hDm hU hW) (va_recv hK hP (ci := 6) (q0 := 6) rfl rfl) rfl hl.1 rfl (Nat.le_of_ble_eq_true rfl) dX7_measure_22 ⟨Nat.zero_le _, Nat.zero_le _⟩ (fun H locs hP hD hS => ?_)
  exact hend _ _ _ _ _ h hP hD hS dX7_measure_25
def mX7_measureOnwards (n : Nat) (S : CS) (x1 : Int32) : Option (CS) :=
  (bn (mX0_presentFaults n S x1) fun r1 => (if r1 = (S.1 5) then (some S) else (bn (mX5_measure n S r1) fun S6 => (some S6))))
abbrev rmX7_measureOnwards : Room := { frames := 5, cells := 0, slots := 0, locals := 110 }
theorem hdX7_measureOnwards : yX7_measureOnwards.cls = RX7 ∧ yX7_measureOnwards.cls ≠ "java/lang/invoke/MethodHandle" ∧ yX7_measureOnwards.cls ≠ "java/lang/invoke/VarHandle" ∧ (parseMethodDescriptor yX7_measureOnwards.desc).map (fun d => d.parameters.length) = some 1 := by decide +kernel
set_option maxRecDepth 100000 in
set_option maxHeartbeats 8000000 in
theorem ctX7_measureOnwards (l : Launch) (dC : Nat → ClassId) (dI : Nat → Nat → Nat) (cq : Nat → ClassId) (q : Nat → Nat) (S : CS) (M : MS) (o : Nat → Int64) (sz : Nat) (h0 : Nat) (n : Nat) (x1 : Int32) (SS : CS) (h : mX7_measureOnwards n S x1 = some SS) : CtC_v l yX7_measureOnwards wsX7_measureOnwards rmX7_measureOnwards (fun a => h0 ≤ a) (EV h0 q) dC dI cq q S M o sz [.ref (q 0), .int x1] SS := by
  refine enC_v (cc := cX7_measureOnwards) (maxL := 3) (by decide) rfl (Nat.le_of_ble_eq_true rfl) (fun p e s m args below meth c A Q ls F hA hP hK hD hDm hX hS hl hend => ?_)
  obtain ⟨hx, hb, hml, hown, hts⟩ := id F
  have hown : s.vm.findClass RX7 = some m.cls := hown
  have F : CallFix p m c cX7_measureOnwards 3 s args wsX7_measureOnwards RX7 := F
  have hl : lv_has ls 3 [(0, .ref (q 0)), (1, .int x1)] := hl
  have hinX5 : ∀ w ∈ u_ws RX5 TX5 8, w ∈ wsX7_measureOnwards := fun w h => List.mem_cons_of_mem _ (List.mem_append_left _ (List.mem_append_left _ (List.mem_append_left _ (List.mem_append_left _ (List.mem_append_right _ h)))))
  have hinX7 : ∀ w ∈ u_ws RX7 TX7 5, w ∈ wsX7_measureOnwards := fun w h => List.mem_cons_of_mem _ (List.mem_append_left _ (List.mem_append_left _ (List.mem_append_left _ (List.mem_append_left _ (List.mem_append_left _ (List.mem_append_right _ h))))))
  rw [mX7_measureOnwards] at h
  refine lv_aload_n hx hb dX7_measureOnwards_0 rfl (lv_at hl 0 rfl) ?_
  refine va_get (D := (dC, dI)) (ci := 8) (v := .ref (q 1)) (C := RX7) (T := TX7) (N := 5) hx hb hts hinX7 hown hK hP 0 rfl rfl 0 (by decide) (hts (.fieldLink RX7 10 "CableTester" "cable" "LCableTester$Cable;") (mm 1 rfl)) (fun _ h9 => h9) rfl dX7_measureOnwards_1 ?_
  refine lv_iload_n hx hb dX7_measureOnwards_4 rfl (lv_at hl 1 rfl) ?_
  obtain ⟨r1, e2, h⟩ := bo h
  refine caVR_i (As := [.int x1]) (rest := []) (ctX0_presentFaults l dC dI cq q S M o _ _ _ _ _ e2) F (cwV 1 hts gX7_measureOnwards_X0_presentFaults rfl rfl rfl hdX0_presentFaults ⟨Nat.le_of_ble_eq_true rfl, Nat.le_of_ble_eq_true rfl⟩) hK hP hD hDm hS hA EV.blind (fun U hU hW => EV.call hX hS hDm hU hW) (va_recv hK hP (ci := 1) (q0 := 1) rfl rfl) rfl hl.1 rfl (Nat.le_of_ble_eq_true rfl) dX7_measureOnwards_5 ⟨Nat.zero_le _, Nat.zero_le _⟩ (fun H locs hP hD hS => ?_)
  refine lv_istore_n (lv' := [(2, .int r1), (0, .ref (q 0)), (1, .int x1)]) hx hb dX7_measureOnwards_8 rfl hl (by decide) rfl (fun ls hl => ?_)
  refine lv_iload_n hx hb dX7_measureOnwards_9 rfl (lv_at hl 0 rfl) ?_
  refine lv_aload_n hx hb dX7_measureOnwards_10 rfl (lv_at hl 1 rfl) ?_
  refine va_get (D := (dC, dI)) (ci := 8) (v := .ref (q 6)) (C := RX7) (T := TX7) (N := 5) hx hb hts hinX7 hown hK hP 0 rfl rfl 1 (by decide) (hts (.fieldLink RX7 19 "CableTester" "nets" "LCableTester$Nets;") (mm 2 rfl)) (fun _ h9 => h9) rfl dX7_measureOnwards_11 ?_
  refine va_getN (D := (dC, dI)) (ci := 6) (v := .int (S.1 5)) (C := RX5) (T := TX5) (N := 8) hx hb hts hinX5 hown hK hP 6 rfl rfl 0 (by decide) (va_Nw.use rfl hX.1.2.2.2.2.2.2.2.1) (fun _ h9 => h9) rfl dX7_measureOnwards_14 ?_
  refine lv_icmp_eq (tgt := 32) hx hb dX7_measureOnwards_17 (by decide) (fun c3 => ?_) (fun c3 => ?_)
  · replace h := it c3 h
    exact hend _ _ _ _ _ h hP hD hS dX7_measureOnwards_32
  · replace h := ie c3 h
    refine lv_aload_n hx hb dX7_measureOnwards_20 rfl (lv_at hl 1 rfl) ?_
    refine va_get (D := (dC, dI)) (ci := 8) (v := .ref (q 6)) (C := RX7) (T := TX7) (N := 5) hx hb hts hinX7 hown hK hP 0 rfl rfl 1 (by decide) (hts (.fieldLink RX7 19 "CableTester" "nets" "LCableTester$Nets;") (mm 2 rfl)) (fun _ h9 => h9) rfl dX7_measureOnwards_21 ?_
    refine lv_aload_n hx hb dX7_measureOnwards_24 rfl (lv_at hl 1 rfl) ?_
    refine va_get (D := (dC, dI)) (ci := 8) (v := .ref (q 1)) (C := RX7) (T := TX7) (N := 5) hx hb hts hinX7 hown hK hP 0 rfl rfl 0 (by decide) (hts (.fieldLink RX7 10 "CableTester" "cable" "LCableTester$Cable;") (mm 1 rfl)) (fun _ h9 => h9) rfl dX7_measureOnwards_25 ?_
    refine lv_iload_n hx hb dX7_measureOnwards_28 rfl (lv_at hl 0 rfl) ?_
    obtain ⟨S6, e5, h⟩ := bo h
    refine caVC_v (As := [.ref (q 1), .int r1]) (rest := []) (ctX5_measure l dC dI cq q S M o _ _ _ _ _ e5) F (cwV 2 hts gX7_measureOnwards_X5_measure rfl rfl rfl hdX5_measure ⟨Nat.le_of_ble_eq_true rfl, Nat.le_of_ble_eq_true rfl⟩) hK hP hD hDm hS hA EV.blind (fun U hU hW => EV.call hX hS hDm hU hW) (va_recv hK hP (ci := 6) (q0 := 6) rfl rfl) rfl hl.1 rfl (Nat.le_of_ble_eq_true rfl) dX7_measureOnwards_29 ⟨Nat.zero_le _, Nat.zero_le _⟩ (fun H locs hP hD hS => ?_)
    exact hend _ _ _ _ _ h hP hD hS dX7_measureOnwards_32
def mX7_clearBuffer (S : CS)  : Option (Int32 × CS) :=
  (some ((S.1 10), (sF S 10 (0 : Int32))))
abbrev rmX7_clearBuffer : Room := { frames := 0, cells := 0, slots := 0, locals := 0 }
theorem hdX7_clearBuffer : yX7_clearBuffer.cls = RX7 ∧ yX7_clearBuffer.cls ≠ "java/lang/invoke/MethodHandle" ∧ yX7_clearBuffer.cls ≠ "java/lang/invoke/VarHandle" ∧ (parseMethodDescriptor yX7_clearBuffer.desc).map (fun d => d.parameters.length) = some 0 := by decide +kernel
set_option maxRecDepth 100000 in
set_option maxHeartbeats 8000000 in
theorem ctX7_clearBuffer (l : Launch) (dC : Nat → ClassId) (dI : Nat → Nat → Nat) (cq : Nat → ClassId) (q : Nat → Nat) (S : CS) (M : MS) (o : Nat → Int64) (sz : Nat) (h0 : Nat)  (rr : Int32) (SS : CS) (h : mX7_clearBuffer S = some (rr, SS)) : CtC_i l yX7_clearBuffer wsX7_clearBuffer rmX7_clearBuffer (fun a => h0 ≤ a) (EV h0 q) dC dI cq q S M o sz [.ref (q 0)] rr SS := by
  refine enC_i (cc := cX7_clearBuffer) (maxL := 2) (by decide) rfl (Nat.le_of_ble_eq_true rfl) (fun p e s m args below meth c A Q ls F hA hP hK hD hDm hX hS hl hend => ?_)
  obtain ⟨hx, hb, hml, hown, hts⟩ := id F
  have hown : s.vm.findClass RX7 = some m.cls := hown
  have F : CallFix p m c cX7_clearBuffer 2 s args wsX7_clearBuffer RX7 := F
  have hl : lv_has ls 2 [(0, .ref (q 0))] := hl
  have hinX6 : ∀ w ∈ u_ws RX6 TX6 10, w ∈ wsX7_clearBuffer := fun w h => List.mem_cons_of_mem _ (List.mem_append_right _ h)
  have hinX7 : ∀ w ∈ u_ws RX7 TX7 5, w ∈ wsX7_clearBuffer := fun w h => List.mem_cons_of_mem _ (List.mem_append_left _ (List.mem_append_right _ h))
  rw [mX7_clearBuffer] at h
  refine lv_aload_n hx hb dX7_clearBuffer_0 rfl (lv_at hl 0 rfl) ?_
  refine va_get (D := (dC, dI)) (ci := 8) (v := .ref (q 20)) (C := RX7) (T := TX7) (N := 5) hx hb hts hinX7 hown hK hP 0 rfl rfl 4 (by decide) (hts (.fieldLink RX7 40 "CableTester" "text" "LCableTester$Text;") (mm 1 rfl)) (fun _ h9 => h9) rfl dX7_clearBuffer_1 ?_
  refine va_getN (D := (dC, dI)) (ci := 7) (v := .int (S.1 10)) (C := RX6) (T := TX6) (N := 10) hx hb hts hinX6 hown hK hP 20 rfl rfl 1 (by decide) (va_Nw.use rfl hX.1.2.2.2.2.2.2.2.2.2.1) (fun _ h9 => h9) rfl dX7_clearBuffer_4 ?_
  refine lv_istore_n (lv' := [(1, .int (S.1 10)), (0, .ref (q 0))]) hx hb dX7_clearBuffer_7 rfl hl (by decide) rfl (fun ls hl => ?_)
  refine lv_aload_n hx hb dX7_clearBuffer_8 rfl (lv_at hl 1 rfl) ?_
  refine va_get (D := (dC, dI)) (ci := 8) (v := .ref (q 20)) (C := RX7) (T := TX7) (N := 5) hx hb hts hinX7 hown hK hP 0 rfl rfl 4 (by decide) (hts (.fieldLink RX7 40 "CableTester" "text" "LCableTester$Text;") (mm 1 rfl)) (fun _ h9 => h9) rfl dX7_clearBuffer_9 ?_
  refine lv_iconst (v := (0 : Int32)) hx hb dX7_clearBuffer_12 (by decide) ?_
  refine ptN_20_1 F hinX6 (va_Nw.use rfl hX.1.2.2.2.2.2.2.2.2.2.1) hK hP hD hS dX7_clearBuffer_13 (fun H locs hP hD hS => ?_)
  refine lv_iload_n hx hb dX7_clearBuffer_16 rfl (lv_at hl 0 rfl) ?_
  exact hend _ _ _ _ _ _ h hP hD hS dX7_clearBuffer_17
def mX7_firstError (n : Nat) (S : CS)  : Option (Int32 × CS) :=
  (bm (mX6_errorIndex n S) fun r1 S3 => (some (r1, S3)))
abbrev rmX7_firstError : Room := { frames := 4, cells := 0, slots := 0, locals := 87 }
theorem hdX7_firstError : yX7_firstError.cls = RX7 ∧ yX7_firstError.cls ≠ "java/lang/invoke/MethodHandle" ∧ yX7_firstError.cls ≠ "java/lang/invoke/VarHandle" ∧ (parseMethodDescriptor yX7_firstError.desc).map (fun d => d.parameters.length) = some 0 := by decide +kernel
set_option maxRecDepth 100000 in
set_option maxHeartbeats 8000000 in
theorem ctX7_firstError (l : Launch) (dC : Nat → ClassId) (dI : Nat → Nat → Nat) (cq : Nat → ClassId) (q : Nat → Nat) (S : CS) (M : MS) (o : Nat → Int64) (sz : Nat) (h0 : Nat) (n : Nat)  (rr : Int32) (SS : CS) (h : mX7_firstError n S = some (rr, SS)) : CtC_i l yX7_firstError wsX7_firstError rmX7_firstError (fun a => h0 ≤ a) (EV h0 q) dC dI cq q S M o sz [.ref (q 0)] rr SS := by
  refine enC_i (cc := cX7_firstError) (maxL := 1) (by decide) rfl (Nat.le_of_ble_eq_true rfl) (fun p e s m args below meth c A Q ls F hA hP hK hD hDm hX hS hl hend => ?_)
  obtain ⟨hx, hb, hml, hown, hts⟩ := id F
  have hown : s.vm.findClass RX7 = some m.cls := hown
  have F : CallFix p m c cX7_firstError 1 s args wsX7_firstError RX7 := F
  have hl : lv_has ls 1 [(0, .ref (q 0))] := hl
  have hinX7 : ∀ w ∈ u_ws RX7 TX7 5, w ∈ wsX7_firstError := fun w h => List.mem_cons_of_mem _ (List.mem_append_left _ (List.mem_append_right _ h))
  rw [mX7_firstError] at h
  refine lv_aload_n hx hb dX7_firstError_0 rfl (lv_at hl 0 rfl) ?_
  refine va_get (D := (dC, dI)) (ci := 8) (v := .ref (q 20)) (C := RX7) (T := TX7) (N := 5) hx hb hts hinX7 hown hK hP 0 rfl rfl 4 (by decide) (hts (.fieldLink RX7 40 "CableTester" "text" "LCableTester$Text;") (mm 1 rfl)) (fun _ h9 => h9) rfl dX7_firstError_1 ?_
  obtain ⟨r1, S3, e2, h⟩ := bp h
  refine caVC_i (As := []) (rest := []) (ctX6_errorIndex l dC dI cq q S M o _ _ _ _ _ e2) F (cwV 0 hts gX7_firstError_X6_errorIndex rfl rfl rfl hdX6_errorIndex ⟨Nat.le_of_ble_eq_true rfl, Nat.le_of_ble_eq_true rfl⟩) hK hP hD hDm hS hA EV.blind (fun U hU hW => EV.call hX hS hDm hU hW) (va_recv hK hP (ci := 7) (q0 := 20) rfl rfl) rfl hl.1 rfl (Nat.le_of_ble_eq_true rfl) dX7_firstError_4 ⟨Nat.zero_le _, Nat.zero_le _⟩ (fun H locs hP hD hS => ?_)
  exact hend _ _ _ _ _ _ h hP hD hS dX7_firstError_7
def mX7_textFitsCable_74 (n : Nat)  (S : CS) (x1 : Int32)  : Option (Int32 × CS) :=
  (if (10 : Int32) < x1 then (some ((0 : Int32), S)) else (some ((1 : Int32), S)))
def mX7_textFitsCable_68 (n : Nat) (K20 : CS → Int32 → Int32 → Option (Int32 × CS)) (S : CS) (x1 : Int32) (x2 : Int32)  : Option (Int32 × CS) :=
  (K20 S x1 (x2 + (1 : Int32)))
def mX7_textFitsCable_20 (n : Nat)   : Nat → CS → Int32 → Int32 → Option (Int32 × CS)
  | 0, _, _, _ => none
  | k + 1, S, x1, x2 => (if (50 : Int32) ≤ x2 then (mX7_textFitsCable_74 n S x1) else (bm (mX6_readItem n S) fun r8 S10 => (if r8 = (0 : Int32) then (mX7_textFitsCable_74 n S10 x1) else (bn (mX6_itemIsFault S10) fun r12 => (if r12 = (0 : Int32) then (mX7_textFitsCable_68 n (mX7_textFitsCable_20 n k) S10 x1 x2) else (if (S10.1 16) < (S10.1 0) then (mX7_textFitsCable_68 n (mX7_textFitsCable_20 n k) S10 (x1 + (1 : Int32)) x2) else (some ((0 : Int32), S10))))))))
def mX7_textFitsCable (n : Nat) (S : CS)  : Option (Int32 × CS) :=
  (bn (mJx4a65c_size_8abf5 S) fun r1 => (bn (mX6_rewind S) fun S5 => (mX7_textFitsCable_20 n n S5 r1 (0 : Int32))))
abbrev rmX7_textFitsCable : Room := { frames := 4, cells := 0, slots := 0, locals := 87 }
theorem hdX7_textFitsCable : yX7_textFitsCable.cls = RX7 ∧ yX7_textFitsCable.cls ≠ "java/lang/invoke/MethodHandle" ∧ yX7_textFitsCable.cls ≠ "java/lang/invoke/VarHandle" ∧ (parseMethodDescriptor yX7_textFitsCable.desc).map (fun d => d.parameters.length) = some 0 := by decide +kernel
set_option maxRecDepth 100000 in
set_option maxHeartbeats 8000000 in
theorem ctX7_textFitsCable (l : Launch) (dC : Nat → ClassId) (dI : Nat → Nat → Nat) (cq : Nat → ClassId) (q : Nat → Nat) (S : CS) (M : MS) (o : Nat → Int64) (sz : Nat) (h0 : Nat) (n : Nat)  (rr : Int32) (SS : CS) (h : mX7_textFitsCable n S = some (rr, SS)) : CtC_i l yX7_textFitsCable wsX7_textFitsCable rmX7_textFitsCable (fun a => h0 ≤ a) (EV h0 q) dC dI cq q S M o sz [.ref (q 0)] rr SS := by
  refine enC_z (cc := cX7_textFitsCable) (maxL := 3) (by decide) rfl (Nat.le_of_ble_eq_true rfl) (fun p e s m args below meth c A Q ls F hA hP hK hD hDm hX hS hl hend => ?_)
  obtain ⟨hx, hb, hml, hown, hts⟩ := id F
  have hown : s.vm.findClass RX7 = some m.cls := hown
  have F : CallFix p m c cX7_textFitsCable 3 s args wsX7_textFitsCable RX7 := F
  have hl : lv_has ls 3 [(0, .ref (q 0))] := hl
  have hinX0 : ∀ w ∈ u_ws RX0 TX0 7, w ∈ wsX7_textFitsCable := fun w h => List.mem_cons_of_mem _ (List.mem_append_left _ (List.mem_append_left _ (List.mem_append_right _ h)))
  have hinX6 : ∀ w ∈ u_ws RX6 TX6 10, w ∈ wsX7_textFitsCable := fun w h => List.mem_cons_of_mem _ (List.mem_append_left _ (List.mem_append_right _ h))
  have hinX7 : ∀ w ∈ u_ws RX7 TX7 5, w ∈ wsX7_textFitsCable := fun w h => List.mem_cons_of_mem _ (List.mem_append_left _ (List.mem_append_left _ (List.mem_append_left _ (List.mem_append_right _ h))))
  have hj74 : ∀ (S : CS) (x1 : Int32)    (H : Heap) (locs : List Loc) (ls : Array Slot), va_P (dC, dI) vwCl (wA cq q S M o) H → va_D A (wA cq q S M o) → va_S A s.heap H locs → lv_has ls 3 [(1, .int x1)] → mX7_textFitsCable_74 n S x1 = some (rr, SS) → W p l e rmX7_textFitsCable s m args below meth c H locs 0 0 Q (F0 m 74 ls []) := by
    intro S x1 H locs ls hP hD hS hl h
    rw [mX7_textFitsCable_74] at h
    refine lv_iload_n hx hb dX7_textFitsCable_74 rfl (lv_at hl 0 rfl) ?_
    refine lv_bipush (v := (10 : Int32)) hx hb dX7_textFitsCable_75 (by decide) ?_
    refine lv_icmp_gt (tgt := 84) hx hb dX7_textFitsCable_77 (by decide) (fun c7 => ?_) (fun c7 => ?_)
    · replace h := it c7 h
      refine lv_iconst (v := (0 : Int32)) hx hb dX7_textFitsCable_84 (by decide) ?_
      exact hend _ _ _ _ _ _ h hP hD hS dX7_textFitsCable_85 (by decide)
    · replace h := ie c7 h
      refine lv_iconst (v := (1 : Int32)) hx hb dX7_textFitsCable_80 (by decide) ?_
      refine lv_goto (tgt := 85) hx hb dX7_textFitsCable_81 (by decide) ?_
      exact hend _ _ _ _ _ _ h hP hD hS dX7_textFitsCable_85 (by decide)
  have hj68 : ∀ (S : CS) (x1 : Int32) (x2 : Int32)   (K20 : CS → Int32 → Int32 → Option (Int32 × CS)) (hK20 : ∀ (S9 : CS) (y1 : Int32) (y2 : Int32) (H : Heap) (locs : List Loc) (ls : Array Slot), va_P (dC, dI) vwCl (wA cq q S9 M o) H → va_D A (wA cq q S9 M o) → va_S A s.heap H locs → lv_has ls 3 [(0, .ref (q 0)), (1, .int y1), (2, .int y2)] → K20 S9 y1 y2 = some (rr, SS) → W p l e rmX7_textFitsCable s m args below meth c H locs 0 0 Q (F0 m 20 ls [])) (H : Heap) (locs : List Loc) (ls : Array Slot), va_P (dC, dI) vwCl (wA cq q S M o) H → va_D A (wA cq q S M o) → va_S A s.heap H locs → lv_has ls 3 [(0, .ref (q 0)), (1, .int x1), (2, .int x2)] → mX7_textFitsCable_68 n K20 S x1 x2 = some (rr, SS) → W p l e rmX7_textFitsCable s m args below meth c H locs 0 0 Q (F0 m 68 ls []) := by
    intro S x1 x2 K20 hK20 H locs ls hP hD hS hl h
    rw [mX7_textFitsCable_68] at h
    refine lv_iinc (v := (x2 + (1 : Int32))) (lv' := [(2, .int (x2 + (1 : Int32))), (0, .ref (q 0)), (1, .int x1)]) hx hb dX7_textFitsCable_68 hl (k := 2) rfl rfl (by decide) rfl (fun ls hl => ?_)
    refine lv_goto (tgt := 20) hx hb dX7_textFitsCable_71 (by decide) ?_
    exact hK20 _ _ _ _ _ _ hP hD hS (lv_sub hl [1, 2, 0] rfl) h
  have hL20 : ∀   (k : Nat) (S : CS) (x1 : Int32) (x2 : Int32) (H : Heap) (locs : List Loc) (ls : Array Slot), va_P (dC, dI) vwCl (wA cq q S M o) H → va_D A (wA cq q S M o) → va_S A s.heap H locs → lv_has ls 3 [(0, .ref (q 0)), (1, .int x1), (2, .int x2)] → mX7_textFitsCable_20 n k S x1 x2 = some (rr, SS) → W p l e rmX7_textFitsCable s m args below meth c H locs 0 0 Q (F0 m 20 ls []) := by
    intro k
    induction k with
    | zero =>
      intro S x1 x2 H locs ls hP hD hS hl h
      rw [mX7_textFitsCable_20] at h
      cases h
    | succ k ih =>
      intro S x1 x2 H locs ls hP hD hS hl h
      rw [mX7_textFitsCable_20] at h
      refine lv_iload_n hx hb dX7_textFitsCable_20 rfl (lv_at hl 2 rfl) ?_
      refine lv_bipush (v := (50 : Int32)) hx hb dX7_textFitsCable_21 (by decide) ?_
      refine lv_icmp_ge (tgt := 74) hx hb dX7_textFitsCable_23 (by decide) (fun c6 => ?_) (fun c6 => ?_)
      · replace h := it c6 h
        exact hj74 _ _ _ _ _ hP hD hS (lv_sub hl [1] rfl) h
      · replace h := ie c6 h
        refine lv_aload_n hx hb dX7_textFitsCable_26 rfl (lv_at hl 0 rfl) ?_
        refine va_get (D := (dC, dI)) (ci := 8) (v := .ref (q 20)) (C := RX7) (T := TX7) (N := 5) hx hb hts hinX7 hown hK hP 0 rfl rfl 4 (by decide) (hts (.fieldLink RX7 40 "CableTester" "text" "LCableTester$Text;") (mm 2 rfl)) (fun _ h9 => h9) rfl dX7_textFitsCable_27 ?_
        obtain ⟨r8, S10, e9, h⟩ := bp h
        refine caVC_i (As := []) (rest := []) (ctX6_readItem l dC dI cq q S M o _ _ _ _ _ e9) F (cwV 0 hts gX7_textFitsCable_X6_readItem rfl rfl rfl hdX6_readItem ⟨Nat.le_of_ble_eq_true rfl, Nat.le_of_ble_eq_true rfl⟩) hK hP hD hDm hS hA EV.blind (fun U hU hW => EV.call hX hS hDm hU hW) (va_recv hK hP (ci := 7) (q0 := 20) rfl rfl) rfl hl.1 rfl (Nat.le_of_ble_eq_true rfl) dX7_textFitsCable_30 ⟨Nat.zero_le _, Nat.zero_le _⟩ (fun H locs hP hD hS => ?_)
        refine lv_if_eq (tgt := 74) hx hb dX7_textFitsCable_33 (by decide) (fun c11 => ?_) (fun c11 => ?_)
        · replace h := it c11 h
          exact hj74 _ _ _ _ _ hP hD hS (lv_sub hl [1] rfl) h
        · replace h := ie c11 h
          refine lv_aload_n hx hb dX7_textFitsCable_36 rfl (lv_at hl 0 rfl) ?_
          refine va_get (D := (dC, dI)) (ci := 8) (v := .ref (q 20)) (C := RX7) (T := TX7) (N := 5) hx hb hts hinX7 hown hK hP 0 rfl rfl 4 (by decide) (hts (.fieldLink RX7 40 "CableTester" "text" "LCableTester$Text;") (mm 2 rfl)) (fun _ h9 => h9) rfl dX7_textFitsCable_37 ?_
          obtain ⟨r12, e13, h⟩ := bo h
          refine caVR_i (As := []) (rest := []) (ctX6_itemIsFault l dC dI cq q S10 M o _ _ _ e13) F (cwV 0 hts gX7_textFitsCable_X6_itemIsFault rfl rfl rfl hdX6_itemIsFault ⟨Nat.le_of_ble_eq_true rfl, Nat.le_of_ble_eq_true rfl⟩) hK hP hD hDm hS hA EV.blind (fun U hU hW => EV.call hX hS hDm hU hW) (va_recv hK hP (ci := 7) (q0 := 20) rfl rfl) rfl hl.1 rfl (Nat.le_of_ble_eq_true rfl) dX7_textFitsCable_40 ⟨Nat.zero_le _, Nat.zero_le _⟩ (fun H locs hP hD hS => ?_)
          refine lv_if_eq (tgt := 68) hx hb dX7_textFitsCable_43 (by decide) (fun c14 => ?_) (fun c14 => ?_)
          · replace h := it c14 h
            exact hj68 _ _ _ _ ih _ _ _ hP hD hS (lv_sub hl [0, 1, 2] rfl) h
          · replace h := ie c14 h
            refine lv_iinc (v := (x1 + (1 : Int32))) (lv' := [(1, .int (x1 + (1 : Int32))), (0, .ref (q 0)), (2, .int x2)]) hx hb dX7_textFitsCable_46 hl (k := 1) rfl rfl (by decide) rfl (fun ls hl => ?_)
            refine lv_aload_n hx hb dX7_textFitsCable_49 rfl (lv_at hl 1 rfl) ?_
            refine va_get (D := (dC, dI)) (ci := 8) (v := .ref (q 20)) (C := RX7) (T := TX7) (N := 5) hx hb hts hinX7 hown hK hP 0 rfl rfl 4 (by decide) (hts (.fieldLink RX7 40 "CableTester" "text" "LCableTester$Text;") (mm 2 rfl)) (fun _ h9 => h9) rfl dX7_textFitsCable_50 ?_
            refine va_getN (D := (dC, dI)) (ci := 7) (v := .int (S10.1 16)) (C := RX6) (T := TX6) (N := 10) hx hb hts hinX6 hown hK hP 20 rfl rfl 7 (by decide) (va_Nw.use rfl hX.1.2.2.2.2.2.2.2.2.2.2.2.2.2.1) (fun _ h9 => h9) rfl dX7_textFitsCable_53 ?_
            refine lv_aload_n hx hb dX7_textFitsCable_56 rfl (lv_at hl 1 rfl) ?_
            refine va_get (D := (dC, dI)) (ci := 8) (v := .ref (q 1)) (C := RX7) (T := TX7) (N := 5) hx hb hts hinX7 hown hK hP 0 rfl rfl 0 (by decide) (hts (.fieldLink RX7 10 "CableTester" "cable" "LCableTester$Cable;") (mm 1 rfl)) (fun _ h9 => h9) rfl dX7_textFitsCable_57 ?_
            refine va_getN (D := (dC, dI)) (ci := 1) (v := .int (S10.1 0)) (C := RX0) (T := TX0) (N := 7) hx hb hts hinX0 hown hK hP 1 rfl rfl 0 (by decide) (va_Nw.use rfl hX.1.1) (fun _ h9 => h9) rfl dX7_textFitsCable_60 ?_
            refine lv_icmp_lt (tgt := 68) hx hb dX7_textFitsCable_63 (by decide) (fun c15 => ?_) (fun c15 => ?_)
            · replace h := it c15 h
              exact hj68 _ _ _ _ ih _ _ _ hP hD hS (lv_sub hl [1, 0, 2] rfl) h
            · replace h := ie c15 h
              refine lv_iconst (v := (0 : Int32)) hx hb dX7_textFitsCable_66 (by decide) ?_
              exact hend _ _ _ _ _ _ h hP hD hS dX7_textFitsCable_67 (by decide)
  rw [mX7_textFitsCable] at h
  refine lv_aload_n hx hb dX7_textFitsCable_0 rfl (lv_at hl 0 rfl) ?_
  refine va_get (D := (dC, dI)) (ci := 8) (v := .ref (q 1)) (C := RX7) (T := TX7) (N := 5) hx hb hts hinX7 hown hK hP 0 rfl rfl 0 (by decide) (hts (.fieldLink RX7 10 "CableTester" "cable" "LCableTester$Cable;") (mm 1 rfl)) (fun _ h9 => h9) rfl dX7_textFitsCable_1 ?_
  refine va_getN (D := (dC, dI)) (ci := 1) (v := .ref (q 3)) (C := RX0) (T := TX0) (N := 7) hx hb hts hinX0 hown hK hP 1 rfl rfl 5 (by decide) (va_Nw.use rfl hX.1.2.2.2.2.2.2.1) (fun _ h9 => h9) rfl dX7_textFitsCable_4 ?_
  obtain ⟨r1, e2, h⟩ := bo h
  refine caVR_i (As := []) (rest := []) (ctJx4a65c_size_8abf5 l dC dI cq q S M o _ _ _ e2) F (cwV 0 hts gX7_textFitsCable_Jx4a65c_size_8abf5 rfl rfl rfl hdJx4a65c_size_8abf5 ⟨Nat.le_of_ble_eq_true rfl, Nat.le_of_ble_eq_true rfl⟩) hK hP hD hDm hS hA EV.blind (fun U hU hW => EV.call hX hS hDm hU hW) (va_recv hK hP (ci := 0) (q0 := 3) rfl rfl) rfl hl.1 rfl (Nat.le_of_ble_eq_true rfl) dX7_textFitsCable_7 ⟨Nat.zero_le _, Nat.zero_le _⟩ (fun H locs hP hD hS => ?_)
  refine lv_istore_n (lv' := [(1, .int r1), (0, .ref (q 0))]) hx hb dX7_textFitsCable_10 rfl hl (by decide) rfl (fun ls hl => ?_)
  refine lv_aload_n hx hb dX7_textFitsCable_11 rfl (lv_at hl 1 rfl) ?_
  refine va_get (D := (dC, dI)) (ci := 8) (v := .ref (q 20)) (C := RX7) (T := TX7) (N := 5) hx hb hts hinX7 hown hK hP 0 rfl rfl 4 (by decide) (hts (.fieldLink RX7 40 "CableTester" "text" "LCableTester$Text;") (mm 2 rfl)) (fun _ h9 => h9) rfl dX7_textFitsCable_12 ?_
  obtain ⟨S5, e4, h⟩ := bo h
  refine caVC_v (As := []) (rest := []) (ctX6_rewind l dC dI cq q S M o _ _ _ e4) F (cwV 0 hts gX7_textFitsCable_X6_rewind rfl rfl rfl hdX6_rewind ⟨Nat.le_of_ble_eq_true rfl, Nat.le_of_ble_eq_true rfl⟩) hK hP hD hDm hS hA EV.blind (fun U hU hW => EV.call hX hS hDm hU hW) (va_recv hK hP (ci := 7) (q0 := 20) rfl rfl) rfl hl.1 rfl (Nat.le_of_ble_eq_true rfl) dX7_textFitsCable_15 ⟨Nat.zero_le _, Nat.zero_le _⟩ (fun H locs hP hD hS => ?_)
  refine lv_iconst (v := (0 : Int32)) hx hb dX7_textFitsCable_18 (by decide) ?_
  refine lv_istore_n (lv' := [(2, .int (0 : Int32)), (1, .int r1), (0, .ref (q 0))]) hx hb dX7_textFitsCable_19 rfl hl (by decide) rfl (fun ls hl => ?_)
  exact hL20 _ _ _ _ _ _ _ hP hD hS (lv_sub hl [2, 1, 0] rfl) h
def mX7_identifiedUnit_76 (n : Nat) (K14 : Int32 → Option (Int32)) (S : CS) (x1 : Int32)  : Option (Int32) :=
  (K14 (x1 + (1 : Int32)))
def mX7_identifiedUnit_52 (n : Nat) (K14 : Int32 → Option (Int32)) (S : CS) (x1 : Int32) (t0 : Int32) : Option (Int32) :=
  (if t0 = (0 : Int32) then (mX7_identifiedUnit_76 n (K14) S x1) else (bn (mX0_isSplit S x1) fun r7 => (if r7 = (0 : Int32) then (some (S.1 2)) else (mX7_identifiedUnit_76 n (K14) S x1))))
def mX7_identifiedUnit_51 (n : Nat) (K14 : Int32 → Option (Int32)) (S : CS) (x1 : Int32)  : Option (Int32) :=
  (mX7_identifiedUnit_52 n (K14) S x1 (0 : Int32))
def mX7_identifiedUnit_14 (n : Nat)  (S : CS)  : Nat → Int32 → Option (Int32)
  | 0, _ => none
  | k + 1, x1 => (if (4 : Int32) ≤ x1 then (some (-1 : Int32)) else (bn (mX5_statusOf S ((2 : Int32) * x1)) fun r3 => (if r3 = (0 : Int32) then (bn (mX5_statusOf S (((2 : Int32) * x1) + (1 : Int32))) fun r10 => (if r10 = (0 : Int32) then (mX7_identifiedUnit_52 n (mX7_identifiedUnit_14 n S k) S x1 (1 : Int32)) else (mX7_identifiedUnit_51 n (mX7_identifiedUnit_14 n S k) S x1))) else (mX7_identifiedUnit_51 n (mX7_identifiedUnit_14 n S k) S x1))))
def mX7_identifiedUnit (n : Nat) (S : CS)  : Option (Int32) :=
  (if (S.1 2) = (0 : Int32) then (some (-1 : Int32)) else (mX7_identifiedUnit_14 n S n (0 : Int32)))
abbrev rmX7_identifiedUnit : Room := { frames := 3, cells := 0, slots := 0, locals := 65 }
theorem hdX7_identifiedUnit : yX7_identifiedUnit.cls = RX7 ∧ yX7_identifiedUnit.cls ≠ "java/lang/invoke/MethodHandle" ∧ yX7_identifiedUnit.cls ≠ "java/lang/invoke/VarHandle" ∧ (parseMethodDescriptor yX7_identifiedUnit.desc).map (fun d => d.parameters.length) = some 0 := by decide +kernel
set_option maxRecDepth 100000 in
set_option maxHeartbeats 8000000 in
theorem ctX7_identifiedUnit (l : Launch) (dC : Nat → ClassId) (dI : Nat → Nat → Nat) (cq : Nat → ClassId) (q : Nat → Nat) (S : CS) (M : MS) (o : Nat → Int64) (sz : Nat) (h0 : Nat) (n : Nat)  (rr : Int32) (h : mX7_identifiedUnit n S = some rr) : CtR_i l yX7_identifiedUnit wsX7_identifiedUnit rmX7_identifiedUnit (fun a => h0 ≤ a) (EV h0 q) dC dI cq q S M o sz [.ref (q 0)] rr := by
  refine enR_i (cc := cX7_identifiedUnit) (maxL := 3) (by decide) rfl (Nat.le_of_ble_eq_true rfl) (fun p e s m args below meth c A Q ls F hA hP hK hD hDm hX hS hl hend => ?_)
  obtain ⟨hx, hb, hml, hown, hts⟩ := id F
  have hown : s.vm.findClass RX7 = some m.cls := hown
  have F : CallFix p m c cX7_identifiedUnit 3 s args wsX7_identifiedUnit RX7 := F
  have hl : lv_has ls 3 [(0, .ref (q 0))] := hl
  have hinX0 : ∀ w ∈ u_ws RX0 TX0 7, w ∈ wsX7_identifiedUnit := fun w h => List.mem_cons_of_mem _ (List.mem_append_left _ (List.mem_append_right _ h))
  have hinX7 : ∀ w ∈ u_ws RX7 TX7 5, w ∈ wsX7_identifiedUnit := fun w h => List.mem_cons_of_mem _ (List.mem_append_left _ (List.mem_append_left _ (List.mem_append_right _ h)))
  have hj76 : ∀  (x1 : Int32)   (K14 : Int32 → Option (Int32)) (hK14 : ∀ (y1 : Int32) (H : Heap) (locs : List Loc) (ls : Array Slot), va_P (dC, dI) vwCl (wA cq q S M o) H → va_D A (wA cq q S M o) → va_S A s.heap H locs → lv_has ls 3 [(0, .ref (q 0)), (1, .int y1)] → K14 y1 = some rr → W p l e rmX7_identifiedUnit s m args below meth c H locs 0 0 Q (F0 m 14 ls [])) (H : Heap) (locs : List Loc) (ls : Array Slot), va_P (dC, dI) vwCl (wA cq q S M o) H → va_D A (wA cq q S M o) → va_S A s.heap H locs → lv_has ls 3 [(0, .ref (q 0)), (1, .int x1)] → mX7_identifiedUnit_76 n K14 S x1 = some rr → W p l e rmX7_identifiedUnit s m args below meth c H locs 0 0 Q (F0 m 76 ls []) := by
    intro x1 K14 hK14 H locs ls hP hD hS hl h
    rw [mX7_identifiedUnit_76] at h
    refine lv_iinc (v := (x1 + (1 : Int32))) (lv' := [(1, .int (x1 + (1 : Int32))), (0, .ref (q 0))]) hx hb dX7_identifiedUnit_76 hl (k := 1) rfl rfl (by decide) rfl (fun ls hl => ?_)
    refine lv_goto (tgt := 14) hx hb dX7_identifiedUnit_79 (by decide) ?_
    exact hK14 _ _ _ _ hP hD hS (lv_sub hl [1, 0] rfl) h
  have hj52 : ∀  (x1 : Int32) (t0 : Int32)  (K14 : Int32 → Option (Int32)) (hK14 : ∀ (y1 : Int32) (H : Heap) (locs : List Loc) (ls : Array Slot), va_P (dC, dI) vwCl (wA cq q S M o) H → va_D A (wA cq q S M o) → va_S A s.heap H locs → lv_has ls 3 [(0, .ref (q 0)), (1, .int y1)] → K14 y1 = some rr → W p l e rmX7_identifiedUnit s m args below meth c H locs 0 0 Q (F0 m 14 ls [])) (H : Heap) (locs : List Loc) (ls : Array Slot), va_P (dC, dI) vwCl (wA cq q S M o) H → va_D A (wA cq q S M o) → va_S A s.heap H locs → lv_has ls 3 [(0, .ref (q 0)), (1, .int x1)] → mX7_identifiedUnit_52 n K14 S x1 t0 = some rr → W p l e rmX7_identifiedUnit s m args below meth c H locs 0 0 Q (F0 m 52 ls [.int t0]) := by
    intro x1 t0 K14 hK14 H locs ls hP hD hS hl h
    rw [mX7_identifiedUnit_52] at h
    refine lv_istore_n (lv' := [(2, .int t0), (0, .ref (q 0)), (1, .int x1)]) hx hb dX7_identifiedUnit_52 rfl hl (by decide) rfl (fun ls hl => ?_)
    refine lv_iload_n hx hb dX7_identifiedUnit_53 rfl (lv_at hl 0 rfl) ?_
    refine lv_if_eq (tgt := 76) hx hb dX7_identifiedUnit_54 (by decide) (fun c6 => ?_) (fun c6 => ?_)
    · replace h := it c6 h
      exact hj76 _ _ hK14 _ _ _ hP hD hS (lv_sub hl [1, 2] rfl) h
    · replace h := ie c6 h
      refine lv_aload_n hx hb dX7_identifiedUnit_57 rfl (lv_at hl 1 rfl) ?_
      refine va_get (D := (dC, dI)) (ci := 8) (v := .ref (q 1)) (C := RX7) (T := TX7) (N := 5) hx hb hts hinX7 hown hK hP 0 rfl rfl 0 (by decide) (hts (.fieldLink RX7 10 "CableTester" "cable" "LCableTester$Cable;") (mm 1 rfl)) (fun _ h9 => h9) rfl dX7_identifiedUnit_58 ?_
      refine lv_iload_n hx hb dX7_identifiedUnit_61 rfl (lv_at hl 2 rfl) ?_
      obtain ⟨r7, e8, h⟩ := bo h
      refine caVR_i (As := [.int x1]) (rest := []) (ctX0_isSplit l dC dI cq q S M o _ _ _ _ e8) F (cwV 1 hts gX7_identifiedUnit_X0_isSplit rfl rfl rfl hdX0_isSplit ⟨Nat.le_of_ble_eq_true rfl, Nat.le_of_ble_eq_true rfl⟩) hK hP hD hDm hS hA EV.blind (fun U hU hW => EV.call hX hS hDm hU hW) (va_recv hK hP (ci := 1) (q0 := 1) rfl rfl) rfl hl.1 rfl (Nat.le_of_ble_eq_true rfl) dX7_identifiedUnit_62 ⟨Nat.zero_le _, Nat.zero_le _⟩ (fun H locs hP hD hS => ?_)
      refine lv_if_ne (tgt := 76) hx hb dX7_identifiedUnit_65 (by decide) (fun c9 => ?_) (fun c9 => ?_)
      · replace h := ie c9 h
        exact hj76 _ _ hK14 _ _ _ hP hD hS (lv_sub hl [1, 2] rfl) h
      · replace h := it c9 h
        refine lv_aload_n hx hb dX7_identifiedUnit_68 rfl (lv_at hl 1 rfl) ?_
        refine va_get (D := (dC, dI)) (ci := 8) (v := .ref (q 1)) (C := RX7) (T := TX7) (N := 5) hx hb hts hinX7 hown hK hP 0 rfl rfl 0 (by decide) (hts (.fieldLink RX7 10 "CableTester" "cable" "LCableTester$Cable;") (mm 1 rfl)) (fun _ h9 => h9) rfl dX7_identifiedUnit_69 ?_
        refine va_getN (D := (dC, dI)) (ci := 1) (v := .int (S.1 2)) (C := RX0) (T := TX0) (N := 7) hx hb hts hinX0 hown hK hP 1 rfl rfl 2 (by decide) (va_Nw.use rfl hX.1.2.2.2.1) (fun _ h9 => h9) rfl dX7_identifiedUnit_72 ?_
        exact hend _ _ _ _ _ h hP hD hS dX7_identifiedUnit_75
  have hj51 : ∀  (x1 : Int32)   (K14 : Int32 → Option (Int32)) (hK14 : ∀ (y1 : Int32) (H : Heap) (locs : List Loc) (ls : Array Slot), va_P (dC, dI) vwCl (wA cq q S M o) H → va_D A (wA cq q S M o) → va_S A s.heap H locs → lv_has ls 3 [(0, .ref (q 0)), (1, .int y1)] → K14 y1 = some rr → W p l e rmX7_identifiedUnit s m args below meth c H locs 0 0 Q (F0 m 14 ls [])) (H : Heap) (locs : List Loc) (ls : Array Slot), va_P (dC, dI) vwCl (wA cq q S M o) H → va_D A (wA cq q S M o) → va_S A s.heap H locs → lv_has ls 3 [(0, .ref (q 0)), (1, .int x1)] → mX7_identifiedUnit_51 n K14 S x1 = some rr → W p l e rmX7_identifiedUnit s m args below meth c H locs 0 0 Q (F0 m 51 ls []) := by
    intro x1 K14 hK14 H locs ls hP hD hS hl h
    rw [mX7_identifiedUnit_51] at h
    refine lv_iconst (v := (0 : Int32)) hx hb dX7_identifiedUnit_51 (by decide) ?_
    exact hj52 _ _ _ hK14 _ _ _ hP hD hS (lv_sub hl [0, 1] rfl) h
  have hL14 : ∀   (k : Nat)  (x1 : Int32) (H : Heap) (locs : List Loc) (ls : Array Slot), va_P (dC, dI) vwCl (wA cq q S M o) H → va_D A (wA cq q S M o) → va_S A s.heap H locs → lv_has ls 3 [(0, .ref (q 0)), (1, .int x1)] → mX7_identifiedUnit_14 n S k x1 = some rr → W p l e rmX7_identifiedUnit s m args below meth c H locs 0 0 Q (F0 m 14 ls []) := by
    intro k
    induction k with
    | zero =>
      intro x1 H locs ls hP hD hS hl h
      rw [mX7_identifiedUnit_14] at h
      cases h
    | succ k ih =>
      intro x1 H locs ls hP hD hS hl h
      rw [mX7_identifiedUnit_14] at h
      refine lv_iload_n hx hb dX7_identifiedUnit_14 rfl (lv_at hl 1 rfl) ?_
      refine lv_iconst (v := (4 : Int32)) hx hb dX7_identifiedUnit_15 (by decide) ?_
      refine lv_icmp_ge (tgt := 82) hx hb dX7_identifiedUnit_16 (by decide) (fun c2 => ?_) (fun c2 => ?_)
      · replace h := it c2 h
        refine lv_iconst (v := (-1 : Int32)) hx hb dX7_identifiedUnit_82 (by decide) ?_
        exact hend _ _ _ _ _ h hP hD hS dX7_identifiedUnit_83
      · replace h := ie c2 h
        refine lv_aload_n hx hb dX7_identifiedUnit_19 rfl (lv_at hl 0 rfl) ?_
        refine va_get (D := (dC, dI)) (ci := 8) (v := .ref (q 6)) (C := RX7) (T := TX7) (N := 5) hx hb hts hinX7 hown hK hP 0 rfl rfl 1 (by decide) (hts (.fieldLink RX7 19 "CableTester" "nets" "LCableTester$Nets;") (mm 2 rfl)) (fun _ h9 => h9) rfl dX7_identifiedUnit_20 ?_
        refine lv_iconst (v := (2 : Int32)) hx hb dX7_identifiedUnit_23 (by decide) ?_
        refine lv_iload_n hx hb dX7_identifiedUnit_24 rfl (lv_at hl 1 rfl) ?_
        refine lv_imul hx hb dX7_identifiedUnit_25 ?_
        obtain ⟨r3, e4, h⟩ := bo h
        refine caVR_i (As := [.int ((2 : Int32) * x1)]) (rest := []) (ctX5_statusOf l dC dI cq q S M o _ _ _ _ e4) F (cwV 1 hts gX7_identifiedUnit_X5_statusOf rfl rfl rfl hdX5_statusOf ⟨Nat.le_of_ble_eq_true rfl, Nat.le_of_ble_eq_true rfl⟩) hK hP hD hDm hS hA EV.blind (fun U hU hW => EV.call hX hS hDm hU hW) (va_recv hK hP (ci := 6) (q0 := 6) rfl rfl) rfl hl.1 rfl (Nat.le_of_ble_eq_true rfl) dX7_identifiedUnit_26 ⟨Nat.zero_le _, Nat.zero_le _⟩ (fun H locs hP hD hS => ?_)
        refine lv_if_ne (tgt := 51) hx hb dX7_identifiedUnit_29 (by decide) (fun c5 => ?_) (fun c5 => ?_)
        · replace h := ie c5 h
          exact hj51 _ _ ih _ _ _ hP hD hS (lv_sub hl [0, 1] rfl) h
        · replace h := it c5 h
          refine lv_aload_n hx hb dX7_identifiedUnit_32 rfl (lv_at hl 0 rfl) ?_
          refine va_get (D := (dC, dI)) (ci := 8) (v := .ref (q 6)) (C := RX7) (T := TX7) (N := 5) hx hb hts hinX7 hown hK hP 0 rfl rfl 1 (by decide) (hts (.fieldLink RX7 19 "CableTester" "nets" "LCableTester$Nets;") (mm 2 rfl)) (fun _ h9 => h9) rfl dX7_identifiedUnit_33 ?_
          refine lv_iconst (v := (2 : Int32)) hx hb dX7_identifiedUnit_36 (by decide) ?_
          refine lv_iload_n hx hb dX7_identifiedUnit_37 rfl (lv_at hl 1 rfl) ?_
          refine lv_imul hx hb dX7_identifiedUnit_38 ?_
          refine lv_iconst (v := (1 : Int32)) hx hb dX7_identifiedUnit_39 (by decide) ?_
          refine lv_iadd hx hb dX7_identifiedUnit_40 ?_
          obtain ⟨r10, e11, h⟩ := bo h
          refine caVR_i (As := [.int (((2 : Int32) * x1) + (1 : Int32))]) (rest := []) (ctX5_statusOf l dC dI cq q S M o _ _ _ _ e11) F (cwV 1 hts gX7_identifiedUnit_X5_statusOf rfl rfl rfl hdX5_statusOf ⟨Nat.le_of_ble_eq_true rfl, Nat.le_of_ble_eq_true rfl⟩) hK hP hD hDm hS hA EV.blind (fun U hU hW => EV.call hX hS hDm hU hW) (va_recv hK hP (ci := 6) (q0 := 6) rfl rfl) rfl hl.1 rfl (Nat.le_of_ble_eq_true rfl) dX7_identifiedUnit_41 ⟨Nat.zero_le _, Nat.zero_le _⟩ (fun H locs hP hD hS => ?_)
          refine lv_if_ne (tgt := 51) hx hb dX7_identifiedUnit_44 (by decide) (fun c12 => ?_) (fun c12 => ?_)
          · replace h := ie c12 h
            exact hj51 _ _ ih _ _ _ hP hD hS (lv_sub hl [0, 1] rfl) h
          · replace h := it c12 h
            refine lv_iconst (v := (1 : Int32)) hx hb dX7_identifiedUnit_47 (by decide) ?_
            refine lv_goto (tgt := 52) hx hb dX7_identifiedUnit_48 (by decide) ?_
            exact hj52 _ _ _ ih _ _ _ hP hD hS (lv_sub hl [0, 1] rfl) h
  rw [mX7_identifiedUnit] at h
  refine lv_aload_n hx hb dX7_identifiedUnit_0 rfl (lv_at hl 0 rfl) ?_
  refine va_get (D := (dC, dI)) (ci := 8) (v := .ref (q 1)) (C := RX7) (T := TX7) (N := 5) hx hb hts hinX7 hown hK hP 0 rfl rfl 0 (by decide) (hts (.fieldLink RX7 10 "CableTester" "cable" "LCableTester$Cable;") (mm 1 rfl)) (fun _ h9 => h9) rfl dX7_identifiedUnit_1 ?_
  refine va_getN (D := (dC, dI)) (ci := 1) (v := .int (S.1 2)) (C := RX0) (T := TX0) (N := 7) hx hb hts hinX0 hown hK hP 1 rfl rfl 2 (by decide) (va_Nw.use rfl hX.1.2.2.2.1) (fun _ h9 => h9) rfl dX7_identifiedUnit_4 ?_
  refine lv_if_ne (tgt := 12) hx hb dX7_identifiedUnit_7 (by decide) (fun c1 => ?_) (fun c1 => ?_)
  · replace h := ie c1 h
    refine lv_iconst (v := (0 : Int32)) hx hb dX7_identifiedUnit_12 (by decide) ?_
    refine lv_istore_n (lv' := [(1, .int (0 : Int32)), (0, .ref (q 0))]) hx hb dX7_identifiedUnit_13 rfl hl (by decide) rfl (fun ls hl => ?_)
    exact hL14 _ _ _ _ _ hP hD hS (lv_sub hl [1, 0] rfl) h
  · replace h := it c1 h
    refine lv_iconst (v := (-1 : Int32)) hx hb dX7_identifiedUnit_10 (by decide) ?_
    exact hend _ _ _ _ _ h hP hD hS dX7_identifiedUnit_11
def mX7_identify (n : Nat) (S : CS)  : Option (Int32 × CS) :=
  (bn (mX7_measure n S) fun S3 => (bn (mX7_identifiedUnit n S3) fun r4 => (some (r4, S3))))
abbrev rmX7_identify : Room := { frames := 6, cells := 0, slots := 0, locals := 130 }
theorem hdX7_identify : yX7_identify.cls = RX7 ∧ yX7_identify.cls ≠ "java/lang/invoke/MethodHandle" ∧ yX7_identify.cls ≠ "java/lang/invoke/VarHandle" ∧ (parseMethodDescriptor yX7_identify.desc).map (fun d => d.parameters.length) = some 0 := by decide +kernel
set_option maxRecDepth 100000 in
set_option maxHeartbeats 8000000 in
theorem ctX7_identify (l : Launch) (dC : Nat → ClassId) (dI : Nat → Nat → Nat) (cq : Nat → ClassId) (q : Nat → Nat) (S : CS) (M : MS) (o : Nat → Int64) (sz : Nat) (h0 : Nat) (n : Nat)  (rr : Int32) (SS : CS) (h : mX7_identify n S = some (rr, SS)) : CtC_i l yX7_identify wsX7_identify rmX7_identify (fun a => h0 ≤ a) (EV h0 q) dC dI cq q S M o sz [.ref (q 0)] rr SS := by
  refine enC_i (cc := cX7_identify) (maxL := 1) (by decide) rfl (Nat.le_of_ble_eq_true rfl) (fun p e s m args below meth c A Q ls F hA hP hK hD hDm hX hS hl hend => ?_)
  obtain ⟨hx, hb, hml, hown, hts⟩ := id F
  have hown : s.vm.findClass RX7 = some m.cls := hown
  have F : CallFix p m c cX7_identify 1 s args wsX7_identify RX7 := F
  have hl : lv_has ls 1 [(0, .ref (q 0))] := hl
  rw [mX7_identify] at h
  refine lv_aload_n hx hb dX7_identify_0 rfl (lv_at hl 0 rfl) ?_
  obtain ⟨S3, e2, h⟩ := bo h
  refine caVC_v (As := []) (rest := []) (ctX7_measure l dC dI cq q S M o _ _ _ _ e2) F (cwV 0 hts gX7_identify_X7_measure rfl rfl rfl hdX7_measure ⟨Nat.le_of_ble_eq_true rfl, Nat.le_of_ble_eq_true rfl⟩) hK hP hD hDm hS hA EV.blind (fun U hU hW => EV.call hX hS hDm hU hW) (va_recv hK hP (ci := 8) (q0 := 0) rfl rfl) rfl hl.1 rfl (Nat.le_of_ble_eq_true rfl) dX7_identify_1 ⟨Nat.zero_le _, Nat.zero_le _⟩ (fun H locs hP hD hS => ?_)
  refine lv_aload_n hx hb dX7_identify_4 rfl (lv_at hl 0 rfl) ?_
  obtain ⟨r4, e5, h⟩ := bo h
  refine caVR_i (As := []) (rest := []) (ctX7_identifiedUnit l dC dI cq q S3 M o _ _ _ _ e5) F (cwV 0 hts gX7_identify_X7_identifiedUnit rfl rfl rfl hdX7_identifiedUnit ⟨Nat.le_of_ble_eq_true rfl, Nat.le_of_ble_eq_true rfl⟩) hK hP hD hDm hS hA EV.blind (fun U hU hW => EV.call hX hS hDm hU hW) (va_recv hK hP (ci := 8) (q0 := 0) rfl rfl) rfl hl.1 rfl (Nat.le_of_ble_eq_true rfl) dX7_identify_5 ⟨Nat.zero_le _, Nat.zero_le _⟩ (fun H locs hP hD hS => ?_)
  exact hend _ _ _ _ _ _ h hP hD hS dX7_identify_8
def mX7_suspect (n : Nat) (S : CS)  : Option (Int32) :=
  (bn (mX4_mostWrongPin n S) fun r1 => (some r1))
abbrev rmX7_suspect : Room := { frames := 3, cells := 0, slots := 0, locals := 65 }
theorem hdX7_suspect : yX7_suspect.cls = RX7 ∧ yX7_suspect.cls ≠ "java/lang/invoke/MethodHandle" ∧ yX7_suspect.cls ≠ "java/lang/invoke/VarHandle" ∧ (parseMethodDescriptor yX7_suspect.desc).map (fun d => d.parameters.length) = some 0 := by decide +kernel
set_option maxRecDepth 100000 in
set_option maxHeartbeats 8000000 in
theorem ctX7_suspect (l : Launch) (dC : Nat → ClassId) (dI : Nat → Nat → Nat) (cq : Nat → ClassId) (q : Nat → Nat) (S : CS) (M : MS) (o : Nat → Int64) (sz : Nat) (h0 : Nat) (n : Nat)  (rr : Int32) (h : mX7_suspect n S = some rr) : CtR_i l yX7_suspect wsX7_suspect rmX7_suspect (fun a => h0 ≤ a) (EV h0 q) dC dI cq q S M o sz [.ref (q 0)] rr := by
  refine enR_i (cc := cX7_suspect) (maxL := 1) (by decide) rfl (Nat.le_of_ble_eq_true rfl) (fun p e s m args below meth c A Q ls F hA hP hK hD hDm hX hS hl hend => ?_)
  obtain ⟨hx, hb, hml, hown, hts⟩ := id F
  have hown : s.vm.findClass RX7 = some m.cls := hown
  have F : CallFix p m c cX7_suspect 1 s args wsX7_suspect RX7 := F
  have hl : lv_has ls 1 [(0, .ref (q 0))] := hl
  have hinX7 : ∀ w ∈ u_ws RX7 TX7 5, w ∈ wsX7_suspect := fun w h => List.mem_cons_of_mem _ (List.mem_append_left _ (List.mem_append_right _ h))
  rw [mX7_suspect] at h
  refine lv_aload_n hx hb dX7_suspect_0 rfl (lv_at hl 0 rfl) ?_
  refine va_get (D := (dC, dI)) (ci := 8) (v := .ref (q 18)) (C := RX7) (T := TX7) (N := 5) hx hb hts hinX7 hown hK hP 0 rfl rfl 3 (by decide) (hts (.fieldLink RX7 33 "CableTester" "history" "LCableTester$History;") (mm 1 rfl)) (fun _ h9 => h9) rfl dX7_suspect_1 ?_
  obtain ⟨r1, e2, h⟩ := bo h
  refine caVR_i (As := []) (rest := []) (ctX4_mostWrongPin l dC dI cq q S M o _ _ _ _ e2) F (cwV 0 hts gX7_suspect_X4_mostWrongPin rfl rfl rfl hdX4_mostWrongPin ⟨Nat.le_of_ble_eq_true rfl, Nat.le_of_ble_eq_true rfl⟩) hK hP hD hDm hS hA EV.blind (fun U hU hW => EV.call hX hS hDm hU hW) (va_recv hK hP (ci := 5) (q0 := 18) rfl rfl) rfl hl.1 rfl (Nat.le_of_ble_eq_true rfl) dX7_suspect_4 ⟨Nat.zero_le _, Nat.zero_le _⟩ (fun H locs hP hD hS => ?_)
  exact hend _ _ _ _ _ h hP hD hS dX7_suspect_7
def mX7_nextChange_14 (n : Nat)  (x1 : Int32) : Nat → CS → Int32 → Option (Int32 × CS)
  | 0, _, _ => none
  | k + 1, S, x2 => (if (100 : Int32) < x2 then (some ((-1 : Int32), S)) else (bn (mX7_measureOnwards n S ((S.1 3) + x2)) fun S7 => (if (S7.1 6) = x1 then (mX7_nextChange_14 n x1 k S7 (x2 + (1 : Int32))) else (some (x2, S7)))))
def mX7_nextChange (n : Nat) (S : CS)  : Option (Int32 × CS) :=
  (bn (mX7_measure n S) fun S3 => (mX7_nextChange_14 n (S3.1 6) n S3 (1 : Int32)))
abbrev rmX7_nextChange : Room := { frames := 6, cells := 0, slots := 0, locals := 132 }
theorem hdX7_nextChange : yX7_nextChange.cls = RX7 ∧ yX7_nextChange.cls ≠ "java/lang/invoke/MethodHandle" ∧ yX7_nextChange.cls ≠ "java/lang/invoke/VarHandle" ∧ (parseMethodDescriptor yX7_nextChange.desc).map (fun d => d.parameters.length) = some 0 := by decide +kernel
set_option maxRecDepth 100000 in
set_option maxHeartbeats 8000000 in
theorem ctX7_nextChange (l : Launch) (dC : Nat → ClassId) (dI : Nat → Nat → Nat) (cq : Nat → ClassId) (q : Nat → Nat) (S : CS) (M : MS) (o : Nat → Int64) (sz : Nat) (h0 : Nat) (n : Nat)  (rr : Int32) (SS : CS) (h : mX7_nextChange n S = some (rr, SS)) : CtC_i l yX7_nextChange wsX7_nextChange rmX7_nextChange (fun a => h0 ≤ a) (EV h0 q) dC dI cq q S M o sz [.ref (q 0)] rr SS := by
  refine enC_i (cc := cX7_nextChange) (maxL := 3) (by decide) rfl (Nat.le_of_ble_eq_true rfl) (fun p e s m args below meth c A Q ls F hA hP hK hD hDm hX hS hl hend => ?_)
  obtain ⟨hx, hb, hml, hown, hts⟩ := id F
  have hown : s.vm.findClass RX7 = some m.cls := hown
  have F : CallFix p m c cX7_nextChange 3 s args wsX7_nextChange RX7 := F
  have hl : lv_has ls 3 [(0, .ref (q 0))] := hl
  have hinX0 : ∀ w ∈ u_ws RX0 TX0 7, w ∈ wsX7_nextChange := fun w h => List.mem_cons_of_mem _ (List.mem_append_left _ (List.mem_append_left _ (List.mem_append_left _ (List.mem_append_right _ h))))
  have hinX5 : ∀ w ∈ u_ws RX5 TX5 8, w ∈ wsX7_nextChange := fun w h => List.mem_cons_of_mem _ (List.mem_append_left _ (List.mem_append_left _ (List.mem_append_left _ (List.mem_append_left _ (List.mem_append_right _ h)))))
  have hinX7 : ∀ w ∈ u_ws RX7 TX7 5, w ∈ wsX7_nextChange := fun w h => List.mem_cons_of_mem _ (List.mem_append_left _ (List.mem_append_left _ (List.mem_append_left _ (List.mem_append_left _ (List.mem_append_left _ (List.mem_append_right _ h))))))
  have hL14 : ∀ (x1 : Int32)  (k : Nat) (S : CS) (x2 : Int32) (H : Heap) (locs : List Loc) (ls : Array Slot), va_P (dC, dI) vwCl (wA cq q S M o) H → va_D A (wA cq q S M o) → va_S A s.heap H locs → lv_has ls 3 [(0, .ref (q 0)), (1, .int x1), (2, .int x2)] → mX7_nextChange_14 n x1 k S x2 = some (rr, SS) → W p l e rmX7_nextChange s m args below meth c H locs 0 0 Q (F0 m 14 ls []) := by
    intro x1
    intro k
    induction k with
    | zero =>
      intro S x2 H locs ls hP hD hS hl h
      rw [mX7_nextChange_14] at h
      cases h
    | succ k ih =>
      intro S x2 H locs ls hP hD hS hl h
      rw [mX7_nextChange_14] at h
      refine lv_iload_n hx hb dX7_nextChange_14 rfl (lv_at hl 2 rfl) ?_
      refine lv_bipush (v := (100 : Int32)) hx hb dX7_nextChange_15 (by decide) ?_
      refine lv_icmp_gt (tgt := 52) hx hb dX7_nextChange_17 (by decide) (fun c4 => ?_) (fun c4 => ?_)
      · replace h := it c4 h
        refine lv_iconst (v := (-1 : Int32)) hx hb dX7_nextChange_52 (by decide) ?_
        exact hend _ _ _ _ _ _ h hP hD hS dX7_nextChange_53
      · replace h := ie c4 h
        refine lv_aload_n hx hb dX7_nextChange_20 rfl (lv_at hl 0 rfl) ?_
        refine lv_aload_n hx hb dX7_nextChange_21 rfl (lv_at hl 0 rfl) ?_
        refine va_get (D := (dC, dI)) (ci := 8) (v := .ref (q 1)) (C := RX7) (T := TX7) (N := 5) hx hb hts hinX7 hown hK hP 0 rfl rfl 0 (by decide) (hts (.fieldLink RX7 10 "CableTester" "cable" "LCableTester$Cable;") (mm 2 rfl)) (fun _ h9 => h9) rfl dX7_nextChange_22 ?_
        refine va_getN (D := (dC, dI)) (ci := 1) (v := .int (S.1 3)) (C := RX0) (T := TX0) (N := 7) hx hb hts hinX0 hown hK hP 1 rfl rfl 3 (by decide) (va_Nw.use rfl hX.1.2.2.2.2.1) (fun _ h9 => h9) rfl dX7_nextChange_25 ?_
        refine lv_iload_n hx hb dX7_nextChange_28 rfl (lv_at hl 2 rfl) ?_
        refine lv_iadd hx hb dX7_nextChange_29 ?_
        obtain ⟨S7, e6, h⟩ := bo h
        refine caVC_v (As := [.int ((S.1 3) + x2)]) (rest := []) (ctX7_measureOnwards l dC dI cq q S M o _ _ _ _ _ e6) F (cwV 1 hts gX7_nextChange_X7_measureOnwards rfl rfl rfl hdX7_measureOnwards ⟨Nat.le_of_ble_eq_true rfl, Nat.le_of_ble_eq_true rfl⟩) hK hP hD hDm hS hA EV.blind (fun U hU hW => EV.call hX hS hDm hU hW) (va_recv hK hP (ci := 8) (q0 := 0) rfl rfl) rfl hl.1 rfl (Nat.le_of_ble_eq_true rfl) dX7_nextChange_30 ⟨Nat.zero_le _, Nat.zero_le _⟩ (fun H locs hP hD hS => ?_)
        refine lv_aload_n hx hb dX7_nextChange_33 rfl (lv_at hl 0 rfl) ?_
        refine va_get (D := (dC, dI)) (ci := 8) (v := .ref (q 6)) (C := RX7) (T := TX7) (N := 5) hx hb hts hinX7 hown hK hP 0 rfl rfl 1 (by decide) (hts (.fieldLink RX7 19 "CableTester" "nets" "LCableTester$Nets;") (mm 1 rfl)) (fun _ h9 => h9) rfl dX7_nextChange_34 ?_
        refine va_getN (D := (dC, dI)) (ci := 6) (v := .int (S7.1 6)) (C := RX5) (T := TX5) (N := 8) hx hb hts hinX5 hown hK hP 6 rfl rfl 1 (by decide) (va_Nw.use rfl hX.1.2.2.2.2.2.2.2.2.1) (fun _ h9 => h9) rfl dX7_nextChange_37 ?_
        refine lv_iload_n hx hb dX7_nextChange_40 rfl (lv_at hl 1 rfl) ?_
        refine lv_icmp_eq (tgt := 46) hx hb dX7_nextChange_41 (by decide) (fun c8 => ?_) (fun c8 => ?_)
        · replace h := it c8 h
          refine lv_iinc (v := (x2 + (1 : Int32))) (lv' := [(2, .int (x2 + (1 : Int32))), (0, .ref (q 0)), (1, .int x1)]) hx hb dX7_nextChange_46 hl (k := 2) rfl rfl (by decide) rfl (fun ls hl => ?_)
          refine lv_goto (tgt := 14) hx hb dX7_nextChange_49 (by decide) ?_
          exact ih _ _ _ _ _ hP hD hS (lv_sub hl [1, 2, 0] rfl) h
        · replace h := ie c8 h
          refine lv_iload_n hx hb dX7_nextChange_44 rfl (lv_at hl 2 rfl) ?_
          exact hend _ _ _ _ _ _ h hP hD hS dX7_nextChange_45
  rw [mX7_nextChange] at h
  refine lv_aload_n hx hb dX7_nextChange_0 rfl (lv_at hl 0 rfl) ?_
  obtain ⟨S3, e2, h⟩ := bo h
  refine caVC_v (As := []) (rest := []) (ctX7_measure l dC dI cq q S M o _ _ _ _ e2) F (cwV 0 hts gX7_nextChange_X7_measure rfl rfl rfl hdX7_measure ⟨Nat.le_of_ble_eq_true rfl, Nat.le_of_ble_eq_true rfl⟩) hK hP hD hDm hS hA EV.blind (fun U hU hW => EV.call hX hS hDm hU hW) (va_recv hK hP (ci := 8) (q0 := 0) rfl rfl) rfl hl.1 rfl (Nat.le_of_ble_eq_true rfl) dX7_nextChange_1 ⟨Nat.zero_le _, Nat.zero_le _⟩ (fun H locs hP hD hS => ?_)
  refine lv_aload_n hx hb dX7_nextChange_4 rfl (lv_at hl 0 rfl) ?_
  refine va_get (D := (dC, dI)) (ci := 8) (v := .ref (q 6)) (C := RX7) (T := TX7) (N := 5) hx hb hts hinX7 hown hK hP 0 rfl rfl 1 (by decide) (hts (.fieldLink RX7 19 "CableTester" "nets" "LCableTester$Nets;") (mm 1 rfl)) (fun _ h9 => h9) rfl dX7_nextChange_5 ?_
  refine va_getN (D := (dC, dI)) (ci := 6) (v := .int (S3.1 6)) (C := RX5) (T := TX5) (N := 8) hx hb hts hinX5 hown hK hP 6 rfl rfl 1 (by decide) (va_Nw.use rfl hX.1.2.2.2.2.2.2.2.2.1) (fun _ h9 => h9) rfl dX7_nextChange_8 ?_
  refine lv_istore_n (lv' := [(1, .int (S3.1 6)), (0, .ref (q 0))]) hx hb dX7_nextChange_11 rfl hl (by decide) rfl (fun ls hl => ?_)
  refine lv_iconst (v := (1 : Int32)) hx hb dX7_nextChange_12 (by decide) ?_
  refine lv_istore_n (lv' := [(2, .int (1 : Int32)), (1, .int (S3.1 6)), (0, .ref (q 0))]) hx hb dX7_nextChange_13 rfl hl (by decide) rfl (fun ls hl => ?_)
  exact hL14 _ _ _ _ _ _ _ hP hD hS (lv_sub hl [2, 1, 0] rfl) h
def mX7_explanationNumber (n : Nat) (S : CS) (x1 : Int32) : Option (Int32 × CS) :=
  (bn (mX1_cuts n S) fun r1 => (bn (mX5_shortsNeeded n S) fun r3 => (bn (mX1_exchanges S) fun r5 => (bm (mX0_splitsNeeded n S) fun r7 S9 => (if x1 = (0 : Int32) then (some (r1, S9)) else (if x1 = (1 : Int32) then (some (r3, S9)) else (if x1 = (2 : Int32) then (some (r5, S9)) else (if x1 = (3 : Int32) then (some (r7, S9)) else (some ((((r1 + r3) + r5) + r7), S9))))))))))
abbrev rmX7_explanationNumber : Room := { frames := 3, cells := 0, slots := 0, locals := 71 }
theorem hdX7_explanationNumber : yX7_explanationNumber.cls = RX7 ∧ yX7_explanationNumber.cls ≠ "java/lang/invoke/MethodHandle" ∧ yX7_explanationNumber.cls ≠ "java/lang/invoke/VarHandle" ∧ (parseMethodDescriptor yX7_explanationNumber.desc).map (fun d => d.parameters.length) = some 1 := by decide +kernel
set_option maxRecDepth 100000 in
set_option maxHeartbeats 8000000 in
theorem ctX7_explanationNumber (l : Launch) (dC : Nat → ClassId) (dI : Nat → Nat → Nat) (cq : Nat → ClassId) (q : Nat → Nat) (S : CS) (M : MS) (o : Nat → Int64) (sz : Nat) (h0 : Nat) (n : Nat) (x1 : Int32) (rr : Int32) (SS : CS) (h : mX7_explanationNumber n S x1 = some (rr, SS)) : CtC_i l yX7_explanationNumber wsX7_explanationNumber rmX7_explanationNumber (fun a => h0 ≤ a) (EV h0 q) dC dI cq q S M o sz [.ref (q 0), .int x1] rr SS := by
  refine enC_i (cc := cX7_explanationNumber) (maxL := 6) (by decide) rfl (Nat.le_of_ble_eq_true rfl) (fun p e s m args below meth c A Q ls F hA hP hK hD hDm hX hS hl hend => ?_)
  obtain ⟨hx, hb, hml, hown, hts⟩ := id F
  have hown : s.vm.findClass RX7 = some m.cls := hown
  have F : CallFix p m c cX7_explanationNumber 6 s args wsX7_explanationNumber RX7 := F
  have hl : lv_has ls 6 [(0, .ref (q 0)), (1, .int x1)] := hl
  have hinX7 : ∀ w ∈ u_ws RX7 TX7 5, w ∈ wsX7_explanationNumber := fun w h => List.mem_cons_of_mem _ (List.mem_append_left _ (List.mem_append_left _ (List.mem_append_left _ (List.mem_append_left _ (List.mem_append_right _ h)))))
  rw [mX7_explanationNumber] at h
  refine lv_aload_n hx hb dX7_explanationNumber_0 rfl (lv_at hl 0 rfl) ?_
  refine va_get (D := (dC, dI)) (ci := 8) (v := .ref (q 13)) (C := RX7) (T := TX7) (N := 5) hx hb hts hinX7 hown hK hP 0 rfl rfl 2 (by decide) (hts (.fieldLink RX7 26 "CableTester" "explainer" "LCableTester$Explainer;") (mm 1 rfl)) (fun _ h9 => h9) rfl dX7_explanationNumber_1 ?_
  obtain ⟨r1, e2, h⟩ := bo h
  refine caVR_i (As := []) (rest := []) (ctX1_cuts l dC dI cq q S M o _ _ _ _ e2) F (cwV 0 hts gX7_explanationNumber_X1_cuts rfl rfl rfl hdX1_cuts ⟨Nat.le_of_ble_eq_true rfl, Nat.le_of_ble_eq_true rfl⟩) hK hP hD hDm hS hA EV.blind (fun U hU hW => EV.call hX hS hDm hU hW) (va_recv hK hP (ci := 2) (q0 := 13) rfl rfl) rfl hl.1 rfl (Nat.le_of_ble_eq_true rfl) dX7_explanationNumber_4 ⟨Nat.zero_le _, Nat.zero_le _⟩ (fun H locs hP hD hS => ?_)
  refine lv_istore_n (lv' := [(2, .int r1), (0, .ref (q 0)), (1, .int x1)]) hx hb dX7_explanationNumber_7 rfl hl (by decide) rfl (fun ls hl => ?_)
  refine lv_aload_n hx hb dX7_explanationNumber_8 rfl (lv_at hl 1 rfl) ?_
  refine va_get (D := (dC, dI)) (ci := 8) (v := .ref (q 6)) (C := RX7) (T := TX7) (N := 5) hx hb hts hinX7 hown hK hP 0 rfl rfl 1 (by decide) (hts (.fieldLink RX7 19 "CableTester" "nets" "LCableTester$Nets;") (mm 2 rfl)) (fun _ h9 => h9) rfl dX7_explanationNumber_9 ?_
  obtain ⟨r3, e4, h⟩ := bo h
  refine caVR_i (As := []) (rest := []) (ctX5_shortsNeeded l dC dI cq q S M o _ _ _ _ e4) F (cwV 0 hts gX7_explanationNumber_X5_shortsNeeded rfl rfl rfl hdX5_shortsNeeded ⟨Nat.le_of_ble_eq_true rfl, Nat.le_of_ble_eq_true rfl⟩) hK hP hD hDm hS hA EV.blind (fun U hU hW => EV.call hX hS hDm hU hW) (va_recv hK hP (ci := 6) (q0 := 6) rfl rfl) rfl hl.1 rfl (Nat.le_of_ble_eq_true rfl) dX7_explanationNumber_12 ⟨Nat.zero_le _, Nat.zero_le _⟩ (fun H locs hP hD hS => ?_)
  refine lv_istore_n (lv' := [(3, .int r3), (2, .int r1), (0, .ref (q 0)), (1, .int x1)]) hx hb dX7_explanationNumber_15 rfl hl (by decide) rfl (fun ls hl => ?_)
  refine lv_aload_n hx hb dX7_explanationNumber_16 rfl (lv_at hl 2 rfl) ?_
  refine va_get (D := (dC, dI)) (ci := 8) (v := .ref (q 13)) (C := RX7) (T := TX7) (N := 5) hx hb hts hinX7 hown hK hP 0 rfl rfl 2 (by decide) (hts (.fieldLink RX7 26 "CableTester" "explainer" "LCableTester$Explainer;") (mm 1 rfl)) (fun _ h9 => h9) rfl dX7_explanationNumber_17 ?_
  obtain ⟨r5, e6, h⟩ := bo h
  refine caVR_i (As := []) (rest := []) (ctX1_exchanges l dC dI cq q S M o _ _ _ e6) F (cwV 0 hts gX7_explanationNumber_X1_exchanges rfl rfl rfl hdX1_exchanges ⟨Nat.le_of_ble_eq_true rfl, Nat.le_of_ble_eq_true rfl⟩) hK hP hD hDm hS hA EV.blind (fun U hU hW => EV.call hX hS hDm hU hW) (va_recv hK hP (ci := 2) (q0 := 13) rfl rfl) rfl hl.1 rfl (Nat.le_of_ble_eq_true rfl) dX7_explanationNumber_20 ⟨Nat.zero_le _, Nat.zero_le _⟩ (fun H locs hP hD hS => ?_)
  refine lv_istore (lv' := [(4, .int r5), (3, .int r3), (2, .int r1), (0, .ref (q 0)), (1, .int x1)]) hx hb dX7_explanationNumber_23 hl (by decide) rfl (fun ls hl => ?_)
  refine lv_aload_n hx hb dX7_explanationNumber_25 rfl (lv_at hl 3 rfl) ?_
  refine va_get (D := (dC, dI)) (ci := 8) (v := .ref (q 1)) (C := RX7) (T := TX7) (N := 5) hx hb hts hinX7 hown hK hP 0 rfl rfl 0 (by decide) (hts (.fieldLink RX7 10 "CableTester" "cable" "LCableTester$Cable;") (mm 3 rfl)) (fun _ h9 => h9) rfl dX7_explanationNumber_26 ?_
  obtain ⟨r7, S9, e8, h⟩ := bp h
  refine caVC_i (As := []) (rest := []) (ctX0_splitsNeeded l dC dI cq q S M o _ _ _ _ _ e8) F (cwV 0 hts gX7_explanationNumber_X0_splitsNeeded rfl rfl rfl hdX0_splitsNeeded ⟨Nat.le_of_ble_eq_true rfl, Nat.le_of_ble_eq_true rfl⟩) hK hP hD hDm hS hA EV.blind (fun U hU hW => EV.call hX hS hDm hU hW) (va_recv hK hP (ci := 1) (q0 := 1) rfl rfl) rfl hl.1 rfl (Nat.le_of_ble_eq_true rfl) dX7_explanationNumber_29 ⟨Nat.zero_le _, Nat.zero_le _⟩ (fun H locs hP hD hS => ?_)
  refine lv_istore (lv' := [(5, .int r7), (4, .int r5), (3, .int r3), (2, .int r1), (0, .ref (q 0)), (1, .int x1)]) hx hb dX7_explanationNumber_32 hl (by decide) rfl (fun ls hl => ?_)
  refine lv_iload_n hx hb dX7_explanationNumber_34 rfl (lv_at hl 5 rfl) ?_
  by_cases c10 : x1 = (0 : Int32)
  · replace h := it c10 h
    refine lv_tableIn (tgt := 64) (off := 29) hx hb dX7_explanationNumber_35 (by rw [c10]; decide) (by rw [c10]; decide) (by rw [c10]; decide) (by decide) ?_
    refine lv_iload_n hx hb dX7_explanationNumber_64 rfl (lv_at hl 3 rfl) ?_
    exact hend _ _ _ _ _ _ h hP hD hS dX7_explanationNumber_65
  replace h := ie c10 h
  by_cases c11 : x1 = (1 : Int32)
  · replace h := it c11 h
    refine lv_tableIn (tgt := 66) (off := 31) hx hb dX7_explanationNumber_35 (by rw [c11]; decide) (by rw [c11]; decide) (by rw [c11]; decide) (by decide) ?_
    refine lv_iload_n hx hb dX7_explanationNumber_66 rfl (lv_at hl 2 rfl) ?_
    exact hend _ _ _ _ _ _ h hP hD hS dX7_explanationNumber_67
  replace h := ie c11 h
  by_cases c12 : x1 = (2 : Int32)
  · replace h := it c12 h
    refine lv_tableIn (tgt := 68) (off := 33) hx hb dX7_explanationNumber_35 (by rw [c12]; decide) (by rw [c12]; decide) (by rw [c12]; decide) (by decide) ?_
    refine lv_iload hx hb dX7_explanationNumber_68 (lv_at hl 1 rfl) ?_
    exact hend _ _ _ _ _ _ h hP hD hS dX7_explanationNumber_70
  replace h := ie c12 h
  by_cases c13 : x1 = (3 : Int32)
  · replace h := it c13 h
    refine lv_tableIn (tgt := 71) (off := 36) hx hb dX7_explanationNumber_35 (by rw [c13]; decide) (by rw [c13]; decide) (by rw [c13]; decide) (by decide) ?_
    refine lv_iload hx hb dX7_explanationNumber_71 (lv_at hl 0 rfl) ?_
    exact hend _ _ _ _ _ _ h hP hD hS dX7_explanationNumber_73
  replace h := ie c13 h
  refine lv_tableOut (tgt := 74) hx hb dX7_explanationNumber_35 (by have z0 := ne_i (n := 0) rfl c10; have z1 := ne_i (n := 1) rfl c11; have z2 := ne_i (n := 2) rfl c12; have z3 := ne_i (n := 3) rfl c13; omega) (by decide) ?_
  refine lv_iload_n hx hb dX7_explanationNumber_74 rfl (lv_at hl 3 rfl) ?_
  refine lv_iload_n hx hb dX7_explanationNumber_75 rfl (lv_at hl 2 rfl) ?_
  refine lv_iadd hx hb dX7_explanationNumber_76 ?_
  refine lv_iload hx hb dX7_explanationNumber_77 (lv_at hl 1 rfl) ?_
  refine lv_iadd hx hb dX7_explanationNumber_79 ?_
  refine lv_iload hx hb dX7_explanationNumber_80 (lv_at hl 0 rfl) ?_
  refine lv_iadd hx hb dX7_explanationNumber_82 ?_
  exact hend _ _ _ _ _ _ h hP hD hS dX7_explanationNumber_83
def mX7_numberOf (n : Nat) (S : CS) (x1 : Int32) : Option (Int32) :=
  (if x1 = (0 : Int32) then (some (S.1 0)) else (if x1 = (1 : Int32) then (some (S.1 1)) else (if x1 = (2 : Int32) then (some (S.1 2)) else (if x1 = (3 : Int32) then (some (S.1 3)) else (if x1 = (4 : Int32) then (bn (mJx4a65c_size_8abf5 S) fun r6 => (some r6)) else (if x1 = (5 : Int32) then (bn (mJ6_bitCount_0f7a4 (S.1 5)) fun r9 => (some r9)) else (if x1 = (6 : Int32) then (bn (mX5_size n S) fun r12 => (some r12)) else (if x1 = (7 : Int32) then (bn (mJ6_bitCount_0f7a4 (S.1 6)) fun r15 => (some r15)) else (bn (mX0_splitPairs n S) fun r17 => (some r17))))))))))
abbrev rmX7_numberOf : Room := { frames := 3, cells := 0, slots := 0, locals := 66 }
theorem hdX7_numberOf : yX7_numberOf.cls = RX7 ∧ yX7_numberOf.cls ≠ "java/lang/invoke/MethodHandle" ∧ yX7_numberOf.cls ≠ "java/lang/invoke/VarHandle" ∧ (parseMethodDescriptor yX7_numberOf.desc).map (fun d => d.parameters.length) = some 1 := by decide +kernel
set_option maxRecDepth 100000 in
set_option maxHeartbeats 8000000 in
theorem ctX7_numberOf (l : Launch) (dC : Nat → ClassId) (dI : Nat → Nat → Nat) (cq : Nat → ClassId) (q : Nat → Nat) (S : CS) (M : MS) (o : Nat → Int64) (sz : Nat) (h0 : Nat) (n : Nat) (x1 : Int32) (rr : Int32) (h : mX7_numberOf n S x1 = some rr) : CtR_i l yX7_numberOf wsX7_numberOf rmX7_numberOf (fun a => h0 ≤ a) (EV h0 q) dC dI cq q S M o sz [.ref (q 0), .int x1] rr := by
  refine enR_i (cc := cX7_numberOf) (maxL := 2) (by decide) rfl (Nat.le_of_ble_eq_true rfl) (fun p e s m args below meth c A Q ls F hA hP hK hD hDm hX hS hl hend => ?_)
  obtain ⟨hx, hb, hml, hown, hts⟩ := id F
  have hown : s.vm.findClass RX7 = some m.cls := hown
  have F : CallFix p m c cX7_numberOf 2 s args wsX7_numberOf RX7 := F
  have hl : lv_has ls 2 [(0, .ref (q 0)), (1, .int x1)] := hl
  have hinX0 : ∀ w ∈ u_ws RX0 TX0 7, w ∈ wsX7_numberOf := fun w h => List.mem_cons_of_mem _ (List.mem_append_left _ (List.mem_append_left _ (List.mem_append_right _ h)))
  have hinX5 : ∀ w ∈ u_ws RX5 TX5 8, w ∈ wsX7_numberOf := fun w h => List.mem_cons_of_mem _ (List.mem_append_left _ (List.mem_append_right _ h))
  have hinX7 : ∀ w ∈ u_ws RX7 TX7 5, w ∈ wsX7_numberOf := fun w h => List.mem_cons_of_mem _ (List.mem_append_left _ (List.mem_append_left _ (List.mem_append_left _ (List.mem_append_right _ h))))
  rw [mX7_numberOf] at h
  refine lv_iload_n hx hb dX7_numberOf_0 rfl (lv_at hl 1 rfl) ?_
  by_cases c1 : x1 = (0 : Int32)
  · replace h := it c1 h
    refine lv_tableIn (tgt := 48) (off := 47) hx hb dX7_numberOf_1 (by rw [c1]; decide) (by rw [c1]; decide) (by rw [c1]; decide) (by decide) ?_
    refine lv_aload_n hx hb dX7_numberOf_48 rfl (lv_at hl 0 rfl) ?_
    refine va_get (D := (dC, dI)) (ci := 8) (v := .ref (q 1)) (C := RX7) (T := TX7) (N := 5) hx hb hts hinX7 hown hK hP 0 rfl rfl 0 (by decide) (hts (.fieldLink RX7 10 "CableTester" "cable" "LCableTester$Cable;") (mm 1 rfl)) (fun _ h9 => h9) rfl dX7_numberOf_49 ?_
    refine va_getN (D := (dC, dI)) (ci := 1) (v := .int (S.1 0)) (C := RX0) (T := TX0) (N := 7) hx hb hts hinX0 hown hK hP 1 rfl rfl 0 (by decide) (va_Nw.use rfl hX.1.1) (fun _ h9 => h9) rfl dX7_numberOf_52 ?_
    exact hend _ _ _ _ _ h hP hD hS dX7_numberOf_55
  replace h := ie c1 h
  by_cases c2 : x1 = (1 : Int32)
  · replace h := it c2 h
    refine lv_tableIn (tgt := 56) (off := 55) hx hb dX7_numberOf_1 (by rw [c2]; decide) (by rw [c2]; decide) (by rw [c2]; decide) (by decide) ?_
    refine lv_aload_n hx hb dX7_numberOf_56 rfl (lv_at hl 0 rfl) ?_
    refine va_get (D := (dC, dI)) (ci := 8) (v := .ref (q 1)) (C := RX7) (T := TX7) (N := 5) hx hb hts hinX7 hown hK hP 0 rfl rfl 0 (by decide) (hts (.fieldLink RX7 10 "CableTester" "cable" "LCableTester$Cable;") (mm 1 rfl)) (fun _ h9 => h9) rfl dX7_numberOf_57 ?_
    refine va_getN (D := (dC, dI)) (ci := 1) (v := .int (S.1 1)) (C := RX0) (T := TX0) (N := 7) hx hb hts hinX0 hown hK hP 1 rfl rfl 1 (by decide) (va_Nw.use rfl hX.1.2.2.1) (fun _ h9 => h9) rfl dX7_numberOf_60 ?_
    exact hend _ _ _ _ _ h hP hD hS dX7_numberOf_63
  replace h := ie c2 h
  by_cases c3 : x1 = (2 : Int32)
  · replace h := it c3 h
    refine lv_tableIn (tgt := 64) (off := 63) hx hb dX7_numberOf_1 (by rw [c3]; decide) (by rw [c3]; decide) (by rw [c3]; decide) (by decide) ?_
    refine lv_aload_n hx hb dX7_numberOf_64 rfl (lv_at hl 0 rfl) ?_
    refine va_get (D := (dC, dI)) (ci := 8) (v := .ref (q 1)) (C := RX7) (T := TX7) (N := 5) hx hb hts hinX7 hown hK hP 0 rfl rfl 0 (by decide) (hts (.fieldLink RX7 10 "CableTester" "cable" "LCableTester$Cable;") (mm 1 rfl)) (fun _ h9 => h9) rfl dX7_numberOf_65 ?_
    refine va_getN (D := (dC, dI)) (ci := 1) (v := .int (S.1 2)) (C := RX0) (T := TX0) (N := 7) hx hb hts hinX0 hown hK hP 1 rfl rfl 2 (by decide) (va_Nw.use rfl hX.1.2.2.2.1) (fun _ h9 => h9) rfl dX7_numberOf_68 ?_
    exact hend _ _ _ _ _ h hP hD hS dX7_numberOf_71
  replace h := ie c3 h
  by_cases c4 : x1 = (3 : Int32)
  · replace h := it c4 h
    refine lv_tableIn (tgt := 72) (off := 71) hx hb dX7_numberOf_1 (by rw [c4]; decide) (by rw [c4]; decide) (by rw [c4]; decide) (by decide) ?_
    refine lv_aload_n hx hb dX7_numberOf_72 rfl (lv_at hl 0 rfl) ?_
    refine va_get (D := (dC, dI)) (ci := 8) (v := .ref (q 1)) (C := RX7) (T := TX7) (N := 5) hx hb hts hinX7 hown hK hP 0 rfl rfl 0 (by decide) (hts (.fieldLink RX7 10 "CableTester" "cable" "LCableTester$Cable;") (mm 1 rfl)) (fun _ h9 => h9) rfl dX7_numberOf_73 ?_
    refine va_getN (D := (dC, dI)) (ci := 1) (v := .int (S.1 3)) (C := RX0) (T := TX0) (N := 7) hx hb hts hinX0 hown hK hP 1 rfl rfl 3 (by decide) (va_Nw.use rfl hX.1.2.2.2.2.1) (fun _ h9 => h9) rfl dX7_numberOf_76 ?_
    exact hend _ _ _ _ _ h hP hD hS dX7_numberOf_79
  replace h := ie c4 h
  by_cases c5 : x1 = (4 : Int32)
  · replace h := it c5 h
    refine lv_tableIn (tgt := 80) (off := 79) hx hb dX7_numberOf_1 (by rw [c5]; decide) (by rw [c5]; decide) (by rw [c5]; decide) (by decide) ?_
    refine lv_aload_n hx hb dX7_numberOf_80 rfl (lv_at hl 0 rfl) ?_
    refine va_get (D := (dC, dI)) (ci := 8) (v := .ref (q 1)) (C := RX7) (T := TX7) (N := 5) hx hb hts hinX7 hown hK hP 0 rfl rfl 0 (by decide) (hts (.fieldLink RX7 10 "CableTester" "cable" "LCableTester$Cable;") (mm 1 rfl)) (fun _ h9 => h9) rfl dX7_numberOf_81 ?_
    refine va_getN (D := (dC, dI)) (ci := 1) (v := .ref (q 3)) (C := RX0) (T := TX0) (N := 7) hx hb hts hinX0 hown hK hP 1 rfl rfl 5 (by decide) (va_Nw.use rfl hX.1.2.2.2.2.2.2.1) (fun _ h9 => h9) rfl dX7_numberOf_84 ?_
    obtain ⟨r6, e7, h⟩ := bo h
    refine caVR_i (As := []) (rest := []) (ctJx4a65c_size_8abf5 l dC dI cq q S M o _ _ _ e7) F (cwV 0 hts gX7_numberOf_Jx4a65c_size_8abf5 rfl rfl rfl hdJx4a65c_size_8abf5 ⟨Nat.le_of_ble_eq_true rfl, Nat.le_of_ble_eq_true rfl⟩) hK hP hD hDm hS hA EV.blind (fun U hU hW => EV.call hX hS hDm hU hW) (va_recv hK hP (ci := 0) (q0 := 3) rfl rfl) rfl hl.1 rfl (Nat.le_of_ble_eq_true rfl) dX7_numberOf_87 ⟨Nat.zero_le _, Nat.zero_le _⟩ (fun H locs hP hD hS => ?_)
    exact hend _ _ _ _ _ h hP hD hS dX7_numberOf_90
  replace h := ie c5 h
  by_cases c8 : x1 = (5 : Int32)
  · replace h := it c8 h
    refine lv_tableIn (tgt := 91) (off := 90) hx hb dX7_numberOf_1 (by rw [c8]; decide) (by rw [c8]; decide) (by rw [c8]; decide) (by decide) ?_
    refine lv_aload_n hx hb dX7_numberOf_91 rfl (lv_at hl 0 rfl) ?_
    refine va_get (D := (dC, dI)) (ci := 8) (v := .ref (q 6)) (C := RX7) (T := TX7) (N := 5) hx hb hts hinX7 hown hK hP 0 rfl rfl 1 (by decide) (hts (.fieldLink RX7 19 "CableTester" "nets" "LCableTester$Nets;") (mm 2 rfl)) (fun _ h9 => h9) rfl dX7_numberOf_92 ?_
    refine va_getN (D := (dC, dI)) (ci := 6) (v := .int (S.1 5)) (C := RX5) (T := TX5) (N := 8) hx hb hts hinX5 hown hK hP 6 rfl rfl 0 (by decide) (va_Nw.use rfl hX.1.2.2.2.2.2.2.2.1) (fun _ h9 => h9) rfl dX7_numberOf_95 ?_
    obtain ⟨r9, e10, h⟩ := bo h
    refine caSR_i (As := [.int (S.1 5)]) (rest := []) (ctJ6_bitCount_0f7a4 l dC dI cq q S M o _ _ _ _ e10) F (va_cwS 1 hts gX7_numberOf_J6_bitCount_0f7a4 rfl rfl rfl hdJ6_bitCount_0f7a4 ⟨Nat.le_of_ble_eq_true rfl, Nat.le_of_ble_eq_true rfl⟩) hK hP hD hDm hS hA EV.blind (fun U hU hW => EV.call hX hS hDm hU hW) rfl hl.1 rfl (Nat.le_of_ble_eq_true rfl) dX7_numberOf_98 ⟨Nat.zero_le _, Nat.zero_le _⟩ (fun H locs hP hD hS => ?_)
    exact hend _ _ _ _ _ h hP hD hS dX7_numberOf_101
  replace h := ie c8 h
  by_cases c11 : x1 = (6 : Int32)
  · replace h := it c11 h
    refine lv_tableIn (tgt := 102) (off := 101) hx hb dX7_numberOf_1 (by rw [c11]; decide) (by rw [c11]; decide) (by rw [c11]; decide) (by decide) ?_
    refine lv_aload_n hx hb dX7_numberOf_102 rfl (lv_at hl 0 rfl) ?_
    refine va_get (D := (dC, dI)) (ci := 8) (v := .ref (q 6)) (C := RX7) (T := TX7) (N := 5) hx hb hts hinX7 hown hK hP 0 rfl rfl 1 (by decide) (hts (.fieldLink RX7 19 "CableTester" "nets" "LCableTester$Nets;") (mm 2 rfl)) (fun _ h9 => h9) rfl dX7_numberOf_103 ?_
    obtain ⟨r12, e13, h⟩ := bo h
    refine caVR_i (As := []) (rest := []) (ctX5_size l dC dI cq q S M o _ _ _ _ e13) F (cwV 0 hts gX7_numberOf_X5_size rfl rfl rfl hdX5_size ⟨Nat.le_of_ble_eq_true rfl, Nat.le_of_ble_eq_true rfl⟩) hK hP hD hDm hS hA EV.blind (fun U hU hW => EV.call hX hS hDm hU hW) (va_recv hK hP (ci := 6) (q0 := 6) rfl rfl) rfl hl.1 rfl (Nat.le_of_ble_eq_true rfl) dX7_numberOf_106 ⟨Nat.zero_le _, Nat.zero_le _⟩ (fun H locs hP hD hS => ?_)
    exact hend _ _ _ _ _ h hP hD hS dX7_numberOf_109
  replace h := ie c11 h
  by_cases c14 : x1 = (7 : Int32)
  · replace h := it c14 h
    refine lv_tableIn (tgt := 110) (off := 109) hx hb dX7_numberOf_1 (by rw [c14]; decide) (by rw [c14]; decide) (by rw [c14]; decide) (by decide) ?_
    refine lv_aload_n hx hb dX7_numberOf_110 rfl (lv_at hl 0 rfl) ?_
    refine va_get (D := (dC, dI)) (ci := 8) (v := .ref (q 6)) (C := RX7) (T := TX7) (N := 5) hx hb hts hinX7 hown hK hP 0 rfl rfl 1 (by decide) (hts (.fieldLink RX7 19 "CableTester" "nets" "LCableTester$Nets;") (mm 2 rfl)) (fun _ h9 => h9) rfl dX7_numberOf_111 ?_
    refine va_getN (D := (dC, dI)) (ci := 6) (v := .int (S.1 6)) (C := RX5) (T := TX5) (N := 8) hx hb hts hinX5 hown hK hP 6 rfl rfl 1 (by decide) (va_Nw.use rfl hX.1.2.2.2.2.2.2.2.2.1) (fun _ h9 => h9) rfl dX7_numberOf_114 ?_
    obtain ⟨r15, e16, h⟩ := bo h
    refine caSR_i (As := [.int (S.1 6)]) (rest := []) (ctJ6_bitCount_0f7a4 l dC dI cq q S M o _ _ _ _ e16) F (va_cwS 1 hts gX7_numberOf_J6_bitCount_0f7a4 rfl rfl rfl hdJ6_bitCount_0f7a4 ⟨Nat.le_of_ble_eq_true rfl, Nat.le_of_ble_eq_true rfl⟩) hK hP hD hDm hS hA EV.blind (fun U hU hW => EV.call hX hS hDm hU hW) rfl hl.1 rfl (Nat.le_of_ble_eq_true rfl) dX7_numberOf_117 ⟨Nat.zero_le _, Nat.zero_le _⟩ (fun H locs hP hD hS => ?_)
    exact hend _ _ _ _ _ h hP hD hS dX7_numberOf_120
  replace h := ie c14 h
  refine lv_tableOut (tgt := 121) hx hb dX7_numberOf_1 (by have z0 := ne_i (n := 0) rfl c1; have z1 := ne_i (n := 1) rfl c2; have z2 := ne_i (n := 2) rfl c3; have z3 := ne_i (n := 3) rfl c4; have z4 := ne_i (n := 4) rfl c5; have z5 := ne_i (n := 5) rfl c8; have z6 := ne_i (n := 6) rfl c11; have z7 := ne_i (n := 7) rfl c14; omega) (by decide) ?_
  refine lv_aload_n hx hb dX7_numberOf_121 rfl (lv_at hl 0 rfl) ?_
  refine va_get (D := (dC, dI)) (ci := 8) (v := .ref (q 1)) (C := RX7) (T := TX7) (N := 5) hx hb hts hinX7 hown hK hP 0 rfl rfl 0 (by decide) (hts (.fieldLink RX7 10 "CableTester" "cable" "LCableTester$Cable;") (mm 1 rfl)) (fun _ h9 => h9) rfl dX7_numberOf_122 ?_
  obtain ⟨r17, e18, h⟩ := bo h
  refine caVR_i (As := []) (rest := []) (ctX0_splitPairs l dC dI cq q S M o _ _ _ _ e18) F (cwV 0 hts gX7_numberOf_X0_splitPairs rfl rfl rfl hdX0_splitPairs ⟨Nat.le_of_ble_eq_true rfl, Nat.le_of_ble_eq_true rfl⟩) hK hP hD hDm hS hA EV.blind (fun U hU hW => EV.call hX hS hDm hU hW) (va_recv hK hP (ci := 1) (q0 := 1) rfl rfl) rfl hl.1 rfl (Nat.le_of_ble_eq_true rfl) dX7_numberOf_125 ⟨Nat.zero_le _, Nat.zero_le _⟩ (fun H locs hP hD hS => ?_)
  exact hend _ _ _ _ _ h hP hD hS dX7_numberOf_128
def mX7_mix (x0 : Int64) (x2 : Int32) : Option (Int64) :=
  (some (((31 : Int64) * x0) + x2.toInt64))
abbrev rmX7_mix : Room := { frames := 0, cells := 0, slots := 0, locals := 0 }
theorem hdX7_mix : yX7_mix.cls ≠ "java/lang/invoke/MethodHandle" ∧ yX7_mix.cls ≠ "java/lang/invoke/VarHandle" ∧ (parseMethodDescriptor yX7_mix.desc).map (fun d => d.parameters.length) = some 2 := by decide +kernel
set_option maxRecDepth 100000 in
set_option maxHeartbeats 8000000 in
theorem ctX7_mix (l : Launch) (dC : Nat → ClassId) (dI : Nat → Nat → Nat) (cq : Nat → ClassId) (q : Nat → Nat) (S : CS) (M : MS) (o : Nat → Int64) (sz : Nat) (h0 : Nat) (x0 : Int64) (x2 : Int32) (rr : Int64) (h : mX7_mix x0 x2 = some rr) : CtR_l l yX7_mix wsX7_mix rmX7_mix (fun a => h0 ≤ a) (EV h0 q) dC dI cq q S M o sz [.long x0, .int x2] rr := by
  refine enR_l (cc := cX7_mix) (maxL := 3) (by decide) rfl (Nat.le_of_ble_eq_true rfl) (fun p e s m args below meth c A Q ls F hA hP hK hD hDm hX hS hl hend => ?_)
  obtain ⟨hx, hb, hml, hown, hts⟩ := id F
  have hown : s.vm.findClass RX7 = some m.cls := hown
  have F : CallFix p m c cX7_mix 3 s args wsX7_mix RX7 := F
  have hl : lv_has ls 3 [(0, .long x0), (2, .int x2)] := hl
  rw [mX7_mix] at h
  refine lv_ldc2 hx hb hown (hts (.constantLong RX7 290 (31)) (mm 1 rfl)) dX7_mix_0 ?_
  refine lv_lload_n hx hb dX7_mix_3 rfl (lv_at hl 0 rfl) ?_
  refine lv_lmul hx hb dX7_mix_4 ?_
  refine lv_iload_n hx hb dX7_mix_5 rfl (lv_at hl 1 rfl) ?_
  refine lv_i2l hx hb dX7_mix_6 rfl ?_
  refine lv_ladd hx hb dX7_mix_7 ?_
  exact hend _ _ _ _ _ h hP hD hS dX7_mix_8
def mX7_mixPin_132 (n : Nat)  (S : CS) (x3 : Int32) : Nat → Int64 → Int32 → Option (Int64)
  | 0, _, _ => none
  | k + 1, x4, x6 => (if (4 : Int32) < x6 then (bn (mX1_farPinFor S x3) fun r27 => (bn (mX7_mix x4 r27) fun r29 => (some r29))) else (bn (mX4_numberAbout n S x3 x6) fun r31 => (bn (mX7_mix x4 r31) fun r33 => (mX7_mixPin_132 n S x3 k r33 (x6 + (1 : Int32))))))
def mX7_mixPin_100 (n : Nat)  (S : CS) (x3 : Int32) : Nat → Int64 → Int32 → Option (Int64)
  | 0, _, _ => none
  | k + 1, x4, x6 => (if (3 : Int32) < x6 then (mX7_mixPin_132 n S x3 n x4 (0 : Int32)) else (bn (mX0_echoAt n S x3 x6) fun r35 => (bn (mX7_mix x4 r35) fun r37 => (mX7_mixPin_100 n S x3 k r37 (x6 + (1 : Int32))))))
def mX7_mixPin (n : Nat) (S : CS) (x1 : Int64) (x3 : Int32) : Option (Int64) :=
  (bn (mX0_wireAt S (0 : Int32) x3) fun r1 => (bn (mX7_mix x1 r1) fun r3 => (bn (mX0_wireAt S (1 : Int32) x3) fun r5 => (bn (mX7_mix r3 r5) fun r7 => (bn (mX5_joinedPins S (0 : Int32) x3 (0 : Int32)) fun r9 => (bn (mX7_mix r7 r9) fun r11 => (bn (mX5_joinedPins S (0 : Int32) x3 (1 : Int32)) fun r13 => (bn (mX7_mix r11 r13) fun r15 => (bn (mX5_joinedPins S (1 : Int32) x3 (1 : Int32)) fun r17 => (bn (mX7_mix r15 r17) fun r19 => (bn (mX5_statusOf S x3) fun r21 => (bn (mX7_mix r19 r21) fun r23 => (mX7_mixPin_100 n S x3 n r23 (0 : Int32))))))))))))))
abbrev rmX7_mixPin : Room := { frames := 5, cells := 0, slots := 0, locals := 114 }
theorem hdX7_mixPin : yX7_mixPin.cls = RX7 ∧ yX7_mixPin.cls ≠ "java/lang/invoke/MethodHandle" ∧ yX7_mixPin.cls ≠ "java/lang/invoke/VarHandle" ∧ (parseMethodDescriptor yX7_mixPin.desc).map (fun d => d.parameters.length) = some 2 := by decide +kernel
set_option maxRecDepth 100000 in
set_option maxHeartbeats 8000000 in
theorem ctX7_mixPin (l : Launch) (dC : Nat → ClassId) (dI : Nat → Nat → Nat) (cq : Nat → ClassId) (q : Nat → Nat) (S : CS) (M : MS) (o : Nat → Int64) (sz : Nat) (h0 : Nat) (n : Nat) (x1 : Int64) (x3 : Int32) (rr : Int64) (h : mX7_mixPin n S x1 x3 = some rr) : CtR_l l yX7_mixPin wsX7_mixPin rmX7_mixPin (fun a => h0 ≤ a) (EV h0 q) dC dI cq q S M o sz [.ref (q 0), .long x1, .int x3] rr := by
  refine enR_l (cc := cX7_mixPin) (maxL := 7) (by decide) rfl (Nat.le_of_ble_eq_true rfl) (fun p e s m args below meth c A Q ls F hA hP hK hD hDm hX hS hl hend => ?_)
  obtain ⟨hx, hb, hml, hown, hts⟩ := id F
  have hown : s.vm.findClass RX7 = some m.cls := hown
  have F : CallFix p m c cX7_mixPin 7 s args wsX7_mixPin RX7 := F
  have hl : lv_has ls 7 [(0, .ref (q 0)), (1, .long x1), (3, .int x3)] := hl
  have hinX7 : ∀ w ∈ u_ws RX7 TX7 5, w ∈ wsX7_mixPin := fun w h => List.mem_cons_of_mem _ (List.mem_append_left _ (List.mem_append_left _ (List.mem_append_left _ (List.mem_append_left _ (List.mem_append_left _ (List.mem_append_left _ (List.mem_append_right _ h)))))))
  have hL132 : ∀ (x3 : Int32)  (k : Nat)  (x4 : Int64) (x6 : Int32) (H : Heap) (locs : List Loc) (ls : Array Slot), va_P (dC, dI) vwCl (wA cq q S M o) H → va_D A (wA cq q S M o) → va_S A s.heap H locs → lv_has ls 7 [(0, .ref (q 0)), (3, .int x3), (4, .long x4), (6, .int x6)] → mX7_mixPin_132 n S x3 k x4 x6 = some rr → W p l e rmX7_mixPin s m args below meth c H locs 0 0 Q (F0 m 132 ls []) := by
    intro x3
    intro k
    induction k with
    | zero =>
      intro x4 x6 H locs ls hP hD hS hl h
      rw [mX7_mixPin_132] at h
      cases h
    | succ k ih =>
      intro x4 x6 H locs ls hP hD hS hl h
      rw [mX7_mixPin_132] at h
      refine lv_iload hx hb dX7_mixPin_132 (lv_at hl 3 rfl) ?_
      refine lv_iconst (v := (4 : Int32)) hx hb dX7_mixPin_134 (by decide) ?_
      refine lv_icmp_gt (tgt := 161) hx hb dX7_mixPin_135 (by decide) (fun c26 => ?_) (fun c26 => ?_)
      · replace h := it c26 h
        refine lv_lload hx hb dX7_mixPin_161 (lv_at hl 2 rfl) ?_
        refine lv_aload_n hx hb dX7_mixPin_163 rfl (lv_at hl 0 rfl) ?_
        refine va_get (D := (dC, dI)) (ci := 8) (v := .ref (q 13)) (C := RX7) (T := TX7) (N := 5) hx hb hts hinX7 hown hK hP 0 rfl rfl 2 (by decide) (hts (.fieldLink RX7 26 "CableTester" "explainer" "LCableTester$Explainer;") (mm 4 rfl)) (fun _ h9 => h9) rfl dX7_mixPin_164 ?_
        refine lv_iload_n hx hb dX7_mixPin_167 rfl (lv_at hl 1 rfl) ?_
        obtain ⟨r27, e28, h⟩ := bo h
        refine caVR_i (As := [.int x3]) (rest := [.long x4]) (ctX1_farPinFor l dC dI cq q S M o _ _ _ _ e28) F (cwV 1 hts gX7_mixPin_X1_farPinFor rfl rfl rfl hdX1_farPinFor ⟨Nat.le_of_ble_eq_true rfl, Nat.le_of_ble_eq_true rfl⟩) hK hP hD hDm hS hA EV.blind (fun U hU hW => EV.call hX hS hDm hU hW) (va_recv hK hP (ci := 2) (q0 := 13) rfl rfl) rfl hl.1 rfl (Nat.le_of_ble_eq_true rfl) dX7_mixPin_168 ⟨Nat.zero_le _, Nat.zero_le _⟩ (fun H locs hP hD hS => ?_)
        obtain ⟨r29, e30, h⟩ := bo h
        refine caSR_l (As := [.long x4, .int r27]) (rest := []) (ctX7_mix l dC dI cq q S M o _ _ _ _ _ e30) F (va_cwS 2 hts gX7_mixPin_X7_mix rfl rfl rfl hdX7_mix ⟨Nat.le_of_ble_eq_true rfl, Nat.le_of_ble_eq_true rfl⟩) hK hP hD hDm hS hA EV.blind (fun U hU hW => EV.call hX hS hDm hU hW) rfl hl.1 rfl (Nat.le_of_ble_eq_true rfl) dX7_mixPin_171 ⟨Nat.zero_le _, Nat.zero_le _⟩ (fun H locs hP hD hS => ?_)
        exact hend _ _ _ _ _ h hP hD hS dX7_mixPin_174
      · replace h := ie c26 h
        refine lv_lload hx hb dX7_mixPin_138 (lv_at hl 2 rfl) ?_
        refine lv_aload_n hx hb dX7_mixPin_140 rfl (lv_at hl 0 rfl) ?_
        refine va_get (D := (dC, dI)) (ci := 8) (v := .ref (q 18)) (C := RX7) (T := TX7) (N := 5) hx hb hts hinX7 hown hK hP 0 rfl rfl 3 (by decide) (hts (.fieldLink RX7 33 "CableTester" "history" "LCableTester$History;") (mm 3 rfl)) (fun _ h9 => h9) rfl dX7_mixPin_141 ?_
        refine lv_iload_n hx hb dX7_mixPin_144 rfl (lv_at hl 1 rfl) ?_
        refine lv_iload hx hb dX7_mixPin_145 (lv_at hl 3 rfl) ?_
        obtain ⟨r31, e32, h⟩ := bo h
        refine caVR_i (As := [.int x3, .int x6]) (rest := [.long x4]) (ctX4_numberAbout l dC dI cq q S M o _ _ _ _ _ _ e32) F (cwV 2 hts gX7_mixPin_X4_numberAbout rfl rfl rfl hdX4_numberAbout ⟨Nat.le_of_ble_eq_true rfl, Nat.le_of_ble_eq_true rfl⟩) hK hP hD hDm hS hA EV.blind (fun U hU hW => EV.call hX hS hDm hU hW) (va_recv hK hP (ci := 5) (q0 := 18) rfl rfl) rfl hl.1 rfl (Nat.le_of_ble_eq_true rfl) dX7_mixPin_147 ⟨Nat.zero_le _, Nat.zero_le _⟩ (fun H locs hP hD hS => ?_)
        obtain ⟨r33, e34, h⟩ := bo h
        refine caSR_l (As := [.long x4, .int r31]) (rest := []) (ctX7_mix l dC dI cq q S M o _ _ _ _ _ e34) F (va_cwS 2 hts gX7_mixPin_X7_mix rfl rfl rfl hdX7_mix ⟨Nat.le_of_ble_eq_true rfl, Nat.le_of_ble_eq_true rfl⟩) hK hP hD hDm hS hA EV.blind (fun U hU hW => EV.call hX hS hDm hU hW) rfl hl.1 rfl (Nat.le_of_ble_eq_true rfl) dX7_mixPin_150 ⟨Nat.zero_le _, Nat.zero_le _⟩ (fun H locs hP hD hS => ?_)
        refine lv_lstore (lv' := [(4, .long r33), (0, .ref (q 0)), (3, .int x3), (6, .int x6)]) hx hb dX7_mixPin_153 hl (by decide) rfl (fun ls hl => ?_)
        refine lv_iinc (v := (x6 + (1 : Int32))) (lv' := [(6, .int (x6 + (1 : Int32))), (4, .long r33), (0, .ref (q 0)), (3, .int x3)]) hx hb dX7_mixPin_155 hl (k := 3) rfl rfl (by decide) rfl (fun ls hl => ?_)
        refine lv_goto (tgt := 132) hx hb dX7_mixPin_158 (by decide) ?_
        exact ih _ _ _ _ _ hP hD hS (lv_sub hl [2, 3, 1, 0] rfl) h
  have hL100 : ∀ (x3 : Int32)  (k : Nat)  (x4 : Int64) (x6 : Int32) (H : Heap) (locs : List Loc) (ls : Array Slot), va_P (dC, dI) vwCl (wA cq q S M o) H → va_D A (wA cq q S M o) → va_S A s.heap H locs → lv_has ls 7 [(0, .ref (q 0)), (3, .int x3), (4, .long x4), (6, .int x6)] → mX7_mixPin_100 n S x3 k x4 x6 = some rr → W p l e rmX7_mixPin s m args below meth c H locs 0 0 Q (F0 m 100 ls []) := by
    intro x3
    intro k
    induction k with
    | zero =>
      intro x4 x6 H locs ls hP hD hS hl h
      rw [mX7_mixPin_100] at h
      cases h
    | succ k ih =>
      intro x4 x6 H locs ls hP hD hS hl h
      rw [mX7_mixPin_100] at h
      refine lv_iload hx hb dX7_mixPin_100 (lv_at hl 3 rfl) ?_
      refine lv_iconst (v := (3 : Int32)) hx hb dX7_mixPin_102 (by decide) ?_
      refine lv_icmp_gt (tgt := 129) hx hb dX7_mixPin_103 (by decide) (fun c25 => ?_) (fun c25 => ?_)
      · replace h := it c25 h
        refine lv_iconst (v := (0 : Int32)) hx hb dX7_mixPin_129 (by decide) ?_
        refine lv_istore (lv' := [(6, .int (0 : Int32)), (0, .ref (q 0)), (3, .int x3), (4, .long x4)]) hx hb dX7_mixPin_130 hl (by decide) rfl (fun ls hl => ?_)
        exact hL132 _ _ _ _ _ _ _ hP hD hS (lv_sub hl [1, 2, 3, 0] rfl) h
      · replace h := ie c25 h
        refine lv_lload hx hb dX7_mixPin_106 (lv_at hl 2 rfl) ?_
        refine lv_aload_n hx hb dX7_mixPin_108 rfl (lv_at hl 0 rfl) ?_
        refine va_get (D := (dC, dI)) (ci := 8) (v := .ref (q 1)) (C := RX7) (T := TX7) (N := 5) hx hb hts hinX7 hown hK hP 0 rfl rfl 0 (by decide) (hts (.fieldLink RX7 10 "CableTester" "cable" "LCableTester$Cable;") (mm 1 rfl)) (fun _ h9 => h9) rfl dX7_mixPin_109 ?_
        refine lv_iload_n hx hb dX7_mixPin_112 rfl (lv_at hl 1 rfl) ?_
        refine lv_iload hx hb dX7_mixPin_113 (lv_at hl 3 rfl) ?_
        obtain ⟨r35, e36, h⟩ := bo h
        refine caVR_i (As := [.int x3, .int x6]) (rest := [.long x4]) (ctX0_echoAt l dC dI cq q S M o _ _ _ _ _ _ e36) F (cwV 2 hts gX7_mixPin_X0_echoAt rfl rfl rfl hdX0_echoAt ⟨Nat.le_of_ble_eq_true rfl, Nat.le_of_ble_eq_true rfl⟩) hK hP hD hDm hS hA EV.blind (fun U hU hW => EV.call hX hS hDm hU hW) (va_recv hK hP (ci := 1) (q0 := 1) rfl rfl) rfl hl.1 rfl (Nat.le_of_ble_eq_true rfl) dX7_mixPin_115 ⟨Nat.zero_le _, Nat.zero_le _⟩ (fun H locs hP hD hS => ?_)
        obtain ⟨r37, e38, h⟩ := bo h
        refine caSR_l (As := [.long x4, .int r35]) (rest := []) (ctX7_mix l dC dI cq q S M o _ _ _ _ _ e38) F (va_cwS 2 hts gX7_mixPin_X7_mix rfl rfl rfl hdX7_mix ⟨Nat.le_of_ble_eq_true rfl, Nat.le_of_ble_eq_true rfl⟩) hK hP hD hDm hS hA EV.blind (fun U hU hW => EV.call hX hS hDm hU hW) rfl hl.1 rfl (Nat.le_of_ble_eq_true rfl) dX7_mixPin_118 ⟨Nat.zero_le _, Nat.zero_le _⟩ (fun H locs hP hD hS => ?_)
        refine lv_lstore (lv' := [(4, .long r37), (0, .ref (q 0)), (3, .int x3), (6, .int x6)]) hx hb dX7_mixPin_121 hl (by decide) rfl (fun ls hl => ?_)
        refine lv_iinc (v := (x6 + (1 : Int32))) (lv' := [(6, .int (x6 + (1 : Int32))), (4, .long r37), (0, .ref (q 0)), (3, .int x3)]) hx hb dX7_mixPin_123 hl (k := 3) rfl rfl (by decide) rfl (fun ls hl => ?_)
        refine lv_goto (tgt := 100) hx hb dX7_mixPin_126 (by decide) ?_
        exact ih _ _ _ _ _ hP hD hS (lv_sub hl [2, 3, 1, 0] rfl) h
  rw [mX7_mixPin] at h
  refine lv_lload_n hx hb dX7_mixPin_0 rfl (lv_at hl 1 rfl) ?_
  refine lv_aload_n hx hb dX7_mixPin_1 rfl (lv_at hl 0 rfl) ?_
  refine va_get (D := (dC, dI)) (ci := 8) (v := .ref (q 1)) (C := RX7) (T := TX7) (N := 5) hx hb hts hinX7 hown hK hP 0 rfl rfl 0 (by decide) (hts (.fieldLink RX7 10 "CableTester" "cable" "LCableTester$Cable;") (mm 1 rfl)) (fun _ h9 => h9) rfl dX7_mixPin_2 ?_
  refine lv_iconst (v := (0 : Int32)) hx hb dX7_mixPin_5 (by decide) ?_
  refine lv_iload_n hx hb dX7_mixPin_6 rfl (lv_at hl 2 rfl) ?_
  obtain ⟨r1, e2, h⟩ := bo h
  refine caVR_i (As := [.int (0 : Int32), .int x3]) (rest := [.long x1]) (ctX0_wireAt l dC dI cq q S M o _ _ _ _ _ e2) F (cwV 2 hts gX7_mixPin_X0_wireAt rfl rfl rfl hdX0_wireAt ⟨Nat.le_of_ble_eq_true rfl, Nat.le_of_ble_eq_true rfl⟩) hK hP hD hDm hS hA EV.blind (fun U hU hW => EV.call hX hS hDm hU hW) (va_recv hK hP (ci := 1) (q0 := 1) rfl rfl) rfl hl.1 rfl (Nat.le_of_ble_eq_true rfl) dX7_mixPin_7 ⟨Nat.zero_le _, Nat.zero_le _⟩ (fun H locs hP hD hS => ?_)
  obtain ⟨r3, e4, h⟩ := bo h
  refine caSR_l (As := [.long x1, .int r1]) (rest := []) (ctX7_mix l dC dI cq q S M o _ _ _ _ _ e4) F (va_cwS 2 hts gX7_mixPin_X7_mix rfl rfl rfl hdX7_mix ⟨Nat.le_of_ble_eq_true rfl, Nat.le_of_ble_eq_true rfl⟩) hK hP hD hDm hS hA EV.blind (fun U hU hW => EV.call hX hS hDm hU hW) rfl hl.1 rfl (Nat.le_of_ble_eq_true rfl) dX7_mixPin_10 ⟨Nat.zero_le _, Nat.zero_le _⟩ (fun H locs hP hD hS => ?_)
  refine lv_lstore (lv' := [(4, .long r3), (0, .ref (q 0)), (1, .long x1), (3, .int x3)]) hx hb dX7_mixPin_13 hl (by decide) rfl (fun ls hl => ?_)
  refine lv_lload hx hb dX7_mixPin_15 (lv_at hl 0 rfl) ?_
  refine lv_aload_n hx hb dX7_mixPin_17 rfl (lv_at hl 1 rfl) ?_
  refine va_get (D := (dC, dI)) (ci := 8) (v := .ref (q 1)) (C := RX7) (T := TX7) (N := 5) hx hb hts hinX7 hown hK hP 0 rfl rfl 0 (by decide) (hts (.fieldLink RX7 10 "CableTester" "cable" "LCableTester$Cable;") (mm 1 rfl)) (fun _ h9 => h9) rfl dX7_mixPin_18 ?_
  refine lv_iconst (v := (1 : Int32)) hx hb dX7_mixPin_21 (by decide) ?_
  refine lv_iload_n hx hb dX7_mixPin_22 rfl (lv_at hl 3 rfl) ?_
  obtain ⟨r5, e6, h⟩ := bo h
  refine caVR_i (As := [.int (1 : Int32), .int x3]) (rest := [.long r3]) (ctX0_wireAt l dC dI cq q S M o _ _ _ _ _ e6) F (cwV 2 hts gX7_mixPin_X0_wireAt rfl rfl rfl hdX0_wireAt ⟨Nat.le_of_ble_eq_true rfl, Nat.le_of_ble_eq_true rfl⟩) hK hP hD hDm hS hA EV.blind (fun U hU hW => EV.call hX hS hDm hU hW) (va_recv hK hP (ci := 1) (q0 := 1) rfl rfl) rfl hl.1 rfl (Nat.le_of_ble_eq_true rfl) dX7_mixPin_23 ⟨Nat.zero_le _, Nat.zero_le _⟩ (fun H locs hP hD hS => ?_)
  obtain ⟨r7, e8, h⟩ := bo h
  refine caSR_l (As := [.long r3, .int r5]) (rest := []) (ctX7_mix l dC dI cq q S M o _ _ _ _ _ e8) F (va_cwS 2 hts gX7_mixPin_X7_mix rfl rfl rfl hdX7_mix ⟨Nat.le_of_ble_eq_true rfl, Nat.le_of_ble_eq_true rfl⟩) hK hP hD hDm hS hA EV.blind (fun U hU hW => EV.call hX hS hDm hU hW) rfl hl.1 rfl (Nat.le_of_ble_eq_true rfl) dX7_mixPin_26 ⟨Nat.zero_le _, Nat.zero_le _⟩ (fun H locs hP hD hS => ?_)
  refine lv_lstore (lv' := [(4, .long r7), (0, .ref (q 0)), (1, .long x1), (3, .int x3)]) hx hb dX7_mixPin_29 hl (by decide) rfl (fun ls hl => ?_)
  refine lv_lload hx hb dX7_mixPin_31 (lv_at hl 0 rfl) ?_
  refine lv_aload_n hx hb dX7_mixPin_33 rfl (lv_at hl 1 rfl) ?_
  refine va_get (D := (dC, dI)) (ci := 8) (v := .ref (q 6)) (C := RX7) (T := TX7) (N := 5) hx hb hts hinX7 hown hK hP 0 rfl rfl 1 (by decide) (hts (.fieldLink RX7 19 "CableTester" "nets" "LCableTester$Nets;") (mm 2 rfl)) (fun _ h9 => h9) rfl dX7_mixPin_34 ?_
  refine lv_iconst (v := (0 : Int32)) hx hb dX7_mixPin_37 (by decide) ?_
  refine lv_iload_n hx hb dX7_mixPin_38 rfl (lv_at hl 3 rfl) ?_
  refine lv_iconst (v := (0 : Int32)) hx hb dX7_mixPin_39 (by decide) ?_
  obtain ⟨r9, e10, h⟩ := bo h
  refine caVR_i (As := [.int (0 : Int32), .int x3, .int (0 : Int32)]) (rest := [.long r7]) (ctX5_joinedPins l dC dI cq q S M o _ _ _ _ _ _ e10) F (cwV 3 hts gX7_mixPin_X5_joinedPins rfl rfl rfl hdX5_joinedPins ⟨Nat.le_of_ble_eq_true rfl, Nat.le_of_ble_eq_true rfl⟩) hK hP hD hDm hS hA EV.blind (fun U hU hW => EV.call hX hS hDm hU hW) (va_recv hK hP (ci := 6) (q0 := 6) rfl rfl) rfl hl.1 rfl (Nat.le_of_ble_eq_true rfl) dX7_mixPin_40 ⟨Nat.zero_le _, Nat.zero_le _⟩ (fun H locs hP hD hS => ?_)
  obtain ⟨r11, e12, h⟩ := bo h
  refine caSR_l (As := [.long r7, .int r9]) (rest := []) (ctX7_mix l dC dI cq q S M o _ _ _ _ _ e12) F (va_cwS 2 hts gX7_mixPin_X7_mix rfl rfl rfl hdX7_mix ⟨Nat.le_of_ble_eq_true rfl, Nat.le_of_ble_eq_true rfl⟩) hK hP hD hDm hS hA EV.blind (fun U hU hW => EV.call hX hS hDm hU hW) rfl hl.1 rfl (Nat.le_of_ble_eq_true rfl) dX7_mixPin_43 ⟨Nat.zero_le _, Nat.zero_le _⟩ (fun H locs hP hD hS => ?_)
  refine lv_lstore (lv' := [(4, .long r11), (0, .ref (q 0)), (1, .long x1), (3, .int x3)]) hx hb dX7_mixPin_46 hl (by decide) rfl (fun ls hl => ?_)
  refine lv_lload hx hb dX7_mixPin_48 (lv_at hl 0 rfl) ?_
  refine lv_aload_n hx hb dX7_mixPin_50 rfl (lv_at hl 1 rfl) ?_
  refine va_get (D := (dC, dI)) (ci := 8) (v := .ref (q 6)) (C := RX7) (T := TX7) (N := 5) hx hb hts hinX7 hown hK hP 0 rfl rfl 1 (by decide) (hts (.fieldLink RX7 19 "CableTester" "nets" "LCableTester$Nets;") (mm 2 rfl)) (fun _ h9 => h9) rfl dX7_mixPin_51 ?_
  refine lv_iconst (v := (0 : Int32)) hx hb dX7_mixPin_54 (by decide) ?_
  refine lv_iload_n hx hb dX7_mixPin_55 rfl (lv_at hl 3 rfl) ?_
  refine lv_iconst (v := (1 : Int32)) hx hb dX7_mixPin_56 (by decide) ?_
  obtain ⟨r13, e14, h⟩ := bo h
  refine caVR_i (As := [.int (0 : Int32), .int x3, .int (1 : Int32)]) (rest := [.long r11]) (ctX5_joinedPins l dC dI cq q S M o _ _ _ _ _ _ e14) F (cwV 3 hts gX7_mixPin_X5_joinedPins rfl rfl rfl hdX5_joinedPins ⟨Nat.le_of_ble_eq_true rfl, Nat.le_of_ble_eq_true rfl⟩) hK hP hD hDm hS hA EV.blind (fun U hU hW => EV.call hX hS hDm hU hW) (va_recv hK hP (ci := 6) (q0 := 6) rfl rfl) rfl hl.1 rfl (Nat.le_of_ble_eq_true rfl) dX7_mixPin_57 ⟨Nat.zero_le _, Nat.zero_le _⟩ (fun H locs hP hD hS => ?_)
  obtain ⟨r15, e16, h⟩ := bo h
  refine caSR_l (As := [.long r11, .int r13]) (rest := []) (ctX7_mix l dC dI cq q S M o _ _ _ _ _ e16) F (va_cwS 2 hts gX7_mixPin_X7_mix rfl rfl rfl hdX7_mix ⟨Nat.le_of_ble_eq_true rfl, Nat.le_of_ble_eq_true rfl⟩) hK hP hD hDm hS hA EV.blind (fun U hU hW => EV.call hX hS hDm hU hW) rfl hl.1 rfl (Nat.le_of_ble_eq_true rfl) dX7_mixPin_60 ⟨Nat.zero_le _, Nat.zero_le _⟩ (fun H locs hP hD hS => ?_)
  refine lv_lstore (lv' := [(4, .long r15), (0, .ref (q 0)), (1, .long x1), (3, .int x3)]) hx hb dX7_mixPin_63 hl (by decide) rfl (fun ls hl => ?_)
  refine lv_lload hx hb dX7_mixPin_65 (lv_at hl 0 rfl) ?_
  refine lv_aload_n hx hb dX7_mixPin_67 rfl (lv_at hl 1 rfl) ?_
  refine va_get (D := (dC, dI)) (ci := 8) (v := .ref (q 6)) (C := RX7) (T := TX7) (N := 5) hx hb hts hinX7 hown hK hP 0 rfl rfl 1 (by decide) (hts (.fieldLink RX7 19 "CableTester" "nets" "LCableTester$Nets;") (mm 2 rfl)) (fun _ h9 => h9) rfl dX7_mixPin_68 ?_
  refine lv_iconst (v := (1 : Int32)) hx hb dX7_mixPin_71 (by decide) ?_
  refine lv_iload_n hx hb dX7_mixPin_72 rfl (lv_at hl 3 rfl) ?_
  refine lv_iconst (v := (1 : Int32)) hx hb dX7_mixPin_73 (by decide) ?_
  obtain ⟨r17, e18, h⟩ := bo h
  refine caVR_i (As := [.int (1 : Int32), .int x3, .int (1 : Int32)]) (rest := [.long r15]) (ctX5_joinedPins l dC dI cq q S M o _ _ _ _ _ _ e18) F (cwV 3 hts gX7_mixPin_X5_joinedPins rfl rfl rfl hdX5_joinedPins ⟨Nat.le_of_ble_eq_true rfl, Nat.le_of_ble_eq_true rfl⟩) hK hP hD hDm hS hA EV.blind (fun U hU hW => EV.call hX hS hDm hU hW) (va_recv hK hP (ci := 6) (q0 := 6) rfl rfl) rfl hl.1 rfl (Nat.le_of_ble_eq_true rfl) dX7_mixPin_74 ⟨Nat.zero_le _, Nat.zero_le _⟩ (fun H locs hP hD hS => ?_)
  obtain ⟨r19, e20, h⟩ := bo h
  refine caSR_l (As := [.long r15, .int r17]) (rest := []) (ctX7_mix l dC dI cq q S M o _ _ _ _ _ e20) F (va_cwS 2 hts gX7_mixPin_X7_mix rfl rfl rfl hdX7_mix ⟨Nat.le_of_ble_eq_true rfl, Nat.le_of_ble_eq_true rfl⟩) hK hP hD hDm hS hA EV.blind (fun U hU hW => EV.call hX hS hDm hU hW) rfl hl.1 rfl (Nat.le_of_ble_eq_true rfl) dX7_mixPin_77 ⟨Nat.zero_le _, Nat.zero_le _⟩ (fun H locs hP hD hS => ?_)
  refine lv_lstore (lv' := [(4, .long r19), (0, .ref (q 0)), (1, .long x1), (3, .int x3)]) hx hb dX7_mixPin_80 hl (by decide) rfl (fun ls hl => ?_)
  refine lv_lload hx hb dX7_mixPin_82 (lv_at hl 0 rfl) ?_
  refine lv_aload_n hx hb dX7_mixPin_84 rfl (lv_at hl 1 rfl) ?_
  refine va_get (D := (dC, dI)) (ci := 8) (v := .ref (q 6)) (C := RX7) (T := TX7) (N := 5) hx hb hts hinX7 hown hK hP 0 rfl rfl 1 (by decide) (hts (.fieldLink RX7 19 "CableTester" "nets" "LCableTester$Nets;") (mm 2 rfl)) (fun _ h9 => h9) rfl dX7_mixPin_85 ?_
  refine lv_iload_n hx hb dX7_mixPin_88 rfl (lv_at hl 3 rfl) ?_
  obtain ⟨r21, e22, h⟩ := bo h
  refine caVR_i (As := [.int x3]) (rest := [.long r19]) (ctX5_statusOf l dC dI cq q S M o _ _ _ _ e22) F (cwV 1 hts gX7_mixPin_X5_statusOf rfl rfl rfl hdX5_statusOf ⟨Nat.le_of_ble_eq_true rfl, Nat.le_of_ble_eq_true rfl⟩) hK hP hD hDm hS hA EV.blind (fun U hU hW => EV.call hX hS hDm hU hW) (va_recv hK hP (ci := 6) (q0 := 6) rfl rfl) rfl hl.1 rfl (Nat.le_of_ble_eq_true rfl) dX7_mixPin_89 ⟨Nat.zero_le _, Nat.zero_le _⟩ (fun H locs hP hD hS => ?_)
  obtain ⟨r23, e24, h⟩ := bo h
  refine caSR_l (As := [.long r19, .int r21]) (rest := []) (ctX7_mix l dC dI cq q S M o _ _ _ _ _ e24) F (va_cwS 2 hts gX7_mixPin_X7_mix rfl rfl rfl hdX7_mix ⟨Nat.le_of_ble_eq_true rfl, Nat.le_of_ble_eq_true rfl⟩) hK hP hD hDm hS hA EV.blind (fun U hU hW => EV.call hX hS hDm hU hW) rfl hl.1 rfl (Nat.le_of_ble_eq_true rfl) dX7_mixPin_92 ⟨Nat.zero_le _, Nat.zero_le _⟩ (fun H locs hP hD hS => ?_)
  refine lv_lstore (lv' := [(4, .long r23), (0, .ref (q 0)), (1, .long x1), (3, .int x3)]) hx hb dX7_mixPin_95 hl (by decide) rfl (fun ls hl => ?_)
  refine lv_iconst (v := (0 : Int32)) hx hb dX7_mixPin_97 (by decide) ?_
  refine lv_istore (lv' := [(6, .int (0 : Int32)), (4, .long r23), (0, .ref (q 0)), (1, .long x1), (3, .int x3)]) hx hb dX7_mixPin_98 hl (by decide) rfl (fun ls hl => ?_)
  exact hL100 _ _ _ _ _ _ _ hP hD hS (lv_sub hl [2, 4, 1, 0] rfl) h
def mX7_digest_236 (n : Nat)   : Nat → CS → Int64 → Int32 → Option (Int64 × CS)
  | 0, _, _, _ => none
  | k + 1, S, x1, x3 => (if (S.1 10) ≤ x3 then (some (x1, S)) else (bn (mX6_codeAt S x3) fun r25 => (bn (mX7_mix x1 r25) fun r27 => (mX7_digest_236 n k S r27 (x3 + (1 : Int32))))))
def mX7_digest_201 (n : Nat)   : Nat → CS → Int64 → Int32 → Option (Int64 × CS)
  | 0, _, _, _ => none
  | k + 1, S, x1, x3 => (if (4 : Int32) < x3 then (bn (mX7_mix x1 (S.1 10)) fun r22 => (mX7_digest_236 n n S r22 (0 : Int32))) else (bm (mX7_explanationNumber n S x3) fun r29 S31 => (bn (mX7_mix x1 r29) fun r32 => (mX7_digest_201 n k S31 r32 (x3 + (1 : Int32))))))
def mX7_digest_145 (n : Nat) (K135 : CS → Int64 → Int32 → Option (Int64 × CS)) (x3 : Int32) : Nat → CS → Int64 → Int32 → Option (Int64 × CS)
  | 0, _, _, _ => none
  | k + 1, S, x1, x4 => (if (4 : Int32) ≤ x4 then (K135 S x1 (x3 + (1 : Int32))) else (bn (mX0_crosstalkOf n S x3 x4) fun r35 => (bn (mX7_mix x1 r35) fun r37 => (mX7_digest_145 n K135 x3 k S r37 (x4 + (1 : Int32))))))
def mX7_digest_135 (n : Nat)   : Nat → CS → Int64 → Int32 → Option (Int64 × CS)
  | 0, _, _, _ => none
  | k + 1, S, x1, x3 => (if (4 : Int32) ≤ x3 then (bn (mX7_identifiedUnit n S) fun r13 => (bn (mX7_mix x1 r13) fun r15 => (bn (mX4_mostWrongPin n S) fun r17 => (bn (mX7_mix r15 r17) fun r19 => (mX7_digest_201 n n S r19 (0 : Int32)))))) else (mX7_digest_145 n (mX7_digest_135 n k) x3 n S x1 (x3 + (1 : Int32))))
def mX7_digest_114 (n : Nat)   : Nat → CS → Int64 → Int32 → Option (Int64 × CS)
  | 0, _, _, _ => none
  | k + 1, S, x1, x3 => (if (8 : Int32) ≤ x3 then (mX7_digest_135 n n S x1 (0 : Int32)) else (bn (mX7_mixPin n S x1 x3) fun r39 => (mX7_digest_114 n k S r39 (x3 + (1 : Int32)))))
def mX7_digest_62 (n : Nat) (K45 : CS → Int64 → Int32 → Option (Int64 × CS)) (x3 : Int32) : Nat → CS → Int64 → Int32 → Option (Int64 × CS)
  | 0, _, _, _ => none
  | k + 1, S, x1, x4 => (if (6 : Int32) < x4 then (K45 S x1 (x3 + (1 : Int32))) else (bn (mJx4a65c_get_915e3 S x3) fun r42 => (bn (mX2_property r42 x4 (S.1 3)) fun r46 => (bn (mX7_mix x1 r46) fun r49 => (mX7_digest_62 n K45 x3 k S r49 (x4 + (1 : Int32)))))))
def mX7_digest_45 (n : Nat)   : Nat → CS → Int64 → Int32 → Option (Int64 × CS)
  | 0, _, _, _ => none
  | k + 1, S, x1, x3 => (bn (mJx4a65c_size_8abf5 S) fun r8 => (if r8 ≤ x3 then (mX7_digest_114 n n S x1 (0 : Int32)) else (mX7_digest_62 n (mX7_digest_45 n k) x3 n S x1 (0 : Int32))))
def mX7_digest_21 (n : Nat)   : Nat → CS → Int64 → Int32 → Option (Int64 × CS)
  | 0, _, _, _ => none
  | k + 1, S, x1, x3 => (if (8 : Int32) < x3 then (mX7_digest_45 n n S x1 (0 : Int32)) else (bn (mX7_numberOf n S x3) fun r51 => (bn (mX7_mix x1 r51) fun r53 => (mX7_digest_21 n k S r53 (x3 + (1 : Int32))))))
def mX7_digest (n : Nat) (S : CS)  : Option (Int64 × CS) :=
  (bn (mX7_measure n S) fun S3 => (bn (mX1_findBest n S3) fun S6 => (mX7_digest_21 n n S6 (2011 : Int64) (0 : Int32))))
abbrev rmX7_digest : Room := { frames := 13, cells := 0, slots := 0, locals := 461 }
theorem hdX7_digest : yX7_digest.cls = RX7 ∧ yX7_digest.cls ≠ "java/lang/invoke/MethodHandle" ∧ yX7_digest.cls ≠ "java/lang/invoke/VarHandle" ∧ (parseMethodDescriptor yX7_digest.desc).map (fun d => d.parameters.length) = some 0 := by decide +kernel
set_option maxRecDepth 100000 in
set_option maxHeartbeats 8000000 in
theorem ctX7_digest (l : Launch) (dC : Nat → ClassId) (dI : Nat → Nat → Nat) (cq : Nat → ClassId) (q : Nat → Nat) (S : CS) (M : MS) (o : Nat → Int64) (sz : Nat) (h0 : Nat) (n : Nat)  (rr : Int64) (SS : CS) (h : mX7_digest n S = some (rr, SS)) : CtC_l l yX7_digest wsX7_digest rmX7_digest (fun a => h0 ≤ a) (EV h0 q) dC dI cq q S M o sz [.ref (q 0)] rr SS := by
  refine enC_l (cc := cX7_digest) (maxL := 5) (by decide) rfl (Nat.le_of_ble_eq_true rfl) (fun p e s m args below meth c A Q ls F hA hP hK hD hDm hX hS hl hend => ?_)
  obtain ⟨hx, hb, hml, hown, hts⟩ := id F
  have hown : s.vm.findClass RX7 = some m.cls := hown
  have F : CallFix p m c cX7_digest 5 s args wsX7_digest RX7 := F
  have hl : lv_has ls 5 [(0, .ref (q 0))] := hl
  have hinX0 : ∀ w ∈ u_ws RX0 TX0 7, w ∈ wsX7_digest := fun w h => List.mem_cons_of_mem _ (List.mem_append_left _ (List.mem_append_left _ (List.mem_append_left _ (List.mem_append_left _ (List.mem_append_left _ (List.mem_append_left _ (List.mem_append_left _ (List.mem_append_right _ h))))))))
  have hinX6 : ∀ w ∈ u_ws RX6 TX6 10, w ∈ wsX7_digest := fun w h => List.mem_cons_of_mem _ (List.mem_append_left _ (List.mem_append_left _ (List.mem_append_left _ (List.mem_append_left _ (List.mem_append_left _ (List.mem_append_left _ (List.mem_append_right _ h)))))))
  have hinX7 : ∀ w ∈ u_ws RX7 TX7 5, w ∈ wsX7_digest := fun w h => List.mem_cons_of_mem _ (List.mem_append_left _ (List.mem_append_left _ (List.mem_append_left _ (List.mem_append_left _ (List.mem_append_left _ (List.mem_append_left _ (List.mem_append_left _ (List.mem_append_left _ (List.mem_append_right _ h)))))))))
  have hL236 : ∀   (k : Nat) (S : CS) (x1 : Int64) (x3 : Int32) (H : Heap) (locs : List Loc) (ls : Array Slot), va_P (dC, dI) vwCl (wA cq q S M o) H → va_D A (wA cq q S M o) → va_S A s.heap H locs → lv_has ls 5 [(0, .ref (q 0)), (1, .long x1), (3, .int x3)] → mX7_digest_236 n k S x1 x3 = some (rr, SS) → W p l e rmX7_digest s m args below meth c H locs 0 0 Q (F0 m 236 ls []) := by
    intro k
    induction k with
    | zero =>
      intro S x1 x3 H locs ls hP hD hS hl h
      rw [mX7_digest_236] at h
      cases h
    | succ k ih =>
      intro S x1 x3 H locs ls hP hD hS hl h
      rw [mX7_digest_236] at h
      refine lv_iload_n hx hb dX7_digest_236 rfl (lv_at hl 2 rfl) ?_
      refine lv_aload_n hx hb dX7_digest_237 rfl (lv_at hl 0 rfl) ?_
      refine va_get (D := (dC, dI)) (ci := 8) (v := .ref (q 20)) (C := RX7) (T := TX7) (N := 5) hx hb hts hinX7 hown hK hP 0 rfl rfl 4 (by decide) (hts (.fieldLink RX7 40 "CableTester" "text" "LCableTester$Text;") (mm 7 rfl)) (fun _ h9 => h9) rfl dX7_digest_238 ?_
      refine va_getN (D := (dC, dI)) (ci := 7) (v := .int (S.1 10)) (C := RX6) (T := TX6) (N := 10) hx hb hts hinX6 hown hK hP 20 rfl rfl 1 (by decide) (va_Nw.use rfl hX.1.2.2.2.2.2.2.2.2.2.1) (fun _ h9 => h9) rfl dX7_digest_241 ?_
      refine lv_icmp_ge (tgt := 266) hx hb dX7_digest_244 (by decide) (fun c24 => ?_) (fun c24 => ?_)
      · replace h := it c24 h
        refine lv_lload_n hx hb dX7_digest_266 rfl (lv_at hl 1 rfl) ?_
        exact hend _ _ _ _ _ _ h hP hD hS dX7_digest_267
      · replace h := ie c24 h
        refine lv_lload_n hx hb dX7_digest_247 rfl (lv_at hl 1 rfl) ?_
        refine lv_aload_n hx hb dX7_digest_248 rfl (lv_at hl 0 rfl) ?_
        refine va_get (D := (dC, dI)) (ci := 8) (v := .ref (q 20)) (C := RX7) (T := TX7) (N := 5) hx hb hts hinX7 hown hK hP 0 rfl rfl 4 (by decide) (hts (.fieldLink RX7 40 "CableTester" "text" "LCableTester$Text;") (mm 7 rfl)) (fun _ h9 => h9) rfl dX7_digest_249 ?_
        refine lv_iload_n hx hb dX7_digest_252 rfl (lv_at hl 2 rfl) ?_
        obtain ⟨r25, e26, h⟩ := bo h
        refine caVR_i (As := [.int x3]) (rest := [.long x1]) (ctX6_codeAt l dC dI cq q S M o _ _ _ _ e26) F (cwV 1 hts gX7_digest_X6_codeAt rfl rfl rfl hdX6_codeAt ⟨Nat.le_of_ble_eq_true rfl, Nat.le_of_ble_eq_true rfl⟩) hK hP hD hDm hS hA EV.blind (fun U hU hW => EV.call hX hS hDm hU hW) (va_recv hK hP (ci := 7) (q0 := 20) rfl rfl) rfl hl.1 rfl (Nat.le_of_ble_eq_true rfl) dX7_digest_253 ⟨Nat.zero_le _, Nat.zero_le _⟩ (fun H locs hP hD hS => ?_)
        obtain ⟨r27, e28, h⟩ := bo h
        refine caSR_l (As := [.long x1, .int r25]) (rest := []) (ctX7_mix l dC dI cq q S M o _ _ _ _ _ e28) F (va_cwS 2 hts gX7_digest_X7_mix rfl rfl rfl hdX7_mix ⟨Nat.le_of_ble_eq_true rfl, Nat.le_of_ble_eq_true rfl⟩) hK hP hD hDm hS hA EV.blind (fun U hU hW => EV.call hX hS hDm hU hW) rfl hl.1 rfl (Nat.le_of_ble_eq_true rfl) dX7_digest_256 ⟨Nat.zero_le _, Nat.zero_le _⟩ (fun H locs hP hD hS => ?_)
        refine lv_lstore_n (lv' := [(1, .long r27), (0, .ref (q 0)), (3, .int x3)]) hx hb dX7_digest_259 rfl hl (by decide) rfl (fun ls hl => ?_)
        refine lv_iinc (v := (x3 + (1 : Int32))) (lv' := [(3, .int (x3 + (1 : Int32))), (1, .long r27), (0, .ref (q 0))]) hx hb dX7_digest_260 hl (k := 2) rfl rfl (by decide) rfl (fun ls hl => ?_)
        refine lv_goto (tgt := 236) hx hb dX7_digest_263 (by decide) ?_
        exact ih _ _ _ _ _ _ hP hD hS (lv_sub hl [2, 1, 0] rfl) h
  have hL201 : ∀   (k : Nat) (S : CS) (x1 : Int64) (x3 : Int32) (H : Heap) (locs : List Loc) (ls : Array Slot), va_P (dC, dI) vwCl (wA cq q S M o) H → va_D A (wA cq q S M o) → va_S A s.heap H locs → lv_has ls 5 [(0, .ref (q 0)), (1, .long x1), (3, .int x3)] → mX7_digest_201 n k S x1 x3 = some (rr, SS) → W p l e rmX7_digest s m args below meth c H locs 0 0 Q (F0 m 201 ls []) := by
    intro k
    induction k with
    | zero =>
      intro S x1 x3 H locs ls hP hD hS hl h
      rw [mX7_digest_201] at h
      cases h
    | succ k ih =>
      intro S x1 x3 H locs ls hP hD hS hl h
      rw [mX7_digest_201] at h
      refine lv_iload_n hx hb dX7_digest_201 rfl (lv_at hl 2 rfl) ?_
      refine lv_iconst (v := (4 : Int32)) hx hb dX7_digest_202 (by decide) ?_
      refine lv_icmp_gt (tgt := 222) hx hb dX7_digest_203 (by decide) (fun c21 => ?_) (fun c21 => ?_)
      · replace h := it c21 h
        refine lv_lload_n hx hb dX7_digest_222 rfl (lv_at hl 1 rfl) ?_
        refine lv_aload_n hx hb dX7_digest_223 rfl (lv_at hl 0 rfl) ?_
        refine va_get (D := (dC, dI)) (ci := 8) (v := .ref (q 20)) (C := RX7) (T := TX7) (N := 5) hx hb hts hinX7 hown hK hP 0 rfl rfl 4 (by decide) (hts (.fieldLink RX7 40 "CableTester" "text" "LCableTester$Text;") (mm 7 rfl)) (fun _ h9 => h9) rfl dX7_digest_224 ?_
        refine va_getN (D := (dC, dI)) (ci := 7) (v := .int (S.1 10)) (C := RX6) (T := TX6) (N := 10) hx hb hts hinX6 hown hK hP 20 rfl rfl 1 (by decide) (va_Nw.use rfl hX.1.2.2.2.2.2.2.2.2.2.1) (fun _ h9 => h9) rfl dX7_digest_227 ?_
        obtain ⟨r22, e23, h⟩ := bo h
        refine caSR_l (As := [.long x1, .int (S.1 10)]) (rest := []) (ctX7_mix l dC dI cq q S M o _ _ _ _ _ e23) F (va_cwS 2 hts gX7_digest_X7_mix rfl rfl rfl hdX7_mix ⟨Nat.le_of_ble_eq_true rfl, Nat.le_of_ble_eq_true rfl⟩) hK hP hD hDm hS hA EV.blind (fun U hU hW => EV.call hX hS hDm hU hW) rfl hl.1 rfl (Nat.le_of_ble_eq_true rfl) dX7_digest_230 ⟨Nat.zero_le _, Nat.zero_le _⟩ (fun H locs hP hD hS => ?_)
        refine lv_lstore_n (lv' := [(1, .long r22), (0, .ref (q 0)), (3, .int x3)]) hx hb dX7_digest_233 rfl hl (by decide) rfl (fun ls hl => ?_)
        refine lv_iconst (v := (0 : Int32)) hx hb dX7_digest_234 (by decide) ?_
        refine lv_istore_n (lv' := [(3, .int (0 : Int32)), (1, .long r22), (0, .ref (q 0))]) hx hb dX7_digest_235 rfl hl (by decide) rfl (fun ls hl => ?_)
        exact hL236 _ _ _ _ _ _ _ hP hD hS (lv_sub hl [2, 1, 0] rfl) h
      · replace h := ie c21 h
        refine lv_lload_n hx hb dX7_digest_206 rfl (lv_at hl 1 rfl) ?_
        refine lv_aload_n hx hb dX7_digest_207 rfl (lv_at hl 0 rfl) ?_
        refine lv_iload_n hx hb dX7_digest_208 rfl (lv_at hl 2 rfl) ?_
        obtain ⟨r29, S31, e30, h⟩ := bp h
        refine caVC_i (As := [.int x3]) (rest := [.long x1]) (ctX7_explanationNumber l dC dI cq q S M o _ _ _ _ _ _ e30) F (cwV 1 hts gX7_digest_X7_explanationNumber rfl rfl rfl hdX7_explanationNumber ⟨Nat.le_of_ble_eq_true rfl, Nat.le_of_ble_eq_true rfl⟩) hK hP hD hDm hS hA EV.blind (fun U hU hW => EV.call hX hS hDm hU hW) (va_recv hK hP (ci := 8) (q0 := 0) rfl rfl) rfl hl.1 rfl (Nat.le_of_ble_eq_true rfl) dX7_digest_209 ⟨Nat.zero_le _, Nat.zero_le _⟩ (fun H locs hP hD hS => ?_)
        obtain ⟨r32, e33, h⟩ := bo h
        refine caSR_l (As := [.long x1, .int r29]) (rest := []) (ctX7_mix l dC dI cq q S31 M o _ _ _ _ _ e33) F (va_cwS 2 hts gX7_digest_X7_mix rfl rfl rfl hdX7_mix ⟨Nat.le_of_ble_eq_true rfl, Nat.le_of_ble_eq_true rfl⟩) hK hP hD hDm hS hA EV.blind (fun U hU hW => EV.call hX hS hDm hU hW) rfl hl.1 rfl (Nat.le_of_ble_eq_true rfl) dX7_digest_212 ⟨Nat.zero_le _, Nat.zero_le _⟩ (fun H locs hP hD hS => ?_)
        refine lv_lstore_n (lv' := [(1, .long r32), (0, .ref (q 0)), (3, .int x3)]) hx hb dX7_digest_215 rfl hl (by decide) rfl (fun ls hl => ?_)
        refine lv_iinc (v := (x3 + (1 : Int32))) (lv' := [(3, .int (x3 + (1 : Int32))), (1, .long r32), (0, .ref (q 0))]) hx hb dX7_digest_216 hl (k := 2) rfl rfl (by decide) rfl (fun ls hl => ?_)
        refine lv_goto (tgt := 201) hx hb dX7_digest_219 (by decide) ?_
        exact ih _ _ _ _ _ _ hP hD hS (lv_sub hl [2, 1, 0] rfl) h
  have hL145 : ∀ (x3 : Int32) (K135 : CS → Int64 → Int32 → Option (Int64 × CS)) (hK135 : ∀ (S9 : CS) (y1 : Int64) (y3 : Int32) (H : Heap) (locs : List Loc) (ls : Array Slot), va_P (dC, dI) vwCl (wA cq q S9 M o) H → va_D A (wA cq q S9 M o) → va_S A s.heap H locs → lv_has ls 5 [(0, .ref (q 0)), (1, .long y1), (3, .int y3)] → K135 S9 y1 y3 = some (rr, SS) → W p l e rmX7_digest s m args below meth c H locs 0 0 Q (F0 m 135 ls [])) (k : Nat) (S : CS) (x1 : Int64) (x4 : Int32) (H : Heap) (locs : List Loc) (ls : Array Slot), va_P (dC, dI) vwCl (wA cq q S M o) H → va_D A (wA cq q S M o) → va_S A s.heap H locs → lv_has ls 5 [(0, .ref (q 0)), (1, .long x1), (3, .int x3), (4, .int x4)] → mX7_digest_145 n K135 x3 k S x1 x4 = some (rr, SS) → W p l e rmX7_digest s m args below meth c H locs 0 0 Q (F0 m 145 ls []) := by
    intro x3 K135 hK135
    intro k
    induction k with
    | zero =>
      intro S x1 x4 H locs ls hP hD hS hl h
      rw [mX7_digest_145] at h
      cases h
    | succ k ih =>
      intro S x1 x4 H locs ls hP hD hS hl h
      rw [mX7_digest_145] at h
      refine lv_iload hx hb dX7_digest_145 (lv_at hl 3 rfl) ?_
      refine lv_iconst (v := (4 : Int32)) hx hb dX7_digest_147 (by decide) ?_
      refine lv_icmp_ge (tgt := 172) hx hb dX7_digest_148 (by decide) (fun c34 => ?_) (fun c34 => ?_)
      · replace h := it c34 h
        refine lv_iinc (v := (x3 + (1 : Int32))) (lv' := [(3, .int (x3 + (1 : Int32))), (0, .ref (q 0)), (1, .long x1), (4, .int x4)]) hx hb dX7_digest_172 hl (k := 2) rfl rfl (by decide) rfl (fun ls hl => ?_)
        refine lv_goto (tgt := 135) hx hb dX7_digest_175 (by decide) ?_
        exact hK135 _ _ _ _ _ _ hP hD hS (lv_sub hl [1, 2, 0] rfl) h
      · replace h := ie c34 h
        refine lv_lload_n hx hb dX7_digest_151 rfl (lv_at hl 1 rfl) ?_
        refine lv_aload_n hx hb dX7_digest_152 rfl (lv_at hl 0 rfl) ?_
        refine va_get (D := (dC, dI)) (ci := 8) (v := .ref (q 1)) (C := RX7) (T := TX7) (N := 5) hx hb hts hinX7 hown hK hP 0 rfl rfl 0 (by decide) (hts (.fieldLink RX7 10 "CableTester" "cable" "LCableTester$Cable;") (mm 4 rfl)) (fun _ h9 => h9) rfl dX7_digest_153 ?_
        refine lv_iload_n hx hb dX7_digest_156 rfl (lv_at hl 2 rfl) ?_
        refine lv_iload hx hb dX7_digest_157 (lv_at hl 3 rfl) ?_
        obtain ⟨r35, e36, h⟩ := bo h
        refine caVR_i (As := [.int x3, .int x4]) (rest := [.long x1]) (ctX0_crosstalkOf l dC dI cq q S M o _ _ _ _ _ _ e36) F (cwV 2 hts gX7_digest_X0_crosstalkOf rfl rfl rfl hdX0_crosstalkOf ⟨Nat.le_of_ble_eq_true rfl, Nat.le_of_ble_eq_true rfl⟩) hK hP hD hDm hS hA EV.blind (fun U hU hW => EV.call hX hS hDm hU hW) (va_recv hK hP (ci := 1) (q0 := 1) rfl rfl) rfl hl.1 rfl (Nat.le_of_ble_eq_true rfl) dX7_digest_159 ⟨Nat.zero_le _, Nat.zero_le _⟩ (fun H locs hP hD hS => ?_)
        obtain ⟨r37, e38, h⟩ := bo h
        refine caSR_l (As := [.long x1, .int r35]) (rest := []) (ctX7_mix l dC dI cq q S M o _ _ _ _ _ e38) F (va_cwS 2 hts gX7_digest_X7_mix rfl rfl rfl hdX7_mix ⟨Nat.le_of_ble_eq_true rfl, Nat.le_of_ble_eq_true rfl⟩) hK hP hD hDm hS hA EV.blind (fun U hU hW => EV.call hX hS hDm hU hW) rfl hl.1 rfl (Nat.le_of_ble_eq_true rfl) dX7_digest_162 ⟨Nat.zero_le _, Nat.zero_le _⟩ (fun H locs hP hD hS => ?_)
        refine lv_lstore_n (lv' := [(1, .long r37), (0, .ref (q 0)), (3, .int x3), (4, .int x4)]) hx hb dX7_digest_165 rfl hl (by decide) rfl (fun ls hl => ?_)
        refine lv_iinc (v := (x4 + (1 : Int32))) (lv' := [(4, .int (x4 + (1 : Int32))), (1, .long r37), (0, .ref (q 0)), (3, .int x3)]) hx hb dX7_digest_166 hl (k := 3) rfl rfl (by decide) rfl (fun ls hl => ?_)
        refine lv_goto (tgt := 145) hx hb dX7_digest_169 (by decide) ?_
        exact ih _ _ _ _ _ _ hP hD hS (lv_sub hl [2, 1, 3, 0] rfl) h
  have hL135 : ∀   (k : Nat) (S : CS) (x1 : Int64) (x3 : Int32) (H : Heap) (locs : List Loc) (ls : Array Slot), va_P (dC, dI) vwCl (wA cq q S M o) H → va_D A (wA cq q S M o) → va_S A s.heap H locs → lv_has ls 5 [(0, .ref (q 0)), (1, .long x1), (3, .int x3)] → mX7_digest_135 n k S x1 x3 = some (rr, SS) → W p l e rmX7_digest s m args below meth c H locs 0 0 Q (F0 m 135 ls []) := by
    intro k
    induction k with
    | zero =>
      intro S x1 x3 H locs ls hP hD hS hl h
      rw [mX7_digest_135] at h
      cases h
    | succ k ih =>
      intro S x1 x3 H locs ls hP hD hS hl h
      rw [mX7_digest_135] at h
      refine lv_iload_n hx hb dX7_digest_135 rfl (lv_at hl 2 rfl) ?_
      refine lv_iconst (v := (4 : Int32)) hx hb dX7_digest_136 (by decide) ?_
      refine lv_icmp_ge (tgt := 178) hx hb dX7_digest_137 (by decide) (fun c12 => ?_) (fun c12 => ?_)
      · replace h := it c12 h
        refine lv_lload_n hx hb dX7_digest_178 rfl (lv_at hl 1 rfl) ?_
        refine lv_aload_n hx hb dX7_digest_179 rfl (lv_at hl 0 rfl) ?_
        obtain ⟨r13, e14, h⟩ := bo h
        refine caVR_i (As := []) (rest := [.long x1]) (ctX7_identifiedUnit l dC dI cq q S M o _ _ _ _ e14) F (cwV 0 hts gX7_digest_X7_identifiedUnit rfl rfl rfl hdX7_identifiedUnit ⟨Nat.le_of_ble_eq_true rfl, Nat.le_of_ble_eq_true rfl⟩) hK hP hD hDm hS hA EV.blind (fun U hU hW => EV.call hX hS hDm hU hW) (va_recv hK hP (ci := 8) (q0 := 0) rfl rfl) rfl hl.1 rfl (Nat.le_of_ble_eq_true rfl) dX7_digest_180 ⟨Nat.zero_le _, Nat.zero_le _⟩ (fun H locs hP hD hS => ?_)
        obtain ⟨r15, e16, h⟩ := bo h
        refine caSR_l (As := [.long x1, .int r13]) (rest := []) (ctX7_mix l dC dI cq q S M o _ _ _ _ _ e16) F (va_cwS 2 hts gX7_digest_X7_mix rfl rfl rfl hdX7_mix ⟨Nat.le_of_ble_eq_true rfl, Nat.le_of_ble_eq_true rfl⟩) hK hP hD hDm hS hA EV.blind (fun U hU hW => EV.call hX hS hDm hU hW) rfl hl.1 rfl (Nat.le_of_ble_eq_true rfl) dX7_digest_183 ⟨Nat.zero_le _, Nat.zero_le _⟩ (fun H locs hP hD hS => ?_)
        refine lv_lstore_n (lv' := [(1, .long r15), (0, .ref (q 0)), (3, .int x3)]) hx hb dX7_digest_186 rfl hl (by decide) rfl (fun ls hl => ?_)
        refine lv_lload_n hx hb dX7_digest_187 rfl (lv_at hl 0 rfl) ?_
        refine lv_aload_n hx hb dX7_digest_188 rfl (lv_at hl 1 rfl) ?_
        refine va_get (D := (dC, dI)) (ci := 8) (v := .ref (q 18)) (C := RX7) (T := TX7) (N := 5) hx hb hts hinX7 hown hK hP 0 rfl rfl 3 (by decide) (hts (.fieldLink RX7 33 "CableTester" "history" "LCableTester$History;") (mm 6 rfl)) (fun _ h9 => h9) rfl dX7_digest_189 ?_
        obtain ⟨r17, e18, h⟩ := bo h
        refine caVR_i (As := []) (rest := [.long r15]) (ctX4_mostWrongPin l dC dI cq q S M o _ _ _ _ e18) F (cwV 0 hts gX7_digest_X4_mostWrongPin rfl rfl rfl hdX4_mostWrongPin ⟨Nat.le_of_ble_eq_true rfl, Nat.le_of_ble_eq_true rfl⟩) hK hP hD hDm hS hA EV.blind (fun U hU hW => EV.call hX hS hDm hU hW) (va_recv hK hP (ci := 5) (q0 := 18) rfl rfl) rfl hl.1 rfl (Nat.le_of_ble_eq_true rfl) dX7_digest_192 ⟨Nat.zero_le _, Nat.zero_le _⟩ (fun H locs hP hD hS => ?_)
        obtain ⟨r19, e20, h⟩ := bo h
        refine caSR_l (As := [.long r15, .int r17]) (rest := []) (ctX7_mix l dC dI cq q S M o _ _ _ _ _ e20) F (va_cwS 2 hts gX7_digest_X7_mix rfl rfl rfl hdX7_mix ⟨Nat.le_of_ble_eq_true rfl, Nat.le_of_ble_eq_true rfl⟩) hK hP hD hDm hS hA EV.blind (fun U hU hW => EV.call hX hS hDm hU hW) rfl hl.1 rfl (Nat.le_of_ble_eq_true rfl) dX7_digest_195 ⟨Nat.zero_le _, Nat.zero_le _⟩ (fun H locs hP hD hS => ?_)
        refine lv_lstore_n (lv' := [(1, .long r19), (0, .ref (q 0)), (3, .int x3)]) hx hb dX7_digest_198 rfl hl (by decide) rfl (fun ls hl => ?_)
        refine lv_iconst (v := (0 : Int32)) hx hb dX7_digest_199 (by decide) ?_
        refine lv_istore_n (lv' := [(3, .int (0 : Int32)), (1, .long r19), (0, .ref (q 0))]) hx hb dX7_digest_200 rfl hl (by decide) rfl (fun ls hl => ?_)
        exact hL201 _ _ _ _ _ _ _ hP hD hS (lv_sub hl [2, 1, 0] rfl) h
      · replace h := ie c12 h
        refine lv_iload_n hx hb dX7_digest_140 rfl (lv_at hl 2 rfl) ?_
        refine lv_iconst (v := (1 : Int32)) hx hb dX7_digest_141 (by decide) ?_
        refine lv_iadd hx hb dX7_digest_142 ?_
        refine lv_istore (lv' := [(4, .int (x3 + (1 : Int32))), (0, .ref (q 0)), (1, .long x1), (3, .int x3)]) hx hb dX7_digest_143 hl (by decide) rfl (fun ls hl => ?_)
        exact hL145 _ _ ih _ _ _ _ _ _ _ hP hD hS (lv_sub hl [1, 2, 3, 0] rfl) h
  have hL114 : ∀   (k : Nat) (S : CS) (x1 : Int64) (x3 : Int32) (H : Heap) (locs : List Loc) (ls : Array Slot), va_P (dC, dI) vwCl (wA cq q S M o) H → va_D A (wA cq q S M o) → va_S A s.heap H locs → lv_has ls 5 [(0, .ref (q 0)), (1, .long x1), (3, .int x3)] → mX7_digest_114 n k S x1 x3 = some (rr, SS) → W p l e rmX7_digest s m args below meth c H locs 0 0 Q (F0 m 114 ls []) := by
    intro k
    induction k with
    | zero =>
      intro S x1 x3 H locs ls hP hD hS hl h
      rw [mX7_digest_114] at h
      cases h
    | succ k ih =>
      intro S x1 x3 H locs ls hP hD hS hl h
      rw [mX7_digest_114] at h
      refine lv_iload_n hx hb dX7_digest_114 rfl (lv_at hl 2 rfl) ?_
      refine lv_bipush (v := (8 : Int32)) hx hb dX7_digest_115 (by decide) ?_
      refine lv_icmp_ge (tgt := 133) hx hb dX7_digest_117 (by decide) (fun c11 => ?_) (fun c11 => ?_)
      · replace h := it c11 h
        refine lv_iconst (v := (0 : Int32)) hx hb dX7_digest_133 (by decide) ?_
        refine lv_istore_n (lv' := [(3, .int (0 : Int32)), (0, .ref (q 0)), (1, .long x1)]) hx hb dX7_digest_134 rfl hl (by decide) rfl (fun ls hl => ?_)
        exact hL135 _ _ _ _ _ _ _ hP hD hS (lv_sub hl [1, 2, 0] rfl) h
      · replace h := ie c11 h
        refine lv_aload_n hx hb dX7_digest_120 rfl (lv_at hl 0 rfl) ?_
        refine lv_lload_n hx hb dX7_digest_121 rfl (lv_at hl 1 rfl) ?_
        refine lv_iload_n hx hb dX7_digest_122 rfl (lv_at hl 2 rfl) ?_
        obtain ⟨r39, e40, h⟩ := bo h
        refine caVR_l (As := [.long x1, .int x3]) (rest := []) (ctX7_mixPin l dC dI cq q S M o _ _ _ _ _ _ e40) F (cwV 2 hts gX7_digest_X7_mixPin rfl rfl rfl hdX7_mixPin ⟨Nat.le_of_ble_eq_true rfl, Nat.le_of_ble_eq_true rfl⟩) hK hP hD hDm hS hA EV.blind (fun U hU hW => EV.call hX hS hDm hU hW) (va_recv hK hP (ci := 8) (q0 := 0) rfl rfl) rfl hl.1 rfl (Nat.le_of_ble_eq_true rfl) dX7_digest_123 ⟨Nat.zero_le _, Nat.zero_le _⟩ (fun H locs hP hD hS => ?_)
        refine lv_lstore_n (lv' := [(1, .long r39), (0, .ref (q 0)), (3, .int x3)]) hx hb dX7_digest_126 rfl hl (by decide) rfl (fun ls hl => ?_)
        refine lv_iinc (v := (x3 + (1 : Int32))) (lv' := [(3, .int (x3 + (1 : Int32))), (1, .long r39), (0, .ref (q 0))]) hx hb dX7_digest_127 hl (k := 2) rfl rfl (by decide) rfl (fun ls hl => ?_)
        refine lv_goto (tgt := 114) hx hb dX7_digest_130 (by decide) ?_
        exact ih _ _ _ _ _ _ hP hD hS (lv_sub hl [2, 1, 0] rfl) h
  have hL62 : ∀ (x3 : Int32) (K45 : CS → Int64 → Int32 → Option (Int64 × CS)) (hK45 : ∀ (S9 : CS) (y1 : Int64) (y3 : Int32) (H : Heap) (locs : List Loc) (ls : Array Slot), va_P (dC, dI) vwCl (wA cq q S9 M o) H → va_D A (wA cq q S9 M o) → va_S A s.heap H locs → lv_has ls 5 [(0, .ref (q 0)), (1, .long y1), (3, .int y3)] → K45 S9 y1 y3 = some (rr, SS) → W p l e rmX7_digest s m args below meth c H locs 0 0 Q (F0 m 45 ls [])) (k : Nat) (S : CS) (x1 : Int64) (x4 : Int32) (H : Heap) (locs : List Loc) (ls : Array Slot), va_P (dC, dI) vwCl (wA cq q S M o) H → va_D A (wA cq q S M o) → va_S A s.heap H locs → lv_has ls 5 [(0, .ref (q 0)), (1, .long x1), (3, .int x3), (4, .int x4)] → mX7_digest_62 n K45 x3 k S x1 x4 = some (rr, SS) → W p l e rmX7_digest s m args below meth c H locs 0 0 Q (F0 m 62 ls []) := by
    intro x3 K45 hK45
    intro k
    induction k with
    | zero =>
      intro S x1 x4 H locs ls hP hD hS hl h
      rw [mX7_digest_62] at h
      cases h
    | succ k ih =>
      intro S x1 x4 H locs ls hP hD hS hl h
      rw [mX7_digest_62] at h
      refine lv_iload hx hb dX7_digest_62 (lv_at hl 3 rfl) ?_
      refine lv_bipush (v := (6 : Int32)) hx hb dX7_digest_64 (by decide) ?_
      refine lv_icmp_gt (tgt := 106) hx hb dX7_digest_66 (by decide) (fun c41 => ?_) (fun c41 => ?_)
      · replace h := it c41 h
        refine lv_iinc (v := (x3 + (1 : Int32))) (lv' := [(3, .int (x3 + (1 : Int32))), (0, .ref (q 0)), (1, .long x1), (4, .int x4)]) hx hb dX7_digest_106 hl (k := 2) rfl rfl (by decide) rfl (fun ls hl => ?_)
        refine lv_goto (tgt := 45) hx hb dX7_digest_109 (by decide) ?_
        exact hK45 _ _ _ _ _ _ hP hD hS (lv_sub hl [1, 2, 0] rfl) h
      · replace h := ie c41 h
        refine lv_lload_n hx hb dX7_digest_69 rfl (lv_at hl 1 rfl) ?_
        refine lv_aload_n hx hb dX7_digest_70 rfl (lv_at hl 0 rfl) ?_
        refine va_get (D := (dC, dI)) (ci := 8) (v := .ref (q 1)) (C := RX7) (T := TX7) (N := 5) hx hb hts hinX7 hown hK hP 0 rfl rfl 0 (by decide) (hts (.fieldLink RX7 10 "CableTester" "cable" "LCableTester$Cable;") (mm 4 rfl)) (fun _ h9 => h9) rfl dX7_digest_71 ?_
        refine va_getN (D := (dC, dI)) (ci := 1) (v := .ref (q 3)) (C := RX0) (T := TX0) (N := 7) hx hb hts hinX0 hown hK hP 1 rfl rfl 5 (by decide) (va_Nw.use rfl hX.1.2.2.2.2.2.2.1) (fun _ h9 => h9) rfl dX7_digest_74 ?_
        refine lv_iload_n hx hb dX7_digest_77 rfl (lv_at hl 2 rfl) ?_
        obtain ⟨r42, e43, h⟩ := bo h
        refine caVR_r (As := [.int x3]) (rest := [.long x1]) (ctJx4a65c_get_915e3 l dC dI cq q S M o _ _ _ _ e43) F (cwV 1 hts gX7_digest_Jx4a65c_get_915e3 rfl rfl rfl hdJx4a65c_get_915e3 ⟨Nat.le_of_ble_eq_true rfl, Nat.le_of_ble_eq_true rfl⟩) hK hP hD hDm hS hA EV.blind (fun U hU hW => EV.call hX hS hDm hU hW) (va_recv hK hP (ci := 0) (q0 := 3) rfl rfl) rfl hl.1 rfl (Nat.le_of_ble_eq_true rfl) dX7_digest_78 ⟨Nat.zero_le _, Nat.zero_le _⟩ (fun H locs hP hD hS => ?_)
        have hw44 := mJx4a65c_get_915e3_mem e43
        obtain ⟨kw45, hkw45⟩ := wA_w (cq := cq) (q := q) (S := S) (M := M) (o := o) hw44
        refine va_castS (nm := RX2) hx hb hown (hts (.classLink RX7 82 "CableTester$Fault") (mm 5 rfl)) (hK.1 3 _ rfl).2 (va_recv hK hP (ci := 3) (q0 := kw45) rfl hkw45) dX7_digest_81 ?_
        refine lv_iload hx hb dX7_digest_84 (lv_at hl 3 rfl) ?_
        refine lv_aload_n hx hb dX7_digest_86 rfl (lv_at hl 0 rfl) ?_
        refine va_get (D := (dC, dI)) (ci := 8) (v := .ref (q 1)) (C := RX7) (T := TX7) (N := 5) hx hb hts hinX7 hown hK hP 0 rfl rfl 0 (by decide) (hts (.fieldLink RX7 10 "CableTester" "cable" "LCableTester$Cable;") (mm 4 rfl)) (fun _ h9 => h9) rfl dX7_digest_87 ?_
        refine va_getN (D := (dC, dI)) (ci := 1) (v := .int (S.1 3)) (C := RX0) (T := TX0) (N := 7) hx hb hts hinX0 hown hK hP 1 rfl rfl 3 (by decide) (va_Nw.use rfl hX.1.2.2.2.2.1) (fun _ h9 => h9) rfl dX7_digest_90 ?_
        obtain ⟨r46, e47, h⟩ := bo h
        obtain ⟨kw48, hkw48⟩ := wA_w (cq := cq) (q := q) (S := S) (M := M) (o := o) hw44
        refine caVR_i (As := [.int x4, .int (S.1 3)]) (rest := [.long x1]) (ctX2_property l dC dI cq q S M o _ _ _ hw44 _ _ _ e47) F (cwV 2 hts gX7_digest_X2_property rfl rfl rfl hdX2_property ⟨Nat.le_of_ble_eq_true rfl, Nat.le_of_ble_eq_true rfl⟩) hK hP hD hDm hS hA EV.blind (fun U hU hW => EV.call hX hS hDm hU hW) (va_recv hK hP (ci := 3) (q0 := kw48) rfl hkw48) rfl hl.1 rfl (Nat.le_of_ble_eq_true rfl) dX7_digest_93 ⟨Nat.zero_le _, Nat.zero_le _⟩ (fun H locs hP hD hS => ?_)
        obtain ⟨r49, e50, h⟩ := bo h
        refine caSR_l (As := [.long x1, .int r46]) (rest := []) (ctX7_mix l dC dI cq q S M o _ _ _ _ _ e50) F (va_cwS 2 hts gX7_digest_X7_mix rfl rfl rfl hdX7_mix ⟨Nat.le_of_ble_eq_true rfl, Nat.le_of_ble_eq_true rfl⟩) hK hP hD hDm hS hA EV.blind (fun U hU hW => EV.call hX hS hDm hU hW) rfl hl.1 rfl (Nat.le_of_ble_eq_true rfl) dX7_digest_96 ⟨Nat.zero_le _, Nat.zero_le _⟩ (fun H locs hP hD hS => ?_)
        refine lv_lstore_n (lv' := [(1, .long r49), (0, .ref (q 0)), (3, .int x3), (4, .int x4)]) hx hb dX7_digest_99 rfl hl (by decide) rfl (fun ls hl => ?_)
        refine lv_iinc (v := (x4 + (1 : Int32))) (lv' := [(4, .int (x4 + (1 : Int32))), (1, .long r49), (0, .ref (q 0)), (3, .int x3)]) hx hb dX7_digest_100 hl (k := 3) rfl rfl (by decide) rfl (fun ls hl => ?_)
        refine lv_goto (tgt := 62) hx hb dX7_digest_103 (by decide) ?_
        exact ih _ _ _ _ _ _ hP hD hS (lv_sub hl [2, 1, 3, 0] rfl) h
  have hL45 : ∀   (k : Nat) (S : CS) (x1 : Int64) (x3 : Int32) (H : Heap) (locs : List Loc) (ls : Array Slot), va_P (dC, dI) vwCl (wA cq q S M o) H → va_D A (wA cq q S M o) → va_S A s.heap H locs → lv_has ls 5 [(0, .ref (q 0)), (1, .long x1), (3, .int x3)] → mX7_digest_45 n k S x1 x3 = some (rr, SS) → W p l e rmX7_digest s m args below meth c H locs 0 0 Q (F0 m 45 ls []) := by
    intro k
    induction k with
    | zero =>
      intro S x1 x3 H locs ls hP hD hS hl h
      rw [mX7_digest_45] at h
      cases h
    | succ k ih =>
      intro S x1 x3 H locs ls hP hD hS hl h
      rw [mX7_digest_45] at h
      refine lv_iload_n hx hb dX7_digest_45 rfl (lv_at hl 2 rfl) ?_
      refine lv_aload_n hx hb dX7_digest_46 rfl (lv_at hl 0 rfl) ?_
      refine va_get (D := (dC, dI)) (ci := 8) (v := .ref (q 1)) (C := RX7) (T := TX7) (N := 5) hx hb hts hinX7 hown hK hP 0 rfl rfl 0 (by decide) (hts (.fieldLink RX7 10 "CableTester" "cable" "LCableTester$Cable;") (mm 4 rfl)) (fun _ h9 => h9) rfl dX7_digest_47 ?_
      refine va_getN (D := (dC, dI)) (ci := 1) (v := .ref (q 3)) (C := RX0) (T := TX0) (N := 7) hx hb hts hinX0 hown hK hP 1 rfl rfl 5 (by decide) (va_Nw.use rfl hX.1.2.2.2.2.2.2.1) (fun _ h9 => h9) rfl dX7_digest_50 ?_
      obtain ⟨r8, e9, h⟩ := bo h
      refine caVR_i (As := []) (rest := [.int x3]) (ctJx4a65c_size_8abf5 l dC dI cq q S M o _ _ _ e9) F (cwV 0 hts gX7_digest_Jx4a65c_size_8abf5 rfl rfl rfl hdJx4a65c_size_8abf5 ⟨Nat.le_of_ble_eq_true rfl, Nat.le_of_ble_eq_true rfl⟩) hK hP hD hDm hS hA EV.blind (fun U hU hW => EV.call hX hS hDm hU hW) (va_recv hK hP (ci := 0) (q0 := 3) rfl rfl) rfl hl.1 rfl (Nat.le_of_ble_eq_true rfl) dX7_digest_53 ⟨Nat.zero_le _, Nat.zero_le _⟩ (fun H locs hP hD hS => ?_)
      refine lv_icmp_ge (tgt := 112) hx hb dX7_digest_56 (by decide) (fun c10 => ?_) (fun c10 => ?_)
      · replace h := it c10 h
        refine lv_iconst (v := (0 : Int32)) hx hb dX7_digest_112 (by decide) ?_
        refine lv_istore_n (lv' := [(3, .int (0 : Int32)), (0, .ref (q 0)), (1, .long x1)]) hx hb dX7_digest_113 rfl hl (by decide) rfl (fun ls hl => ?_)
        exact hL114 _ _ _ _ _ _ _ hP hD hS (lv_sub hl [1, 2, 0] rfl) h
      · replace h := ie c10 h
        refine lv_iconst (v := (0 : Int32)) hx hb dX7_digest_59 (by decide) ?_
        refine lv_istore (lv' := [(4, .int (0 : Int32)), (0, .ref (q 0)), (1, .long x1), (3, .int x3)]) hx hb dX7_digest_60 hl (by decide) rfl (fun ls hl => ?_)
        exact hL62 _ _ ih _ _ _ _ _ _ _ hP hD hS (lv_sub hl [1, 2, 3, 0] rfl) h
  have hL21 : ∀   (k : Nat) (S : CS) (x1 : Int64) (x3 : Int32) (H : Heap) (locs : List Loc) (ls : Array Slot), va_P (dC, dI) vwCl (wA cq q S M o) H → va_D A (wA cq q S M o) → va_S A s.heap H locs → lv_has ls 5 [(0, .ref (q 0)), (1, .long x1), (3, .int x3)] → mX7_digest_21 n k S x1 x3 = some (rr, SS) → W p l e rmX7_digest s m args below meth c H locs 0 0 Q (F0 m 21 ls []) := by
    intro k
    induction k with
    | zero =>
      intro S x1 x3 H locs ls hP hD hS hl h
      rw [mX7_digest_21] at h
      cases h
    | succ k ih =>
      intro S x1 x3 H locs ls hP hD hS hl h
      rw [mX7_digest_21] at h
      refine lv_iload_n hx hb dX7_digest_21 rfl (lv_at hl 2 rfl) ?_
      refine lv_bipush (v := (8 : Int32)) hx hb dX7_digest_22 (by decide) ?_
      refine lv_icmp_gt (tgt := 43) hx hb dX7_digest_24 (by decide) (fun c7 => ?_) (fun c7 => ?_)
      · replace h := it c7 h
        refine lv_iconst (v := (0 : Int32)) hx hb dX7_digest_43 (by decide) ?_
        refine lv_istore_n (lv' := [(3, .int (0 : Int32)), (0, .ref (q 0)), (1, .long x1)]) hx hb dX7_digest_44 rfl hl (by decide) rfl (fun ls hl => ?_)
        exact hL45 _ _ _ _ _ _ _ hP hD hS (lv_sub hl [1, 2, 0] rfl) h
      · replace h := ie c7 h
        refine lv_lload_n hx hb dX7_digest_27 rfl (lv_at hl 1 rfl) ?_
        refine lv_aload_n hx hb dX7_digest_28 rfl (lv_at hl 0 rfl) ?_
        refine lv_iload_n hx hb dX7_digest_29 rfl (lv_at hl 2 rfl) ?_
        obtain ⟨r51, e52, h⟩ := bo h
        refine caVR_i (As := [.int x3]) (rest := [.long x1]) (ctX7_numberOf l dC dI cq q S M o _ _ _ _ _ e52) F (cwV 1 hts gX7_digest_X7_numberOf rfl rfl rfl hdX7_numberOf ⟨Nat.le_of_ble_eq_true rfl, Nat.le_of_ble_eq_true rfl⟩) hK hP hD hDm hS hA EV.blind (fun U hU hW => EV.call hX hS hDm hU hW) (va_recv hK hP (ci := 8) (q0 := 0) rfl rfl) rfl hl.1 rfl (Nat.le_of_ble_eq_true rfl) dX7_digest_30 ⟨Nat.zero_le _, Nat.zero_le _⟩ (fun H locs hP hD hS => ?_)
        obtain ⟨r53, e54, h⟩ := bo h
        refine caSR_l (As := [.long x1, .int r51]) (rest := []) (ctX7_mix l dC dI cq q S M o _ _ _ _ _ e54) F (va_cwS 2 hts gX7_digest_X7_mix rfl rfl rfl hdX7_mix ⟨Nat.le_of_ble_eq_true rfl, Nat.le_of_ble_eq_true rfl⟩) hK hP hD hDm hS hA EV.blind (fun U hU hW => EV.call hX hS hDm hU hW) rfl hl.1 rfl (Nat.le_of_ble_eq_true rfl) dX7_digest_33 ⟨Nat.zero_le _, Nat.zero_le _⟩ (fun H locs hP hD hS => ?_)
        refine lv_lstore_n (lv' := [(1, .long r53), (0, .ref (q 0)), (3, .int x3)]) hx hb dX7_digest_36 rfl hl (by decide) rfl (fun ls hl => ?_)
        refine lv_iinc (v := (x3 + (1 : Int32))) (lv' := [(3, .int (x3 + (1 : Int32))), (1, .long r53), (0, .ref (q 0))]) hx hb dX7_digest_37 hl (k := 2) rfl rfl (by decide) rfl (fun ls hl => ?_)
        refine lv_goto (tgt := 21) hx hb dX7_digest_40 (by decide) ?_
        exact ih _ _ _ _ _ _ hP hD hS (lv_sub hl [2, 1, 0] rfl) h
  rw [mX7_digest] at h
  refine lv_aload_n hx hb dX7_digest_0 rfl (lv_at hl 0 rfl) ?_
  obtain ⟨S3, e2, h⟩ := bo h
  refine caVC_v (As := []) (rest := []) (ctX7_measure l dC dI cq q S M o _ _ _ _ e2) F (cwV 0 hts gX7_digest_X7_measure rfl rfl rfl hdX7_measure ⟨Nat.le_of_ble_eq_true rfl, Nat.le_of_ble_eq_true rfl⟩) hK hP hD hDm hS hA EV.blind (fun U hU hW => EV.call hX hS hDm hU hW) (va_recv hK hP (ci := 8) (q0 := 0) rfl rfl) rfl hl.1 rfl (Nat.le_of_ble_eq_true rfl) dX7_digest_1 ⟨Nat.zero_le _, Nat.zero_le _⟩ (fun H locs hP hD hS => ?_)
  refine lv_aload_n hx hb dX7_digest_4 rfl (lv_at hl 0 rfl) ?_
  refine va_get (D := (dC, dI)) (ci := 8) (v := .ref (q 13)) (C := RX7) (T := TX7) (N := 5) hx hb hts hinX7 hown hK hP 0 rfl rfl 2 (by decide) (hts (.fieldLink RX7 26 "CableTester" "explainer" "LCableTester$Explainer;") (mm 1 rfl)) (fun _ h9 => h9) rfl dX7_digest_5 ?_
  refine lv_aload_n hx hb dX7_digest_8 rfl (lv_at hl 0 rfl) ?_
  refine va_get (D := (dC, dI)) (ci := 8) (v := .ref (q 6)) (C := RX7) (T := TX7) (N := 5) hx hb hts hinX7 hown hK hP 0 rfl rfl 1 (by decide) (hts (.fieldLink RX7 19 "CableTester" "nets" "LCableTester$Nets;") (mm 2 rfl)) (fun _ h9 => h9) rfl dX7_digest_9 ?_
  obtain ⟨S6, e5, h⟩ := bo h
  refine caVC_v (As := [.ref (q 6)]) (rest := []) (ctX1_findBest l dC dI cq q S3 M o _ _ _ _ e5) F (cwV 1 hts gX7_digest_X1_findBest rfl rfl rfl hdX1_findBest ⟨Nat.le_of_ble_eq_true rfl, Nat.le_of_ble_eq_true rfl⟩) hK hP hD hDm hS hA EV.blind (fun U hU hW => EV.call hX hS hDm hU hW) (va_recv hK hP (ci := 2) (q0 := 13) rfl rfl) rfl hl.1 rfl (Nat.le_of_ble_eq_true rfl) dX7_digest_12 ⟨Nat.zero_le _, Nat.zero_le _⟩ (fun H locs hP hD hS => ?_)
  refine lv_ldc2 hx hb hown (hts (.constantLong RX7 203 (2011)) (mm 3 rfl)) dX7_digest_15 ?_
  refine lv_lstore_n (lv' := [(1, .long (2011 : Int64)), (0, .ref (q 0))]) hx hb dX7_digest_18 rfl hl (by decide) rfl (fun ls hl => ?_)
  refine lv_iconst (v := (0 : Int32)) hx hb dX7_digest_19 (by decide) ?_
  refine lv_istore_n (lv' := [(3, .int (0 : Int32)), (1, .long (2011 : Int64)), (0, .ref (q 0))]) hx hb dX7_digest_20 rfl hl (by decide) rfl (fun ls hl => ?_)
  exact hL21 _ _ _ _ _ _ _ hP hD hS (lv_sub hl [2, 1, 0] rfl) h
