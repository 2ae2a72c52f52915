theorem hdJx4a65c_add_9ea2d : yJx4a65c_add_9ea2d.cls = RJx4a65c ∧ yJx4a65c_add_9ea2d.cls ≠ "java/lang/invoke/MethodHandle" ∧ yJx4a65c_add_9ea2d.cls ≠ "java/lang/invoke/VarHandle" ∧ (parseMethodDescriptor yJx4a65c_add_9ea2d.desc).map (fun d => d.parameters.length) = some 1 := by decide +kernel
abbrev rmJx4a65c_add_9ea2d : Room := { frames := 4, cells := 1, slots := 10, locals := 130 }
set_option maxRecDepth 100000 in
set_option maxHeartbeats 8000000 in
theorem ctJx4a65c_add_9ea2d (l : Launch) (dC : Nat → ClassId) (dI : Nat → Nat → Nat) (cq : Nat → ClassId) (q : Nat → Nat) (S : CS) (M : MS) (o : Nat → Int64) (sz h0 : Nat) (w : FT) (hlt : S.2.2.2.1.length < 10) (hmo : S.2.2.2.2 = none → S.2.2.2.1 = []) : Met l yJx4a65c_add_9ea2d wsJx4a65c_add_9ea2d rmJx4a65c_add_9ea2d (PreW (fun a => h0 ≤ a) (EV h0 q) dC dI cq (wN cq q S M o (S.1 4) w) sz [.ref (q 3), .ref w.1]) (va_Qi (fun (r : Int32) (_ : Nat) => r = 1) (fun u t => BkW dC dI cq (va_A (wN cq q S M o (S.1 4) w) sz) (wA cq q (addF S w u) M o) t) (va_A (wN cq q S M o (S.1 4) w) sz)) 1 10 (va_A (wN cq q S M o (S.1 4) w) sz) := by
  refine entW_i (ty := .boolean) (wf := fun u => wA cq q (addF S w u) M o) (cc := cJx4a65c_add_9ea2d) (maxL := 2) (by decide) rfl (Nat.le_of_ble_eq_true rfl) (fun p e s m args below meth c A Q ls F hA hP hK hD hDm hX hS hl hend => ?_)
  obtain ⟨hx, hb, hml, hown, hts⟩ := id F
  have hown : s.vm.findClass RJx4a65c = some m.cls := hown
  have F : CallFix p m c cJx4a65c_add_9ea2d 2 s args wsJx4a65c_add_9ea2d RJx4a65c := F
  have hl : lv_has ls 2 [(0, .ref (q 3)), (1, .ref w.1)] := hl
  have hin : ∀ w ∈ u_ws RJx4a65c TJx4a65c 3, w ∈ wsJx4a65c_add_9ea2d := fun w h => List.mem_cons_of_mem _ (List.mem_append_right _ h)
  have hP : va_P (dC, dI) vwCl (wG cq q S M o (S.1 4) (edA q S) (nI S.2.2.2.1.length) (wEd cq S ++ (S.2.2.2.1 ++ [w]).map wFc)) s.heap := hP
  have hD : va_D A (wG cq q S M o (S.1 4) (edA q S) (nI S.2.2.2.1.length) (wEd cq S ++ (S.2.2.2.1 ++ [w]).map wFc)) := hD
  refine lv_aload_n hx hb dJx4a65c_add_9ea2d_0 rfl (lv_at hl 0 rfl) ?_
  refine lv_dup hx hb dJx4a65c_add_9ea2d_1 rfl ?_
  refine va_get (D := (dC, dI)) (ci := 0) (v := .int (S.1 4)) (C := RJx4a65c) (T := TJx4a65c) (N := 3) hx hb hts hin hown hK hP 3 rfl rfl 0 (by decide) (hts (.fieldLink RJx4a65c 63 "java/util/ArrayList" "modCount" "I") (mm 1 rfl)) (u_same (hts (.sameField "java/util/ArrayList" "java/util/AbstractList" "modCount" "I") (mm 2 rfl))) rfl dJx4a65c_add_9ea2d_2 ?_
  refine lv_iconst (v := (1 : Int32)) hx hb dJx4a65c_add_9ea2d_5 (by decide) ?_
  refine lv_iadd hx hb dJx4a65c_add_9ea2d_6 ?_
  refine pG_mc F hin (hts (.fieldLink RJx4a65c 63 "java/util/ArrayList" "modCount" "I") (mm 1 rfl)) (hts (.sameField "java/util/ArrayList" "java/util/AbstractList" "modCount" "I") (mm 2 rfl)) hK hP hD hS dJx4a65c_add_9ea2d_7 (fun H locs hP hD hS => ?_)
  refine lv_aload_n hx hb dJx4a65c_add_9ea2d_10 rfl (lv_at hl 0 rfl) ?_
  refine lv_aload_n hx hb dJx4a65c_add_9ea2d_11 rfl (lv_at hl 1 rfl) ?_
  refine lv_aload_n hx hb dJx4a65c_add_9ea2d_12 rfl (lv_at hl 0 rfl) ?_
  refine va_get (D := (dC, dI)) (ci := 0) (v := .ref (edA q S)) (C := RJx4a65c) (T := TJx4a65c) (N := 3) hx hb hts hin hown hK hP 3 rfl rfl 1 (by decide) (hts (.fieldLink RJx4a65c 9 "java/util/ArrayList" "elementData" "[Ljava/lang/Object;") (mm 3 rfl)) (fun _ h9 => h9) rfl dJx4a65c_add_9ea2d_13 ?_
  refine lv_aload_n hx hb dJx4a65c_add_9ea2d_16 rfl (lv_at hl 0 rfl) ?_
  refine va_get (D := (dC, dI)) (ci := 0) (v := .int (nI S.2.2.2.1.length)) (C := RJx4a65c) (T := TJx4a65c) (N := 3) hx hb hts hin hown hK hP 3 rfl rfl 2 (by decide) (hts (.fieldLink RJx4a65c 48 "java/util/ArrayList" "size" "I") (mm 4 rfl)) (fun _ h9 => h9) rfl dJx4a65c_add_9ea2d_17 ?_
  refine caWV_v (As := [.ref w.1, .ref (edA q S), .int (nI S.2.2.2.1.length)]) (rest := []) (ctJx4a65c_add_72be8 l dC dI cq q S M o _ _ (S.1 4 + 1) w hlt hmo) F (cwV 3 hts gJx4a65c_add_9ea2d_Jx4a65c_add_72be8 rfl rfl rfl hdJx4a65c_add_72be8 ⟨Nat.le_of_ble_eq_true rfl, Nat.le_of_ble_eq_true rfl⟩) hK hP hD hDm hS hA EV.blind (fun U hU hW => EV.call hX hS hDm hU hW) (va_recv hK hP (ci := 0) (q0 := 3) rfl rfl) rfl hl.1 rfl (Nat.le_of_ble_eq_true rfl) dJx4a65c_add_9ea2d_20 ⟨Nat.le_of_ble_eq_true rfl, Nat.le_of_ble_eq_true rfl⟩ (fun H locs u _ hP hD hS => ?_)
  refine lv_iconst (v := (1 : Int32)) hx hb dJx4a65c_add_9ea2d_23 (by decide) ?_
  exact hend _ _ _ u _ _ rfl hP hD hS dJx4a65c_add_9ea2d_24 (by decide)
theorem hdX2_init : yX2_init.cls ≠ "java/lang/invoke/MethodHandle" ∧ yX2_init.cls ≠ "java/lang/invoke/VarHandle" ∧ (parseMethodDescriptor yX2_init.desc).map (fun d => d.parameters.length) = some 5 := by decide +kernel
abbrev rmX2_init : Room := { frames := 1, cells := 0, slots := 0, locals := 12 }
set_option maxRecDepth 100000 in
set_option maxHeartbeats 8000000 in
theorem ctX2_init (l : Launch) (dC : Nat → ClassId) (dI : Nat → Nat → Nat) (cq : Nat → ClassId) (q : Nat → Nat) (sz h0 : Nat) (a : Nat) (wr : va_W) (x1 x2 x3 x4 x5 : Int32) : Met l yX2_init wsX2_init rmX2_init (PreW (fun a => h0 ≤ a) (EV h0 q) dC dI cq ((a, .inr (3, [.int 0, .int 0, .int 0, .int 0, .int 0])) :: wr) sz [.ref a, .int x1, .int x2, .int x3, .int x4, .int x5]) (va_Qv (fun _ : Unit => True) (fun _ t => BkW dC dI cq (va_A ((a, .inr (3, [.int 0, .int 0, .int 0, .int 0, .int 0])) :: wr) sz) ((a, .inr (3, [.int x1, .int x2, .int x3, .int x4, .int x5])) :: wr) t) (va_A ((a, .inr (3, [.int 0, .int 0, .int 0, .int 0, .int 0])) :: wr) sz)) 0 0 (va_A ((a, .inr (3, [.int 0, .int 0, .int 0, .int 0, .int 0])) :: wr) sz) := by
  refine entW_I (wf := fun _ => (a, .inr (3, [.int x1, .int x2, .int x3, .int x4, .int x5])) :: wr) (cc := cX2_init) (maxL := 6) (by decide) rfl (Nat.le_of_ble_eq_true rfl) rfl (fun p e s m args below meth c A Q ls F hA hP hK hD hDm hX hS hl hni hend => ?_)
  obtain ⟨hx, hb, hml, hown, hts⟩ := id F
  have hown : s.vm.findClass RX2 = some m.cls := hown
  have hl : lv_has ls 6 [(0, .ref a), (1, .int x1), (2, .int x2), (3, .int x3), (4, .int x4), (5, .int x5)] := hl
  have hin : ∀ w ∈ u_ws RX2 TX2 5, w ∈ wsX2_init := fun w h => List.mem_cons_of_mem _ (List.mem_append_right _ h)
  refine lv_aload_n hx hb dX2_init_0 rfl (lv_at hl 0 rfl) ?_
  refine W.objInit hx hb hown (hts (.methodLink RX2 3 objectInit) (mm 1 rfl)) (hts (.instanceMethod objectInit) (mm 2 rfl)) (hts (.code objectInit ⟨#[0xb1]⟩ 1 none) (mm 3 rfl)) rfl (by rw [hml]; exact hl.1) rfl dX2_init_1 (Nat.le_of_ble_eq_true rfl) (Nat.le_of_ble_eq_true rfl) ?_
  refine W.eq (g2 := F0 m 4 ls []) rfl ?_
  refine lv_aload_n hx hb dX2_init_4 rfl (lv_at hl 0 rfl) ?_
  refine lv_iload_n hx hb dX2_init_5 rfl (lv_at hl 1 rfl) ?_
  refine va_putF (D := (dC, dI)) (ci := 3) (v := .int x1) (ty := .int) (C := RX2) (T := TX2) (N := 5) hx hb hts hin tyX2 tyX2_ok nmX2 hown hK hP hD hS 0 rfl rfl 0 (by decide) (hts (.fieldLink RX2 9 "CableTester$Fault" "wire" "I") (mm 4 rfl)) (fun _ h9 => h9) rfl hni rfl (by decide +kernel) rfl rfl (Nat.le_of_ble_eq_true rfl) dX2_init_6 (fun H locs hP hD hS => ?_)
  have hP : va_P (dC, dI) vwCl ((a, .inr (3, [.int x1, .int 0, .int 0, .int 0, .int 0])) :: wr) H := hP
  have hD : va_D A ((a, .inr (3, [.int x1, .int 0, .int 0, .int 0, .int 0])) :: wr) := hD
  refine lv_aload_n hx hb dX2_init_9 rfl (lv_at hl 0 rfl) ?_
  refine lv_iload_n hx hb dX2_init_10 rfl (lv_at hl 2 rfl) ?_
  refine va_putF (D := (dC, dI)) (ci := 3) (v := .int x2) (ty := .int) (C := RX2) (T := TX2) (N := 5) hx hb hts hin tyX2 tyX2_ok nmX2 hown hK hP hD hS 0 rfl rfl 1 (by decide) (hts (.fieldLink RX2 15 "CableTester$Fault" "other" "I") (mm 5 rfl)) (fun _ h9 => h9) rfl hni rfl (by decide +kernel) rfl rfl (Nat.le_of_ble_eq_true rfl) dX2_init_11 (fun H locs hP hD hS => ?_)
  have hP : va_P (dC, dI) vwCl ((a, .inr (3, [.int x1, .int x2, .int 0, .int 0, .int 0])) :: wr) H := hP
  have hD : va_D A ((a, .inr (3, [.int x1, .int x2, .int 0, .int 0, .int 0])) :: wr) := hD
  refine lv_aload_n hx hb dX2_init_14 rfl (lv_at hl 0 rfl) ?_
  refine lv_iload_n hx hb dX2_init_15 rfl (lv_at hl 3 rfl) ?_
  refine va_putF (D := (dC, dI)) (ci := 3) (v := .int x3) (ty := .int) (C := RX2) (T := TX2) (N := 5) hx hb hts hin tyX2 tyX2_ok nmX2 hown hK hP hD hS 0 rfl rfl 2 (by decide) (hts (.fieldLink RX2 18 "CableTester$Fault" "place" "I") (mm 6 rfl)) (fun _ h9 => h9) rfl hni rfl (by decide +kernel) rfl rfl (Nat.le_of_ble_eq_true rfl) dX2_init_16 (fun H locs hP hD hS => ?_)
  have hP : va_P (dC, dI) vwCl ((a, .inr (3, [.int x1, .int x2, .int x3, .int 0, .int 0])) :: wr) H := hP
  have hD : va_D A ((a, .inr (3, [.int x1, .int x2, .int x3, .int 0, .int 0])) :: wr) := hD
  refine lv_aload_n hx hb dX2_init_19 rfl (lv_at hl 0 rfl) ?_
  refine lv_iload hx hb dX2_init_20 (lv_at hl 4 rfl) ?_
  refine va_putF (D := (dC, dI)) (ci := 3) (v := .int x4) (ty := .int) (C := RX2) (T := TX2) (N := 5) hx hb hts hin tyX2 tyX2_ok nmX2 hown hK hP hD hS 0 rfl rfl 3 (by decide) (hts (.fieldLink RX2 21 "CableTester$Fault" "period" "I") (mm 7 rfl)) (fun _ h9 => h9) rfl hni rfl (by decide +kernel) rfl rfl (Nat.le_of_ble_eq_true rfl) dX2_init_22 (fun H locs hP hD hS => ?_)
  have hP : va_P (dC, dI) vwCl ((a, .inr (3, [.int x1, .int x2, .int x3, .int x4, .int 0])) :: wr) H := hP
  have hD : va_D A ((a, .inr (3, [.int x1, .int x2, .int x3, .int x4, .int 0])) :: wr) := hD
  refine lv_aload_n hx hb dX2_init_25 rfl (lv_at hl 0 rfl) ?_
  refine lv_iload hx hb dX2_init_26 (lv_at hl 5 rfl) ?_
  refine va_putF (D := (dC, dI)) (ci := 3) (v := .int x5) (ty := .int) (C := RX2) (T := TX2) (N := 5) hx hb hts hin tyX2 tyX2_ok nmX2 hown hK hP hD hS 0 rfl rfl 4 (by decide) (hts (.fieldLink RX2 24 "CableTester$Fault" "duration" "I") (mm 8 rfl)) (fun _ h9 => h9) rfl hni rfl (by decide +kernel) rfl rfl (Nat.le_of_ble_eq_true rfl) dX2_init_28 (fun H locs hP hD hS => ?_)
  have hP : va_P (dC, dI) vwCl ((a, .inr (3, [.int x1, .int x2, .int x3, .int x4, .int x5])) :: wr) H := hP
  have hD : va_D A ((a, .inr (3, [.int x1, .int x2, .int x3, .int x4, .int x5])) :: wr) := hD
  exact hend _ _ () _ _ trivial hP hD hS dX2_init_31
theorem hdX0_addFault : yX0_addFault.cls = RX0 ∧ yX0_addFault.cls ≠ "java/lang/invoke/MethodHandle" ∧ yX0_addFault.cls ≠ "java/lang/invoke/VarHandle" ∧ (parseMethodDescriptor yX0_addFault.desc).map (fun d => d.parameters.length) = some 1 := by decide +kernel
abbrev rmX0_addFault : Room := { frames := 5, cells := 1, slots := 10, locals := 160 }
set_option maxRecDepth 100000 in
set_option maxHeartbeats 8000000 in
theorem ctX0_addFault (l : Launch) (dC : Nat → ClassId) (dI : Nat → Nat → Nat) (cq : Nat → ClassId) (q : Nat → Nat) (S : CS) (M : MS) (o : Nat → Int64) (sz h0 : Nat) (w : FT) (hlt : S.2.2.2.1.length < 10) (hmo : S.2.2.2.2 = none → S.2.2.2.1 = []) : Met l yX0_addFault wsX0_addFault rmX0_addFault (PreW (fun a => h0 ≤ a) (EV h0 q) dC dI cq (wN cq q S M o (S.1 4) w) sz [.ref (q 1), .ref w.1]) (va_Qi (fun (r : Int32) (_ : Nat) => r = nI S.2.2.2.1.length) (fun u t => BkW dC dI cq (va_A (wN cq q S M o (S.1 4) w) sz) (wA cq q (addF S w u) M o) t) (va_A (wN cq q S M o (S.1 4) w) sz)) 1 10 (va_A (wN cq q S M o (S.1 4) w) sz) := by
  refine entW_i (ty := .int) (wf := fun u => wA cq q (addF S w u) M o) (cc := cX0_addFault) (maxL := 2) (by decide) rfl (Nat.le_of_ble_eq_true rfl) (fun p e s m args below meth c A Q ls F hA hP hK hD hDm hX hS hl hend => ?_)
  obtain ⟨hx, hb, hml, hown, hts⟩ := id F
  have hown : s.vm.findClass RX0 = some m.cls := hown
  have F : CallFix p m c cX0_addFault 2 s args wsX0_addFault RX0 := F
  have hl : lv_has ls 2 [(0, .ref (q 1)), (1, .ref w.1)] := hl
  have hin : ∀ w ∈ u_ws RX0 TX0 7, w ∈ wsX0_addFault := fun w h => List.mem_cons_of_mem _ (List.mem_append_left _ (List.mem_append_right _ h))
  refine lv_aload_n hx hb dX0_addFault_0 rfl (lv_at hl 0 rfl) ?_
  refine va_get (D := (dC, dI)) (ci := 1) (v := .ref (q 3)) (C := RX0) (T := TX0) (N := 7) hx hb hts hin hown hK hP 1 rfl rfl 5 (by decide) (hts (.fieldLink RX0 18 "CableTester$Cable" "faults" "Ljava/util/ArrayList;") (mm 1 rfl)) (fun _ h9 => h9) rfl dX0_addFault_1 ?_
  refine lv_aload_n hx hb dX0_addFault_4 rfl (lv_at hl 1 rfl) ?_
  refine caWV_i (As := [.ref w.1]) (rest := []) (ctJx4a65c_add_9ea2d l dC dI cq q S M o _ _ w hlt hmo) F (cwV 1 hts gX0_addFault_Jx4a65c_add_9ea2d rfl rfl rfl hdJx4a65c_add_9ea2d ⟨Nat.le_of_ble_eq_true rfl, Nat.le_of_ble_eq_true rfl⟩) hK hP hD hDm hS hA EV.blind (fun U hU hW => EV.call hX hS hDm hU hW) (va_recv hK hP (ci := 0) (q0 := 3) rfl rfl) rfl hl.1 rfl (Nat.le_of_ble_eq_true rfl) dX0_addFault_5 ⟨Nat.le_of_ble_eq_true rfl, Nat.le_of_ble_eq_true rfl⟩ (fun H locs r u hr hP hD hS => ?_)
  refine lv_pop hx hb dX0_addFault_8 rfl ?_
  refine lv_aload_n hx hb dX0_addFault_9 rfl (lv_at hl 0 rfl) ?_
  refine va_get (D := (dC, dI)) (ci := 1) (v := .ref (q 3)) (C := RX0) (T := TX0) (N := 7) hx hb hts hin hown hK hP 1 rfl rfl 5 (by decide) (hts (.fieldLink RX0 18 "CableTester$Cable" "faults" "Ljava/util/ArrayList;") (mm 1 rfl)) (fun _ h9 => h9) rfl dX0_addFault_10 ?_
  refine caVR_i (As := []) (rest := []) (ctJx4a65c_size_8abf5 l dC dI cq q (addF S w u) M o _ _ (nI (S.2.2.2.1 ++ [w]).length) rfl) F (cwV 0 hts gX0_addFault_Jx4a65c_size_8abf5 rfl rfl rfl hdJx4a65c_size_8abf5 ⟨Nat.le_of_ble_eq_true rfl, Nat.le_of_ble_eq_true rfl⟩) hK hP hD hDm hS hA EV.blind (fun U hU hW => EV.call hX hS hDm hU hW) (va_recv hK hP (ci := 0) (q0 := 3) rfl rfl) rfl hl.1 rfl (Nat.le_of_ble_eq_true rfl) dX0_addFault_13 ⟨Nat.le_of_ble_eq_true rfl, Nat.le_of_ble_eq_true rfl⟩ (fun H locs hP hD hS => ?_)
  refine lv_iconst (v := (1 : Int32)) hx hb dX0_addFault_16 (by decide) ?_
  refine lv_isub hx hb dX0_addFault_17 ?_
  exact hend _ _ _ u _ _ (by rw [List.length_append]; exact nI_pred _) hP hD hS dX0_addFault_18 rfl
