def fld5 (a b c d e : Int32) : Nat → Int32 := fun k => match k with
  | 0 => a
  | 1 => b
  | 2 => c
  | 3 => d
  | _ => e
def mX7_cut (S : CS) (x1 : Int32) (x2 : Int32) (x3 : Int32) (x4 : Int32) : Option (Except Nat Unit × CS) :=
  (bt (mX7_needIndex S x1 (8 : Int32)) fun _ S3 => (bt (mX7_needFaultRanges S3 x2 x3 x4) fun _ S6 => (bt (mX7_needRoomForFault S6) fun _ S9 => (some (.ok (), S9)))))
abbrev rmX7_cut : Room := { frames := 8, cells := 7, slots := 45, locals := 190 }
theorem hdX7_cut : yX7_cut.cls = RX7 ∧ yX7_cut.cls ≠ "java/lang/invoke/MethodHandle" ∧ yX7_cut.cls ≠ "java/lang/invoke/VarHandle" ∧ (parseMethodDescriptor yX7_cut.desc).map (fun d => d.parameters.length) = some 4 := by decide +kernel
set_option maxRecDepth 100000 in
set_option maxHeartbeats 8000000 in
theorem ctX7_cut (l : Launch) (dC : Nat → ClassId) (dI : Nat → Nat → Nat) (cq : Nat → ClassId) (q : Nat → Nat) (S : CS) (M : MS) (o : Nat → Int64) (sz h0 : Nat) (hfl : l.stackTraces = false) (x1 : Int32) (x2 : Int32) (x3 : Int32) (x4 : Int32) (rs : Except Nat Unit × CS) (hroom : ∀ S9, rs = (.ok (), S9) → S9.2.2.2.1.length < 10 ∧ (S9.2.2.2.2 = none → S9.2.2.2.1 = [])) (h : mX7_cut S x1 x2 x3 x4 = some rs) : CtX_i l yX7_cut wsX7_cut rmX7_cut (fun a => h0 ≤ a) (EV h0 q) dC dI cq (wA cq q S M o) sz [.ref (q 0), .int x1, .int x2, .int x3, .int x4] (fun S => wA cq q S M o) (fun (r : Int32) (u : CS) => ∃ (S9 : CS) (a b : Nat), rs = (.ok (), S9) ∧ r = nI S9.2.2.2.1.length ∧ u = addF S9 (a, fld5 x1 (-1) x2 x3 x4) b) (fun k u => rs = (.error k, u)) 7 45 := by
  refine enX_i (wf := fun S => wA cq q S M o) (cc := cX7_cut) (maxL := 5) (by decide) rfl (Nat.le_of_ble_eq_true rfl) (fun p e s m args below meth c A Q ls hQ htab hlocks F hA hP hK hD hDm hX hS hl hend hthr => ?_)
  obtain ⟨hx, hb, hml, hown, hts⟩ := id F
  have hown : s.vm.findClass RX7 = some m.cls := hown
  have F : CallFix p m c cX7_cut 5 s args wsX7_cut RX7 := F
  have hl : lv_has ls 5 [(0, .ref (q 0)), (1, .int x1), (2, .int x2), (3, .int x3), (4, .int x4)] := hl
  have hinX2 : ∀ w ∈ u_ws RX2 TX2 5, w ∈ wsX7_cut := fun w h => List.mem_cons_of_mem _ (List.mem_append_left _ (List.mem_append_left _ (List.mem_append_left _ (List.mem_append_left _ (List.mem_append_left _ (List.mem_append_right _ h))))))
  have hinX7 : ∀ w ∈ u_ws RX7 TX7 5, w ∈ wsX7_cut := fun w h => List.mem_cons_of_mem _ (List.mem_append_left _ (List.mem_append_left _ (List.mem_append_left _ (List.mem_append_left _ (List.mem_append_left _ (List.mem_append_left _ (List.mem_append_right _ h)))))))
  rw [mX7_cut] at h
  refine lv_iload_n hx hb dX7_cut_0 rfl (lv_at hl 1 rfl) ?_
  refine lv_bipush (v := (8 : Int32)) hx hb dX7_cut_1 (by decide) ?_
  rcases bto h with ⟨r1x, S3, e2, hrs⟩ | ⟨r1, S3, e2, h⟩
  · refine caXS_v (As := [.int x1, .int (8 : Int32)]) (rest := []) (ctX7_needIndex l dC dI cq q S M o _ _ hfl _ _ _ e2) F (va_cwS 2 hts gX7_cut_X7_needIndex rfl rfl rfl hdX7_needIndex ⟨Nat.le_of_ble_eq_true rfl, Nat.le_of_ble_eq_true rfl⟩) hK hP hD hDm hS hA EV.blind (fun U hU hW => EV.call hX hS hDm hU hW) rfl hl.1 rfl (Nat.le_of_ble_eq_true rfl) dX7_cut_3 ⟨Nat.le_of_ble_eq_true rfl, Nat.le_of_ble_eq_true rfl⟩ (fun H locs k9 u9 E9 ce9 q9 h9 hP hD hS hce hcv hcl hE => ?_) (fun H locs u9 h9 hP hD hS => ?_)
    · cases h9; exact hthr _ _ _ _ _ _ _ _ _ _ _ _ hrs hP hD hS hce hcv hcl hE (Nat.le_of_ble_eq_true rfl) (Nat.le_of_ble_eq_true rfl)
    · cases h9
  refine caXS_v (As := [.int x1, .int (8 : Int32)]) (rest := []) (ctX7_needIndex l dC dI cq q S M o _ _ hfl _ _ _ e2) F (va_cwS 2 hts gX7_cut_X7_needIndex rfl rfl rfl hdX7_needIndex ⟨Nat.le_of_ble_eq_true rfl, Nat.le_of_ble_eq_true rfl⟩) hK hP hD hDm hS hA EV.blind (fun U hU hW => EV.call hX hS hDm hU hW) rfl hl.1 rfl (Nat.le_of_ble_eq_true rfl) dX7_cut_3 ⟨Nat.le_of_ble_eq_true rfl, Nat.le_of_ble_eq_true rfl⟩ (fun H locs k9 u9 E9 ce9 q9 h9 hP hD hS hce hcv hcl hE => ?_) (fun H locs u9 h9 hP hD hS => ?_)
  · cases h9
  cases h9
  refine lv_aload_n hx hb dX7_cut_6 rfl (lv_at hl 0 rfl) ?_
  refine lv_iload_n hx hb dX7_cut_7 rfl (lv_at hl 2 rfl) ?_
  refine lv_iload_n hx hb dX7_cut_8 rfl (lv_at hl 3 rfl) ?_
  refine lv_iload hx hb dX7_cut_9 (lv_at hl 4 rfl) ?_
  rcases bto h with ⟨r4x, S6, e5, hrs⟩ | ⟨r4, S6, e5, h⟩
  · refine caXV_v (As := [.int x2, .int x3, .int x4]) (rest := []) (ctX7_needFaultRanges l dC dI cq q S3 M o _ _ hfl _ _ _ _ e5) F (cwV 3 hts gX7_cut_X7_needFaultRanges rfl rfl rfl hdX7_needFaultRanges ⟨Nat.le_of_ble_eq_true rfl, Nat.le_of_ble_eq_true rfl⟩) hK hP hD hDm hS hA EV.blind (fun U hU hW => EV.call hX hS hDm hU hW) (va_recv hK hP (ci := 8) (q0 := 0) rfl rfl) rfl hl.1 rfl (Nat.le_of_ble_eq_true rfl) dX7_cut_11 ⟨Nat.le_of_ble_eq_true rfl, Nat.le_of_ble_eq_true rfl⟩ (fun H locs k9 u9 E9 ce9 q9 h9 hP hD hS hce hcv hcl hE => ?_) (fun H locs u9 h9 hP hD hS => ?_)
    · cases h9; exact hthr _ _ _ _ _ _ _ _ _ _ _ _ hrs hP hD hS hce hcv hcl hE (Nat.le_of_ble_eq_true rfl) (Nat.le_of_ble_eq_true rfl)
    · cases h9
  refine caXV_v (As := [.int x2, .int x3, .int x4]) (rest := []) (ctX7_needFaultRanges l dC dI cq q S3 M o _ _ hfl _ _ _ _ e5) F (cwV 3 hts gX7_cut_X7_needFaultRanges rfl rfl rfl hdX7_needFaultRanges ⟨Nat.le_of_ble_eq_true rfl, Nat.le_of_ble_eq_true rfl⟩) hK hP hD hDm hS hA EV.blind (fun U hU hW => EV.call hX hS hDm hU hW) (va_recv hK hP (ci := 8) (q0 := 0) rfl rfl) rfl hl.1 rfl (Nat.le_of_ble_eq_true rfl) dX7_cut_11 ⟨Nat.le_of_ble_eq_true rfl, Nat.le_of_ble_eq_true rfl⟩ (fun H locs k9 u9 E9 ce9 q9 h9 hP hD hS hce hcv hcl hE => ?_) (fun H locs u9 h9 hP hD hS => ?_)
  · cases h9
  cases h9
  refine lv_aload_n hx hb dX7_cut_14 rfl (lv_at hl 0 rfl) ?_
  rcases bto h with ⟨r7x, S9, e8, hrs⟩ | ⟨r7, S9, e8, h⟩
  · refine caXV_v (As := []) (rest := []) (ctX7_needRoomForFault l dC dI cq q S6 M o _ _ hfl  _ e8) F (cwV 0 hts gX7_cut_X7_needRoomForFault rfl rfl rfl hdX7_needRoomForFault ⟨Nat.le_of_ble_eq_true rfl, Nat.le_of_ble_eq_true rfl⟩) hK hP hD hDm hS hA EV.blind (fun U hU hW => EV.call hX hS hDm hU hW) (va_recv hK hP (ci := 8) (q0 := 0) rfl rfl) rfl hl.1 rfl (Nat.le_of_ble_eq_true rfl) dX7_cut_15 ⟨Nat.le_of_ble_eq_true rfl, Nat.le_of_ble_eq_true rfl⟩ (fun H locs k9 u9 E9 ce9 q9 h9 hP hD hS hce hcv hcl hE => ?_) (fun H locs u9 h9 hP hD hS => ?_)
    · cases h9; exact hthr _ _ _ _ _ _ _ _ _ _ _ _ hrs hP hD hS hce hcv hcl hE (Nat.le_of_ble_eq_true rfl) (Nat.le_of_ble_eq_true rfl)
    · cases h9
  refine caXV_v (As := []) (rest := []) (ctX7_needRoomForFault l dC dI cq q S6 M o _ _ hfl  _ e8) F (cwV 0 hts gX7_cut_X7_needRoomForFault rfl rfl rfl hdX7_needRoomForFault ⟨Nat.le_of_ble_eq_true rfl, Nat.le_of_ble_eq_true rfl⟩) hK hP hD hDm hS hA EV.blind (fun U hU hW => EV.call hX hS hDm hU hW) (va_recv hK hP (ci := 8) (q0 := 0) rfl rfl) rfl hl.1 rfl (Nat.le_of_ble_eq_true rfl) dX7_cut_15 ⟨Nat.le_of_ble_eq_true rfl, Nat.le_of_ble_eq_true rfl⟩ (fun H locs k9 u9 E9 ce9 q9 h9 hP hD hS hce hcv hcl hE => ?_) (fun H locs u9 h9 hP hD hS => ?_)
  · cases h9
  cases h9
  refine lv_aload_n hx hb dX7_cut_18 rfl (lv_at hl 0 rfl) ?_
  refine va_get (D := (dC, dI)) (ci := 8) (v := .ref (q 1)) (C := RX7) (T := TX7) (N := 5) hx hb hts hinX7 hown hK hP 0 rfl rfl 0 (by decide) (hts (.fieldLink RX7 10 "CableTester" "cable" "LCableTester$Cable;") (mm 1 rfl)) (fun _ h9 => h9) rfl dX7_cut_19 ?_
  obtain ⟨hlt, hmo⟩ := hroom _ (Option.some.inj h).symm
  refine va_new (ci := 3) (fs := [.int 0, .int 0, .int 0, .int 0, .int 0]) (C := RX2) (T := TX2) (N := 5) hx hb hts hinX2 tyX2 tyX2_ok hown (hts (.classLink RX7 82 RX2) (mm 2 rfl)) (hts (.instantiable RX2 5) (mm 3 rfl)) (hts (.initialized RX2) (mm 4 rfl)) hK hP hD hS hA rfl (fun j hj => by rcases (show j = 0 ∨ j = 1 ∨ j = 2 ∨ j = 3 ∨ j = 4 by omega) with rfl | rfl | rfl | rfl | rfl <;> rfl) (Nat.le_of_ble_eq_true rfl) (Nat.le_of_ble_eq_true rfl) dX7_cut_22 (fun a9 H hP hD hS => ?_)
  have hP : va_P (dC, dI) vwCl ((a9, .inr (3, [.int 0, .int 0, .int 0, .int 0, .int 0])) :: wA cq q S9 M o) H := va_P.swap (a := []) (b := wA cq q S9 M o) (c := [(a9, .inr (3, [.int 0, .int 0, .int 0, .int 0, .int 0]))]) hP
  have hD : va_D A ((a9, .inr (3, [.int 0, .int 0, .int 0, .int 0, .int 0])) :: wA cq q S9 M o) := va_D.swap (a := []) (b := wA cq q S9 M o) (c := [(a9, .inr (3, [.int 0, .int 0, .int 0, .int 0, .int 0]))]) hD
  refine lv_dup hx hb dX7_cut_25 rfl ?_
  refine lv_iload_n hx hb dX7_cut_26 rfl (lv_at hl 1 rfl) ?_
  refine lv_iconst (v := (-1 : Int32)) hx hb dX7_cut_27 (by decide) ?_
  refine lv_iload_n hx hb dX7_cut_28 rfl (lv_at hl 2 rfl) ?_
  refine lv_iload_n hx hb dX7_cut_29 rfl (lv_at hl 3 rfl) ?_
  refine lv_iload hx hb dX7_cut_30 (lv_at hl 4 rfl) ?_
  refine caWI_v (wf := fun _ => (a9, .inr (3, [.int x1, .int (-1), .int x2, .int x3, .int x4])) :: wA cq q S9 M o) (As := [.int x1, .int (-1), .int x2, .int x3, .int x4]) (rest := [.ref a9, .ref (q 1)]) (ctX2_init l dC dI cq q _ h0 a9 (wA cq q S9 M o) x1 (-1) x2 x3 x4) F (cwI 5 hts gX7_cut_X2_init rfl rfl rfl (hts (.initialized RX2) (mm 4 rfl)) (hts (.methodLink RX7 84 yX2_init) (mm 32 rfl)) (hts (.instanceMethod yX2_init) (mm 33 rfl)) rfl hdX2_init ⟨Nat.le_of_ble_eq_true rfl, Nat.le_of_ble_eq_true rfl⟩) hK hP hD hDm hS hA EV.blind (fun U hU hW => EV.call hX hS hDm hU hW) rfl hl.1 rfl (Nat.le_of_ble_eq_true rfl) dX7_cut_32 ⟨Nat.le_of_ble_eq_true rfl, Nat.le_of_ble_eq_true rfl⟩ (fun H locs u9 _ hP hD hS => ?_)
  have hP : va_P (dC, dI) vwCl (wA cq q S9 M o ++ [wFc (a9, fld5 x1 (-1) x2 x3 x4)]) H := va_P.swap (a := []) (b := [wFc (a9, fld5 x1 (-1) x2 x3 x4)]) (c := wA cq q S9 M o) hP
  have hD : va_D A (wA cq q S9 M o ++ [wFc (a9, fld5 x1 (-1) x2 x3 x4)]) := va_D.swap (a := []) (b := [wFc (a9, fld5 x1 (-1) x2 x3 x4)]) (c := wA cq q S9 M o) hD
  rw [wA_N] at hP hD
  refine caWV_i (As := [.ref a9]) (rest := []) (ctX0_addFault l dC dI cq q S9 M o _ _ (a9, fld5 x1 (-1) x2 x3 x4) hlt hmo) F (cwV 1 hts gX7_cut_X0_addFault rfl rfl rfl hdX0_addFault ⟨Nat.le_of_ble_eq_true rfl, Nat.le_of_ble_eq_true rfl⟩) hK hP hD hDm hS hA EV.blind (fun U hU hW => EV.call hX hS hDm hU hW) (va_recv hK hP (ci := 1) (q0 := 1) rfl rfl) rfl hl.1 rfl (Nat.le_of_ble_eq_true rfl) dX7_cut_35 ⟨Nat.le_of_ble_eq_true rfl, Nat.le_of_ble_eq_true rfl⟩ (fun H locs r9 u9 hr hP hD hS => ?_)
  exact hend _ _ _ _ _ _ _ _ ⟨_, _, _, (Option.some.inj h).symm, hr, rfl⟩ hP hD hS dX7_cut_38 rfl (Nat.le_of_ble_eq_true rfl) (Nat.le_of_ble_eq_true rfl)
def mX7_connect (S : CS) (x1 : Int32) (x2 : Int32) (x3 : Int32) (x4 : Int32) (x5 : Int32) : Option (Except Nat Unit × CS) :=
  (bt (mX7_needIndex S x1 (8 : Int32)) fun _ S3 => (bt (mX7_needIndex S3 x2 (8 : Int32)) fun _ S6 => (bt (mX7_needDifferent S6 x1 x2) fun _ S9 => (bt (mX7_needFaultRanges S9 x3 x4 x5) fun _ S12 => (bt (mX7_needRoomForFault S12) fun _ S15 => (some (.ok (), S15)))))))
abbrev rmX7_connect : Room := { frames := 8, cells := 9, slots := 57, locals := 190 }
theorem hdX7_connect : yX7_connect.cls = RX7 ∧ yX7_connect.cls ≠ "java/lang/invoke/MethodHandle" ∧ yX7_connect.cls ≠ "java/lang/invoke/VarHandle" ∧ (parseMethodDescriptor yX7_connect.desc).map (fun d => d.parameters.length) = some 5 := by decide +kernel
set_option maxRecDepth 100000 in
set_option maxHeartbeats 8000000 in
theorem ctX7_connect (l : Launch) (dC : Nat → ClassId) (dI : Nat → Nat → Nat) (cq : Nat → ClassId) (q : Nat → Nat) (S : CS) (M : MS) (o : Nat → Int64) (sz h0 : Nat) (hfl : l.stackTraces = false) (x1 : Int32) (x2 : Int32) (x3 : Int32) (x4 : Int32) (x5 : Int32) (rs : Except Nat Unit × CS) (hroom : ∀ S9, rs = (.ok (), S9) → S9.2.2.2.1.length < 10 ∧ (S9.2.2.2.2 = none → S9.2.2.2.1 = [])) (h : mX7_connect S x1 x2 x3 x4 x5 = some rs) : CtX_i l yX7_connect wsX7_connect rmX7_connect (fun a => h0 ≤ a) (EV h0 q) dC dI cq (wA cq q S M o) sz [.ref (q 0), .int x1, .int x2, .int x3, .int x4, .int x5] (fun S => wA cq q S M o) (fun (r : Int32) (u : CS) => ∃ (S9 : CS) (a b : Nat), rs = (.ok (), S9) ∧ r = nI S9.2.2.2.1.length ∧ u = addF S9 (a, fld5 x1 x2 x3 x4 x5) b) (fun k u => rs = (.error k, u)) 9 57 := by
  refine enX_i (wf := fun S => wA cq q S M o) (cc := cX7_connect) (maxL := 6) (by decide) rfl (Nat.le_of_ble_eq_true rfl) (fun p e s m args below meth c A Q ls hQ htab hlocks F hA hP hK hD hDm hX hS hl hend hthr => ?_)
  obtain ⟨hx, hb, hml, hown, hts⟩ := id F
  have hown : s.vm.findClass RX7 = some m.cls := hown
  have F : CallFix p m c cX7_connect 6 s args wsX7_connect RX7 := F
  have hl : lv_has ls 6 [(0, .ref (q 0)), (1, .int x1), (2, .int x2), (3, .int x3), (4, .int x4), (5, .int x5)] := hl
  have hinX2 : ∀ w ∈ u_ws RX2 TX2 5, w ∈ wsX7_connect := fun w h => List.mem_cons_of_mem _ (List.mem_append_left _ (List.mem_append_left _ (List.mem_append_left _ (List.mem_append_left _ (List.mem_append_left _ (List.mem_append_right _ h))))))
  have hinX7 : ∀ w ∈ u_ws RX7 TX7 5, w ∈ wsX7_connect := fun w h => List.mem_cons_of_mem _ (List.mem_append_left _ (List.mem_append_left _ (List.mem_append_left _ (List.mem_append_left _ (List.mem_append_left _ (List.mem_append_left _ (List.mem_append_right _ h)))))))
  rw [mX7_connect] at h
  refine lv_iload_n hx hb dX7_connect_0 rfl (lv_at hl 1 rfl) ?_
  refine lv_bipush (v := (8 : Int32)) hx hb dX7_connect_1 (by decide) ?_
  rcases bto h with ⟨r1x, S3, e2, hrs⟩ | ⟨r1, S3, e2, h⟩
  · refine caXS_v (As := [.int x1, .int (8 : Int32)]) (rest := []) (ctX7_needIndex l dC dI cq q S M o _ _ hfl _ _ _ e2) F (va_cwS 2 hts gX7_connect_X7_needIndex rfl rfl rfl hdX7_needIndex ⟨Nat.le_of_ble_eq_true rfl, Nat.le_of_ble_eq_true rfl⟩) hK hP hD hDm hS hA EV.blind (fun U hU hW => EV.call hX hS hDm hU hW) rfl hl.1 rfl (Nat.le_of_ble_eq_true rfl) dX7_connect_3 ⟨Nat.le_of_ble_eq_true rfl, Nat.le_of_ble_eq_true rfl⟩ (fun H locs k9 u9 E9 ce9 q9 h9 hP hD hS hce hcv hcl hE => ?_) (fun H locs u9 h9 hP hD hS => ?_)
    · cases h9; exact hthr _ _ _ _ _ _ _ _ _ _ _ _ hrs hP hD hS hce hcv hcl hE (Nat.le_of_ble_eq_true rfl) (Nat.le_of_ble_eq_true rfl)
    · cases h9
  refine caXS_v (As := [.int x1, .int (8 : Int32)]) (rest := []) (ctX7_needIndex l dC dI cq q S M o _ _ hfl _ _ _ e2) F (va_cwS 2 hts gX7_connect_X7_needIndex rfl rfl rfl hdX7_needIndex ⟨Nat.le_of_ble_eq_true rfl, Nat.le_of_ble_eq_true rfl⟩) hK hP hD hDm hS hA EV.blind (fun U hU hW => EV.call hX hS hDm hU hW) rfl hl.1 rfl (Nat.le_of_ble_eq_true rfl) dX7_connect_3 ⟨Nat.le_of_ble_eq_true rfl, Nat.le_of_ble_eq_true rfl⟩ (fun H locs k9 u9 E9 ce9 q9 h9 hP hD hS hce hcv hcl hE => ?_) (fun H locs u9 h9 hP hD hS => ?_)
  · cases h9
  cases h9
  refine lv_iload_n hx hb dX7_connect_6 rfl (lv_at hl 2 rfl) ?_
  refine lv_bipush (v := (8 : Int32)) hx hb dX7_connect_7 (by decide) ?_
  rcases bto h with ⟨r4x, S6, e5, hrs⟩ | ⟨r4, S6, e5, h⟩
  · refine caXS_v (As := [.int x2, .int (8 : Int32)]) (rest := []) (ctX7_needIndex l dC dI cq q S3 M o _ _ hfl _ _ _ e5) F (va_cwS 2 hts gX7_connect_X7_needIndex rfl rfl rfl hdX7_needIndex ⟨Nat.le_of_ble_eq_true rfl, Nat.le_of_ble_eq_true rfl⟩) hK hP hD hDm hS hA EV.blind (fun U hU hW => EV.call hX hS hDm hU hW) rfl hl.1 rfl (Nat.le_of_ble_eq_true rfl) dX7_connect_9 ⟨Nat.le_of_ble_eq_true rfl, Nat.le_of_ble_eq_true rfl⟩ (fun H locs k9 u9 E9 ce9 q9 h9 hP hD hS hce hcv hcl hE => ?_) (fun H locs u9 h9 hP hD hS => ?_)
    · cases h9; exact hthr _ _ _ _ _ _ _ _ _ _ _ _ hrs hP hD hS hce hcv hcl hE (Nat.le_of_ble_eq_true rfl) (Nat.le_of_ble_eq_true rfl)
    · cases h9
  refine caXS_v (As := [.int x2, .int (8 : Int32)]) (rest := []) (ctX7_needIndex l dC dI cq q S3 M o _ _ hfl _ _ _ e5) F (va_cwS 2 hts gX7_connect_X7_needIndex rfl rfl rfl hdX7_needIndex ⟨Nat.le_of_ble_eq_true rfl, Nat.le_of_ble_eq_true rfl⟩) hK hP hD hDm hS hA EV.blind (fun U hU hW => EV.call hX hS hDm hU hW) rfl hl.1 rfl (Nat.le_of_ble_eq_true rfl) dX7_connect_9 ⟨Nat.le_of_ble_eq_true rfl, Nat.le_of_ble_eq_true rfl⟩ (fun H locs k9 u9 E9 ce9 q9 h9 hP hD hS hce hcv hcl hE => ?_) (fun H locs u9 h9 hP hD hS => ?_)
  · cases h9
  cases h9
  refine lv_iload_n hx hb dX7_connect_12 rfl (lv_at hl 1 rfl) ?_
  refine lv_iload_n hx hb dX7_connect_13 rfl (lv_at hl 2 rfl) ?_
  rcases bto h with ⟨r7x, S9, e8, hrs⟩ | ⟨r7, S9, e8, h⟩
  · refine caXS_v (As := [.int x1, .int x2]) (rest := []) (ctX7_needDifferent l dC dI cq q S6 M o _ _ hfl _ _ _ e8) F (va_cwS 2 hts gX7_connect_X7_needDifferent rfl rfl rfl hdX7_needDifferent ⟨Nat.le_of_ble_eq_true rfl, Nat.le_of_ble_eq_true rfl⟩) hK hP hD hDm hS hA EV.blind (fun U hU hW => EV.call hX hS hDm hU hW) rfl hl.1 rfl (Nat.le_of_ble_eq_true rfl) dX7_connect_14 ⟨Nat.le_of_ble_eq_true rfl, Nat.le_of_ble_eq_true rfl⟩ (fun H locs k9 u9 E9 ce9 q9 h9 hP hD hS hce hcv hcl hE => ?_) (fun H locs u9 h9 hP hD hS => ?_)
    · cases h9; exact hthr _ _ _ _ _ _ _ _ _ _ _ _ hrs hP hD hS hce hcv hcl hE (Nat.le_of_ble_eq_true rfl) (Nat.le_of_ble_eq_true rfl)
    · cases h9
  refine caXS_v (As := [.int x1, .int x2]) (rest := []) (ctX7_needDifferent l dC dI cq q S6 M o _ _ hfl _ _ _ e8) F (va_cwS 2 hts gX7_connect_X7_needDifferent rfl rfl rfl hdX7_needDifferent ⟨Nat.le_of_ble_eq_true rfl, Nat.le_of_ble_eq_true rfl⟩) hK hP hD hDm hS hA EV.blind (fun U hU hW => EV.call hX hS hDm hU hW) rfl hl.1 rfl (Nat.le_of_ble_eq_true rfl) dX7_connect_14 ⟨Nat.le_of_ble_eq_true rfl, Nat.le_of_ble_eq_true rfl⟩ (fun H locs k9 u9 E9 ce9 q9 h9 hP hD hS hce hcv hcl hE => ?_) (fun H locs u9 h9 hP hD hS => ?_)
  · cases h9
  cases h9
  refine lv_aload_n hx hb dX7_connect_17 rfl (lv_at hl 0 rfl) ?_
  refine lv_iload_n hx hb dX7_connect_18 rfl (lv_at hl 3 rfl) ?_
  refine lv_iload hx hb dX7_connect_19 (lv_at hl 4 rfl) ?_
  refine lv_iload hx hb dX7_connect_21 (lv_at hl 5 rfl) ?_
  rcases bto h with ⟨r10x, S12, e11, hrs⟩ | ⟨r10, S12, e11, h⟩
  · refine caXV_v (As := [.int x3, .int x4, .int x5]) (rest := []) (ctX7_needFaultRanges l dC dI cq q S9 M o _ _ hfl _ _ _ _ e11) F (cwV 3 hts gX7_connect_X7_needFaultRanges rfl rfl rfl hdX7_needFaultRanges ⟨Nat.le_of_ble_eq_true rfl, Nat.le_of_ble_eq_true rfl⟩) hK hP hD hDm hS hA EV.blind (fun U hU hW => EV.call hX hS hDm hU hW) (va_recv hK hP (ci := 8) (q0 := 0) rfl rfl) rfl hl.1 rfl (Nat.le_of_ble_eq_true rfl) dX7_connect_23 ⟨Nat.le_of_ble_eq_true rfl, Nat.le_of_ble_eq_true rfl⟩ (fun H locs k9 u9 E9 ce9 q9 h9 hP hD hS hce hcv hcl hE => ?_) (fun H locs u9 h9 hP hD hS => ?_)
    · cases h9; exact hthr _ _ _ _ _ _ _ _ _ _ _ _ hrs hP hD hS hce hcv hcl hE (Nat.le_of_ble_eq_true rfl) (Nat.le_of_ble_eq_true rfl)
    · cases h9
  refine caXV_v (As := [.int x3, .int x4, .int x5]) (rest := []) (ctX7_needFaultRanges l dC dI cq q S9 M o _ _ hfl _ _ _ _ e11) F (cwV 3 hts gX7_connect_X7_needFaultRanges rfl rfl rfl hdX7_needFaultRanges ⟨Nat.le_of_ble_eq_true rfl, Nat.le_of_ble_eq_true rfl⟩) hK hP hD hDm hS hA EV.blind (fun U hU hW => EV.call hX hS hDm hU hW) (va_recv hK hP (ci := 8) (q0 := 0) rfl rfl) rfl hl.1 rfl (Nat.le_of_ble_eq_true rfl) dX7_connect_23 ⟨Nat.le_of_ble_eq_true rfl, Nat.le_of_ble_eq_true rfl⟩ (fun H locs k9 u9 E9 ce9 q9 h9 hP hD hS hce hcv hcl hE => ?_) (fun H locs u9 h9 hP hD hS => ?_)
  · cases h9
  cases h9
  refine lv_aload_n hx hb dX7_connect_26 rfl (lv_at hl 0 rfl) ?_
  rcases bto h with ⟨r13x, S15, e14, hrs⟩ | ⟨r13, S15, e14, h⟩
  · refine caXV_v (As := []) (rest := []) (ctX7_needRoomForFault l dC dI cq q S12 M o _ _ hfl  _ e14) F (cwV 0 hts gX7_connect_X7_needRoomForFault rfl rfl rfl hdX7_needRoomForFault ⟨Nat.le_of_ble_eq_true rfl, Nat.le_of_ble_eq_true rfl⟩) hK hP hD hDm hS hA EV.blind (fun U hU hW => EV.call hX hS hDm hU hW) (va_recv hK hP (ci := 8) (q0 := 0) rfl rfl) rfl hl.1 rfl (Nat.le_of_ble_eq_true rfl) dX7_connect_27 ⟨Nat.le_of_ble_eq_true rfl, Nat.le_of_ble_eq_true rfl⟩ (fun H locs k9 u9 E9 ce9 q9 h9 hP hD hS hce hcv hcl hE => ?_) (fun H locs u9 h9 hP hD hS => ?_)
    · cases h9; exact hthr _ _ _ _ _ _ _ _ _ _ _ _ hrs hP hD hS hce hcv hcl hE (Nat.le_of_ble_eq_true rfl) (Nat.le_of_ble_eq_true rfl)
    · cases h9
  refine caXV_v (As := []) (rest := []) (ctX7_needRoomForFault l dC dI cq q S12 M o _ _ hfl  _ e14) F (cwV 0 hts gX7_connect_X7_needRoomForFault rfl rfl rfl hdX7_needRoomForFault ⟨Nat.le_of_ble_eq_true rfl, Nat.le_of_ble_eq_true rfl⟩) hK hP hD hDm hS hA EV.blind (fun U hU hW => EV.call hX hS hDm hU hW) (va_recv hK hP (ci := 8) (q0 := 0) rfl rfl) rfl hl.1 rfl (Nat.le_of_ble_eq_true rfl) dX7_connect_27 ⟨Nat.le_of_ble_eq_true rfl, Nat.le_of_ble_eq_true rfl⟩ (fun H locs k9 u9 E9 ce9 q9 h9 hP hD hS hce hcv hcl hE => ?_) (fun H locs u9 h9 hP hD hS => ?_)
  · cases h9
  cases h9
  refine lv_aload_n hx hb dX7_connect_30 rfl (lv_at hl 0 rfl) ?_
  refine va_get (D := (dC, dI)) (ci := 8) (v := .ref (q 1)) (C := RX7) (T := TX7) (N := 5) hx hb hts hinX7 hown hK hP 0 rfl rfl 0 (by decide) (hts (.fieldLink RX7 10 "CableTester" "cable" "LCableTester$Cable;") (mm 1 rfl)) (fun _ h9 => h9) rfl dX7_connect_31 ?_
  obtain ⟨hlt, hmo⟩ := hroom _ (Option.some.inj h).symm
  refine va_new (ci := 3) (fs := [.int 0, .int 0, .int 0, .int 0, .int 0]) (C := RX2) (T := TX2) (N := 5) hx hb hts hinX2 tyX2 tyX2_ok hown (hts (.classLink RX7 82 RX2) (mm 2 rfl)) (hts (.instantiable RX2 5) (mm 3 rfl)) (hts (.initialized RX2) (mm 4 rfl)) hK hP hD hS hA rfl (fun j hj => by rcases (show j = 0 ∨ j = 1 ∨ j = 2 ∨ j = 3 ∨ j = 4 by omega) with rfl | rfl | rfl | rfl | rfl <;> rfl) (Nat.le_of_ble_eq_true rfl) (Nat.le_of_ble_eq_true rfl) dX7_connect_34 (fun a9 H hP hD hS => ?_)
  have hP : va_P (dC, dI) vwCl ((a9, .inr (3, [.int 0, .int 0, .int 0, .int 0, .int 0])) :: wA cq q S15 M o) H := va_P.swap (a := []) (b := wA cq q S15 M o) (c := [(a9, .inr (3, [.int 0, .int 0, .int 0, .int 0, .int 0]))]) hP
  have hD : va_D A ((a9, .inr (3, [.int 0, .int 0, .int 0, .int 0, .int 0])) :: wA cq q S15 M o) := va_D.swap (a := []) (b := wA cq q S15 M o) (c := [(a9, .inr (3, [.int 0, .int 0, .int 0, .int 0, .int 0]))]) hD
  refine lv_dup hx hb dX7_connect_37 rfl ?_
  refine lv_iload_n hx hb dX7_connect_38 rfl (lv_at hl 1 rfl) ?_
  refine lv_iload_n hx hb dX7_connect_39 rfl (lv_at hl 2 rfl) ?_
  refine lv_iload_n hx hb dX7_connect_40 rfl (lv_at hl 3 rfl) ?_
  refine lv_iload hx hb dX7_connect_41 (lv_at hl 4 rfl) ?_
  refine lv_iload hx hb dX7_connect_43 (lv_at hl 5 rfl) ?_
  refine caWI_v (wf := fun _ => (a9, .inr (3, [.int x1, .int x2, .int x3, .int x4, .int x5])) :: wA cq q S15 M o) (As := [.int x1, .int x2, .int x3, .int x4, .int x5]) (rest := [.ref a9, .ref (q 1)]) (ctX2_init l dC dI cq q _ h0 a9 (wA cq q S15 M o) x1 x2 x3 x4 x5) F (cwI 5 hts gX7_connect_X2_init rfl rfl rfl (hts (.initialized RX2) (mm 4 rfl)) (hts (.methodLink RX7 84 yX2_init) (mm 35 rfl)) (hts (.instanceMethod yX2_init) (mm 36 rfl)) rfl hdX2_init ⟨Nat.le_of_ble_eq_true rfl, Nat.le_of_ble_eq_true rfl⟩) hK hP hD hDm hS hA EV.blind (fun U hU hW => EV.call hX hS hDm hU hW) rfl hl.1 rfl (Nat.le_of_ble_eq_true rfl) dX7_connect_45 ⟨Nat.le_of_ble_eq_true rfl, Nat.le_of_ble_eq_true rfl⟩ (fun H locs u9 _ hP hD hS => ?_)
  have hP : va_P (dC, dI) vwCl (wA cq q S15 M o ++ [wFc (a9, fld5 x1 x2 x3 x4 x5)]) H := va_P.swap (a := []) (b := [wFc (a9, fld5 x1 x2 x3 x4 x5)]) (c := wA cq q S15 M o) hP
  have hD : va_D A (wA cq q S15 M o ++ [wFc (a9, fld5 x1 x2 x3 x4 x5)]) := va_D.swap (a := []) (b := [wFc (a9, fld5 x1 x2 x3 x4 x5)]) (c := wA cq q S15 M o) hD
  rw [wA_N] at hP hD
  refine caWV_i (As := [.ref a9]) (rest := []) (ctX0_addFault l dC dI cq q S15 M o _ _ (a9, fld5 x1 x2 x3 x4 x5) hlt hmo) F (cwV 1 hts gX7_connect_X0_addFault rfl rfl rfl hdX0_addFault ⟨Nat.le_of_ble_eq_true rfl, Nat.le_of_ble_eq_true rfl⟩) hK hP hD hDm hS hA EV.blind (fun U hU hW => EV.call hX hS hDm hU hW) (va_recv hK hP (ci := 1) (q0 := 1) rfl rfl) rfl hl.1 rfl (Nat.le_of_ble_eq_true rfl) dX7_connect_48 ⟨Nat.le_of_ble_eq_true rfl, Nat.le_of_ble_eq_true rfl⟩ (fun H locs r9 u9 hr hP hD hS => ?_)
  exact hend _ _ _ _ _ _ _ _ ⟨_, _, _, (Option.some.inj h).symm, hr, rfl⟩ hP hD hS dX7_connect_51 rfl (Nat.le_of_ble_eq_true rfl) (Nat.le_of_ble_eq_true rfl)
def mX7_repair (S : CS) (x1 : Int32) : Option (Except Nat Int32 × CS) :=
  (bt (mX7_needIndex S x1 (nI S.2.2.2.1.length)) fun _ S1 => (match S1.2.2.2.2 with
    | none => none
    | some a => if x1.toNatClampNeg < S1.2.2.2.1.length ∧ x1 = nI x1.toNatClampNeg ∧ S1.2.2.2.1.length ≤ 10 then some (.ok (nI (S1.2.2.2.1.eraseIdx x1.toNatClampNeg).length), remF S1 x1.toNatClampNeg a) else none))
abbrev rmX7_repair : Room := { frames := 7, cells := 1, slots := 6, locals := 200 }
theorem hdX7_repair : yX7_repair.cls = RX7 ∧ yX7_repair.cls ≠ "java/lang/invoke/MethodHandle" ∧ yX7_repair.cls ≠ "java/lang/invoke/VarHandle" ∧ (parseMethodDescriptor yX7_repair.desc).map (fun d => d.parameters.length) = some 1 := by decide +kernel
set_option maxRecDepth 100000 in
set_option maxHeartbeats 8000000 in
theorem ctX7_repair (l : Launch) (dC : Nat → ClassId) (dI : Nat → Nat → Nat) (cq : Nat → ClassId) (q : Nat → Nat) (S : CS) (M : MS) (o : Nat → Int64) (sz h0 : Nat) (hfl : l.stackTraces = false) (x1 : Int32) (rs : Except Nat Int32 × CS) (h : mX7_repair S x1 = some rs) : CtX_i l yX7_repair wsX7_repair rmX7_repair (fun a => h0 ≤ a) (EV h0 q) dC dI cq (wA cq q S M o) sz [.ref (q 0), .int x1] (fun S => wA cq q S M o) (fun (r : Int32) (u : CS) => rs = (.ok r, u)) (fun k u => rs = (.error k, u)) 1 6 := by
  refine enX_i (wf := fun S => wA cq q S M o) (cc := cX7_repair) (maxL := 2) (by decide) rfl (Nat.le_of_ble_eq_true rfl) (fun p e s m args below meth c A Q ls hQ htab hlocks F hA hP hK hD hDm hX hS hl hend hthr => ?_)
  obtain ⟨hx, hb, hml, hown, hts⟩ := id F
  have hown : s.vm.findClass RX7 = some m.cls := hown
  have F : CallFix p m c cX7_repair 2 s args wsX7_repair RX7 := F
  have hl : lv_has ls 2 [(0, .ref (q 0)), (1, .int x1)] := hl
  have hinX7 : ∀ w ∈ u_ws RX7 TX7 5, w ∈ wsX7_repair := fun w h => List.mem_cons_of_mem _ (List.mem_append_left _ (List.mem_append_left _ (List.mem_append_left _ (List.mem_append_right _ h))))
  have hinX0 : ∀ w ∈ u_ws RX0 TX0 7, w ∈ wsX7_repair := fun w h => List.mem_cons_of_mem _ (List.mem_append_left _ (List.mem_append_left _ (List.mem_append_right _ h)))
  rw [mX7_repair] at h
  refine lv_iload_n hx hb dX7_repair_0 rfl (lv_at hl 1 rfl) ?_
  refine lv_aload_n hx hb dX7_repair_1 rfl (lv_at hl 0 rfl) ?_
  refine va_get (D := (dC, dI)) (ci := 8) (v := .ref (q 1)) (C := RX7) (T := TX7) (N := 5) hx hb hts hinX7 hown hK hP 0 rfl rfl 0 (by decide) (hts (.fieldLink RX7 10 "CableTester" "cable" "LCableTester$Cable;") (mm 1 rfl)) (fun _ h9 => h9) rfl dX7_repair_2 ?_
  refine va_getN (D := (dC, dI)) (ci := 1) (v := .ref (q 3)) (C := RX0) (T := TX0) (N := 7) hx hb hts hinX0 hown hK hP 1 rfl rfl 5 (by decide) (va_Nw.use rfl hX.1.2.2.2.2.2.2.1) (fun _ h9 => h9) rfl dX7_repair_5 ?_
  refine caVR_i (As := []) (rest := [.int x1]) (ctJx4a65c_size_8abf5 l dC dI cq q S M o _ _ (nI S.2.2.2.1.length) rfl) F (cwV 0 hts gX7_repair_Jx4a65c_size_8abf5 rfl rfl rfl hdJx4a65c_size_8abf5 ⟨Nat.le_of_ble_eq_true rfl, Nat.le_of_ble_eq_true rfl⟩) hK hP hD hDm hS hA EV.blind (fun U hU hW => EV.call hX hS hDm hU hW) (va_recv hK hP (ci := 0) (q0 := 3) rfl rfl) rfl hl.1 rfl (Nat.le_of_ble_eq_true rfl) dX7_repair_8 ⟨Nat.le_of_ble_eq_true rfl, Nat.le_of_ble_eq_true rfl⟩ (fun H locs hP hD hS => ?_)
  rcases bto h with ⟨e1, S1, e2, hrs⟩ | ⟨u1, S1, e2, h⟩
  · refine caXS_v (As := [.int x1, .int (nI S.2.2.2.1.length)]) (rest := []) (ctX7_needIndex l dC dI cq q S M o _ _ hfl _ _ _ e2) F (va_cwS 2 hts gX7_repair_X7_needIndex rfl rfl rfl hdX7_needIndex ⟨Nat.le_of_ble_eq_true rfl, Nat.le_of_ble_eq_true rfl⟩) hK hP hD hDm hS hA EV.blind (fun U hU hW => EV.call hX hS hDm hU hW) rfl hl.1 rfl (Nat.le_of_ble_eq_true rfl) dX7_repair_11 ⟨Nat.le_of_ble_eq_true rfl, Nat.le_of_ble_eq_true rfl⟩ (fun H locs k9 u9 E9 ce9 q9 h9 hP hD hS hce hcv hcl hE => ?_) (fun H locs u9 h9 hP hD hS => ?_)
    · cases h9; exact hthr _ _ _ _ _ _ _ _ _ _ _ _ hrs hP hD hS hce hcv hcl hE (Nat.le_of_ble_eq_true rfl) (Nat.le_of_ble_eq_true rfl)
    · cases h9
  refine caXS_v (As := [.int x1, .int (nI S.2.2.2.1.length)]) (rest := []) (ctX7_needIndex l dC dI cq q S M o _ _ hfl _ _ _ e2) F (va_cwS 2 hts gX7_repair_X7_needIndex rfl rfl rfl hdX7_needIndex ⟨Nat.le_of_ble_eq_true rfl, Nat.le_of_ble_eq_true rfl⟩) hK hP hD hDm hS hA EV.blind (fun U hU hW => EV.call hX hS hDm hU hW) rfl hl.1 rfl (Nat.le_of_ble_eq_true rfl) dX7_repair_11 ⟨Nat.le_of_ble_eq_true rfl, Nat.le_of_ble_eq_true rfl⟩ (fun H locs k9 u9 E9 ce9 q9 h9 hP hD hS hce hcv hcl hE => ?_) (fun H locs u9 h9 hP hD hS => ?_)
  · cases h9
  cases h9
  cases hm : S1.2.2.2.2 with
  | none => rw [hm] at h; cases h
  | some a =>
    rw [hm] at h
    obtain ⟨⟨g1, g2, g3⟩, h⟩ := gd h
    refine lv_aload_n hx hb dX7_repair_14 rfl (lv_at hl 0 rfl) ?_
    refine va_get (D := (dC, dI)) (ci := 8) (v := .ref (q 1)) (C := RX7) (T := TX7) (N := 5) hx hb hts hinX7 hown hK hP 0 rfl rfl 0 (by decide) (hts (.fieldLink RX7 10 "CableTester" "cable" "LCableTester$Cable;") (mm 1 rfl)) (fun _ h9 => h9) rfl dX7_repair_15 ?_
    refine va_getN (D := (dC, dI)) (ci := 1) (v := .ref (q 3)) (C := RX0) (T := TX0) (N := 7) hx hb hts hinX0 hown hK hP 1 rfl rfl 5 (by decide) (va_Nw.use rfl hX.1.2.2.2.2.2.2.1) (fun _ h9 => h9) rfl dX7_repair_18 ?_
    refine lv_iload_n hx hb dX7_repair_21 rfl (lv_at hl 1 rfl) ?_
    refine caWV_r (As := [.int x1]) (rest := []) (by rw [g2]; exact ctJx4a65c_remove_915e3 l dC dI cq q S1 M o _ _ a x1.toNatClampNeg hm g1 g3) F (cwV 1 hts gX7_repair_Jx4a65c_remove_915e3 rfl rfl rfl hdJx4a65c_remove_915e3 ⟨Nat.le_of_ble_eq_true rfl, Nat.le_of_ble_eq_true rfl⟩) hK hP hD hDm hS hA EV.blind (fun U hU hW => EV.call hX hS hDm hU hW) (va_recv hK hP (ci := 0) (q0 := 3) rfl rfl) rfl hl.1 rfl (Nat.le_of_ble_eq_true rfl) dX7_repair_22 ⟨Nat.le_of_ble_eq_true rfl, Nat.le_of_ble_eq_true rfl⟩ (fun H locs u _ hP hD hS => ?_)
    refine lv_pop hx hb dX7_repair_25 rfl ?_
    refine lv_aload_n hx hb dX7_repair_26 rfl (lv_at hl 0 rfl) ?_
    refine va_get (D := (dC, dI)) (ci := 8) (v := .ref (q 1)) (C := RX7) (T := TX7) (N := 5) hx hb hts hinX7 hown hK hP 0 rfl rfl 0 (by decide) (hts (.fieldLink RX7 10 "CableTester" "cable" "LCableTester$Cable;") (mm 1 rfl)) (fun _ h9 => h9) rfl dX7_repair_27 ?_
    refine va_getN (D := (dC, dI)) (ci := 1) (v := .ref (q 3)) (C := RX0) (T := TX0) (N := 7) hx hb hts hinX0 hown hK hP 1 rfl rfl 5 (by decide) (va_Nw.use rfl hX.1.2.2.2.2.2.2.1) (fun _ h9 => h9) rfl dX7_repair_30 ?_
    refine caVR_i (As := []) (rest := []) (ctJx4a65c_size_8abf5 l dC dI cq q (remF S1 x1.toNatClampNeg a) M o _ _ (nI (S1.2.2.2.1.eraseIdx x1.toNatClampNeg).length) rfl) F (cwV 0 hts gX7_repair_Jx4a65c_size_8abf5 rfl rfl rfl hdJx4a65c_size_8abf5 ⟨Nat.le_of_ble_eq_true rfl, Nat.le_of_ble_eq_true rfl⟩) hK hP hD hDm hS hA EV.blind (fun U hU hW => EV.call hX hS hDm hU hW) (va_recv hK hP (ci := 0) (q0 := 3) rfl rfl) rfl hl.1 rfl (Nat.le_of_ble_eq_true rfl) dX7_repair_33 ⟨Nat.le_of_ble_eq_true rfl, Nat.le_of_ble_eq_true rfl⟩ (fun H locs hP hD hS => ?_)
    exact hend _ _ _ _ _ _ _ _ (Option.some.inj h).symm hP hD hS dX7_repair_36 rfl (Nat.le_of_ble_eq_true rfl) (Nat.le_of_ble_eq_true rfl)
