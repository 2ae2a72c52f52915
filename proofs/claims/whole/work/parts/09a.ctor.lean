theorem caFI_v {l : Launch} {dC : Nat → ClassId} {dI : Nat → Nat → Nat} {cq : Nat → ClassId} {p : Program} {e : Env} {R : Room} {s : State} {m : MethodId} {args : Array Value} {below : List Frame} {meth : Method} {c : Code} {H : Heap} {locs : List Loc} {cells slots : Nat} {Q : State → Prop} {A : Nat → Prop} {wl wc wr : va_W} {U : Type} {wf : U → va_W} {post : U → Prop} {y : MethodName} {cc bytes : ByteArray} {maxL nL n index mc ms : Nat} {ws Ts : List Cond} {rm : Room} {own : String} {b : Nat} {As rest st0 : List Value} {pc : Nat} {ls : Array Slot} {Dm : Nat → Prop} {X : State → Prop} (isC isR : List Nat) (hC : isC.map (fun i => wl[i]?) = wc.map some) (hC2 : isC.filterMap (fun i => wl[i]?) = wc) (hR : isR.map (fun i => wl[i]?) = wr.map some) (hnC : va_nd isC = true) (hnR : va_nd isR = true) (hdis : ∀ i ∈ isR, i ∉ isC)
    (hM : Met l y ws rm (PreW Dm X dC dI cq wc H.size (.ref b :: As)) (va_Qv post (fun u t => BkW dC dI cq (va_A wc H.size) (wf u) t) (va_A wc H.size)) mc ms (va_A wc H.size))
    (F : CallFix p m c cc nL s args Ts own) (cw : CallB R s args own index y bytes maxL none ws rm mc ms n ∧ y.name = "<init>" ∧ (Cond.instanceMethod y).before args s = true) (hK : va_K (dC, dI) vwCl (tyA cq) s) (hP : va_P (dC, dI) vwCl wl H) (hD : va_D A wl) (hDm : ∀ a, A a → Dm a) (hS : va_S A s.heap H locs) (hA : ∀ a, s.heap.size ≤ a → A a)
    (hXb : ∀ (U : State) (g : JFrame) (mk : MethodId) (a : Array Value), X U → X (U.calling g mk a)) (hXc : ∀ U : State, U.heap = H → s.WarmedH U.vm → X U)
    (hn : As.length = n) (hsize : ls.size = nL) (hst : st0 = As.reverse ++ .ref b :: rest) (hW : (rest.map fun v => v.category).sum ≤ 8) (hdg : decode cc pc = .ok (.invokespecial index, 3)) (hf : cells + mc ≤ R.cells ∧ slots + ms ≤ R.slots)
    (kk : ∀ (H1 : Heap) (locs1 : List Loc) (u : U), post u → va_P (dC, dI) vwCl (wr ++ wf u) H1 → va_D A (wr ++ wf u) → va_S A s.heap H1 locs1 → W p l e R s m args below meth c H1 locs1 (cells + mc) (slots + ms) Q (F0 m (pc + 3) ls rest)) :
    W p l e R s m args below meth c H locs cells slots Q (F0 m pc ls st0) := by
  have hPc := hP.sub (ws' := wc) isC hC2
  have hDc := hD.sub (ws' := wc) isC hnC hC
  have hFc := va_free (wc := wc) hD hS hA isC hC
  refine va_callv (va_runI (As := As) (rest := rest) F hM cw ⟨PreW.blind hXb, fun U hU hW => ⟨rfl, by rw [hU], by rw [hU]; exact hPc, va_K.moved hW.alike hK, hDc.weaken (fun _ _ _ h => hDm _ h), fun a h => hDm a (hA a (Nat.le_trans hS.1 h)), hXc U hU hW⟩⟩ rfl hn hsize hst (lv_room hW) hdg hf) hS (fun a _ h => hFc a h) hFc (fun u t H1 locs1 ht hvm hw hB hz1 hk1 hS1 => ?_)
  obtain ⟨hP1, hK1, hD1⟩ := hB
  rw [ht] at hP1
  obtain ⟨hP, hD⟩ := va_join (wr := wr) (w1 := wf u) hP hD isC isR hC hR hnR hdis hk1 hFc hP1 hD1
  exact kk H1 locs1 u hw hP hD hS1
theorem caFN_v {l : Launch} {dC : Nat → ClassId} {dI : Nat → Nat → Nat} {cq : Nat → ClassId} {p : Program} {e : Env} {R : Room} {s : State} {m : MethodId} {args : Array Value} {below : List Frame} {meth : Method} {c : Code} {H : Heap} {locs : List Loc} {cells slots : Nat} {Q : State → Prop} {A : Nat → Prop} {wl wc wr : va_W} {U : Type} {wf : U → va_W} {post : U → Prop} {y : MethodName} {cc bytes : ByteArray} {maxL nL n index mc ms : Nat} {ws Ts : List Cond} {rm : Room} {own : String} {host : String} {b : Nat} {As rest st0 : List Value} {pc : Nat} {ls : Array Slot} {Dm : Nat → Prop} {X : State → Prop} (isC isR : List Nat) (hC : isC.map (fun i => wl[i]?) = wc.map some) (hC2 : isC.filterMap (fun i => wl[i]?) = wc) (hR : isR.map (fun i => wl[i]?) = wr.map some) (hnC : va_nd isC = true) (hnR : va_nd isR = true) (hdis : ∀ i ∈ isR, i ∉ isC)
    (hM : Met l y ws rm (PreW Dm X dC dI cq wc H.size (.ref b :: As)) (va_Qv post (fun u t => BkW dC dI cq (va_A wc H.size) (wf u) t) (va_A wc H.size)) mc ms (va_A wc H.size))
    (F : CallFix p m c cc nL s args Ts own) (cw : va_CN R s args own index y host bytes maxL none ws rm mc ms n ∧ y.name = "<init>" ∧ (Cond.instanceMethod y).before args s = true) (hK : va_K (dC, dI) vwCl (tyA cq) s) (hP : va_P (dC, dI) vwCl wl H) (hD : va_D A wl) (hDm : ∀ a, A a → Dm a) (hS : va_S A s.heap H locs) (hA : ∀ a, s.heap.size ≤ a → A a)
    (hXb : ∀ (U : State) (g : JFrame) (mk : MethodId) (a : Array Value), X U → X (U.calling g mk a)) (hXc : ∀ U : State, U.heap = H → s.WarmedH U.vm → X U)
    (hn : As.length = n) (hsize : ls.size = nL) (hst : st0 = As.reverse ++ .ref b :: rest) (hW : (rest.map fun v => v.category).sum ≤ 8) (hdg : decode cc pc = .ok (.invokespecial index, 3)) (hf : cells + mc ≤ R.cells ∧ slots + ms ≤ R.slots)
    (kk : ∀ (H1 : Heap) (locs1 : List Loc) (u : U), post u → va_P (dC, dI) vwCl (wr ++ wf u) H1 → va_D A (wr ++ wf u) → va_S A s.heap H1 locs1 → W p l e R s m args below meth c H1 locs1 (cells + mc) (slots + ms) Q (F0 m (pc + 3) ls rest)) :
    W p l e R s m args below meth c H locs cells slots Q (F0 m pc ls st0) := by
  have hPc := hP.sub (ws' := wc) isC hC2
  have hDc := hD.sub (ws' := wc) isC hnC hC
  have hFc := va_free (wc := wc) hD hS hA isC hC
  refine va_callv (va_runIN (As := As) (rest := rest) F hM cw ⟨PreW.blind hXb, fun U hU hW => ⟨rfl, by rw [hU], by rw [hU]; exact hPc, va_K.moved hW.alike hK, hDc.weaken (fun _ _ _ h => hDm _ h), fun a h => hDm a (hA a (Nat.le_trans hS.1 h)), hXc U hU hW⟩⟩ rfl hn hsize hst (lv_room hW) hdg hf) hS (fun a _ h => hFc a h) hFc (fun u t H1 locs1 ht hvm hw hB hz1 hk1 hS1 => ?_)
  obtain ⟨hP1, hK1, hD1⟩ := hB
  rw [ht] at hP1
  obtain ⟨hP, hD⟩ := va_join (wr := wr) (w1 := wf u) hP hD isC isR hC hR hnR hdis hk1 hFc hP1 hD1
  exact kk H1 locs1 u hw hP hD hS1
theorem uqI {dC : Nat → ClassId} {dI : Nat → Nat → Nat} {cq : Nat → ClassId} {s : State} {cA c0 : ClassId} (t : Nat) (hK : va_K (dC, dI) vwCl (tyA cq) s) (hK9 : va_K (dC, dI) vwCl (tyA cq ++ [(cA, .int)]) s) (h : (tyA cq)[t]? = some (c0, .int)) : cA = c0 := by
  have h1 : s.vm.findClass ("[" ++ FieldType.int.toString) = some cA := (hK9.2 25 _ rfl).2
  have h2 : s.vm.findClass ("[" ++ FieldType.int.toString) = some c0 := (hK.2 t _ h).2
  exact Option.some.inj (h1.symm.trans h2)
theorem uqJ {dC : Nat → ClassId} {dI : Nat → Nat → Nat} {cq : Nat → ClassId} {s : State} {cA c0 : ClassId} (t : Nat) (hK : va_K (dC, dI) vwCl (tyA cq) s) (hK9 : va_K (dC, dI) vwCl (tyA cq ++ [(cA, .long)]) s) (h : (tyA cq)[t]? = some (c0, .long)) : cA = c0 := by
  have h1 : s.vm.findClass ("[" ++ FieldType.long.toString) = some cA := (hK9.2 25 _ rfl).2
  have h2 : s.vm.findClass ("[" ++ FieldType.long.toString) = some c0 := (hK.2 t _ h).2
  exact Option.some.inj (h1.symm.trans h2)
abbrev rmX3_init_4 : Room := { frames := 1, cells := 1, slots := 4, locals := 40 }
theorem hdX3_init : yX3_init.cls ≠ "java/lang/invoke/MethodHandle" ∧ yX3_init.cls ≠ "java/lang/invoke/VarHandle" ∧ (parseMethodDescriptor yX3_init.desc).map (fun d => d.parameters.length) = some 1 := by decide +kernel
set_option maxRecDepth 100000 in
set_option maxHeartbeats 8000000 in
theorem ctX3_init_4 (l : Launch) (dC : Nat → ClassId) (dI : Nat → Nat → Nat) (cq : Nat → ClassId) (q : Nat → Nat) (sz h0 : Nat) (a : Nat) : Met l yX3_init wsX3_init rmX3_init_4 (PreW (fun a => h0 ≤ a) (EV h0 q) dC dI cq [(a, .inr (4, [.null]))] sz [.ref a, .int (4 : Int32)]) (va_Qv (fun _ : Nat → Nat => True) (fun u t => BkW dC dI cq (va_A [(a, .inr (4, [.null]))] sz) ((fun u : Nat → Nat => [(a, .inr (4, [.ref (u 0)])), ((u 0), .inl (cq 5, 4, .inl (fun _ => 0)))]) u) t) (va_A [(a, .inr (4, [.null]))] sz)) 1 4 (va_A [(a, .inr (4, [.null]))] sz) := by
  refine entW_I (wf := fun u : Nat → Nat => [(a, .inr (4, [.ref (u 0)])), ((u 0), .inl (cq 5, 4, .inl (fun _ => 0)))]) (cc := cX3_init) (maxL := 2) (by decide) rfl (Nat.le_of_ble_eq_true rfl) rfl (fun p e s m args below meth c A Q ls F hA hP hK hD hDm hX hS hl hni hend => ?_)
  obtain ⟨hx, hb, hml, hown, hts⟩ := id F
  have hown : s.vm.findClass RX3 = some m.cls := hown
  have F : CallFix p m c cX3_init 2 s args wsX3_init RX3 := F
  have hl : lv_has ls 2 [(0, .ref a), (1, .int (4 : Int32))] := hl
  have hinX3 : ∀ w ∈ u_ws RX3 TX3 1, w ∈ wsX3_init := fun w h => List.mem_cons_of_mem _ (List.mem_append_right _ h)
  refine lv_aload_n hx hb dX3_init_0 rfl (lv_at hl 0 rfl) ?_
  refine W.objInit hx hb hown (hts (.methodLink RX3 3 objectInit) (mm 1 rfl)) (hts (.instanceMethod objectInit) (mm 2 rfl)) (hts (.code objectInit ⟨#[0xb1]⟩ 1 none) (mm 3 rfl)) rfl (by rw [hml]; exact hl.1) rfl dX3_init_1 (Nat.le_of_ble_eq_true rfl) (Nat.le_of_ble_eq_true rfl) ?_
  refine W.eq (g2 := F0 m 4 ls []) rfl ?_
  refine lv_aload_n hx hb dX3_init_4 rfl (lv_at hl 0 rfl) ?_
  refine lv_iload_n hx hb dX3_init_5 rfl (lv_at hl 1 rfl) ?_
  refine lv_iconst (v := (0 : Int32)) hx hb dX3_init_6 (by decide) ?_
  refine va_mmax hx hb (hml.trans hl.1.symm) hown (hts (.methodLink RX3 9 Lib.Math.max.name) (mm 4 rfl)) (hts (.static Lib.Math.max.name) (mm 5 rfl)) (hts (.initialized "java/lang/Math") (mm 6 rfl)) (hts (.code Lib.Math.max.name Lib.Math.max.code 2 (some .int)) (mm 7 rfl)) (Nat.le_of_ble_eq_true rfl) (Nat.le_of_ble_eq_true rfl) (Nat.le_of_ble_eq_true rfl) (Nat.le_of_ble_eq_true rfl) dX3_init_7 ?_
  refine va_newa (atype := .int) hx hb (hts (.arrayClass .int) (mm 8 rfl)) rfl hK hP hD hS hA (a0 := (4, .inl (fun _ => 0))) (N' := 4) (fun _ => rfl) (by decide) (by decide) (by decide) (Nat.le_of_ble_eq_true rfl) (Nat.le_of_ble_eq_true rfl) dX3_init_10 (fun b0 c9 H hK9 hP hD hS => ?_)
  have hc9 : c9 = cq 5 := uqI 1 hK hK9 rfl
  subst hc9
  have hP : va_P (dC, dI) vwCl [(a, .inr (4, [.null])), (b0, .inl (cq 5, 4, .inl (fun _ => 0)))] H := hP
  have hD : va_D A [(a, .inr (4, [.null])), (b0, .inl (cq 5, 4, .inl (fun _ => 0)))] := hD
  refine va_putF (D := (dC, dI)) (ci := 4) (v := .ref b0) (ty := .array .int) (C := RX3) (T := TX3) (N := 1) hx hb hts hinX3 tyX3 tyX3_ok nmX3 hown hK hP hD hS 0 rfl rfl 0 (by decide) (hts (.fieldLink RX3 15 "CableTester$Groups" "groups" "[I") (mm 9 rfl)) (fun _ h9 => h9) rfl hni rfl (by decide +kernel) rfl rfl (Nat.le_of_ble_eq_true rfl) dX3_init_12 (fun H locs hP hD hS => ?_)
  have hP : va_P (dC, dI) vwCl [(a, .inr (4, [.ref b0])), (b0, .inl (cq 5, 4, .inl (fun _ => 0)))] H := hP
  have hD : va_D A [(a, .inr (4, [.ref b0])), (b0, .inl (cq 5, 4, .inl (fun _ => 0)))] := hD
  have hP := hP.sub (ws' := [(a, .inr (4, [.ref b0])), (b0, .inl (cq 5, 4, .inl (fun _ => 0)))]) [0, 1] rfl
  have hD := hD.sub (ws' := [(a, .inr (4, [.ref b0])), (b0, .inl (cq 5, 4, .inl (fun _ => 0)))]) [0, 1] (by decide) rfl
  exact hend _ _ (fun k => match k with | _ => b0) _ _ trivial hP hD hS dX3_init_15
abbrev rmX3_init_18 : Room := { frames := 1, cells := 1, slots := 18, locals := 40 }
set_option maxRecDepth 100000 in
set_option maxHeartbeats 8000000 in
theorem ctX3_init_18 (l : Launch) (dC : Nat → ClassId) (dI : Nat → Nat → Nat) (cq : Nat → ClassId) (q : Nat → Nat) (sz h0 : Nat) (a : Nat) : Met l yX3_init wsX3_init rmX3_init_18 (PreW (fun a => h0 ≤ a) (EV h0 q) dC dI cq [(a, .inr (4, [.null]))] sz [.ref a, .int (18 : Int32)]) (va_Qv (fun _ : Nat → Nat => True) (fun u t => BkW dC dI cq (va_A [(a, .inr (4, [.null]))] sz) ((fun u : Nat → Nat => [(a, .inr (4, [.ref (u 0)])), ((u 0), .inl (cq 10, 18, .inl (fun _ => 0)))]) u) t) (va_A [(a, .inr (4, [.null]))] sz)) 1 18 (va_A [(a, .inr (4, [.null]))] sz) := by
  refine entW_I (wf := fun u : Nat → Nat => [(a, .inr (4, [.ref (u 0)])), ((u 0), .inl (cq 10, 18, .inl (fun _ => 0)))]) (cc := cX3_init) (maxL := 2) (by decide) rfl (Nat.le_of_ble_eq_true rfl) rfl (fun p e s m args below meth c A Q ls F hA hP hK hD hDm hX hS hl hni hend => ?_)
  obtain ⟨hx, hb, hml, hown, hts⟩ := id F
  have hown : s.vm.findClass RX3 = some m.cls := hown
  have F : CallFix p m c cX3_init 2 s args wsX3_init RX3 := F
  have hl : lv_has ls 2 [(0, .ref a), (1, .int (18 : Int32))] := hl
  have hinX3 : ∀ w ∈ u_ws RX3 TX3 1, w ∈ wsX3_init := fun w h => List.mem_cons_of_mem _ (List.mem_append_right _ h)
  refine lv_aload_n hx hb dX3_init_0 rfl (lv_at hl 0 rfl) ?_
  refine W.objInit hx hb hown (hts (.methodLink RX3 3 objectInit) (mm 1 rfl)) (hts (.instanceMethod objectInit) (mm 2 rfl)) (hts (.code objectInit ⟨#[0xb1]⟩ 1 none) (mm 3 rfl)) rfl (by rw [hml]; exact hl.1) rfl dX3_init_1 (Nat.le_of_ble_eq_true rfl) (Nat.le_of_ble_eq_true rfl) ?_
  refine W.eq (g2 := F0 m 4 ls []) rfl ?_
  refine lv_aload_n hx hb dX3_init_4 rfl (lv_at hl 0 rfl) ?_
  refine lv_iload_n hx hb dX3_init_5 rfl (lv_at hl 1 rfl) ?_
  refine lv_iconst (v := (0 : Int32)) hx hb dX3_init_6 (by decide) ?_
  refine va_mmax hx hb (hml.trans hl.1.symm) hown (hts (.methodLink RX3 9 Lib.Math.max.name) (mm 4 rfl)) (hts (.static Lib.Math.max.name) (mm 5 rfl)) (hts (.initialized "java/lang/Math") (mm 6 rfl)) (hts (.code Lib.Math.max.name Lib.Math.max.code 2 (some .int)) (mm 7 rfl)) (Nat.le_of_ble_eq_true rfl) (Nat.le_of_ble_eq_true rfl) (Nat.le_of_ble_eq_true rfl) (Nat.le_of_ble_eq_true rfl) dX3_init_7 ?_
  refine va_newa (atype := .int) hx hb (hts (.arrayClass .int) (mm 8 rfl)) rfl hK hP hD hS hA (a0 := (18, .inl (fun _ => 0))) (N' := 18) (fun _ => rfl) (by decide) (by decide) (by decide) (Nat.le_of_ble_eq_true rfl) (Nat.le_of_ble_eq_true rfl) dX3_init_10 (fun b0 c9 H hK9 hP hD hS => ?_)
  have hc9 : c9 = cq 10 := uqI 4 hK hK9 rfl
  subst hc9
  have hP : va_P (dC, dI) vwCl [(a, .inr (4, [.null])), (b0, .inl (cq 10, 18, .inl (fun _ => 0)))] H := hP
  have hD : va_D A [(a, .inr (4, [.null])), (b0, .inl (cq 10, 18, .inl (fun _ => 0)))] := hD
  refine va_putF (D := (dC, dI)) (ci := 4) (v := .ref b0) (ty := .array .int) (C := RX3) (T := TX3) (N := 1) hx hb hts hinX3 tyX3 tyX3_ok nmX3 hown hK hP hD hS 0 rfl rfl 0 (by decide) (hts (.fieldLink RX3 15 "CableTester$Groups" "groups" "[I") (mm 9 rfl)) (fun _ h9 => h9) rfl hni rfl (by decide +kernel) rfl rfl (Nat.le_of_ble_eq_true rfl) dX3_init_12 (fun H locs hP hD hS => ?_)
  have hP : va_P (dC, dI) vwCl [(a, .inr (4, [.ref b0])), (b0, .inl (cq 10, 18, .inl (fun _ => 0)))] H := hP
  have hD : va_D A [(a, .inr (4, [.ref b0])), (b0, .inl (cq 10, 18, .inl (fun _ => 0)))] := hD
  have hP := hP.sub (ws' := [(a, .inr (4, [.ref b0])), (b0, .inl (cq 10, 18, .inl (fun _ => 0)))]) [0, 1] rfl
  have hD := hD.sub (ws' := [(a, .inr (4, [.ref b0])), (b0, .inl (cq 10, 18, .inl (fun _ => 0)))]) [0, 1] (by decide) rfl
  exact hend _ _ (fun k => match k with | _ => b0) _ _ trivial hP hD hS dX3_init_15
abbrev rmX4_init : Room := { frames := 1, cells := 1, slots := 8, locals := 12 }
theorem hdX4_init : yX4_init.cls ≠ "java/lang/invoke/MethodHandle" ∧ yX4_init.cls ≠ "java/lang/invoke/VarHandle" ∧ (parseMethodDescriptor yX4_init.desc).map (fun d => d.parameters.length) = some 0 := by decide +kernel
set_option maxRecDepth 100000 in
set_option maxHeartbeats 8000000 in
theorem ctX4_init (l : Launch) (dC : Nat → ClassId) (dI : Nat → Nat → Nat) (cq : Nat → ClassId) (q : Nat → Nat) (sz h0 : Nat) (a : Nat) : Met l yX4_init wsX4_init rmX4_init (PreW (fun a => h0 ≤ a) (EV h0 q) dC dI cq [(a, .inr (5, [.null, .int 0]))] sz [.ref a]) (va_Qv (fun _ : Nat → Nat => True) (fun u t => BkW dC dI cq (va_A [(a, .inr (5, [.null, .int 0]))] sz) ((fun u : Nat → Nat => [(a, .inr (5, [.ref (u 0), .int 0])), ((u 0), .inl (cq 19, 8, .inr (.inl (fun _ => 0))))]) u) t) (va_A [(a, .inr (5, [.null, .int 0]))] sz)) 1 8 (va_A [(a, .inr (5, [.null, .int 0]))] sz) := by
  refine entW_I (wf := fun u : Nat → Nat => [(a, .inr (5, [.ref (u 0), .int 0])), ((u 0), .inl (cq 19, 8, .inr (.inl (fun _ => 0))))]) (cc := cX4_init) (maxL := 1) (by decide) rfl (Nat.le_of_ble_eq_true rfl) rfl (fun p e s m args below meth c A Q ls F hA hP hK hD hDm hX hS hl hni hend => ?_)
  obtain ⟨hx, hb, hml, hown, hts⟩ := id F
  have hown : s.vm.findClass RX4 = some m.cls := hown
  have F : CallFix p m c cX4_init 1 s args wsX4_init RX4 := F
  have hl : lv_has ls 1 [(0, .ref a)] := hl
  have hinX4 : ∀ w ∈ u_ws RX4 TX4 2, w ∈ wsX4_init := fun w h => List.mem_cons_of_mem _ (List.mem_append_right _ h)
  refine lv_aload_n hx hb dX4_init_0 rfl (lv_at hl 0 rfl) ?_
  refine W.objInit hx hb hown (hts (.methodLink RX4 3 objectInit) (mm 1 rfl)) (hts (.instanceMethod objectInit) (mm 2 rfl)) (hts (.code objectInit ⟨#[0xb1]⟩ 1 none) (mm 3 rfl)) rfl (by rw [hml]; exact hl.1) rfl dX4_init_1 (Nat.le_of_ble_eq_true rfl) (Nat.le_of_ble_eq_true rfl) ?_
  refine W.eq (g2 := F0 m 4 ls []) rfl ?_
  refine lv_aload_n hx hb dX4_init_4 rfl (lv_at hl 0 rfl) ?_
  refine lv_bipush (v := (8 : Int32)) hx hb dX4_init_5 (by decide) ?_
  refine va_newa (atype := .long) hx hb (hts (.arrayClass .long) (mm 4 rfl)) rfl hK hP hD hS hA (a0 := (8, .inr (.inl (fun _ => 0)))) (N' := 8) (fun _ => rfl) (by decide) (by decide) (by decide) (Nat.le_of_ble_eq_true rfl) (Nat.le_of_ble_eq_true rfl) dX4_init_7 (fun b0 c9 H hK9 hP hD hS => ?_)
  have hc9 : c9 = cq 19 := uqJ 22 hK hK9 rfl
  subst hc9
  have hP : va_P (dC, dI) vwCl [(a, .inr (5, [.null, .int 0])), (b0, .inl (cq 19, 8, .inr (.inl (fun _ => 0))))] H := hP
  have hD : va_D A [(a, .inr (5, [.null, .int 0])), (b0, .inl (cq 19, 8, .inr (.inl (fun _ => 0))))] := hD
  refine va_putF (D := (dC, dI)) (ci := 5) (v := .ref b0) (ty := .array .long) (C := RX4) (T := TX4) (N := 2) hx hb hts hinX4 tyX4 tyX4_ok nmX4 hown hK hP hD hS 0 rfl rfl 0 (by decide) (hts (.fieldLink RX4 9 "CableTester$History" "wrong" "[J") (mm 5 rfl)) (fun _ h9 => h9) rfl hni rfl (by decide +kernel) rfl rfl (Nat.le_of_ble_eq_true rfl) dX4_init_9 (fun H locs hP hD hS => ?_)
  have hP : va_P (dC, dI) vwCl [(a, .inr (5, [.ref b0, .int 0])), (b0, .inl (cq 19, 8, .inr (.inl (fun _ => 0))))] H := hP
  have hD : va_D A [(a, .inr (5, [.ref b0, .int 0])), (b0, .inl (cq 19, 8, .inr (.inl (fun _ => 0))))] := hD
  have hP := hP.sub (ws' := [(a, .inr (5, [.ref b0, .int 0])), (b0, .inl (cq 19, 8, .inr (.inl (fun _ => 0))))]) [0, 1] rfl
  have hD := hD.sub (ws' := [(a, .inr (5, [.ref b0, .int 0])), (b0, .inl (cq 19, 8, .inr (.inl (fun _ => 0))))]) [0, 1] (by decide) rfl
  exact hend _ _ (fun k => match k with | _ => b0) _ _ trivial hP hD hS dX4_init_12
abbrev rmX6_init : Room := { frames := 1, cells := 1, slots := 50, locals := 12 }
theorem hdX6_init : yX6_init.cls ≠ "java/lang/invoke/MethodHandle" ∧ yX6_init.cls ≠ "java/lang/invoke/VarHandle" ∧ (parseMethodDescriptor yX6_init.desc).map (fun d => d.parameters.length) = some 0 := by decide +kernel
set_option maxRecDepth 100000 in
set_option maxHeartbeats 8000000 in
theorem ctX6_init (l : Launch) (dC : Nat → ClassId) (dI : Nat → Nat → Nat) (cq : Nat → ClassId) (q : Nat → Nat) (sz h0 : Nat) (a : Nat) : Met l yX6_init wsX6_init rmX6_init (PreW (fun a => h0 ≤ a) (EV h0 q) dC dI cq [(a, .inr (7, [.null, .int 0, .int 0, .int 0, .int 0, .int 0, .int 0, .int 0, .int 0, .int 0]))] sz [.ref a]) (va_Qv (fun _ : Nat → Nat => True) (fun u t => BkW dC dI cq (va_A [(a, .inr (7, [.null, .int 0, .int 0, .int 0, .int 0, .int 0, .int 0, .int 0, .int 0, .int 0]))] sz) ((fun u : Nat → Nat => [(a, .inr (7, [.ref (u 0), .int 0, .int 0, .int 0, .int 0, .int 0, .int 0, .int 0, .int 0, .int 0])), ((u 0), .inl (cq 21, 50, .inl (fun _ => 0)))]) u) t) (va_A [(a, .inr (7, [.null, .int 0, .int 0, .int 0, .int 0, .int 0, .int 0, .int 0, .int 0, .int 0]))] sz)) 1 50 (va_A [(a, .inr (7, [.null, .int 0, .int 0, .int 0, .int 0, .int 0, .int 0, .int 0, .int 0, .int 0]))] sz) := by
  refine entW_I (wf := fun u : Nat → Nat => [(a, .inr (7, [.ref (u 0), .int 0, .int 0, .int 0, .int 0, .int 0, .int 0, .int 0, .int 0, .int 0])), ((u 0), .inl (cq 21, 50, .inl (fun _ => 0)))]) (cc := cX6_init) (maxL := 1) (by decide) rfl (Nat.le_of_ble_eq_true rfl) rfl (fun p e s m args below meth c A Q ls F hA hP hK hD hDm hX hS hl hni hend => ?_)
  obtain ⟨hx, hb, hml, hown, hts⟩ := id F
  have hown : s.vm.findClass RX6 = some m.cls := hown
  have F : CallFix p m c cX6_init 1 s args wsX6_init RX6 := F
  have hl : lv_has ls 1 [(0, .ref a)] := hl
  have hinX6 : ∀ w ∈ u_ws RX6 TX6 10, w ∈ wsX6_init := fun w h => List.mem_cons_of_mem _ (List.mem_append_right _ h)
  refine lv_aload_n hx hb dX6_init_0 rfl (lv_at hl 0 rfl) ?_
  refine W.objInit hx hb hown (hts (.methodLink RX6 3 objectInit) (mm 1 rfl)) (hts (.instanceMethod objectInit) (mm 2 rfl)) (hts (.code objectInit ⟨#[0xb1]⟩ 1 none) (mm 3 rfl)) rfl (by rw [hml]; exact hl.1) rfl dX6_init_1 (Nat.le_of_ble_eq_true rfl) (Nat.le_of_ble_eq_true rfl) ?_
  refine W.eq (g2 := F0 m 4 ls []) rfl ?_
  refine lv_aload_n hx hb dX6_init_4 rfl (lv_at hl 0 rfl) ?_
  refine lv_bipush (v := (50 : Int32)) hx hb dX6_init_5 (by decide) ?_
  refine va_newa (atype := .int) hx hb (hts (.arrayClass .int) (mm 4 rfl)) rfl hK hP hD hS hA (a0 := (50, .inl (fun _ => 0))) (N' := 50) (fun _ => rfl) (by decide) (by decide) (by decide) (Nat.le_of_ble_eq_true rfl) (Nat.le_of_ble_eq_true rfl) dX6_init_7 (fun b0 c9 H hK9 hP hD hS => ?_)
  have hc9 : c9 = cq 21 := uqI 11 hK hK9 rfl
  subst hc9
  have hP : va_P (dC, dI) vwCl [(a, .inr (7, [.null, .int 0, .int 0, .int 0, .int 0, .int 0, .int 0, .int 0, .int 0, .int 0])), (b0, .inl (cq 21, 50, .inl (fun _ => 0)))] H := hP
  have hD : va_D A [(a, .inr (7, [.null, .int 0, .int 0, .int 0, .int 0, .int 0, .int 0, .int 0, .int 0, .int 0])), (b0, .inl (cq 21, 50, .inl (fun _ => 0)))] := hD
  refine va_putF (D := (dC, dI)) (ci := 7) (v := .ref b0) (ty := .array .int) (C := RX6) (T := TX6) (N := 10) hx hb hts hinX6 tyX6 tyX6_ok nmX6 hown hK hP hD hS 0 rfl rfl 0 (by decide) (hts (.fieldLink RX6 9 "CableTester$Text" "codes" "[I") (mm 5 rfl)) (fun _ h9 => h9) rfl hni rfl (by decide +kernel) rfl rfl (Nat.le_of_ble_eq_true rfl) dX6_init_9 (fun H locs hP hD hS => ?_)
  have hP : va_P (dC, dI) vwCl [(a, .inr (7, [.ref b0, .int 0, .int 0, .int 0, .int 0, .int 0, .int 0, .int 0, .int 0, .int 0])), (b0, .inl (cq 21, 50, .inl (fun _ => 0)))] H := hP
  have hD : va_D A [(a, .inr (7, [.ref b0, .int 0, .int 0, .int 0, .int 0, .int 0, .int 0, .int 0, .int 0, .int 0])), (b0, .inl (cq 21, 50, .inl (fun _ => 0)))] := hD
  have hP := hP.sub (ws' := [(a, .inr (7, [.ref b0, .int 0, .int 0, .int 0, .int 0, .int 0, .int 0, .int 0, .int 0, .int 0])), (b0, .inl (cq 21, 50, .inl (fun _ => 0)))]) [0, 1] rfl
  have hD := hD.sub (ws' := [(a, .inr (7, [.ref b0, .int 0, .int 0, .int 0, .int 0, .int 0, .int 0, .int 0, .int 0, .int 0])), (b0, .inl (cq 21, 50, .inl (fun _ => 0)))]) [0, 1] (by decide) rfl
  exact hend _ _ (fun k => match k with | _ => b0) _ _ trivial hP hD hS dX6_init_12
abbrev rmX1_init : Room := { frames := 1, cells := 4, slots := 32, locals := 12 }
theorem hdX1_init : yX1_init.cls ≠ "java/lang/invoke/MethodHandle" ∧ yX1_init.cls ≠ "java/lang/invoke/VarHandle" ∧ (parseMethodDescriptor yX1_init.desc).map (fun d => d.parameters.length) = some 0 := by decide +kernel
set_option maxRecDepth 100000 in
set_option maxHeartbeats 8000000 in
theorem ctX1_init (l : Launch) (dC : Nat → ClassId) (dI : Nat → Nat → Nat) (cq : Nat → ClassId) (q : Nat → Nat) (sz h0 : Nat) (a : Nat) : Met l yX1_init wsX1_init rmX1_init (PreW (fun a => h0 ≤ a) (EV h0 q) dC dI cq [(a, .inr (2, [.null, .null, .null, .null, .int 0]))] sz [.ref a]) (va_Qv (fun _ : Nat → Nat => True) (fun u t => BkW dC dI cq (va_A [(a, .inr (2, [.null, .null, .null, .null, .int 0]))] sz) ((fun u : Nat → Nat => [(a, .inr (2, [.ref (u 0), .ref (u 1), .ref (u 2), .ref (u 3), .int 0])), ((u 0), .inl (cq 14, 8, .inl (fun _ => 0))), ((u 1), .inl (cq 15, 8, .inl (fun _ => 0))), ((u 2), .inl (cq 16, 8, .inl (fun _ => 0))), ((u 3), .inl (cq 17, 8, .inl (fun _ => 0)))]) u) t) (va_A [(a, .inr (2, [.null, .null, .null, .null, .int 0]))] sz)) 4 32 (va_A [(a, .inr (2, [.null, .null, .null, .null, .int 0]))] sz) := by
  refine entW_I (wf := fun u : Nat → Nat => [(a, .inr (2, [.ref (u 0), .ref (u 1), .ref (u 2), .ref (u 3), .int 0])), ((u 0), .inl (cq 14, 8, .inl (fun _ => 0))), ((u 1), .inl (cq 15, 8, .inl (fun _ => 0))), ((u 2), .inl (cq 16, 8, .inl (fun _ => 0))), ((u 3), .inl (cq 17, 8, .inl (fun _ => 0)))]) (cc := cX1_init) (maxL := 1) (by decide) rfl (Nat.le_of_ble_eq_true rfl) rfl (fun p e s m args below meth c A Q ls F hA hP hK hD hDm hX hS hl hni hend => ?_)
  obtain ⟨hx, hb, hml, hown, hts⟩ := id F
  have hown : s.vm.findClass RX1 = some m.cls := hown
  have F : CallFix p m c cX1_init 1 s args wsX1_init RX1 := F
  have hl : lv_has ls 1 [(0, .ref a)] := hl
  have hinX1 : ∀ w ∈ u_ws RX1 TX1 5, w ∈ wsX1_init := fun w h => List.mem_cons_of_mem _ (List.mem_append_right _ h)
  refine lv_aload_n hx hb dX1_init_0 rfl (lv_at hl 0 rfl) ?_
  refine W.objInit hx hb hown (hts (.methodLink RX1 3 objectInit) (mm 1 rfl)) (hts (.instanceMethod objectInit) (mm 2 rfl)) (hts (.code objectInit ⟨#[0xb1]⟩ 1 none) (mm 3 rfl)) rfl (by rw [hml]; exact hl.1) rfl dX1_init_1 (Nat.le_of_ble_eq_true rfl) (Nat.le_of_ble_eq_true rfl) ?_
  refine W.eq (g2 := F0 m 4 ls []) rfl ?_
  refine lv_aload_n hx hb dX1_init_4 rfl (lv_at hl 0 rfl) ?_
  refine lv_bipush (v := (8 : Int32)) hx hb dX1_init_5 (by decide) ?_
  refine va_newa (atype := .int) hx hb (hts (.arrayClass .int) (mm 4 rfl)) rfl hK hP hD hS hA (a0 := (8, .inl (fun _ => 0))) (N' := 8) (fun _ => rfl) (by decide) (by decide) (by decide) (Nat.le_of_ble_eq_true rfl) (Nat.le_of_ble_eq_true rfl) dX1_init_7 (fun b0 c9 H hK9 hP hD hS => ?_)
  have hc9 : c9 = cq 14 := uqI 7 hK hK9 rfl
  subst hc9
  have hP : va_P (dC, dI) vwCl [(a, .inr (2, [.null, .null, .null, .null, .int 0])), (b0, .inl (cq 14, 8, .inl (fun _ => 0)))] H := hP
  have hD : va_D A [(a, .inr (2, [.null, .null, .null, .null, .int 0])), (b0, .inl (cq 14, 8, .inl (fun _ => 0)))] := hD
  refine va_putF (D := (dC, dI)) (ci := 2) (v := .ref b0) (ty := .array .int) (C := RX1) (T := TX1) (N := 5) hx hb hts hinX1 tyX1 tyX1_ok nmX1 hown hK hP hD hS 0 rfl rfl 0 (by decide) (hts (.fieldLink RX1 9 "CableTester$Explainer" "uncut" "[I") (mm 5 rfl)) (fun _ h9 => h9) rfl hni rfl (by decide +kernel) rfl rfl (Nat.le_of_ble_eq_true rfl) dX1_init_9 (fun H locs hP hD hS => ?_)
  have hP : va_P (dC, dI) vwCl [(a, .inr (2, [.ref b0, .null, .null, .null, .int 0])), (b0, .inl (cq 14, 8, .inl (fun _ => 0)))] H := hP
  have hD : va_D A [(a, .inr (2, [.ref b0, .null, .null, .null, .int 0])), (b0, .inl (cq 14, 8, .inl (fun _ => 0)))] := hD
  refine lv_aload_n hx hb dX1_init_12 rfl (lv_at hl 0 rfl) ?_
  refine lv_bipush (v := (8 : Int32)) hx hb dX1_init_13 (by decide) ?_
  refine va_newa (atype := .int) hx hb (hts (.arrayClass .int) (mm 4 rfl)) rfl hK hP hD hS hA (a0 := (8, .inl (fun _ => 0))) (N' := 8) (fun _ => rfl) (by decide) (by decide) (by decide) (Nat.le_of_ble_eq_true rfl) (Nat.le_of_ble_eq_true rfl) dX1_init_15 (fun b1 c9 H hK9 hP hD hS => ?_)
  have hc9 : c9 = cq 15 := uqI 8 hK hK9 rfl
  subst hc9
  have hP : va_P (dC, dI) vwCl [(a, .inr (2, [.ref b0, .null, .null, .null, .int 0])), (b0, .inl (cq 14, 8, .inl (fun _ => 0))), (b1, .inl (cq 15, 8, .inl (fun _ => 0)))] H := hP
  have hD : va_D A [(a, .inr (2, [.ref b0, .null, .null, .null, .int 0])), (b0, .inl (cq 14, 8, .inl (fun _ => 0))), (b1, .inl (cq 15, 8, .inl (fun _ => 0)))] := hD
  refine va_putF (D := (dC, dI)) (ci := 2) (v := .ref b1) (ty := .array .int) (C := RX1) (T := TX1) (N := 5) hx hb hts hinX1 tyX1 tyX1_ok nmX1 hown hK hP hD hS 0 rfl rfl 1 (by decide) (hts (.fieldLink RX1 15 "CableTester$Explainer" "allowed" "[I") (mm 6 rfl)) (fun _ h9 => h9) rfl hni rfl (by decide +kernel) rfl rfl (Nat.le_of_ble_eq_true rfl) dX1_init_17 (fun H locs hP hD hS => ?_)
  have hP : va_P (dC, dI) vwCl [(a, .inr (2, [.ref b0, .ref b1, .null, .null, .int 0])), (b0, .inl (cq 14, 8, .inl (fun _ => 0))), (b1, .inl (cq 15, 8, .inl (fun _ => 0)))] H := hP
  have hD : va_D A [(a, .inr (2, [.ref b0, .ref b1, .null, .null, .int 0])), (b0, .inl (cq 14, 8, .inl (fun _ => 0))), (b1, .inl (cq 15, 8, .inl (fun _ => 0)))] := hD
  refine lv_aload_n hx hb dX1_init_20 rfl (lv_at hl 0 rfl) ?_
  refine lv_bipush (v := (8 : Int32)) hx hb dX1_init_21 (by decide) ?_
  refine va_newa (atype := .int) hx hb (hts (.arrayClass .int) (mm 4 rfl)) rfl hK hP hD hS hA (a0 := (8, .inl (fun _ => 0))) (N' := 8) (fun _ => rfl) (by decide) (by decide) (by decide) (Nat.le_of_ble_eq_true rfl) (Nat.le_of_ble_eq_true rfl) dX1_init_23 (fun b2 c9 H hK9 hP hD hS => ?_)
  have hc9 : c9 = cq 16 := uqI 9 hK hK9 rfl
  subst hc9
  have hP : va_P (dC, dI) vwCl [(a, .inr (2, [.ref b0, .ref b1, .null, .null, .int 0])), (b0, .inl (cq 14, 8, .inl (fun _ => 0))), (b1, .inl (cq 15, 8, .inl (fun _ => 0))), (b2, .inl (cq 16, 8, .inl (fun _ => 0)))] H := hP
  have hD : va_D A [(a, .inr (2, [.ref b0, .ref b1, .null, .null, .int 0])), (b0, .inl (cq 14, 8, .inl (fun _ => 0))), (b1, .inl (cq 15, 8, .inl (fun _ => 0))), (b2, .inl (cq 16, 8, .inl (fun _ => 0)))] := hD
  refine va_putF (D := (dC, dI)) (ci := 2) (v := .ref b2) (ty := .array .int) (C := RX1) (T := TX1) (N := 5) hx hb hts hinX1 tyX1 tyX1_ok nmX1 hown hK hP hD hS 0 rfl rfl 2 (by decide) (hts (.fieldLink RX1 18 "CableTester$Explainer" "given" "[I") (mm 7 rfl)) (fun _ h9 => h9) rfl hni rfl (by decide +kernel) rfl rfl (Nat.le_of_ble_eq_true rfl) dX1_init_25 (fun H locs hP hD hS => ?_)
  have hP : va_P (dC, dI) vwCl [(a, .inr (2, [.ref b0, .ref b1, .ref b2, .null, .int 0])), (b0, .inl (cq 14, 8, .inl (fun _ => 0))), (b1, .inl (cq 15, 8, .inl (fun _ => 0))), (b2, .inl (cq 16, 8, .inl (fun _ => 0)))] H := hP
  have hD : va_D A [(a, .inr (2, [.ref b0, .ref b1, .ref b2, .null, .int 0])), (b0, .inl (cq 14, 8, .inl (fun _ => 0))), (b1, .inl (cq 15, 8, .inl (fun _ => 0))), (b2, .inl (cq 16, 8, .inl (fun _ => 0)))] := hD
  refine lv_aload_n hx hb dX1_init_28 rfl (lv_at hl 0 rfl) ?_
  refine lv_bipush (v := (8 : Int32)) hx hb dX1_init_29 (by decide) ?_
  refine va_newa (atype := .int) hx hb (hts (.arrayClass .int) (mm 4 rfl)) rfl hK hP hD hS hA (a0 := (8, .inl (fun _ => 0))) (N' := 8) (fun _ => rfl) (by decide) (by decide) (by decide) (Nat.le_of_ble_eq_true rfl) (Nat.le_of_ble_eq_true rfl) dX1_init_31 (fun b3 c9 H hK9 hP hD hS => ?_)
  have hc9 : c9 = cq 17 := uqI 10 hK hK9 rfl
  subst hc9
  have hP : va_P (dC, dI) vwCl [(a, .inr (2, [.ref b0, .ref b1, .ref b2, .null, .int 0])), (b0, .inl (cq 14, 8, .inl (fun _ => 0))), (b1, .inl (cq 15, 8, .inl (fun _ => 0))), (b2, .inl (cq 16, 8, .inl (fun _ => 0))), (b3, .inl (cq 17, 8, .inl (fun _ => 0)))] H := hP
  have hD : va_D A [(a, .inr (2, [.ref b0, .ref b1, .ref b2, .null, .int 0])), (b0, .inl (cq 14, 8, .inl (fun _ => 0))), (b1, .inl (cq 15, 8, .inl (fun _ => 0))), (b2, .inl (cq 16, 8, .inl (fun _ => 0))), (b3, .inl (cq 17, 8, .inl (fun _ => 0)))] := hD
  refine va_putF (D := (dC, dI)) (ci := 2) (v := .ref b3) (ty := .array .int) (C := RX1) (T := TX1) (N := 5) hx hb hts hinX1 tyX1 tyX1_ok nmX1 hown hK hP hD hS 0 rfl rfl 3 (by decide) (hts (.fieldLink RX1 21 "CableTester$Explainer" "best" "[I") (mm 8 rfl)) (fun _ h9 => h9) rfl hni rfl (by decide +kernel) rfl rfl (Nat.le_of_ble_eq_true rfl) dX1_init_33 (fun H locs hP hD hS => ?_)
  have hP : va_P (dC, dI) vwCl [(a, .inr (2, [.ref b0, .ref b1, .ref b2, .ref b3, .int 0])), (b0, .inl (cq 14, 8, .inl (fun _ => 0))), (b1, .inl (cq 15, 8, .inl (fun _ => 0))), (b2, .inl (cq 16, 8, .inl (fun _ => 0))), (b3, .inl (cq 17, 8, .inl (fun _ => 0)))] H := hP
  have hD : va_D A [(a, .inr (2, [.ref b0, .ref b1, .ref b2, .ref b3, .int 0])), (b0, .inl (cq 14, 8, .inl (fun _ => 0))), (b1, .inl (cq 15, 8, .inl (fun _ => 0))), (b2, .inl (cq 16, 8, .inl (fun _ => 0))), (b3, .inl (cq 17, 8, .inl (fun _ => 0)))] := hD
  have hP := hP.sub (ws' := [(a, .inr (2, [.ref b0, .ref b1, .ref b2, .ref b3, .int 0])), (b0, .inl (cq 14, 8, .inl (fun _ => 0))), (b1, .inl (cq 15, 8, .inl (fun _ => 0))), (b2, .inl (cq 16, 8, .inl (fun _ => 0))), (b3, .inl (cq 17, 8, .inl (fun _ => 0)))]) [0, 1, 2, 3, 4] rfl
  have hD := hD.sub (ws' := [(a, .inr (2, [.ref b0, .ref b1, .ref b2, .ref b3, .int 0])), (b0, .inl (cq 14, 8, .inl (fun _ => 0))), (b1, .inl (cq 15, 8, .inl (fun _ => 0))), (b2, .inl (cq 16, 8, .inl (fun _ => 0))), (b3, .inl (cq 17, 8, .inl (fun _ => 0)))]) [0, 1, 2, 3, 4] (by decide) rfl
  exact hend _ _ (fun k => match k with | 0 => b0 | 1 => b1 | 2 => b2 | _ => b3) _ _ trivial hP hD hS dX1_init_36
theorem hdJxa1e45_init_da8c8 : yJxa1e45_init_da8c8.cls ≠ "java/lang/invoke/MethodHandle" ∧ yJxa1e45_init_da8c8.cls ≠ "java/lang/invoke/VarHandle" ∧ (parseMethodDescriptor yJxa1e45_init_da8c8.desc).map (fun d => d.parameters.length) = some 0 := by decide +kernel
theorem hdJxc12de_init_da8c8 : yJxc12de_init_da8c8.cls ≠ "java/lang/invoke/MethodHandle" ∧ yJxc12de_init_da8c8.cls ≠ "java/lang/invoke/VarHandle" ∧ (parseMethodDescriptor yJxc12de_init_da8c8.desc).map (fun d => d.parameters.length) = some 0 := by decide +kernel
theorem hdJx4a65c_init_da8c8 : yJx4a65c_init_da8c8.cls ≠ "java/lang/invoke/MethodHandle" ∧ yJx4a65c_init_da8c8.cls ≠ "java/lang/invoke/VarHandle" ∧ (parseMethodDescriptor yJx4a65c_init_da8c8.desc).map (fun d => d.parameters.length) = some 0 := by decide +kernel
set_option maxRecDepth 100000 in
set_option maxHeartbeats 8000000 in
theorem ctJxa1e45_init_da8c8 (l : Launch) (dC : Nat → ClassId) (dI : Nat → Nat → Nat) (cq : Nat → ClassId) (q : Nat → Nat) (sz h0 : Nat) (a : Nat) (w : va_W) : Met l yJxa1e45_init_da8c8 wsJxa1e45_init_da8c8 { frames := 1, cells := 0, slots := 0, locals := 12 } (PreW (fun a => h0 ≤ a) (EV h0 q) dC dI cq w sz [.ref a]) (va_Qv (fun _ : Unit => True) (fun _ t => BkW dC dI cq (va_A w sz) w t) (va_A w sz)) 0 0 (va_A w sz) := by
  refine entW_I (wf := fun _ => w) (cc := cJxa1e45_init_da8c8) (maxL := 1) (by decide) rfl (Nat.le_of_ble_eq_true rfl) rfl (fun p e s m args below meth c A Q ls F hA hP hK hD hDm hX hS hl hni hend => ?_)
  obtain ⟨hx, hb, hml, hown, hts⟩ := id F
  have hown : s.vm.findClass RJxa1e45 = some m.cls := hown
  have hl : lv_has ls 1 [(0, .ref a)] := hl
  refine lv_aload_n hx hb dJxa1e45_init_da8c8_0 rfl (lv_at hl 0 rfl) ?_
  refine W.objInit hx hb hown (hts (.methodLink RJxa1e45 1 objectInit) (mm 1 rfl)) (hts (.instanceMethod objectInit) (mm 2 rfl)) (hts (.code objectInit ⟨#[0xb1]⟩ 1 none) (mm 3 rfl)) rfl (by rw [hml]; exact hl.1) rfl dJxa1e45_init_da8c8_1 (Nat.le_of_ble_eq_true rfl) (Nat.le_of_ble_eq_true rfl) ?_
  refine W.eq (g2 := F0 m 4 ls []) rfl ?_
  exact hend _ _ () _ _ trivial hP hD hS dJxa1e45_init_da8c8_4
set_option maxRecDepth 100000 in
set_option maxHeartbeats 8000000 in
theorem ctJxc12de_init_da8c8 (l : Launch) (dC : Nat → ClassId) (dI : Nat → Nat → Nat) (cq : Nat → ClassId) (q : Nat → Nat) (sz h0 : Nat) (a : Nat) : Met l yJxc12de_init_da8c8 wsJxc12de_init_da8c8 { frames := 2, cells := 0, slots := 0, locals := 40 } (PreW (fun a => h0 ≤ a) (EV h0 q) dC dI cq [(a, .inr (0, [.int 0, .null, .int 0]))] sz [.ref a]) (va_Qv (fun _ : Unit => True) (fun _ t => BkW dC dI cq (va_A [(a, .inr (0, [.int 0, .null, .int 0]))] sz) [(a, .inr (0, [.int 0, .null, .int 0]))] t) (va_A [(a, .inr (0, [.int 0, .null, .int 0]))] sz)) 0 0 (va_A [(a, .inr (0, [.int 0, .null, .int 0]))] sz) := by
  refine entW_I (wf := fun _ => [(a, .inr (0, [.int 0, .null, .int 0]))]) (cc := cJxc12de_init_da8c8) (maxL := 1) (by decide) rfl (Nat.le_of_ble_eq_true rfl) rfl (fun p e s m args below meth c A Q ls F hA hP hK hD hDm hX hS hl hni hend => ?_)
  obtain ⟨hx, hb, hml, hown, hts⟩ := id F
  have hown : s.vm.findClass RJxc12de = some m.cls := hown
  have F : CallFix p m c cJxc12de_init_da8c8 1 s args wsJxc12de_init_da8c8 RJxc12de := F
  have hl : lv_has ls 1 [(0, .ref a)] := hl
  have hin : ∀ w ∈ u_ws RJx4a65c TJx4a65c 3, w ∈ wsJxc12de_init_da8c8 := fun w h => List.mem_cons_of_mem _ (List.mem_append_right _ h)
  refine lv_aload_n hx hb dJxc12de_init_da8c8_0 rfl (lv_at hl 0 rfl) ?_
  refine caWI_v (wf := fun _ => [(a, .inr (0, [.int 0, .null, .int 0]))]) (As := []) (rest := []) (ctJxa1e45_init_da8c8 l dC dI cq q _ h0 a _) F (cwI 0 hts gJxc12de_init_da8c8_Jxa1e45_init_da8c8 rfl rfl rfl (hts (.initialized RJxa1e45) (mm 4 rfl)) (hts (.methodLink RJxc12de 1 yJxa1e45_init_da8c8) (mm 2 rfl)) (hts (.instanceMethod yJxa1e45_init_da8c8) (mm 3 rfl)) rfl hdJxa1e45_init_da8c8 ⟨Nat.le_of_ble_eq_true rfl, Nat.le_of_ble_eq_true rfl⟩) hK hP hD hDm hS hA EV.blind (fun U hU hW => EV.call hX hS hDm hU hW) rfl hl.1 rfl (Nat.le_of_ble_eq_true rfl) dJxc12de_init_da8c8_1 ⟨Nat.le_of_ble_eq_true rfl, Nat.le_of_ble_eq_true rfl⟩ (fun H locs u9 _ hP hD hS => ?_)
  refine lv_aload_n hx hb dJxc12de_init_da8c8_4 rfl (lv_at hl 0 rfl) ?_
  refine lv_iconst (v := (0 : Int32)) hx hb dJxc12de_init_da8c8_5 (by decide) ?_
  refine va_put (D := (dC, dI)) (ci := 0) (v := .int 0) (ty := .int) (C := RJx4a65c) (T := TJx4a65c) (N := 3) hx hb hts hin tyJx4a65c tyJx4a65c_ok nmJx4a65c hown hK hP hD hS 0 rfl rfl 0 (by decide) (hts (.fieldLink RJxc12de 7 "java/util/AbstractList" "modCount" "I") (mm 1 rfl)) (fun _ h9 => h9) rfl (by decide +kernel) rfl rfl (Nat.le_of_ble_eq_true rfl) dJxc12de_init_da8c8_6 (fun H locs hP hD hS => ?_)
  exact hend _ _ () _ _ trivial hP hD hS dJxc12de_init_da8c8_9
set_option maxRecDepth 100000 in
set_option maxHeartbeats 8000000 in
theorem ctJx4a65c_init_da8c8 (l : Launch) (dC : Nat → ClassId) (dI : Nat → Nat → Nat) (cq : Nat → ClassId) (q : Nat → Nat) (sz h0 : Nat) (a : Nat) : Met l yJx4a65c_init_da8c8 wsJx4a65c_init_da8c8 { frames := 3, cells := 0, slots := 0, locals := 70 } (PreW (fun a => h0 ≤ a) (EV h0 q) dC dI cq [(a, .inr (0, [.int 0, .null, .int 0]))] sz [.ref a]) (va_Qv (fun _ : Nat → Nat => True) (fun _ t => BkW dC dI cq (va_A [(a, .inr (0, [.int 0, .null, .int 0]))] sz) [(a, .inr (0, [.int 0, .ref (q 34), .int 0]))] t) (va_A [(a, .inr (0, [.int 0, .null, .int 0]))] sz)) 0 0 (va_A [(a, .inr (0, [.int 0, .null, .int 0]))] sz) := by
  refine entW_I (wf := fun _ => [(a, .inr (0, [.int 0, .ref (q 34), .int 0]))]) (cc := cJx4a65c_init_da8c8) (maxL := 1) (by decide) rfl (Nat.le_of_ble_eq_true rfl) rfl (fun p e s m args below meth c A Q ls F hA hP hK hD hDm hX hS hl hni hend => ?_)
  obtain ⟨hx, hb, hml, hown, hts⟩ := id F
  have hown : s.vm.findClass RJx4a65c = some m.cls := hown
  have F : CallFix p m c cJx4a65c_init_da8c8 1 s args wsJx4a65c_init_da8c8 RJx4a65c := F
  have hl : lv_has ls 1 [(0, .ref a)] := hl
  have hin : ∀ w ∈ u_ws RJx4a65c TJx4a65c 3, w ∈ wsJx4a65c_init_da8c8 := fun w h => List.mem_cons_of_mem _ (List.mem_append_right _ h)
  refine lv_aload_n hx hb dJx4a65c_init_da8c8_0 rfl (lv_at hl 0 rfl) ?_
  refine caWI_v (wf := fun _ => [(a, .inr (0, [.int 0, .null, .int 0]))]) (As := []) (rest := []) (ctJxc12de_init_da8c8 l dC dI cq q _ h0 a) F (cwI 0 hts gJx4a65c_init_da8c8_Jxc12de_init_da8c8 rfl rfl rfl (hts (.initialized RJxc12de) (mm 5 rfl)) (hts (.methodLink RJx4a65c 1 yJxc12de_init_da8c8) (mm 3 rfl)) (hts (.instanceMethod yJxc12de_init_da8c8) (mm 4 rfl)) rfl hdJxc12de_init_da8c8 ⟨Nat.le_of_ble_eq_true rfl, Nat.le_of_ble_eq_true rfl⟩) hK hP hD hDm hS hA EV.blind (fun U hU hW => EV.call hX hS hDm hU hW) rfl hl.1 rfl (Nat.le_of_ble_eq_true rfl) dJx4a65c_init_da8c8_1 ⟨Nat.le_of_ble_eq_true rfl, Nat.le_of_ble_eq_true rfl⟩ (fun H locs u9 _ hP hD hS => ?_)
  refine lv_aload_n hx hb dJx4a65c_init_da8c8_4 rfl (lv_at hl 0 rfl) ?_
  refine va_gets hx hb (hX.2.1.narrow hDm) hS hown (hts (.fieldLink RJx4a65c 39 "java/util/ArrayList" "DEFAULTCAPACITY_EMPTY_ELEMENTDATA" "[Ljava/lang/Object;") (mm 1 rfl)) (fun _ h9 => h9) dJx4a65c_init_da8c8_5 ?_
  refine va_put (D := (dC, dI)) (ci := 0) (v := .ref (q 34)) (ty := .array (.object "java/lang/Object")) (C := RJx4a65c) (T := TJx4a65c) (N := 3) hx hb hts hin tyJx4a65c tyJx4a65c_ok nmJx4a65c hown hK hP hD hS 0 rfl rfl 1 (by decide) (hts (.fieldLink RJx4a65c 9 "java/util/ArrayList" "elementData" "[Ljava/lang/Object;") (mm 2 rfl)) (fun _ h9 => h9) rfl (by decide +kernel) rfl rfl (Nat.le_of_ble_eq_true rfl) dJx4a65c_init_da8c8_8 (fun H locs hP hD hS => ?_)
  exact hend _ _ (fun _ => 0) _ _ trivial hP hD hS dJx4a65c_init_da8c8_11
abbrev rmX0_init : Room := { frames := 4, cells := 4, slots := 24, locals := 90 }
theorem hdX0_init : yX0_init.cls ≠ "java/lang/invoke/MethodHandle" ∧ yX0_init.cls ≠ "java/lang/invoke/VarHandle" ∧ (parseMethodDescriptor yX0_init.desc).map (fun d => d.parameters.length) = some 0 := by decide +kernel
set_option maxRecDepth 100000 in
set_option maxHeartbeats 8000000 in
theorem ctX0_init (l : Launch) (dC : Nat → ClassId) (dI : Nat → Nat → Nat) (cq : Nat → ClassId) (q : Nat → Nat) (sz h0 : Nat) (a : Nat) : Met l yX0_init wsX0_init rmX0_init (PreW (fun a => h0 ≤ a) (EV h0 q) dC dI cq [(a, .inr (1, [.int 0, .int 0, .int 0, .int 0, .null, .null, .null]))] sz [.ref a]) (va_Qv (fun _ : Nat → Nat => True) (fun u t => BkW dC dI cq (va_A [(a, .inr (1, [.int 0, .int 0, .int 0, .int 0, .null, .null, .null]))] sz) ((fun u : Nat → Nat => [(a, .inr (1, [.int 0, .int 0, .int 0, .int 0, .ref (u 0), .ref (u 1), .ref (u 2)])), ((u 0), .inl (cq 2, 16, .inl (fun _ => 0))), ((u 1), .inr (0, [.int 0, .ref (q 34), .int 0])), ((u 2), .inr (4, [.ref (u 3)])), ((u 3), .inl (cq 5, 4, .inl (fun _ => 0)))]) u) t) (va_A [(a, .inr (1, [.int 0, .int 0, .int 0, .int 0, .null, .null, .null]))] sz)) 4 24 (va_A [(a, .inr (1, [.int 0, .int 0, .int 0, .int 0, .null, .null, .null]))] sz) := by
  refine entW_I (wf := fun u : Nat → Nat => [(a, .inr (1, [.int 0, .int 0, .int 0, .int 0, .ref (u 0), .ref (u 1), .ref (u 2)])), ((u 0), .inl (cq 2, 16, .inl (fun _ => 0))), ((u 1), .inr (0, [.int 0, .ref (q 34), .int 0])), ((u 2), .inr (4, [.ref (u 3)])), ((u 3), .inl (cq 5, 4, .inl (fun _ => 0)))]) (cc := cX0_init) (maxL := 1) (by decide) rfl (Nat.le_of_ble_eq_true rfl) rfl (fun p e s m args below meth c A Q ls F hA hP hK hD hDm hX hS hl hni hend => ?_)
  obtain ⟨hx, hb, hml, hown, hts⟩ := id F
  have hown : s.vm.findClass RX0 = some m.cls := hown
  have F : CallFix p m c cX0_init 1 s args wsX0_init RX0 := F
  have hl : lv_has ls 1 [(0, .ref a)] := hl
  have hinJx4a65c : ∀ w ∈ u_ws RJx4a65c TJx4a65c 3, w ∈ wsX0_init := fun w h => List.mem_cons_of_mem _ (List.mem_append_left _ (List.mem_append_right _ h))
  have hinX0 : ∀ w ∈ u_ws RX0 TX0 7, w ∈ wsX0_init := fun w h => List.mem_cons_of_mem _ (List.mem_append_left _ (List.mem_append_left _ (List.mem_append_right _ h)))
  have hinX3 : ∀ w ∈ u_ws RX3 TX3 1, w ∈ wsX0_init := fun w h => List.mem_cons_of_mem _ (List.mem_append_right _ h)
  refine lv_aload_n hx hb dX0_init_0 rfl (lv_at hl 0 rfl) ?_
  refine W.objInit hx hb hown (hts (.methodLink RX0 3 objectInit) (mm 1 rfl)) (hts (.instanceMethod objectInit) (mm 2 rfl)) (hts (.code objectInit ⟨#[0xb1]⟩ 1 none) (mm 3 rfl)) rfl (by rw [hml]; exact hl.1) rfl dX0_init_1 (Nat.le_of_ble_eq_true rfl) (Nat.le_of_ble_eq_true rfl) ?_
  refine W.eq (g2 := F0 m 4 ls []) rfl ?_
  refine lv_aload_n hx hb dX0_init_4 rfl (lv_at hl 0 rfl) ?_
  refine lv_bipush (v := (16 : Int32)) hx hb dX0_init_5 (by decide) ?_
  refine va_newa (atype := .int) hx hb (hts (.arrayClass .int) (mm 4 rfl)) rfl hK hP hD hS hA (a0 := (16, .inl (fun _ => 0))) (N' := 16) (fun _ => rfl) (by decide) (by decide) (by decide) (Nat.le_of_ble_eq_true rfl) (Nat.le_of_ble_eq_true rfl) dX0_init_7 (fun b0 c9 H hK9 hP hD hS => ?_)
  have hc9 : c9 = cq 2 := uqI 0 hK hK9 rfl
  subst hc9
  have hP : va_P (dC, dI) vwCl [(a, .inr (1, [.int 0, .int 0, .int 0, .int 0, .null, .null, .null])), (b0, .inl (cq 2, 16, .inl (fun _ => 0)))] H := hP
  have hD : va_D A [(a, .inr (1, [.int 0, .int 0, .int 0, .int 0, .null, .null, .null])), (b0, .inl (cq 2, 16, .inl (fun _ => 0)))] := hD
  refine va_putF (D := (dC, dI)) (ci := 1) (v := .ref b0) (ty := .array .int) (C := RX0) (T := TX0) (N := 7) hx hb hts hinX0 tyX0 tyX0_ok nmX0 hown hK hP hD hS 0 rfl rfl 4 (by decide) (hts (.fieldLink RX0 9 "CableTester$Cable" "wires" "[I") (mm 5 rfl)) (fun _ h9 => h9) rfl hni rfl (by decide +kernel) rfl rfl (Nat.le_of_ble_eq_true rfl) dX0_init_9 (fun H locs hP hD hS => ?_)
  have hP : va_P (dC, dI) vwCl [(a, .inr (1, [.int 0, .int 0, .int 0, .int 0, .ref b0, .null, .null])), (b0, .inl (cq 2, 16, .inl (fun _ => 0)))] H := hP
  have hD : va_D A [(a, .inr (1, [.int 0, .int 0, .int 0, .int 0, .ref b0, .null, .null])), (b0, .inl (cq 2, 16, .inl (fun _ => 0)))] := hD
  refine lv_aload_n hx hb dX0_init_12 rfl (lv_at hl 0 rfl) ?_
  refine va_new (ci := 0) (fs := [.int 0, .null, .int 0]) (C := RJx4a65c) (T := TJx4a65c) (N := 3) hx hb hts hinJx4a65c tyJx4a65c tyJx4a65c_ok hown (hts (.classLink RX0 15 RJx4a65c) (mm 6 rfl)) (hts (.instantiable RJx4a65c 3) (mm 7 rfl)) (hts (.initialized RJx4a65c) (mm 8 rfl)) hK hP hD hS hA rfl (fun j hj => by rcases (show j = 0 ∨ j = 1 ∨ j = 2 by omega) with rfl | rfl | rfl <;> rfl) (Nat.le_of_ble_eq_true rfl) (Nat.le_of_ble_eq_true rfl) dX0_init_13 (fun b1 H hP hD hS => ?_)
  have hP : va_P (dC, dI) vwCl [(a, .inr (1, [.int 0, .int 0, .int 0, .int 0, .ref b0, .null, .null])), (b0, .inl (cq 2, 16, .inl (fun _ => 0))), (b1, .inr (0, [.int 0, .null, .int 0]))] H := hP
  have hD : va_D A [(a, .inr (1, [.int 0, .int 0, .int 0, .int 0, .ref b0, .null, .null])), (b0, .inl (cq 2, 16, .inl (fun _ => 0))), (b1, .inr (0, [.int 0, .null, .int 0]))] := hD
  refine lv_dup hx hb dX0_init_16 rfl ?_
  refine caFI_v (wc := [(b1, .inr (0, [.int 0, .null, .int 0]))]) (wr := [(a, .inr (1, [.int 0, .int 0, .int 0, .int 0, .ref b0, .null, .null])), (b0, .inl (cq 2, 16, .inl (fun _ => 0)))]) [2] [0, 1] rfl rfl rfl (by decide) (by decide) (by decide) (As := []) (rest := [.ref b1, .ref a]) (ctJx4a65c_init_da8c8 l dC dI cq q _ h0 b1) F (cwI 0 hts gX0_init_Jx4a65c_init_da8c8 rfl rfl rfl (hts (.initialized RJx4a65c) (mm 8 rfl)) (hts (.methodLink RX0 17 yJx4a65c_init_da8c8) (mm 14 rfl)) (hts (.instanceMethod yJx4a65c_init_da8c8) (mm 15 rfl)) rfl hdJx4a65c_init_da8c8 ⟨Nat.le_of_ble_eq_true rfl, Nat.le_of_ble_eq_true rfl⟩) hK hP hD hDm hS hA EV.blind (fun U hU hW => EV.call hX hS hDm hU hW) rfl hl.1 rfl (Nat.le_of_ble_eq_true rfl) dX0_init_17 ⟨Nat.le_of_ble_eq_true rfl, Nat.le_of_ble_eq_true rfl⟩ (fun H locs u1 _ hP hD hS => ?_)
  have hP : va_P (dC, dI) vwCl [(a, .inr (1, [.int 0, .int 0, .int 0, .int 0, .ref b0, .null, .null])), (b0, .inl (cq 2, 16, .inl (fun _ => 0))), (b1, .inr (0, [.int 0, .ref (q 34), .int 0]))] H := hP
  have hD : va_D A [(a, .inr (1, [.int 0, .int 0, .int 0, .int 0, .ref b0, .null, .null])), (b0, .inl (cq 2, 16, .inl (fun _ => 0))), (b1, .inr (0, [.int 0, .ref (q 34), .int 0]))] := hD
  refine va_putF (D := (dC, dI)) (ci := 1) (v := .ref b1) (ty := .object "java/util/ArrayList") (C := RX0) (T := TX0) (N := 7) hx hb hts hinX0 tyX0 tyX0_ok nmX0 hown hK hP hD hS 0 rfl rfl 5 (by decide) (hts (.fieldLink RX0 18 "CableTester$Cable" "faults" "Ljava/util/ArrayList;") (mm 9 rfl)) (fun _ h9 => h9) rfl hni rfl (by decide +kernel) rfl rfl (Nat.le_of_ble_eq_true rfl) dX0_init_20 (fun H locs hP hD hS => ?_)
  have hP : va_P (dC, dI) vwCl [(a, .inr (1, [.int 0, .int 0, .int 0, .int 0, .ref b0, .ref b1, .null])), (b0, .inl (cq 2, 16, .inl (fun _ => 0))), (b1, .inr (0, [.int 0, .ref (q 34), .int 0]))] H := hP
  have hD : va_D A [(a, .inr (1, [.int 0, .int 0, .int 0, .int 0, .ref b0, .ref b1, .null])), (b0, .inl (cq 2, 16, .inl (fun _ => 0))), (b1, .inr (0, [.int 0, .ref (q 34), .int 0]))] := hD
  refine lv_aload_n hx hb dX0_init_23 rfl (lv_at hl 0 rfl) ?_
  refine va_new (ci := 4) (fs := [.null]) (C := RX3) (T := TX3) (N := 1) hx hb hts hinX3 tyX3 tyX3_ok hown (hts (.classLink RX0 22 RX3) (mm 10 rfl)) (hts (.instantiable RX3 1) (mm 11 rfl)) (hts (.initialized RX3) (mm 12 rfl)) hK hP hD hS hA rfl (fun j hj => by rcases (show j = 0 by omega) with rfl <;> rfl) (Nat.le_of_ble_eq_true rfl) (Nat.le_of_ble_eq_true rfl) dX0_init_24 (fun b2 H hP hD hS => ?_)
  have hP : va_P (dC, dI) vwCl [(a, .inr (1, [.int 0, .int 0, .int 0, .int 0, .ref b0, .ref b1, .null])), (b0, .inl (cq 2, 16, .inl (fun _ => 0))), (b1, .inr (0, [.int 0, .ref (q 34), .int 0])), (b2, .inr (4, [.null]))] H := hP
  have hD : va_D A [(a, .inr (1, [.int 0, .int 0, .int 0, .int 0, .ref b0, .ref b1, .null])), (b0, .inl (cq 2, 16, .inl (fun _ => 0))), (b1, .inr (0, [.int 0, .ref (q 34), .int 0])), (b2, .inr (4, [.null]))] := hD
  refine lv_dup hx hb dX0_init_27 rfl ?_
  refine lv_iconst (v := (4 : Int32)) hx hb dX0_init_28 (by decide) ?_
  refine caFI_v (wc := [(b2, .inr (4, [.null]))]) (wr := [(a, .inr (1, [.int 0, .int 0, .int 0, .int 0, .ref b0, .ref b1, .null])), (b0, .inl (cq 2, 16, .inl (fun _ => 0))), (b1, .inr (0, [.int 0, .ref (q 34), .int 0]))]) [3] [0, 1, 2] rfl rfl rfl (by decide) (by decide) (by decide) (As := [.int (4 : Int32)]) (rest := [.ref b2, .ref a]) (ctX3_init_4 l dC dI cq q _ h0 b2) F (cwI 1 hts gX0_init_X3_init rfl rfl rfl (hts (.initialized RX3) (mm 12 rfl)) (hts (.methodLink RX0 24 yX3_init) (mm 29 rfl)) (hts (.instanceMethod yX3_init) (mm 30 rfl)) rfl hdX3_init ⟨Nat.le_of_ble_eq_true rfl, Nat.le_of_ble_eq_true rfl⟩) hK hP hD hDm hS hA EV.blind (fun U hU hW => EV.call hX hS hDm hU hW) rfl hl.1 rfl (Nat.le_of_ble_eq_true rfl) dX0_init_29 ⟨Nat.le_of_ble_eq_true rfl, Nat.le_of_ble_eq_true rfl⟩ (fun H locs u2 _ hP hD hS => ?_)
  have hP : va_P (dC, dI) vwCl [(a, .inr (1, [.int 0, .int 0, .int 0, .int 0, .ref b0, .ref b1, .null])), (b0, .inl (cq 2, 16, .inl (fun _ => 0))), (b1, .inr (0, [.int 0, .ref (q 34), .int 0])), (b2, .inr (4, [.ref (u2 0)])), ((u2 0), .inl (cq 5, 4, .inl (fun _ => 0)))] H := hP
  have hD : va_D A [(a, .inr (1, [.int 0, .int 0, .int 0, .int 0, .ref b0, .ref b1, .null])), (b0, .inl (cq 2, 16, .inl (fun _ => 0))), (b1, .inr (0, [.int 0, .ref (q 34), .int 0])), (b2, .inr (4, [.ref (u2 0)])), ((u2 0), .inl (cq 5, 4, .inl (fun _ => 0)))] := hD
  refine va_putF (D := (dC, dI)) (ci := 1) (v := .ref b2) (ty := .object "CableTester$Groups") (C := RX0) (T := TX0) (N := 7) hx hb hts hinX0 tyX0 tyX0_ok nmX0 hown hK hP hD hS 0 rfl rfl 6 (by decide) (hts (.fieldLink RX0 27 "CableTester$Cable" "linkedPairs" "LCableTester$Groups;") (mm 13 rfl)) (fun _ h9 => h9) rfl hni rfl (by decide +kernel) rfl rfl (Nat.le_of_ble_eq_true rfl) dX0_init_32 (fun H locs hP hD hS => ?_)
  have hP : va_P (dC, dI) vwCl [(a, .inr (1, [.int 0, .int 0, .int 0, .int 0, .ref b0, .ref b1, .ref b2])), (b0, .inl (cq 2, 16, .inl (fun _ => 0))), (b1, .inr (0, [.int 0, .ref (q 34), .int 0])), (b2, .inr (4, [.ref (u2 0)])), ((u2 0), .inl (cq 5, 4, .inl (fun _ => 0)))] H := hP
  have hD : va_D A [(a, .inr (1, [.int 0, .int 0, .int 0, .int 0, .ref b0, .ref b1, .ref b2])), (b0, .inl (cq 2, 16, .inl (fun _ => 0))), (b1, .inr (0, [.int 0, .ref (q 34), .int 0])), (b2, .inr (4, [.ref (u2 0)])), ((u2 0), .inl (cq 5, 4, .inl (fun _ => 0)))] := hD
  have hP := hP.sub (ws' := [(a, .inr (1, [.int 0, .int 0, .int 0, .int 0, .ref b0, .ref b1, .ref b2])), (b0, .inl (cq 2, 16, .inl (fun _ => 0))), (b1, .inr (0, [.int 0, .ref (q 34), .int 0])), (b2, .inr (4, [.ref (u2 0)])), ((u2 0), .inl (cq 5, 4, .inl (fun _ => 0)))]) [0, 1, 2, 3, 4] rfl
  have hD := hD.sub (ws' := [(a, .inr (1, [.int 0, .int 0, .int 0, .int 0, .ref b0, .ref b1, .ref b2])), (b0, .inl (cq 2, 16, .inl (fun _ => 0))), (b1, .inr (0, [.int 0, .ref (q 34), .int 0])), (b2, .inr (4, [.ref (u2 0)])), ((u2 0), .inl (cq 5, 4, .inl (fun _ => 0)))]) [0, 1, 2, 3, 4] (by decide) rfl
  exact hend _ _ (fun k => match k with | 0 => b0 | 1 => b1 | 2 => b2 | _ => (u2 0)) _ _ trivial hP hD hS dX0_init_35
abbrev rmX5_init : Room := { frames := 2, cells := 6, slots := 71, locals := 61 }
theorem hdX5_init : yX5_init.cls ≠ "java/lang/invoke/MethodHandle" ∧ yX5_init.cls ≠ "java/lang/invoke/VarHandle" ∧ (parseMethodDescriptor yX5_init.desc).map (fun d => d.parameters.length) = some 0 := by decide +kernel
set_option maxRecDepth 100000 in
set_option maxHeartbeats 8000000 in
theorem ctX5_init (l : Launch) (dC : Nat → ClassId) (dI : Nat → Nat → Nat) (cq : Nat → ClassId) (q : Nat → Nat) (sz h0 : Nat) (a : Nat) : Met l yX5_init wsX5_init rmX5_init (PreW (fun a => h0 ≤ a) (EV h0 q) dC dI cq [(a, .inr (6, [.int 0, .int 0, .int 0, .null, .null, .null, .null, .null]))] sz [.ref a]) (va_Qv (fun _ : Nat → Nat => True) (fun u t => BkW dC dI cq (va_A [(a, .inr (6, [.int 0, .int 0, .int 0, .null, .null, .null, .null, .null]))] sz) ((fun u : Nat → Nat => [(a, .inr (6, [.int 0, .int 0, .int 0, .ref (u 0), .ref (u 1), .ref (u 2), .ref (u 4), .ref (u 5)])), ((u 0), .inl (cq 7, 10, .inl (fun _ => 0))), ((u 1), .inl (cq 8, 10, .inl (fun _ => 0))), ((u 2), .inr (4, [.ref (u 3)])), ((u 3), .inl (cq 10, 18, .inl (fun _ => 0))), ((u 4), .inl (cq 11, 16, .inl (fun _ => 0))), ((u 5), .inl (cq 12, 16, .inl (fun _ => 0)))]) u) t) (va_A [(a, .inr (6, [.int 0, .int 0, .int 0, .null, .null, .null, .null, .null]))] sz)) 6 71 (va_A [(a, .inr (6, [.int 0, .int 0, .int 0, .null, .null, .null, .null, .null]))] sz) := by
  refine entW_I (wf := fun u : Nat → Nat => [(a, .inr (6, [.int 0, .int 0, .int 0, .ref (u 0), .ref (u 1), .ref (u 2), .ref (u 4), .ref (u 5)])), ((u 0), .inl (cq 7, 10, .inl (fun _ => 0))), ((u 1), .inl (cq 8, 10, .inl (fun _ => 0))), ((u 2), .inr (4, [.ref (u 3)])), ((u 3), .inl (cq 10, 18, .inl (fun _ => 0))), ((u 4), .inl (cq 11, 16, .inl (fun _ => 0))), ((u 5), .inl (cq 12, 16, .inl (fun _ => 0)))]) (cc := cX5_init) (maxL := 1) (by decide) rfl (Nat.le_of_ble_eq_true rfl) rfl (fun p e s m args below meth c A Q ls F hA hP hK hD hDm hX hS hl hni hend => ?_)
  obtain ⟨hx, hb, hml, hown, hts⟩ := id F
  have hown : s.vm.findClass RX5 = some m.cls := hown
  have F : CallFix p m c cX5_init 1 s args wsX5_init RX5 := F
  have hl : lv_has ls 1 [(0, .ref a)] := hl
  have hinX3 : ∀ w ∈ u_ws RX3 TX3 1, w ∈ wsX5_init := fun w h => List.mem_cons_of_mem _ (List.mem_append_right _ h)
  have hinX5 : ∀ w ∈ u_ws RX5 TX5 8, w ∈ wsX5_init := fun w h => List.mem_cons_of_mem _ (List.mem_append_left _ (List.mem_append_right _ h))
  refine lv_aload_n hx hb dX5_init_0 rfl (lv_at hl 0 rfl) ?_
  refine W.objInit hx hb hown (hts (.methodLink RX5 3 objectInit) (mm 1 rfl)) (hts (.instanceMethod objectInit) (mm 2 rfl)) (hts (.code objectInit ⟨#[0xb1]⟩ 1 none) (mm 3 rfl)) rfl (by rw [hml]; exact hl.1) rfl dX5_init_1 (Nat.le_of_ble_eq_true rfl) (Nat.le_of_ble_eq_true rfl) ?_
  refine W.eq (g2 := F0 m 4 ls []) rfl ?_
  refine lv_aload_n hx hb dX5_init_4 rfl (lv_at hl 0 rfl) ?_
  refine lv_bipush (v := (10 : Int32)) hx hb dX5_init_5 (by decide) ?_
  refine va_newa (atype := .int) hx hb (hts (.arrayClass .int) (mm 4 rfl)) rfl hK hP hD hS hA (a0 := (10, .inl (fun _ => 0))) (N' := 10) (fun _ => rfl) (by decide) (by decide) (by decide) (Nat.le_of_ble_eq_true rfl) (Nat.le_of_ble_eq_true rfl) dX5_init_7 (fun b0 c9 H hK9 hP hD hS => ?_)
  have hc9 : c9 = cq 7 := uqI 2 hK hK9 rfl
  subst hc9
  have hP : va_P (dC, dI) vwCl [(a, .inr (6, [.int 0, .int 0, .int 0, .null, .null, .null, .null, .null])), (b0, .inl (cq 7, 10, .inl (fun _ => 0)))] H := hP
  have hD : va_D A [(a, .inr (6, [.int 0, .int 0, .int 0, .null, .null, .null, .null, .null])), (b0, .inl (cq 7, 10, .inl (fun _ => 0)))] := hD
  refine va_putF (D := (dC, dI)) (ci := 6) (v := .ref b0) (ty := .array .int) (C := RX5) (T := TX5) (N := 8) hx hb hts hinX5 tyX5 tyX5_ok nmX5 hown hK hP hD hS 0 rfl rfl 3 (by decide) (hts (.fieldLink RX5 9 "CableTester$Nets" "cutWires" "[I") (mm 5 rfl)) (fun _ h9 => h9) rfl hni rfl (by decide +kernel) rfl rfl (Nat.le_of_ble_eq_true rfl) dX5_init_9 (fun H locs hP hD hS => ?_)
  have hP : va_P (dC, dI) vwCl [(a, .inr (6, [.int 0, .int 0, .int 0, .ref b0, .null, .null, .null, .null])), (b0, .inl (cq 7, 10, .inl (fun _ => 0)))] H := hP
  have hD : va_D A [(a, .inr (6, [.int 0, .int 0, .int 0, .ref b0, .null, .null, .null, .null])), (b0, .inl (cq 7, 10, .inl (fun _ => 0)))] := hD
  refine lv_aload_n hx hb dX5_init_12 rfl (lv_at hl 0 rfl) ?_
  refine lv_bipush (v := (10 : Int32)) hx hb dX5_init_13 (by decide) ?_
  refine va_newa (atype := .int) hx hb (hts (.arrayClass .int) (mm 4 rfl)) rfl hK hP hD hS hA (a0 := (10, .inl (fun _ => 0))) (N' := 10) (fun _ => rfl) (by decide) (by decide) (by decide) (Nat.le_of_ble_eq_true rfl) (Nat.le_of_ble_eq_true rfl) dX5_init_15 (fun b1 c9 H hK9 hP hD hS => ?_)
  have hc9 : c9 = cq 8 := uqI 3 hK hK9 rfl
  subst hc9
  have hP : va_P (dC, dI) vwCl [(a, .inr (6, [.int 0, .int 0, .int 0, .ref b0, .null, .null, .null, .null])), (b0, .inl (cq 7, 10, .inl (fun _ => 0))), (b1, .inl (cq 8, 10, .inl (fun _ => 0)))] H := hP
  have hD : va_D A [(a, .inr (6, [.int 0, .int 0, .int 0, .ref b0, .null, .null, .null, .null])), (b0, .inl (cq 7, 10, .inl (fun _ => 0))), (b1, .inl (cq 8, 10, .inl (fun _ => 0)))] := hD
  refine va_putF (D := (dC, dI)) (ci := 6) (v := .ref b1) (ty := .array .int) (C := RX5) (T := TX5) (N := 8) hx hb hts hinX5 tyX5 tyX5_ok nmX5 hown hK hP hD hS 0 rfl rfl 4 (by decide) (hts (.fieldLink RX5 15 "CableTester$Nets" "cutPlaces" "[I") (mm 6 rfl)) (fun _ h9 => h9) rfl hni rfl (by decide +kernel) rfl rfl (Nat.le_of_ble_eq_true rfl) dX5_init_17 (fun H locs hP hD hS => ?_)
  have hP : va_P (dC, dI) vwCl [(a, .inr (6, [.int 0, .int 0, .int 0, .ref b0, .ref b1, .null, .null, .null])), (b0, .inl (cq 7, 10, .inl (fun _ => 0))), (b1, .inl (cq 8, 10, .inl (fun _ => 0)))] H := hP
  have hD : va_D A [(a, .inr (6, [.int 0, .int 0, .int 0, .ref b0, .ref b1, .null, .null, .null])), (b0, .inl (cq 7, 10, .inl (fun _ => 0))), (b1, .inl (cq 8, 10, .inl (fun _ => 0)))] := hD
  refine lv_aload_n hx hb dX5_init_20 rfl (lv_at hl 0 rfl) ?_
  refine va_new (ci := 4) (fs := [.null]) (C := RX3) (T := TX3) (N := 1) hx hb hts hinX3 tyX3 tyX3_ok hown (hts (.classLink RX5 18 RX3) (mm 7 rfl)) (hts (.instantiable RX3 1) (mm 8 rfl)) (hts (.initialized RX3) (mm 9 rfl)) hK hP hD hS hA rfl (fun j hj => by rcases (show j = 0 by omega) with rfl <;> rfl) (Nat.le_of_ble_eq_true rfl) (Nat.le_of_ble_eq_true rfl) dX5_init_21 (fun b2 H hP hD hS => ?_)
  have hP : va_P (dC, dI) vwCl [(a, .inr (6, [.int 0, .int 0, .int 0, .ref b0, .ref b1, .null, .null, .null])), (b0, .inl (cq 7, 10, .inl (fun _ => 0))), (b1, .inl (cq 8, 10, .inl (fun _ => 0))), (b2, .inr (4, [.null]))] H := hP
  have hD : va_D A [(a, .inr (6, [.int 0, .int 0, .int 0, .ref b0, .ref b1, .null, .null, .null])), (b0, .inl (cq 7, 10, .inl (fun _ => 0))), (b1, .inl (cq 8, 10, .inl (fun _ => 0))), (b2, .inr (4, [.null]))] := hD
  refine lv_dup hx hb dX5_init_24 rfl ?_
  refine lv_bipush (v := (18 : Int32)) hx hb dX5_init_25 (by decide) ?_
  refine caFI_v (wc := [(b2, .inr (4, [.null]))]) (wr := [(a, .inr (6, [.int 0, .int 0, .int 0, .ref b0, .ref b1, .null, .null, .null])), (b0, .inl (cq 7, 10, .inl (fun _ => 0))), (b1, .inl (cq 8, 10, .inl (fun _ => 0)))]) [3] [0, 1, 2] rfl rfl rfl (by decide) (by decide) (by decide) (As := [.int (18 : Int32)]) (rest := [.ref b2, .ref a]) (ctX3_init_18 l dC dI cq q _ h0 b2) F (cwI 1 hts gX5_init_X3_init rfl rfl rfl (hts (.initialized RX3) (mm 9 rfl)) (hts (.methodLink RX5 20 yX3_init) (mm 13 rfl)) (hts (.instanceMethod yX3_init) (mm 14 rfl)) rfl hdX3_init ⟨Nat.le_of_ble_eq_true rfl, Nat.le_of_ble_eq_true rfl⟩) hK hP hD hDm hS hA EV.blind (fun U hU hW => EV.call hX hS hDm hU hW) rfl hl.1 rfl (Nat.le_of_ble_eq_true rfl) dX5_init_27 ⟨Nat.le_of_ble_eq_true rfl, Nat.le_of_ble_eq_true rfl⟩ (fun H locs u1 _ hP hD hS => ?_)
  have hP : va_P (dC, dI) vwCl [(a, .inr (6, [.int 0, .int 0, .int 0, .ref b0, .ref b1, .null, .null, .null])), (b0, .inl (cq 7, 10, .inl (fun _ => 0))), (b1, .inl (cq 8, 10, .inl (fun _ => 0))), (b2, .inr (4, [.ref (u1 0)])), ((u1 0), .inl (cq 10, 18, .inl (fun _ => 0)))] H := hP
  have hD : va_D A [(a, .inr (6, [.int 0, .int 0, .int 0, .ref b0, .ref b1, .null, .null, .null])), (b0, .inl (cq 7, 10, .inl (fun _ => 0))), (b1, .inl (cq 8, 10, .inl (fun _ => 0))), (b2, .inr (4, [.ref (u1 0)])), ((u1 0), .inl (cq 10, 18, .inl (fun _ => 0)))] := hD
  refine va_putF (D := (dC, dI)) (ci := 6) (v := .ref b2) (ty := .object "CableTester$Groups") (C := RX5) (T := TX5) (N := 8) hx hb hts hinX5 tyX5 tyX5_ok nmX5 hown hK hP hD hS 0 rfl rfl 5 (by decide) (hts (.fieldLink RX5 23 "CableTester$Nets" "pieces" "LCableTester$Groups;") (mm 10 rfl)) (fun _ h9 => h9) rfl hni rfl (by decide +kernel) rfl rfl (Nat.le_of_ble_eq_true rfl) dX5_init_30 (fun H locs hP hD hS => ?_)
  have hP : va_P (dC, dI) vwCl [(a, .inr (6, [.int 0, .int 0, .int 0, .ref b0, .ref b1, .ref b2, .null, .null])), (b0, .inl (cq 7, 10, .inl (fun _ => 0))), (b1, .inl (cq 8, 10, .inl (fun _ => 0))), (b2, .inr (4, [.ref (u1 0)])), ((u1 0), .inl (cq 10, 18, .inl (fun _ => 0)))] H := hP
  have hD : va_D A [(a, .inr (6, [.int 0, .int 0, .int 0, .ref b0, .ref b1, .ref b2, .null, .null])), (b0, .inl (cq 7, 10, .inl (fun _ => 0))), (b1, .inl (cq 8, 10, .inl (fun _ => 0))), (b2, .inr (4, [.ref (u1 0)])), ((u1 0), .inl (cq 10, 18, .inl (fun _ => 0)))] := hD
  refine lv_aload_n hx hb dX5_init_33 rfl (lv_at hl 0 rfl) ?_
  refine lv_bipush (v := (16 : Int32)) hx hb dX5_init_34 (by decide) ?_
  refine va_newa (atype := .int) hx hb (hts (.arrayClass .int) (mm 4 rfl)) rfl hK hP hD hS hA (a0 := (16, .inl (fun _ => 0))) (N' := 16) (fun _ => rfl) (by decide) (by decide) (by decide) (Nat.le_of_ble_eq_true rfl) (Nat.le_of_ble_eq_true rfl) dX5_init_36 (fun b4 c9 H hK9 hP hD hS => ?_)
  have hc9 : c9 = cq 11 := uqI 5 hK hK9 rfl
  subst hc9
  have hP : va_P (dC, dI) vwCl [(a, .inr (6, [.int 0, .int 0, .int 0, .ref b0, .ref b1, .ref b2, .null, .null])), (b0, .inl (cq 7, 10, .inl (fun _ => 0))), (b1, .inl (cq 8, 10, .inl (fun _ => 0))), (b2, .inr (4, [.ref (u1 0)])), ((u1 0), .inl (cq 10, 18, .inl (fun _ => 0))), (b4, .inl (cq 11, 16, .inl (fun _ => 0)))] H := hP
  have hD : va_D A [(a, .inr (6, [.int 0, .int 0, .int 0, .ref b0, .ref b1, .ref b2, .null, .null])), (b0, .inl (cq 7, 10, .inl (fun _ => 0))), (b1, .inl (cq 8, 10, .inl (fun _ => 0))), (b2, .inr (4, [.ref (u1 0)])), ((u1 0), .inl (cq 10, 18, .inl (fun _ => 0))), (b4, .inl (cq 11, 16, .inl (fun _ => 0)))] := hD
  refine va_putF (D := (dC, dI)) (ci := 6) (v := .ref b4) (ty := .array .int) (C := RX5) (T := TX5) (N := 8) hx hb hts hinX5 tyX5 tyX5_ok nmX5 hown hK hP hD hS 0 rfl rfl 6 (by decide) (hts (.fieldLink RX5 27 "CableTester$Nets" "netOf" "[I") (mm 11 rfl)) (fun _ h9 => h9) rfl hni rfl (by decide +kernel) rfl rfl (Nat.le_of_ble_eq_true rfl) dX5_init_38 (fun H locs hP hD hS => ?_)
  have hP : va_P (dC, dI) vwCl [(a, .inr (6, [.int 0, .int 0, .int 0, .ref b0, .ref b1, .ref b2, .ref b4, .null])), (b0, .inl (cq 7, 10, .inl (fun _ => 0))), (b1, .inl (cq 8, 10, .inl (fun _ => 0))), (b2, .inr (4, [.ref (u1 0)])), ((u1 0), .inl (cq 10, 18, .inl (fun _ => 0))), (b4, .inl (cq 11, 16, .inl (fun _ => 0)))] H := hP
  have hD : va_D A [(a, .inr (6, [.int 0, .int 0, .int 0, .ref b0, .ref b1, .ref b2, .ref b4, .null])), (b0, .inl (cq 7, 10, .inl (fun _ => 0))), (b1, .inl (cq 8, 10, .inl (fun _ => 0))), (b2, .inr (4, [.ref (u1 0)])), ((u1 0), .inl (cq 10, 18, .inl (fun _ => 0))), (b4, .inl (cq 11, 16, .inl (fun _ => 0)))] := hD
  refine lv_aload_n hx hb dX5_init_41 rfl (lv_at hl 0 rfl) ?_
  refine lv_bipush (v := (16 : Int32)) hx hb dX5_init_42 (by decide) ?_
  refine va_newa (atype := .int) hx hb (hts (.arrayClass .int) (mm 4 rfl)) rfl hK hP hD hS hA (a0 := (16, .inl (fun _ => 0))) (N' := 16) (fun _ => rfl) (by decide) (by decide) (by decide) (Nat.le_of_ble_eq_true rfl) (Nat.le_of_ble_eq_true rfl) dX5_init_44 (fun b5 c9 H hK9 hP hD hS => ?_)
  have hc9 : c9 = cq 12 := uqI 6 hK hK9 rfl
  subst hc9
  have hP : va_P (dC, dI) vwCl [(a, .inr (6, [.int 0, .int 0, .int 0, .ref b0, .ref b1, .ref b2, .ref b4, .null])), (b0, .inl (cq 7, 10, .inl (fun _ => 0))), (b1, .inl (cq 8, 10, .inl (fun _ => 0))), (b2, .inr (4, [.ref (u1 0)])), ((u1 0), .inl (cq 10, 18, .inl (fun _ => 0))), (b4, .inl (cq 11, 16, .inl (fun _ => 0))), (b5, .inl (cq 12, 16, .inl (fun _ => 0)))] H := hP
  have hD : va_D A [(a, .inr (6, [.int 0, .int 0, .int 0, .ref b0, .ref b1, .ref b2, .ref b4, .null])), (b0, .inl (cq 7, 10, .inl (fun _ => 0))), (b1, .inl (cq 8, 10, .inl (fun _ => 0))), (b2, .inr (4, [.ref (u1 0)])), ((u1 0), .inl (cq 10, 18, .inl (fun _ => 0))), (b4, .inl (cq 11, 16, .inl (fun _ => 0))), (b5, .inl (cq 12, 16, .inl (fun _ => 0)))] := hD
  refine va_putF (D := (dC, dI)) (ci := 6) (v := .ref b5) (ty := .array .int) (C := RX5) (T := TX5) (N := 8) hx hb hts hinX5 tyX5 tyX5_ok nmX5 hown hK hP hD hS 0 rfl rfl 7 (by decide) (hts (.fieldLink RX5 30 "CableTester$Nets" "members" "[I") (mm 12 rfl)) (fun _ h9 => h9) rfl hni rfl (by decide +kernel) rfl rfl (Nat.le_of_ble_eq_true rfl) dX5_init_46 (fun H locs hP hD hS => ?_)
  have hP : va_P (dC, dI) vwCl [(a, .inr (6, [.int 0, .int 0, .int 0, .ref b0, .ref b1, .ref b2, .ref b4, .ref b5])), (b0, .inl (cq 7, 10, .inl (fun _ => 0))), (b1, .inl (cq 8, 10, .inl (fun _ => 0))), (b2, .inr (4, [.ref (u1 0)])), ((u1 0), .inl (cq 10, 18, .inl (fun _ => 0))), (b4, .inl (cq 11, 16, .inl (fun _ => 0))), (b5, .inl (cq 12, 16, .inl (fun _ => 0)))] H := hP
  have hD : va_D A [(a, .inr (6, [.int 0, .int 0, .int 0, .ref b0, .ref b1, .ref b2, .ref b4, .ref b5])), (b0, .inl (cq 7, 10, .inl (fun _ => 0))), (b1, .inl (cq 8, 10, .inl (fun _ => 0))), (b2, .inr (4, [.ref (u1 0)])), ((u1 0), .inl (cq 10, 18, .inl (fun _ => 0))), (b4, .inl (cq 11, 16, .inl (fun _ => 0))), (b5, .inl (cq 12, 16, .inl (fun _ => 0)))] := hD
  have hP := hP.sub (ws' := [(a, .inr (6, [.int 0, .int 0, .int 0, .ref b0, .ref b1, .ref b2, .ref b4, .ref b5])), (b0, .inl (cq 7, 10, .inl (fun _ => 0))), (b1, .inl (cq 8, 10, .inl (fun _ => 0))), (b2, .inr (4, [.ref (u1 0)])), ((u1 0), .inl (cq 10, 18, .inl (fun _ => 0))), (b4, .inl (cq 11, 16, .inl (fun _ => 0))), (b5, .inl (cq 12, 16, .inl (fun _ => 0)))]) [0, 1, 2, 3, 4, 5, 6] rfl
  have hD := hD.sub (ws' := [(a, .inr (6, [.int 0, .int 0, .int 0, .ref b0, .ref b1, .ref b2, .ref b4, .ref b5])), (b0, .inl (cq 7, 10, .inl (fun _ => 0))), (b1, .inl (cq 8, 10, .inl (fun _ => 0))), (b2, .inr (4, [.ref (u1 0)])), ((u1 0), .inl (cq 10, 18, .inl (fun _ => 0))), (b4, .inl (cq 11, 16, .inl (fun _ => 0))), (b5, .inl (cq 12, 16, .inl (fun _ => 0)))]) [0, 1, 2, 3, 4, 5, 6] (by decide) rfl
  exact hend _ _ (fun k => match k with | 0 => b0 | 1 => b1 | 2 => b2 | 3 => (u1 0) | 4 => b4 | _ => b5) _ _ trivial hP hD hS dX5_init_49
