theorem as_33 {l : Launch} {dC : Nat → ClassId} {dI : Nat → Nat → Nat} {cq : Nat → ClassId} {q : Nat → Nat} {S : CS} {M : MS} {o : Nat → Int64} {p : Program} {e : Env} {R : Room} {s : State} {m : MethodId} {args : Array Value} {below : List Frame} {meth : Method} {c : Code} {H : Heap} {locs : List Loc} {cells slots : Nat} {Q : State → Prop} {A : Nat → Prop} {cc : ByteArray} {Ts : List Cond} {pc nL : Nat} {own : String} {ls : Array Slot} {rest : List Value} {i : Int32} {v : Int64} (F : CallFix p m c cc nL s args Ts own) (hK : va_K (dC, dI) vwCl (tyA cq) s) (hP : va_P (dC, dI) vwCl (wA cq q S M o) H) (hD : va_D A (wA cq q S M o)) (hS : va_S A s.heap H locs) (hin : vp_in i 1) (hdg : decode cc pc = .ok (.lastore, 1))
    (kk : ∀ (H1 : Heap) (locs1 : List Loc), va_P (dC, dI) vwCl (wA cq q S M (vp_updL o i.toNatClampNeg v)) H1 → va_D A (wA cq q S M (vp_updL o i.toNatClampNeg v)) → va_S A s.heap H1 locs1 → W p l e R s m args below meth c H1 locs1 cells slots Q (F0 m (pc + 1) ls rest)) :
    W p l e R s m args below meth c H locs cells slots Q (F0 m pc ls (.long v :: .int i :: .ref (q 33) :: rest)) :=
  va_last (D := (dC, dI)) F.1 F.2.1 hK hP hD hS 33 23 rfl rfl hin hdg (fun H1 locs1 hP hD hS => kk H1 locs1 hP hD hS)
theorem entWH_i {l : Launch} {dC : Nat → ClassId} {dI : Nat → Nat → Nat} {cq : Nat → ClassId} {w : va_W} {U : Type} {wf : U → va_W} {post : Int32 → U → Prop} {y : MethodName} {ws ws' : List Cond} {cc : ByteArray} {maxL mc ms : Nat} {rm : Room} {Dm : Nat → Prop} {X : State → Prop} {sz : Nat} {av : List Value} {ty : FieldType} {hh : List (Nat × Nat × Nat × Nat)} (hy : plainName y.cls = true) (hw : ws = Cond.codeWith y cc maxL (some ty) hh :: ws') (hlen : (lg_sl av).length ≤ maxL)
    (body : ∀ (p : Program) (e : Env) (s : State) (m : MethodId) (args : Array Value) (below : List Frame) (meth : Method) (c : Code) (A : Nat → Prop) (Q : State → Prop) (ls : Array Slot), c.exceptionTable.toList = tableOf hh → CallFix p m c cc maxL s args ws y.cls → (∀ a, s.heap.size ≤ a → A a) → va_P (dC, dI) vwCl w s.heap → va_K (dC, dI) vwCl (tyA cq) s → va_D A w → (∀ a, A a → Dm a) → X s → va_S A s.heap s.heap [] → lv_has ls maxL (lv_args 0 av) →
      (∀ (H : Heap) (locs : List Loc) (r : Int32) (u : U) (pc : Nat) (ls : Array Slot), post r u → va_P (dC, dI) vwCl (wf u) H → va_D A (wf u) → va_S A s.heap H locs → decode cc pc = .ok (.ireturn, 1) → narrow ty (.int r) = .int r → W p l e rm s m args below meth c H locs mc ms Q (F0 m pc ls [.int r])) →
      W p l e rm s m args below meth c s.heap [] 0 0 Q (F0 m 0 ls [])) :
    Met l y ws rm (PreW Dm X dC dI cq w sz av) (va_Qi post (fun u t => BkW dC dI cq (va_A w sz) (wf u) t) (va_A w sz)) mc ms (va_A w sz) := by
  refine va_MetW (hh := hh) (cc := cc) (maxL := maxL) (ret := some ty) hy hw ?_
  intro p e s m args below meth c s₁ B hml hv
  obtain ⟨rfl, hsz, hP, hK, hD0, hz0, hX⟩ := hv
  have hx := B.exec
  have hb := B.bytes
  have hr := B.returns
  have hts := atoms_spec (ws := ws) B.pre
  have hown : s.vm.findClass y.cls = some m.cls := findClass_of_methodNamed B.named
  have hlocks := B.notSynchronized
  subst hsz
  have hD := hD0.self (sz := s.heap.size)
  have hA : ∀ a : Nat, s.heap.size ≤ a → va_A w s.heap.size a := fun a h => Or.inr h
  have hl := lv_entry av (n := maxL) hlen
  rw [lg_entry_eq]
  refine body p e s m _ below meth c _ _ _ (vx_table (x := y) B (hts _ (by rw [hw]; exact List.mem_cons_self))) ⟨hx, hb, hml, hown, hts⟩ hA hP hK hD (fun a h => h.elim (fun ⟨k, e, h⟩ => hD0.2 k (a, e) h) (fun h => hz0 a h)) hX va_S.rf hl ?_
  intro H locs r u pc ls hpost hP hD hS hdg hn
  exact W.zret hx hb hr hn (fun t ht hW => ⟨⟨r, u, rfl, hpost, by rw [ht]; exact hP, va_K.moved hW.alike hK, hD⟩, hS.F ht⟩) hS.2.2 hdg
abbrev rmL_begin : Room := { frames := 8, cells := 2, slots := 12, locals := 145 }
def cdL_begin : Nat → Int32 := (fun e => match e with | _ => (1 : Int32))
theorem hdL_begin : yL_begin.cls ≠ "java/lang/invoke/MethodHandle" ∧ yL_begin.cls ≠ "java/lang/invoke/VarHandle" ∧ (parseMethodDescriptor yL_begin.desc).map (fun d => d.parameters.length) = some 4 := by decide +kernel
set_option maxRecDepth 100000 in
set_option maxHeartbeats 8000000 in
theorem ctL_begin (l : Launch) (dC : Nat → ClassId) (dI : Nat → Nat → Nat) (cq : Nat → ClassId) (q : Nat → Nat) (S : CS) (M : MS) (o : Nat → Int64) (sz h0 : Nat) (x1 : Int32) (x2 : Int32)  (post : Int32 → CS → Prop) (px : Nat → CS → Prop) (hM : ∀ sz, CtX_i l yX7_begin wsX7_begin rmX7_begin (fun a => h0 ≤ a) (EV h0 q) dC dI cq (wA cq q S M o) sz [.ref (q 0), .int x1, .int x2] (fun S => wA cq q S M o) post px (2) (12)) (he : ∀ e u, px e u → e = 1) : Met l yL_begin wsL_begin rmL_begin (PreW (fun a => h0 ≤ a) (EV h0 q) dC dI cq (wA cq q S M o) sz [.ref (q 0), .int x1, .int x2, .ref (q 33)]) (va_Qi (fun (r : Int32) (u : CS × (Nat → Int64)) => (r = 0 ∧ ∃ v, post v u.1 ∧ u.2 = vp_updL o (0 : Int32).toNatClampNeg v.toInt64) ∨ (∃ e, px e u.1 ∧ r = cdL_begin e ∧ u.2 = o)) (fun u t => BkW dC dI cq (va_A (wA cq q S M o) sz) (wA cq q u.1 M u.2) t) (va_A (wA cq q S M o) sz)) (2) (12) (va_A (wA cq q S M o) sz) := by
  refine entWH_i (hh := [(0, 10, 13, 13)]) (ty := .int) (wf := fun u : CS × (Nat → Int64) => wA cq q u.1 M u.2) (cc := cL_begin) (maxL := 5) (by decide) rfl (Nat.le_of_ble_eq_true rfl) (fun p e s m args below meth c A Q ls htb F hA hP hK hD hDm hX hS hl hend => ?_)
  obtain ⟨hx, hb, hml, hown, hts⟩ := id F
  have hown : s.vm.findClass RL = some m.cls := hown
  have F : CallFix p m c cL_begin 5 s args wsL_begin RL := F
  have hl : lv_has ls 5 [(0, .ref (q 0)), (1, .int x1), (2, .int x2), (3, .ref (q 33))] := hl
  refine lv_aload_n hx hb dL_begin_0 rfl (lv_at hl 3 rfl) ?_
  refine lv_iconst (v := (0 : Int32)) hx hb dL_begin_1 (by decide) ?_
  refine lv_aload_n hx hb dL_begin_2 rfl (lv_at hl 0 rfl) ?_
  refine lv_iload_n hx hb dL_begin_3 rfl (lv_at hl 1 rfl) ?_
  refine lv_iload_n hx hb dL_begin_4 rfl (lv_at hl 2 rfl) ?_
  refine caXV_i (As := [.int x1, .int x2]) (rest := [.int (0 : Int32), .ref (q 33)]) (hM _) F (cwV 2 hts gL_begin_X7_begin rfl rfl rfl hdX7_begin ⟨Nat.le_of_ble_eq_true rfl, Nat.le_of_ble_eq_true rfl⟩) hK hP hD hDm hS hA EV.blind (fun U hU hW => EV.call hX hS hDm hU hW) (va_recv hK hP (ci := 8) (q0 := 0) rfl rfl) rfl hl.1 rfl (Nat.le_of_ble_eq_true rfl) dL_begin_5 ⟨Nat.le_of_ble_eq_true rfl, Nat.le_of_ble_eq_true rfl⟩ (fun H locs k9 u9 E9 ce9 q9 h9 hP hD hS hce hcv hcl hE => ?_) (fun H locs r9 u9 h9 hP hD hS => ?_)
  · rcases he _ _ h9 with rfl
    · subst hE
      refine vx_catch (name := "java/lang/IllegalArgumentException") hown [] ⟨0, 10, 13, 13⟩ [] (by rw [htb]; rfl) (fun z hz => nomatch hz) (by decide) (by decide) (hts (.classLink RL 13 "java/lang/IllegalArgumentException") (mm 1 rfl)) (va_Nw.use rfl hX.1.2.2.2.2.2.2.2.2.2.2.2.2.2.2.2.2.2.2.2.2.2.1) hce hcv hcl ?_
      refine lv_astore (lv' := [(4, .ref q9), (0, .ref (q 0)), (1, .int x1), (2, .int x2), (3, .ref (q 33))]) hx hb dL_begin_13 hl (by decide) rfl (fun ls hl => ?_)
      refine lv_iconst (v := (1 : Int32)) hx hb dL_begin_15 (by decide) ?_
      exact hend _ _ _ (u9, o) _ _ (Or.inr ⟨1, h9, rfl, rfl⟩) hP hD hS dL_begin_16 rfl
  refine lv_i2l hx hb dL_begin_8 rfl ?_
  refine as_33 F hK hP hD hS (inb_ok (i := 0) (n := 1) (by decide)) dL_begin_9 (fun H locs hP hD hS => ?_)
  refine lv_goto (tgt := 17) hx hb dL_begin_10 (by decide) ?_
  refine lv_iconst (v := (0 : Int32)) hx hb dL_begin_17 (by decide) ?_
  exact hend _ _ _ (u9, vp_updL o (0 : Int32).toNatClampNeg r9.toInt64) _ _ (Or.inl ⟨rfl, r9, h9, rfl⟩) hP hD hS dL_begin_18 rfl
abbrev rmL_exchange : Room := { frames := 9, cells := 4, slots := 24, locals := 165 }
def cdL_exchange : Nat → Int32 := (fun e => match e with | 1 => (1 : Int32) | _ => (2 : Int32))
theorem hdL_exchange : yL_exchange.cls ≠ "java/lang/invoke/MethodHandle" ∧ yL_exchange.cls ≠ "java/lang/invoke/VarHandle" ∧ (parseMethodDescriptor yL_exchange.desc).map (fun d => d.parameters.length) = some 5 := by decide +kernel
set_option maxRecDepth 100000 in
set_option maxHeartbeats 8000000 in
theorem ctL_exchange (l : Launch) (dC : Nat → ClassId) (dI : Nat → Nat → Nat) (cq : Nat → ClassId) (q : Nat → Nat) (S : CS) (M : MS) (o : Nat → Int64) (sz h0 : Nat) (x1 : Int32) (x2 : Int32) (x3 : Int32)  (post : Int32 → CS → Prop) (px : Nat → CS → Prop) (hM : ∀ sz, CtX_i l yX7_exchange wsX7_exchange rmX7_exchange (fun a => h0 ≤ a) (EV h0 q) dC dI cq (wA cq q S M o) sz [.ref (q 0), .int x1, .int x2, .int x3] (fun S => wA cq q S M o) post px (4) (24)) (he : ∀ e u, px e u → e = 1 ∨ e = 2) : Met l yL_exchange wsL_exchange rmL_exchange (PreW (fun a => h0 ≤ a) (EV h0 q) dC dI cq (wA cq q S M o) sz [.ref (q 0), .int x1, .int x2, .int x3, .ref (q 33)]) (va_Qi (fun (r : Int32) (u : CS × (Nat → Int64)) => (r = 0 ∧ ∃ v, post v u.1 ∧ u.2 = vp_updL o (0 : Int32).toNatClampNeg v.toInt64) ∨ (∃ e, px e u.1 ∧ r = cdL_exchange e ∧ u.2 = o)) (fun u t => BkW dC dI cq (va_A (wA cq q S M o) sz) (wA cq q u.1 M u.2) t) (va_A (wA cq q S M o) sz)) (4) (24) (va_A (wA cq q S M o) sz) := by
  refine entWH_i (hh := [(0, 12, 15, 13), (0, 12, 19, 19)]) (ty := .int) (wf := fun u : CS × (Nat → Int64) => wA cq q u.1 M u.2) (cc := cL_exchange) (maxL := 6) (by decide) rfl (Nat.le_of_ble_eq_true rfl) (fun p e s m args below meth c A Q ls htb F hA hP hK hD hDm hX hS hl hend => ?_)
  obtain ⟨hx, hb, hml, hown, hts⟩ := id F
  have hown : s.vm.findClass RL = some m.cls := hown
  have F : CallFix p m c cL_exchange 6 s args wsL_exchange RL := F
  have hl : lv_has ls 6 [(0, .ref (q 0)), (1, .int x1), (2, .int x2), (3, .int x3), (4, .ref (q 33))] := hl
  refine lv_aload hx hb dL_exchange_0 (lv_at hl 4 rfl) ?_
  refine lv_iconst (v := (0 : Int32)) hx hb dL_exchange_2 (by decide) ?_
  refine lv_aload_n hx hb dL_exchange_3 rfl (lv_at hl 0 rfl) ?_
  refine lv_iload_n hx hb dL_exchange_4 rfl (lv_at hl 1 rfl) ?_
  refine lv_iload_n hx hb dL_exchange_5 rfl (lv_at hl 2 rfl) ?_
  refine lv_iload_n hx hb dL_exchange_6 rfl (lv_at hl 3 rfl) ?_
  refine caXV_i (As := [.int x1, .int x2, .int x3]) (rest := [.int (0 : Int32), .ref (q 33)]) (hM _) F (cwV 3 hts gL_exchange_X7_exchange rfl rfl rfl hdX7_exchange ⟨Nat.le_of_ble_eq_true rfl, Nat.le_of_ble_eq_true rfl⟩) hK hP hD hDm hS hA EV.blind (fun U hU hW => EV.call hX hS hDm hU hW) (va_recv hK hP (ci := 8) (q0 := 0) rfl rfl) rfl hl.1 rfl (Nat.le_of_ble_eq_true rfl) dL_exchange_7 ⟨Nat.le_of_ble_eq_true rfl, Nat.le_of_ble_eq_true rfl⟩ (fun H locs k9 u9 E9 ce9 q9 h9 hP hD hS hce hcv hcl hE => ?_) (fun H locs r9 u9 h9 hP hD hS => ?_)
  · rcases he _ _ h9 with rfl | rfl
    · subst hE
      refine vx_catch (name := "java/lang/IllegalArgumentException") hown [] ⟨0, 12, 15, 13⟩ [⟨0, 12, 19, 19⟩] (by rw [htb]; rfl) (fun z hz => nomatch hz) (by decide) (by decide) (hts (.classLink RL 13 "java/lang/IllegalArgumentException") (mm 1 rfl)) (va_Nw.use rfl hX.1.2.2.2.2.2.2.2.2.2.2.2.2.2.2.2.2.2.2.2.2.2.1) hce hcv hcl ?_
      refine lv_astore (lv' := [(5, .ref q9), (0, .ref (q 0)), (1, .int x1), (2, .int x2), (3, .int x3), (4, .ref (q 33))]) hx hb dL_exchange_15 hl (by decide) rfl (fun ls hl => ?_)
      refine lv_iconst (v := (1 : Int32)) hx hb dL_exchange_17 (by decide) ?_
      exact hend _ _ _ (u9, o) _ _ (Or.inr ⟨1, h9, rfl, rfl⟩) hP hD hS dL_exchange_18 rfl
    · subst hE
      refine vx_catch (name := "java/lang/IndexOutOfBoundsException") hown [⟨0, 12, 15, 13⟩] ⟨0, 12, 19, 19⟩ [] (by rw [htb]; rfl) (fun z hz => (List.mem_cons.mp hz).elim (fun e9 => by rw [e9]; exact Or.inr ⟨by decide, _, (hts (.classLink RL 13 "java/lang/IllegalArgumentException") (mm 1 rfl)), hX.2.2.2.2.2.2.2.2.2.2.2.2.2.2.2.2.1⟩) (fun hz => absurd hz List.not_mem_nil)) (by decide) (by decide) (hts (.classLink RL 19 "java/lang/IndexOutOfBoundsException") (mm 2 rfl)) (va_Nw.use rfl hX.1.2.2.2.2.2.2.2.2.2.2.2.2.2.2.2.2.2.2.2.2.2.2.1) hce hcv hcl ?_
      refine lv_astore (lv' := [(5, .ref q9), (0, .ref (q 0)), (1, .int x1), (2, .int x2), (3, .int x3), (4, .ref (q 33))]) hx hb dL_exchange_19 hl (by decide) rfl (fun ls hl => ?_)
      refine lv_iconst (v := (2 : Int32)) hx hb dL_exchange_21 (by decide) ?_
      exact hend _ _ _ (u9, o) _ _ (Or.inr ⟨2, h9, rfl, rfl⟩) hP hD hS dL_exchange_22 rfl
  refine lv_i2l hx hb dL_exchange_10 rfl ?_
  refine as_33 F hK hP hD hS (inb_ok (i := 0) (n := 1) (by decide)) dL_exchange_11 (fun H locs hP hD hS => ?_)
  refine lv_goto (tgt := 23) hx hb dL_exchange_12 (by decide) ?_
  refine lv_iconst (v := (0 : Int32)) hx hb dL_exchange_23 (by decide) ?_
  exact hend _ _ _ (u9, vp_updL o (0 : Int32).toNatClampNeg r9.toInt64) _ _ (Or.inl ⟨rfl, r9, h9, rfl⟩) hP hD hS dL_exchange_24 rfl
abbrev rmL_cut : Room := { frames := 9, cells := 7, slots := 45, locals := 214 }
def cdL_cut : Nat → Int32 := (fun e => match e with | 1 => (2 : Int32) | 2 => (1 : Int32) | _ => (3 : Int32))
theorem hdL_cut : yL_cut.cls ≠ "java/lang/invoke/MethodHandle" ∧ yL_cut.cls ≠ "java/lang/invoke/VarHandle" ∧ (parseMethodDescriptor yL_cut.desc).map (fun d => d.parameters.length) = some 6 := by decide +kernel
set_option maxRecDepth 100000 in
set_option maxHeartbeats 8000000 in
theorem ctL_cut (l : Launch) (dC : Nat → ClassId) (dI : Nat → Nat → Nat) (cq : Nat → ClassId) (q : Nat → Nat) (S : CS) (M : MS) (o : Nat → Int64) (sz h0 : Nat) (x1 : Int32) (x2 : Int32) (x3 : Int32) (x4 : Int32)  (post : Int32 → CS → Prop) (px : Nat → CS → Prop) (hM : ∀ sz, CtX_i l yX7_cut wsX7_cut rmX7_cut (fun a => h0 ≤ a) (EV h0 q) dC dI cq (wA cq q S M o) sz [.ref (q 0), .int x1, .int x2, .int x3, .int x4] (fun S => wA cq q S M o) post px (7) (45)) (he : ∀ e u, px e u → e = 1 ∨ e = 2 ∨ e = 3) : Met l yL_cut wsL_cut rmL_cut (PreW (fun a => h0 ≤ a) (EV h0 q) dC dI cq (wA cq q S M o) sz [.ref (q 0), .int x1, .int x2, .int x3, .int x4, .ref (q 33)]) (va_Qi (fun (r : Int32) (u : CS × (Nat → Int64)) => (r = 0 ∧ ∃ v, post v u.1 ∧ u.2 = vp_updL o (0 : Int32).toNatClampNeg v.toInt64) ∨ (∃ e, px e u.1 ∧ r = cdL_cut e ∧ u.2 = o)) (fun u t => BkW dC dI cq (va_A (wA cq q S M o) sz) (wA cq q u.1 M u.2) t) (va_A (wA cq q S M o) sz)) (7) (45) (va_A (wA cq q S M o) sz) := by
  refine entWH_i (hh := [(0, 14, 17, 19), (0, 14, 21, 13), (0, 14, 25, 25)]) (ty := .int) (wf := fun u : CS × (Nat → Int64) => wA cq q u.1 M u.2) (cc := cL_cut) (maxL := 7) (by decide) rfl (Nat.le_of_ble_eq_true rfl) (fun p e s m args below meth c A Q ls htb F hA hP hK hD hDm hX hS hl hend => ?_)
  obtain ⟨hx, hb, hml, hown, hts⟩ := id F
  have hown : s.vm.findClass RL = some m.cls := hown
  have F : CallFix p m c cL_cut 7 s args wsL_cut RL := F
  have hl : lv_has ls 7 [(0, .ref (q 0)), (1, .int x1), (2, .int x2), (3, .int x3), (4, .int x4), (5, .ref (q 33))] := hl
  refine lv_aload hx hb dL_cut_0 (lv_at hl 5 rfl) ?_
  refine lv_iconst (v := (0 : Int32)) hx hb dL_cut_2 (by decide) ?_
  refine lv_aload_n hx hb dL_cut_3 rfl (lv_at hl 0 rfl) ?_
  refine lv_iload_n hx hb dL_cut_4 rfl (lv_at hl 1 rfl) ?_
  refine lv_iload_n hx hb dL_cut_5 rfl (lv_at hl 2 rfl) ?_
  refine lv_iload_n hx hb dL_cut_6 rfl (lv_at hl 3 rfl) ?_
  refine lv_iload hx hb dL_cut_7 (lv_at hl 4 rfl) ?_
  refine caXV_i (As := [.int x1, .int x2, .int x3, .int x4]) (rest := [.int (0 : Int32), .ref (q 33)]) (hM _) F (cwV 4 hts gL_cut_X7_cut rfl rfl rfl hdX7_cut ⟨Nat.le_of_ble_eq_true rfl, Nat.le_of_ble_eq_true rfl⟩) hK hP hD hDm hS hA EV.blind (fun U hU hW => EV.call hX hS hDm hU hW) (va_recv hK hP (ci := 8) (q0 := 0) rfl rfl) rfl hl.1 rfl (Nat.le_of_ble_eq_true rfl) dL_cut_9 ⟨Nat.le_of_ble_eq_true rfl, Nat.le_of_ble_eq_true rfl⟩ (fun H locs k9 u9 E9 ce9 q9 h9 hP hD hS hce hcv hcl hE => ?_) (fun H locs r9 u9 h9 hP hD hS => ?_)
  · rcases he _ _ h9 with rfl | rfl | rfl
    · subst hE
      refine vx_catch (name := "java/lang/IllegalArgumentException") hown [⟨0, 14, 17, 19⟩] ⟨0, 14, 21, 13⟩ [⟨0, 14, 25, 25⟩] (by rw [htb]; rfl) (fun z hz => (List.mem_cons.mp hz).elim (fun e9 => by rw [e9]; exact Or.inr ⟨by decide, _, (hts (.classLink RL 19 "java/lang/IndexOutOfBoundsException") (mm 1 rfl)), hX.2.2.2.2.2.2.2.2.2.2.2.2.2.2.1⟩) (fun hz => absurd hz List.not_mem_nil)) (by decide) (by decide) (hts (.classLink RL 13 "java/lang/IllegalArgumentException") (mm 2 rfl)) (va_Nw.use rfl hX.1.2.2.2.2.2.2.2.2.2.2.2.2.2.2.2.2.2.2.2.2.2.1) hce hcv hcl ?_
      refine lv_astore (lv' := [(6, .ref q9), (0, .ref (q 0)), (1, .int x1), (2, .int x2), (3, .int x3), (4, .int x4), (5, .ref (q 33))]) hx hb dL_cut_21 hl (by decide) rfl (fun ls hl => ?_)
      refine lv_iconst (v := (2 : Int32)) hx hb dL_cut_23 (by decide) ?_
      exact hend _ _ _ (u9, o) _ _ (Or.inr ⟨1, h9, rfl, rfl⟩) hP hD hS dL_cut_24 rfl
    · subst hE
      refine vx_catch (name := "java/lang/IndexOutOfBoundsException") hown [] ⟨0, 14, 17, 19⟩ [⟨0, 14, 21, 13⟩, ⟨0, 14, 25, 25⟩] (by rw [htb]; rfl) (fun z hz => nomatch hz) (by decide) (by decide) (hts (.classLink RL 19 "java/lang/IndexOutOfBoundsException") (mm 1 rfl)) (va_Nw.use rfl hX.1.2.2.2.2.2.2.2.2.2.2.2.2.2.2.2.2.2.2.2.2.2.2.1) hce hcv hcl ?_
      refine lv_astore (lv' := [(6, .ref q9), (0, .ref (q 0)), (1, .int x1), (2, .int x2), (3, .int x3), (4, .int x4), (5, .ref (q 33))]) hx hb dL_cut_17 hl (by decide) rfl (fun ls hl => ?_)
      refine lv_iconst (v := (1 : Int32)) hx hb dL_cut_19 (by decide) ?_
      exact hend _ _ _ (u9, o) _ _ (Or.inr ⟨2, h9, rfl, rfl⟩) hP hD hS dL_cut_20 rfl
    · subst hE
      refine vx_catch (name := "java/lang/IllegalStateException") hown [⟨0, 14, 17, 19⟩, ⟨0, 14, 21, 13⟩] ⟨0, 14, 25, 25⟩ [] (by rw [htb]; rfl) (fun z hz => (List.mem_cons.mp hz).elim (fun e9 => by rw [e9]; exact Or.inr ⟨by decide, _, (hts (.classLink RL 19 "java/lang/IndexOutOfBoundsException") (mm 1 rfl)), hX.2.2.2.2.2.2.2.2.2.2.2.2.2.2.2.2.2.2.2⟩) (fun hz => (List.mem_cons.mp hz).elim (fun e9 => by rw [e9]; exact Or.inr ⟨by decide, _, (hts (.classLink RL 13 "java/lang/IllegalArgumentException") (mm 2 rfl)), hX.2.2.2.2.2.2.2.2.2.2.2.2.2.2.2.2.2.2.1⟩) (fun hz => absurd hz List.not_mem_nil))) (by decide) (by decide) (hts (.classLink RL 25 "java/lang/IllegalStateException") (mm 3 rfl)) (va_Nw.use rfl hX.1.2.2.2.2.2.2.2.2.2.2.2.2.2.2.2.2.2.2.2.2.2.2.2.1) hce hcv hcl ?_
      refine lv_astore (lv' := [(6, .ref q9), (0, .ref (q 0)), (1, .int x1), (2, .int x2), (3, .int x3), (4, .int x4), (5, .ref (q 33))]) hx hb dL_cut_25 hl (by decide) rfl (fun ls hl => ?_)
      refine lv_iconst (v := (3 : Int32)) hx hb dL_cut_27 (by decide) ?_
      exact hend _ _ _ (u9, o) _ _ (Or.inr ⟨3, h9, rfl, rfl⟩) hP hD hS dL_cut_28 rfl
  refine lv_i2l hx hb dL_cut_12 rfl ?_
  refine as_33 F hK hP hD hS (inb_ok (i := 0) (n := 1) (by decide)) dL_cut_13 (fun H locs hP hD hS => ?_)
  refine lv_goto (tgt := 29) hx hb dL_cut_14 (by decide) ?_
  refine lv_iconst (v := (0 : Int32)) hx hb dL_cut_29 (by decide) ?_
  exact hend _ _ _ (u9, vp_updL o (0 : Int32).toNatClampNeg r9.toInt64) _ _ (Or.inl ⟨rfl, r9, h9, rfl⟩) hP hD hS dL_cut_30 rfl
abbrev rmL_connect : Room := { frames := 9, cells := 9, slots := 57, locals := 215 }
def cdL_connect : Nat → Int32 := (fun e => match e with | 1 => (2 : Int32) | 2 => (1 : Int32) | _ => (3 : Int32))
theorem hdL_connect : yL_connect.cls ≠ "java/lang/invoke/MethodHandle" ∧ yL_connect.cls ≠ "java/lang/invoke/VarHandle" ∧ (parseMethodDescriptor yL_connect.desc).map (fun d => d.parameters.length) = some 7 := by decide +kernel
set_option maxRecDepth 100000 in
set_option maxHeartbeats 8000000 in
theorem ctL_connect (l : Launch) (dC : Nat → ClassId) (dI : Nat → Nat → Nat) (cq : Nat → ClassId) (q : Nat → Nat) (S : CS) (M : MS) (o : Nat → Int64) (sz h0 : Nat) (x1 : Int32) (x2 : Int32) (x3 : Int32) (x4 : Int32) (x5 : Int32)  (post : Int32 → CS → Prop) (px : Nat → CS → Prop) (hM : ∀ sz, CtX_i l yX7_connect wsX7_connect rmX7_connect (fun a => h0 ≤ a) (EV h0 q) dC dI cq (wA cq q S M o) sz [.ref (q 0), .int x1, .int x2, .int x3, .int x4, .int x5] (fun S => wA cq q S M o) post px (9) (57)) (he : ∀ e u, px e u → e = 1 ∨ e = 2 ∨ e = 3) : Met l yL_connect wsL_connect rmL_connect (PreW (fun a => h0 ≤ a) (EV h0 q) dC dI cq (wA cq q S M o) sz [.ref (q 0), .int x1, .int x2, .int x3, .int x4, .int x5, .ref (q 33)]) (va_Qi (fun (r : Int32) (u : CS × (Nat → Int64)) => (r = 0 ∧ ∃ v, post v u.1 ∧ u.2 = vp_updL o (0 : Int32).toNatClampNeg v.toInt64) ∨ (∃ e, px e u.1 ∧ r = cdL_connect e ∧ u.2 = o)) (fun u t => BkW dC dI cq (va_A (wA cq q S M o) sz) (wA cq q u.1 M u.2) t) (va_A (wA cq q S M o) sz)) (9) (57) (va_A (wA cq q S M o) sz) := by
  refine entWH_i (hh := [(0, 16, 19, 19), (0, 16, 23, 13), (0, 16, 27, 25)]) (ty := .int) (wf := fun u : CS × (Nat → Int64) => wA cq q u.1 M u.2) (cc := cL_connect) (maxL := 8) (by decide) rfl (Nat.le_of_ble_eq_true rfl) (fun p e s m args below meth c A Q ls htb F hA hP hK hD hDm hX hS hl hend => ?_)
  obtain ⟨hx, hb, hml, hown, hts⟩ := id F
  have hown : s.vm.findClass RL = some m.cls := hown
  have F : CallFix p m c cL_connect 8 s args wsL_connect RL := F
  have hl : lv_has ls 8 [(0, .ref (q 0)), (1, .int x1), (2, .int x2), (3, .int x3), (4, .int x4), (5, .int x5), (6, .ref (q 33))] := hl
  refine lv_aload hx hb dL_connect_0 (lv_at hl 6 rfl) ?_
  refine lv_iconst (v := (0 : Int32)) hx hb dL_connect_2 (by decide) ?_
  refine lv_aload_n hx hb dL_connect_3 rfl (lv_at hl 0 rfl) ?_
  refine lv_iload_n hx hb dL_connect_4 rfl (lv_at hl 1 rfl) ?_
  refine lv_iload_n hx hb dL_connect_5 rfl (lv_at hl 2 rfl) ?_
  refine lv_iload_n hx hb dL_connect_6 rfl (lv_at hl 3 rfl) ?_
  refine lv_iload hx hb dL_connect_7 (lv_at hl 4 rfl) ?_
  refine lv_iload hx hb dL_connect_9 (lv_at hl 5 rfl) ?_
  refine caXV_i (As := [.int x1, .int x2, .int x3, .int x4, .int x5]) (rest := [.int (0 : Int32), .ref (q 33)]) (hM _) F (cwV 5 hts gL_connect_X7_connect rfl rfl rfl hdX7_connect ⟨Nat.le_of_ble_eq_true rfl, Nat.le_of_ble_eq_true rfl⟩) hK hP hD hDm hS hA EV.blind (fun U hU hW => EV.call hX hS hDm hU hW) (va_recv hK hP (ci := 8) (q0 := 0) rfl rfl) rfl hl.1 rfl (Nat.le_of_ble_eq_true rfl) dL_connect_11 ⟨Nat.le_of_ble_eq_true rfl, Nat.le_of_ble_eq_true rfl⟩ (fun H locs k9 u9 E9 ce9 q9 h9 hP hD hS hce hcv hcl hE => ?_) (fun H locs r9 u9 h9 hP hD hS => ?_)
  · rcases he _ _ h9 with rfl | rfl | rfl
    · subst hE
      refine vx_catch (name := "java/lang/IllegalArgumentException") hown [⟨0, 16, 19, 19⟩] ⟨0, 16, 23, 13⟩ [⟨0, 16, 27, 25⟩] (by rw [htb]; rfl) (fun z hz => (List.mem_cons.mp hz).elim (fun e9 => by rw [e9]; exact Or.inr ⟨by decide, _, (hts (.classLink RL 19 "java/lang/IndexOutOfBoundsException") (mm 1 rfl)), hX.2.2.2.2.2.2.2.2.2.2.2.2.2.2.1⟩) (fun hz => absurd hz List.not_mem_nil)) (by decide) (by decide) (hts (.classLink RL 13 "java/lang/IllegalArgumentException") (mm 2 rfl)) (va_Nw.use rfl hX.1.2.2.2.2.2.2.2.2.2.2.2.2.2.2.2.2.2.2.2.2.2.1) hce hcv hcl ?_
      refine lv_astore (lv' := [(7, .ref q9), (0, .ref (q 0)), (1, .int x1), (2, .int x2), (3, .int x3), (4, .int x4), (5, .int x5), (6, .ref (q 33))]) hx hb dL_connect_23 hl (by decide) rfl (fun ls hl => ?_)
      refine lv_iconst (v := (2 : Int32)) hx hb dL_connect_25 (by decide) ?_
      exact hend _ _ _ (u9, o) _ _ (Or.inr ⟨1, h9, rfl, rfl⟩) hP hD hS dL_connect_26 rfl
    · subst hE
      refine vx_catch (name := "java/lang/IndexOutOfBoundsException") hown [] ⟨0, 16, 19, 19⟩ [⟨0, 16, 23, 13⟩, ⟨0, 16, 27, 25⟩] (by rw [htb]; rfl) (fun z hz => nomatch hz) (by decide) (by decide) (hts (.classLink RL 19 "java/lang/IndexOutOfBoundsException") (mm 1 rfl)) (va_Nw.use rfl hX.1.2.2.2.2.2.2.2.2.2.2.2.2.2.2.2.2.2.2.2.2.2.2.1) hce hcv hcl ?_
      refine lv_astore (lv' := [(7, .ref q9), (0, .ref (q 0)), (1, .int x1), (2, .int x2), (3, .int x3), (4, .int x4), (5, .int x5), (6, .ref (q 33))]) hx hb dL_connect_19 hl (by decide) rfl (fun ls hl => ?_)
      refine lv_iconst (v := (1 : Int32)) hx hb dL_connect_21 (by decide) ?_
      exact hend _ _ _ (u9, o) _ _ (Or.inr ⟨2, h9, rfl, rfl⟩) hP hD hS dL_connect_22 rfl
    · subst hE
      refine vx_catch (name := "java/lang/IllegalStateException") hown [⟨0, 16, 19, 19⟩, ⟨0, 16, 23, 13⟩] ⟨0, 16, 27, 25⟩ [] (by rw [htb]; rfl) (fun z hz => (List.mem_cons.mp hz).elim (fun e9 => by rw [e9]; exact Or.inr ⟨by decide, _, (hts (.classLink RL 19 "java/lang/IndexOutOfBoundsException") (mm 1 rfl)), hX.2.2.2.2.2.2.2.2.2.2.2.2.2.2.2.2.2.2.2⟩) (fun hz => (List.mem_cons.mp hz).elim (fun e9 => by rw [e9]; exact Or.inr ⟨by decide, _, (hts (.classLink RL 13 "java/lang/IllegalArgumentException") (mm 2 rfl)), hX.2.2.2.2.2.2.2.2.2.2.2.2.2.2.2.2.2.2.1⟩) (fun hz => absurd hz List.not_mem_nil))) (by decide) (by decide) (hts (.classLink RL 25 "java/lang/IllegalStateException") (mm 3 rfl)) (va_Nw.use rfl hX.1.2.2.2.2.2.2.2.2.2.2.2.2.2.2.2.2.2.2.2.2.2.2.2.1) hce hcv hcl ?_
      refine lv_astore (lv' := [(7, .ref q9), (0, .ref (q 0)), (1, .int x1), (2, .int x2), (3, .int x3), (4, .int x4), (5, .int x5), (6, .ref (q 33))]) hx hb dL_connect_27 hl (by decide) rfl (fun ls hl => ?_)
      refine lv_iconst (v := (3 : Int32)) hx hb dL_connect_29 (by decide) ?_
      exact hend _ _ _ (u9, o) _ _ (Or.inr ⟨3, h9, rfl, rfl⟩) hP hD hS dL_connect_30 rfl
  refine lv_i2l hx hb dL_connect_14 rfl ?_
  refine as_33 F hK hP hD hS (inb_ok (i := 0) (n := 1) (by decide)) dL_connect_15 (fun H locs hP hD hS => ?_)
  refine lv_goto (tgt := 31) hx hb dL_connect_16 (by decide) ?_
  refine lv_iconst (v := (0 : Int32)) hx hb dL_connect_31 (by decide) ?_
  exact hend _ _ _ (u9, vp_updL o (0 : Int32).toNatClampNeg r9.toInt64) _ _ (Or.inl ⟨rfl, r9, h9, rfl⟩) hP hD hS dL_connect_32 rfl
abbrev rmL_repair : Room := { frames := 8, cells := 1, slots := 6, locals := 221 }
def cdL_repair : Nat → Int32 := (fun e => match e with | _ => (1 : Int32))
theorem hdL_repair : yL_repair.cls ≠ "java/lang/invoke/MethodHandle" ∧ yL_repair.cls ≠ "java/lang/invoke/VarHandle" ∧ (parseMethodDescriptor yL_repair.desc).map (fun d => d.parameters.length) = some 3 := by decide +kernel
set_option maxRecDepth 100000 in
set_option maxHeartbeats 8000000 in
theorem ctL_repair (l : Launch) (dC : Nat → ClassId) (dI : Nat → Nat → Nat) (cq : Nat → ClassId) (q : Nat → Nat) (S : CS) (M : MS) (o : Nat → Int64) (sz h0 : Nat) (x1 : Int32)  (post : Int32 → CS → Prop) (px : Nat → CS → Prop) (hM : ∀ sz, CtX_i l yX7_repair wsX7_repair rmX7_repair (fun a => h0 ≤ a) (EV h0 q) dC dI cq (wA cq q S M o) sz [.ref (q 0), .int x1] (fun S => wA cq q S M o) post px (1) (6)) (he : ∀ e u, px e u → e = 2) : Met l yL_repair wsL_repair rmL_repair (PreW (fun a => h0 ≤ a) (EV h0 q) dC dI cq (wA cq q S M o) sz [.ref (q 0), .int x1, .ref (q 33)]) (va_Qi (fun (r : Int32) (u : CS × (Nat → Int64)) => (r = 0 ∧ ∃ v, post v u.1 ∧ u.2 = vp_updL o (0 : Int32).toNatClampNeg v.toInt64) ∨ (∃ e, px e u.1 ∧ r = cdL_repair e ∧ u.2 = o)) (fun u t => BkW dC dI cq (va_A (wA cq q S M o) sz) (wA cq q u.1 M u.2) t) (va_A (wA cq q S M o) sz)) (1) (6) (va_A (wA cq q S M o) sz) := by
  refine entWH_i (hh := [(0, 9, 12, 19)]) (ty := .int) (wf := fun u : CS × (Nat → Int64) => wA cq q u.1 M u.2) (cc := cL_repair) (maxL := 4) (by decide) rfl (Nat.le_of_ble_eq_true rfl) (fun p e s m args below meth c A Q ls htb F hA hP hK hD hDm hX hS hl hend => ?_)
  obtain ⟨hx, hb, hml, hown, hts⟩ := id F
  have hown : s.vm.findClass RL = some m.cls := hown
  have F : CallFix p m c cL_repair 4 s args wsL_repair RL := F
  have hl : lv_has ls 4 [(0, .ref (q 0)), (1, .int x1), (2, .ref (q 33))] := hl
  refine lv_aload_n hx hb dL_repair_0 rfl (lv_at hl 2 rfl) ?_
  refine lv_iconst (v := (0 : Int32)) hx hb dL_repair_1 (by decide) ?_
  refine lv_aload_n hx hb dL_repair_2 rfl (lv_at hl 0 rfl) ?_
  refine lv_iload_n hx hb dL_repair_3 rfl (lv_at hl 1 rfl) ?_
  refine caXV_i (As := [.int x1]) (rest := [.int (0 : Int32), .ref (q 33)]) (hM _) F (cwV 1 hts gL_repair_X7_repair rfl rfl rfl hdX7_repair ⟨Nat.le_of_ble_eq_true rfl, Nat.le_of_ble_eq_true rfl⟩) hK hP hD hDm hS hA EV.blind (fun U hU hW => EV.call hX hS hDm hU hW) (va_recv hK hP (ci := 8) (q0 := 0) rfl rfl) rfl hl.1 rfl (Nat.le_of_ble_eq_true rfl) dL_repair_4 ⟨Nat.le_of_ble_eq_true rfl, Nat.le_of_ble_eq_true rfl⟩ (fun H locs k9 u9 E9 ce9 q9 h9 hP hD hS hce hcv hcl hE => ?_) (fun H locs r9 u9 h9 hP hD hS => ?_)
  · rcases he _ _ h9 with rfl
    · subst hE
      refine vx_catch (name := "java/lang/IndexOutOfBoundsException") hown [] ⟨0, 9, 12, 19⟩ [] (by rw [htb]; rfl) (fun z hz => nomatch hz) (by decide) (by decide) (hts (.classLink RL 19 "java/lang/IndexOutOfBoundsException") (mm 1 rfl)) (va_Nw.use rfl hX.1.2.2.2.2.2.2.2.2.2.2.2.2.2.2.2.2.2.2.2.2.2.2.1) hce hcv hcl ?_
      refine lv_astore_n (lv' := [(3, .ref q9), (0, .ref (q 0)), (1, .int x1), (2, .ref (q 33))]) hx hb dL_repair_12 rfl hl (by decide) rfl (fun ls hl => ?_)
      refine lv_iconst (v := (1 : Int32)) hx hb dL_repair_13 (by decide) ?_
      exact hend _ _ _ (u9, o) _ _ (Or.inr ⟨2, h9, rfl, rfl⟩) hP hD hS dL_repair_14 rfl
  refine lv_i2l hx hb dL_repair_7 rfl ?_
  refine as_33 F hK hP hD hS (inb_ok (i := 0) (n := 1) (by decide)) dL_repair_8 (fun H locs hP hD hS => ?_)
  refine lv_goto (tgt := 15) hx hb dL_repair_9 (by decide) ?_
  refine lv_iconst (v := (0 : Int32)) hx hb dL_repair_15 (by decide) ?_
  exact hend _ _ _ (u9, vp_updL o (0 : Int32).toNatClampNeg r9.toInt64) _ _ (Or.inl ⟨rfl, r9, h9, rfl⟩) hP hD hS dL_repair_16 rfl
abbrev rmL_plug : Room := { frames := 8, cells := 1, slots := 6, locals := 144 }
def cdL_plug : Nat → Int32 := (fun e => match e with | _ => (1 : Int32))
theorem hdL_plug : yL_plug.cls ≠ "java/lang/invoke/MethodHandle" ∧ yL_plug.cls ≠ "java/lang/invoke/VarHandle" ∧ (parseMethodDescriptor yL_plug.desc).map (fun d => d.parameters.length) = some 3 := by decide +kernel
set_option maxRecDepth 100000 in
set_option maxHeartbeats 8000000 in
theorem ctL_plug (l : Launch) (dC : Nat → ClassId) (dI : Nat → Nat → Nat) (cq : Nat → ClassId) (q : Nat → Nat) (S : CS) (M : MS) (o : Nat → Int64) (sz h0 : Nat) (x1 : Int32)  (post : Int32 → CS → Prop) (px : Nat → CS → Prop) (hM : ∀ sz, CtX_i l yX7_plug wsX7_plug rmX7_plug (fun a => h0 ≤ a) (EV h0 q) dC dI cq (wA cq q S M o) sz [.ref (q 0), .int x1] (fun S => wA cq q S M o) post px (1) (6)) (he : ∀ e u, px e u → e = 1) : Met l yL_plug wsL_plug rmL_plug (PreW (fun a => h0 ≤ a) (EV h0 q) dC dI cq (wA cq q S M o) sz [.ref (q 0), .int x1, .ref (q 33)]) (va_Qi (fun (r : Int32) (u : CS × (Nat → Int64)) => (r = 0 ∧ ∃ v, post v u.1 ∧ u.2 = vp_updL o (0 : Int32).toNatClampNeg v.toInt64) ∨ (∃ e, px e u.1 ∧ r = cdL_plug e ∧ u.2 = o)) (fun u t => BkW dC dI cq (va_A (wA cq q S M o) sz) (wA cq q u.1 M u.2) t) (va_A (wA cq q S M o) sz)) (1) (6) (va_A (wA cq q S M o) sz) := by
  refine entWH_i (hh := [(0, 9, 12, 13)]) (ty := .int) (wf := fun u : CS × (Nat → Int64) => wA cq q u.1 M u.2) (cc := cL_plug) (maxL := 4) (by decide) rfl (Nat.le_of_ble_eq_true rfl) (fun p e s m args below meth c A Q ls htb F hA hP hK hD hDm hX hS hl hend => ?_)
  obtain ⟨hx, hb, hml, hown, hts⟩ := id F
  have hown : s.vm.findClass RL = some m.cls := hown
  have F : CallFix p m c cL_plug 4 s args wsL_plug RL := F
  have hl : lv_has ls 4 [(0, .ref (q 0)), (1, .int x1), (2, .ref (q 33))] := hl
  refine lv_aload_n hx hb dL_plug_0 rfl (lv_at hl 2 rfl) ?_
  refine lv_iconst (v := (0 : Int32)) hx hb dL_plug_1 (by decide) ?_
  refine lv_aload_n hx hb dL_plug_2 rfl (lv_at hl 0 rfl) ?_
  refine lv_iload_n hx hb dL_plug_3 rfl (lv_at hl 1 rfl) ?_
  refine caXV_i (As := [.int x1]) (rest := [.int (0 : Int32), .ref (q 33)]) (hM _) F (cwV 1 hts gL_plug_X7_plug rfl rfl rfl hdX7_plug ⟨Nat.le_of_ble_eq_true rfl, Nat.le_of_ble_eq_true rfl⟩) hK hP hD hDm hS hA EV.blind (fun U hU hW => EV.call hX hS hDm hU hW) (va_recv hK hP (ci := 8) (q0 := 0) rfl rfl) rfl hl.1 rfl (Nat.le_of_ble_eq_true rfl) dL_plug_4 ⟨Nat.le_of_ble_eq_true rfl, Nat.le_of_ble_eq_true rfl⟩ (fun H locs k9 u9 E9 ce9 q9 h9 hP hD hS hce hcv hcl hE => ?_) (fun H locs r9 u9 h9 hP hD hS => ?_)
  · rcases he _ _ h9 with rfl
    · subst hE
      refine vx_catch (name := "java/lang/IllegalArgumentException") hown [] ⟨0, 9, 12, 13⟩ [] (by rw [htb]; rfl) (fun z hz => nomatch hz) (by decide) (by decide) (hts (.classLink RL 13 "java/lang/IllegalArgumentException") (mm 1 rfl)) (va_Nw.use rfl hX.1.2.2.2.2.2.2.2.2.2.2.2.2.2.2.2.2.2.2.2.2.2.1) hce hcv hcl ?_
      refine lv_astore_n (lv' := [(3, .ref q9), (0, .ref (q 0)), (1, .int x1), (2, .ref (q 33))]) hx hb dL_plug_12 rfl hl (by decide) rfl (fun ls hl => ?_)
      refine lv_iconst (v := (1 : Int32)) hx hb dL_plug_13 (by decide) ?_
      exact hend _ _ _ (u9, o) _ _ (Or.inr ⟨1, h9, rfl, rfl⟩) hP hD hS dL_plug_14 rfl
  refine lv_i2l hx hb dL_plug_7 rfl ?_
  refine as_33 F hK hP hD hS (inb_ok (i := 0) (n := 1) (by decide)) dL_plug_8 (fun H locs hP hD hS => ?_)
  refine lv_goto (tgt := 15) hx hb dL_plug_9 (by decide) ?_
  refine lv_iconst (v := (0 : Int32)) hx hb dL_plug_15 (by decide) ?_
  exact hend _ _ _ (u9, vp_updL o (0 : Int32).toNatClampNeg r9.toInt64) _ _ (Or.inl ⟨rfl, r9, h9, rfl⟩) hP hD hS dL_plug_16 rfl
abbrev rmL_pass : Room := { frames := 8, cells := 2, slots := 12, locals := 154 }
def cdL_pass : Nat → Int32 := (fun e => match e with | 1 => (1 : Int32) | _ => (2 : Int32))
theorem hdL_pass : yL_pass.cls ≠ "java/lang/invoke/MethodHandle" ∧ yL_pass.cls ≠ "java/lang/invoke/VarHandle" ∧ (parseMethodDescriptor yL_pass.desc).map (fun d => d.parameters.length) = some 3 := by decide +kernel
set_option maxRecDepth 100000 in
set_option maxHeartbeats 8000000 in
theorem ctL_pass (l : Launch) (dC : Nat → ClassId) (dI : Nat → Nat → Nat) (cq : Nat → ClassId) (q : Nat → Nat) (S : CS) (M : MS) (o : Nat → Int64) (sz h0 : Nat) (x1 : Int32)  (post : Int32 → CS → Prop) (px : Nat → CS → Prop) (hM : ∀ sz, CtX_i l yX7_pass wsX7_pass rmX7_pass (fun a => h0 ≤ a) (EV h0 q) dC dI cq (wA cq q S M o) sz [.ref (q 0), .int x1] (fun S => wA cq q S M o) post px (2) (12)) (he : ∀ e u, px e u → e = 1 ∨ e = 3) : Met l yL_pass wsL_pass rmL_pass (PreW (fun a => h0 ≤ a) (EV h0 q) dC dI cq (wA cq q S M o) sz [.ref (q 0), .int x1, .ref (q 33)]) (va_Qi (fun (r : Int32) (u : CS × (Nat → Int64)) => (r = 0 ∧ ∃ v, post v u.1 ∧ u.2 = vp_updL o (0 : Int32).toNatClampNeg v.toInt64) ∨ (∃ e, px e u.1 ∧ r = cdL_pass e ∧ u.2 = o)) (fun u t => BkW dC dI cq (va_A (wA cq q S M o) sz) (wA cq q u.1 M u.2) t) (va_A (wA cq q S M o) sz)) (2) (12) (va_A (wA cq q S M o) sz) := by
  refine entWH_i (hh := [(0, 9, 12, 13), (0, 9, 15, 25)]) (ty := .int) (wf := fun u : CS × (Nat → Int64) => wA cq q u.1 M u.2) (cc := cL_pass) (maxL := 4) (by decide) rfl (Nat.le_of_ble_eq_true rfl) (fun p e s m args below meth c A Q ls htb F hA hP hK hD hDm hX hS hl hend => ?_)
  obtain ⟨hx, hb, hml, hown, hts⟩ := id F
  have hown : s.vm.findClass RL = some m.cls := hown
  have F : CallFix p m c cL_pass 4 s args wsL_pass RL := F
  have hl : lv_has ls 4 [(0, .ref (q 0)), (1, .int x1), (2, .ref (q 33))] := hl
  refine lv_aload_n hx hb dL_pass_0 rfl (lv_at hl 2 rfl) ?_
  refine lv_iconst (v := (0 : Int32)) hx hb dL_pass_1 (by decide) ?_
  refine lv_aload_n hx hb dL_pass_2 rfl (lv_at hl 0 rfl) ?_
  refine lv_iload_n hx hb dL_pass_3 rfl (lv_at hl 1 rfl) ?_
  refine caXV_i (As := [.int x1]) (rest := [.int (0 : Int32), .ref (q 33)]) (hM _) F (cwV 1 hts gL_pass_X7_pass rfl rfl rfl hdX7_pass ⟨Nat.le_of_ble_eq_true rfl, Nat.le_of_ble_eq_true rfl⟩) hK hP hD hDm hS hA EV.blind (fun U hU hW => EV.call hX hS hDm hU hW) (va_recv hK hP (ci := 8) (q0 := 0) rfl rfl) rfl hl.1 rfl (Nat.le_of_ble_eq_true rfl) dL_pass_4 ⟨Nat.le_of_ble_eq_true rfl, Nat.le_of_ble_eq_true rfl⟩ (fun H locs k9 u9 E9 ce9 q9 h9 hP hD hS hce hcv hcl hE => ?_) (fun H locs r9 u9 h9 hP hD hS => ?_)
  · rcases he _ _ h9 with rfl | rfl
    · subst hE
      refine vx_catch (name := "java/lang/IllegalArgumentException") hown [] ⟨0, 9, 12, 13⟩ [⟨0, 9, 15, 25⟩] (by rw [htb]; rfl) (fun z hz => nomatch hz) (by decide) (by decide) (hts (.classLink RL 13 "java/lang/IllegalArgumentException") (mm 1 rfl)) (va_Nw.use rfl hX.1.2.2.2.2.2.2.2.2.2.2.2.2.2.2.2.2.2.2.2.2.2.1) hce hcv hcl ?_
      refine lv_astore_n (lv' := [(3, .ref q9), (0, .ref (q 0)), (1, .int x1), (2, .ref (q 33))]) hx hb dL_pass_12 rfl hl (by decide) rfl (fun ls hl => ?_)
      refine lv_iconst (v := (1 : Int32)) hx hb dL_pass_13 (by decide) ?_
      exact hend _ _ _ (u9, o) _ _ (Or.inr ⟨1, h9, rfl, rfl⟩) hP hD hS dL_pass_14 rfl
    · subst hE
      refine vx_catch (name := "java/lang/IllegalStateException") hown [⟨0, 9, 12, 13⟩] ⟨0, 9, 15, 25⟩ [] (by rw [htb]; rfl) (fun z hz => (List.mem_cons.mp hz).elim (fun e9 => by rw [e9]; exact Or.inr ⟨by decide, _, (hts (.classLink RL 13 "java/lang/IllegalArgumentException") (mm 1 rfl)), hX.2.2.2.2.2.2.2.2.2.2.2.2.2.2.2.2.2.2.1⟩) (fun hz => absurd hz List.not_mem_nil)) (by decide) (by decide) (hts (.classLink RL 25 "java/lang/IllegalStateException") (mm 2 rfl)) (va_Nw.use rfl hX.1.2.2.2.2.2.2.2.2.2.2.2.2.2.2.2.2.2.2.2.2.2.2.2.1) hce hcv hcl ?_
      refine lv_astore_n (lv' := [(3, .ref q9), (0, .ref (q 0)), (1, .int x1), (2, .ref (q 33))]) hx hb dL_pass_15 rfl hl (by decide) rfl (fun ls hl => ?_)
      refine lv_iconst (v := (2 : Int32)) hx hb dL_pass_16 (by decide) ?_
      exact hend _ _ _ (u9, o) _ _ (Or.inr ⟨3, h9, rfl, rfl⟩) hP hD hS dL_pass_17 rfl
  refine lv_i2l hx hb dL_pass_7 rfl ?_
  refine as_33 F hK hP hD hS (inb_ok (i := 0) (n := 1) (by decide)) dL_pass_8 (fun H locs hP hD hS => ?_)
  refine lv_goto (tgt := 18) hx hb dL_pass_9 (by decide) ?_
  refine lv_iconst (v := (0 : Int32)) hx hb dL_pass_18 (by decide) ?_
  exact hend _ _ _ (u9, vp_updL o (0 : Int32).toNatClampNeg r9.toInt64) _ _ (Or.inl ⟨rfl, r9, h9, rfl⟩) hP hD hS dL_pass_19 rfl
abbrev rmL_append : Room := { frames := 8, cells := 2, slots := 12, locals := 143 }
def cdL_append : Nat → Int32 := (fun e => match e with | 1 => (1 : Int32) | _ => (2 : Int32))
theorem hdL_append : yL_append.cls ≠ "java/lang/invoke/MethodHandle" ∧ yL_append.cls ≠ "java/lang/invoke/VarHandle" ∧ (parseMethodDescriptor yL_append.desc).map (fun d => d.parameters.length) = some 3 := by decide +kernel
set_option maxRecDepth 100000 in
set_option maxHeartbeats 8000000 in
theorem ctL_append (l : Launch) (dC : Nat → ClassId) (dI : Nat → Nat → Nat) (cq : Nat → ClassId) (q : Nat → Nat) (S : CS) (M : MS) (o : Nat → Int64) (sz h0 : Nat) (x1 : Int32)  (post : Int32 → CS → Prop) (px : Nat → CS → Prop) (hM : ∀ sz, CtX_i l yX7_append wsX7_append rmX7_append (fun a => h0 ≤ a) (EV h0 q) dC dI cq (wA cq q S M o) sz [.ref (q 0), .int x1] (fun S => wA cq q S M o) post px (2) (12)) (he : ∀ e u, px e u → e = 1 ∨ e = 3) : Met l yL_append wsL_append rmL_append (PreW (fun a => h0 ≤ a) (EV h0 q) dC dI cq (wA cq q S M o) sz [.ref (q 0), .int x1, .ref (q 33)]) (va_Qi (fun (r : Int32) (u : CS × (Nat → Int64)) => (r = 0 ∧ ∃ v, post v u.1 ∧ u.2 = vp_updL o (0 : Int32).toNatClampNeg v.toInt64) ∨ (∃ e, px e u.1 ∧ r = cdL_append e ∧ u.2 = o)) (fun u t => BkW dC dI cq (va_A (wA cq q S M o) sz) (wA cq q u.1 M u.2) t) (va_A (wA cq q S M o) sz)) (2) (12) (va_A (wA cq q S M o) sz) := by
  refine entWH_i (hh := [(0, 9, 12, 13), (0, 9, 15, 25)]) (ty := .int) (wf := fun u : CS × (Nat → Int64) => wA cq q u.1 M u.2) (cc := cL_append) (maxL := 4) (by decide) rfl (Nat.le_of_ble_eq_true rfl) (fun p e s m args below meth c A Q ls htb F hA hP hK hD hDm hX hS hl hend => ?_)
  obtain ⟨hx, hb, hml, hown, hts⟩ := id F
  have hown : s.vm.findClass RL = some m.cls := hown
  have F : CallFix p m c cL_append 4 s args wsL_append RL := F
  have hl : lv_has ls 4 [(0, .ref (q 0)), (1, .int x1), (2, .ref (q 33))] := hl
  refine lv_aload_n hx hb dL_append_0 rfl (lv_at hl 2 rfl) ?_
  refine lv_iconst (v := (0 : Int32)) hx hb dL_append_1 (by decide) ?_
  refine lv_aload_n hx hb dL_append_2 rfl (lv_at hl 0 rfl) ?_
  refine lv_iload_n hx hb dL_append_3 rfl (lv_at hl 1 rfl) ?_
  refine caXV_i (As := [.int x1]) (rest := [.int (0 : Int32), .ref (q 33)]) (hM _) F (cwV 1 hts gL_append_X7_append rfl rfl rfl hdX7_append ⟨Nat.le_of_ble_eq_true rfl, Nat.le_of_ble_eq_true rfl⟩) hK hP hD hDm hS hA EV.blind (fun U hU hW => EV.call hX hS hDm hU hW) (va_recv hK hP (ci := 8) (q0 := 0) rfl rfl) rfl hl.1 rfl (Nat.le_of_ble_eq_true rfl) dL_append_4 ⟨Nat.le_of_ble_eq_true rfl, Nat.le_of_ble_eq_true rfl⟩ (fun H locs k9 u9 E9 ce9 q9 h9 hP hD hS hce hcv hcl hE => ?_) (fun H locs r9 u9 h9 hP hD hS => ?_)
  · rcases he _ _ h9 with rfl | rfl
    · subst hE
      refine vx_catch (name := "java/lang/IllegalArgumentException") hown [] ⟨0, 9, 12, 13⟩ [⟨0, 9, 15, 25⟩] (by rw [htb]; rfl) (fun z hz => nomatch hz) (by decide) (by decide) (hts (.classLink RL 13 "java/lang/IllegalArgumentException") (mm 1 rfl)) (va_Nw.use rfl hX.1.2.2.2.2.2.2.2.2.2.2.2.2.2.2.2.2.2.2.2.2.2.1) hce hcv hcl ?_
      refine lv_astore_n (lv' := [(3, .ref q9), (0, .ref (q 0)), (1, .int x1), (2, .ref (q 33))]) hx hb dL_append_12 rfl hl (by decide) rfl (fun ls hl => ?_)
      refine lv_iconst (v := (1 : Int32)) hx hb dL_append_13 (by decide) ?_
      exact hend _ _ _ (u9, o) _ _ (Or.inr ⟨1, h9, rfl, rfl⟩) hP hD hS dL_append_14 rfl
    · subst hE
      refine vx_catch (name := "java/lang/IllegalStateException") hown [⟨0, 9, 12, 13⟩] ⟨0, 9, 15, 25⟩ [] (by rw [htb]; rfl) (fun z hz => (List.mem_cons.mp hz).elim (fun e9 => by rw [e9]; exact Or.inr ⟨by decide, _, (hts (.classLink RL 13 "java/lang/IllegalArgumentException") (mm 1 rfl)), hX.2.2.2.2.2.2.2.2.2.2.2.2.2.2.2.2.2.2.1⟩) (fun hz => absurd hz List.not_mem_nil)) (by decide) (by decide) (hts (.classLink RL 25 "java/lang/IllegalStateException") (mm 2 rfl)) (va_Nw.use rfl hX.1.2.2.2.2.2.2.2.2.2.2.2.2.2.2.2.2.2.2.2.2.2.2.2.1) hce hcv hcl ?_
      refine lv_astore_n (lv' := [(3, .ref q9), (0, .ref (q 0)), (1, .int x1), (2, .ref (q 33))]) hx hb dL_append_15 rfl hl (by decide) rfl (fun ls hl => ?_)
      refine lv_iconst (v := (2 : Int32)) hx hb dL_append_16 (by decide) ?_
      exact hend _ _ _ (u9, o) _ _ (Or.inr ⟨3, h9, rfl, rfl⟩) hP hD hS dL_append_17 rfl
  refine lv_i2l hx hb dL_append_7 rfl ?_
  refine as_33 F hK hP hD hS (inb_ok (i := 0) (n := 1) (by decide)) dL_append_8 (fun H locs hP hD hS => ?_)
  refine lv_goto (tgt := 18) hx hb dL_append_9 (by decide) ?_
  refine lv_iconst (v := (0 : Int32)) hx hb dL_append_18 (by decide) ?_
  exact hend _ _ _ (u9, vp_updL o (0 : Int32).toNatClampNeg r9.toInt64) _ _ (Or.inl ⟨rfl, r9, h9, rfl⟩) hP hD hS dL_append_19 rfl
abbrev rmL_load (n : Nat) : Room := { frames := 11, cells := 2 * n + 1, slots := 15 * n + 6, locals := 261 }
def cdL_load : Nat → Int32 := (fun e => match e with | 1 => (1 : Int32) | _ => (2 : Int32))
theorem hdL_load : yL_load.cls ≠ "java/lang/invoke/MethodHandle" ∧ yL_load.cls ≠ "java/lang/invoke/VarHandle" ∧ (parseMethodDescriptor yL_load.desc).map (fun d => d.parameters.length) = some 2 := by decide +kernel
set_option maxRecDepth 100000 in
set_option maxHeartbeats 8000000 in
theorem ctL_load (l : Launch) (dC : Nat → ClassId) (dI : Nat → Nat → Nat) (cq : Nat → ClassId) (q : Nat → Nat) (S : CS) (M : MS) (o : Nat → Int64) (sz h0 : Nat) (n : Nat)  (post : Int32 → CS → Prop) (px : Nat → CS → Prop) (hM : ∀ sz, CtX_i l yX7_load wsX7_load (rmX7_load n) (fun a => h0 ≤ a) (EV h0 q) dC dI cq (wA cq q S M o) sz [.ref (q 0)] (fun S => wA cq q S M o) post px (2 * n + 1) (15 * n + 6)) (he : ∀ e u, px e u → e = 1 ∨ e = 3) : Met l yL_load wsL_load (rmL_load n) (PreW (fun a => h0 ≤ a) (EV h0 q) dC dI cq (wA cq q S M o) sz [.ref (q 0), .ref (q 33)]) (va_Qi (fun (r : Int32) (u : CS × (Nat → Int64)) => (r = 0 ∧ ∃ v, post v u.1 ∧ u.2 = vp_updL o (0 : Int32).toNatClampNeg v.toInt64) ∨ (∃ e, px e u.1 ∧ r = cdL_load e ∧ u.2 = o)) (fun u t => BkW dC dI cq (va_A (wA cq q S M o) sz) (wA cq q u.1 M u.2) t) (va_A (wA cq q S M o) sz)) (2 * n + 1) (15 * n + 6) (va_A (wA cq q S M o) sz) := by
  refine entWH_i (hh := [(0, 8, 11, 13), (0, 8, 14, 25)]) (ty := .int) (wf := fun u : CS × (Nat → Int64) => wA cq q u.1 M u.2) (cc := cL_load) (maxL := 3) (by decide) rfl (Nat.le_of_ble_eq_true rfl) (fun p e s m args below meth c A Q ls htb F hA hP hK hD hDm hX hS hl hend => ?_)
  obtain ⟨hx, hb, hml, hown, hts⟩ := id F
  have hown : s.vm.findClass RL = some m.cls := hown
  have F : CallFix p m c cL_load 3 s args wsL_load RL := F
  have hl : lv_has ls 3 [(0, .ref (q 0)), (1, .ref (q 33))] := hl
  refine lv_aload_n hx hb dL_load_0 rfl (lv_at hl 1 rfl) ?_
  refine lv_iconst (v := (0 : Int32)) hx hb dL_load_1 (by decide) ?_
  refine lv_aload_n hx hb dL_load_2 rfl (lv_at hl 0 rfl) ?_
  refine caXV_i (As := []) (rest := [.int (0 : Int32), .ref (q 33)]) (hM _) F (cwV 0 hts gL_load_X7_load rfl rfl rfl hdX7_load ⟨Nat.le_of_ble_eq_true rfl, Nat.le_of_ble_eq_true rfl⟩) hK hP hD hDm hS hA EV.blind (fun U hU hW => EV.call hX hS hDm hU hW) (va_recv hK hP (ci := 8) (q0 := 0) rfl rfl) rfl hl.1 rfl (Nat.le_of_ble_eq_true rfl) dL_load_3 ⟨by show 0 + (2 * n + 1) ≤ 2 * n + 1; omega, by show 0 + (15 * n + 6) ≤ 15 * n + 6; omega⟩ (fun H locs k9 u9 E9 ce9 q9 h9 hP hD hS hce hcv hcl hE => ?_) (fun H locs r9 u9 h9 hP hD hS => ?_)
  · rcases he _ _ h9 with rfl | rfl
    · subst hE
      refine vx_catch (name := "java/lang/IllegalArgumentException") hown [] ⟨0, 8, 11, 13⟩ [⟨0, 8, 14, 25⟩] (by rw [htb]; rfl) (fun z hz => nomatch hz) (by decide) (by decide) (hts (.classLink RL 13 "java/lang/IllegalArgumentException") (mm 1 rfl)) (va_Nw.use rfl hX.1.2.2.2.2.2.2.2.2.2.2.2.2.2.2.2.2.2.2.2.2.2.1) hce hcv hcl ?_
      refine lv_astore_n (lv' := [(2, .ref q9), (0, .ref (q 0)), (1, .ref (q 33))]) hx hb dL_load_11 rfl hl (by decide) rfl (fun ls hl => ?_)
      refine lv_iconst (v := (1 : Int32)) hx hb dL_load_12 (by decide) ?_
      refine W.widen (k := 2 * n + 1) (n := 15 * n + 6) (by omega) (by omega) ?_
      exact hend _ _ _ (u9, o) _ _ (Or.inr ⟨1, h9, rfl, rfl⟩) hP hD hS dL_load_13 rfl
    · subst hE
      refine vx_catch (name := "java/lang/IllegalStateException") hown [⟨0, 8, 11, 13⟩] ⟨0, 8, 14, 25⟩ [] (by rw [htb]; rfl) (fun z hz => (List.mem_cons.mp hz).elim (fun e9 => by rw [e9]; exact Or.inr ⟨by decide, _, (hts (.classLink RL 13 "java/lang/IllegalArgumentException") (mm 1 rfl)), hX.2.2.2.2.2.2.2.2.2.2.2.2.2.2.2.2.2.2.1⟩) (fun hz => absurd hz List.not_mem_nil)) (by decide) (by decide) (hts (.classLink RL 25 "java/lang/IllegalStateException") (mm 2 rfl)) (va_Nw.use rfl hX.1.2.2.2.2.2.2.2.2.2.2.2.2.2.2.2.2.2.2.2.2.2.2.2.1) hce hcv hcl ?_
      refine lv_astore_n (lv' := [(2, .ref q9), (0, .ref (q 0)), (1, .ref (q 33))]) hx hb dL_load_14 rfl hl (by decide) rfl (fun ls hl => ?_)
      refine lv_iconst (v := (2 : Int32)) hx hb dL_load_15 (by decide) ?_
      refine W.widen (k := 2 * n + 1) (n := 15 * n + 6) (by omega) (by omega) ?_
      exact hend _ _ _ (u9, o) _ _ (Or.inr ⟨3, h9, rfl, rfl⟩) hP hD hS dL_load_16 rfl
  refine lv_i2l hx hb dL_load_6 rfl ?_
  refine as_33 F hK hP hD hS (inb_ok (i := 0) (n := 1) (by decide)) dL_load_7 (fun H locs hP hD hS => ?_)
  refine lv_goto (tgt := 17) hx hb dL_load_8 (by decide) ?_
  refine lv_iconst (v := (0 : Int32)) hx hb dL_load_17 (by decide) ?_
  refine W.widen (k := 2 * n + 1) (n := 15 * n + 6) (by omega) (by omega) ?_
  exact hend _ _ _ (u9, vp_updL o (0 : Int32).toNatClampNeg r9.toInt64) _ _ (Or.inl ⟨rfl, r9, h9, rfl⟩) hP hD hS dL_load_18 rfl
abbrev rmL_joined : Room := { frames := 9, cells := 3, slots := 18, locals := 165 }
def cdL_joined : Nat → Int32 := (fun e => match e with | 1 => (1 : Int32) | _ => (2 : Int32))
theorem hdL_joined : yL_joined.cls ≠ "java/lang/invoke/MethodHandle" ∧ yL_joined.cls ≠ "java/lang/invoke/VarHandle" ∧ (parseMethodDescriptor yL_joined.desc).map (fun d => d.parameters.length) = some 5 := by decide +kernel
set_option maxRecDepth 100000 in
set_option maxHeartbeats 8000000 in
theorem ctL_joined (l : Launch) (dC : Nat → ClassId) (dI : Nat → Nat → Nat) (cq : Nat → ClassId) (q : Nat → Nat) (S : CS) (M : MS) (o : Nat → Int64) (sz h0 : Nat) (x1 : Int32) (x2 : Int32) (x3 : Int32)  (post : Int32 → CS → Prop) (px : Nat → CS → Prop) (hM : ∀ sz, CtX_i l yX7_joined wsX7_joined rmX7_joined (fun a => h0 ≤ a) (EV h0 q) dC dI cq (wA cq q S M o) sz [.ref (q 0), .int x1, .int x2, .int x3] (fun S => wA cq q S M o) post px (3) (18)) (he : ∀ e u, px e u → e = 1 ∨ e = 2) : Met l yL_joined wsL_joined rmL_joined (PreW (fun a => h0 ≤ a) (EV h0 q) dC dI cq (wA cq q S M o) sz [.ref (q 0), .int x1, .int x2, .int x3, .ref (q 33)]) (va_Qi (fun (r : Int32) (u : CS × (Nat → Int64)) => (r = 0 ∧ ∃ v, post v u.1 ∧ u.2 = vp_updL o (0 : Int32).toNatClampNeg v.toInt64) ∨ (∃ e, px e u.1 ∧ r = cdL_joined e ∧ u.2 = o)) (fun u t => BkW dC dI cq (va_A (wA cq q S M o) sz) (wA cq q u.1 M u.2) t) (va_A (wA cq q S M o) sz)) (3) (18) (va_A (wA cq q S M o) sz) := by
  refine entWH_i (hh := [(0, 12, 15, 13), (0, 12, 19, 19)]) (ty := .int) (wf := fun u : CS × (Nat → Int64) => wA cq q u.1 M u.2) (cc := cL_joined) (maxL := 6) (by decide) rfl (Nat.le_of_ble_eq_true rfl) (fun p e s m args below meth c A Q ls htb F hA hP hK hD hDm hX hS hl hend => ?_)
  obtain ⟨hx, hb, hml, hown, hts⟩ := id F
  have hown : s.vm.findClass RL = some m.cls := hown
  have F : CallFix p m c cL_joined 6 s args wsL_joined RL := F
  have hl : lv_has ls 6 [(0, .ref (q 0)), (1, .int x1), (2, .int x2), (3, .int x3), (4, .ref (q 33))] := hl
  refine lv_aload hx hb dL_joined_0 (lv_at hl 4 rfl) ?_
  refine lv_iconst (v := (0 : Int32)) hx hb dL_joined_2 (by decide) ?_
  refine lv_aload_n hx hb dL_joined_3 rfl (lv_at hl 0 rfl) ?_
  refine lv_iload_n hx hb dL_joined_4 rfl (lv_at hl 1 rfl) ?_
  refine lv_iload_n hx hb dL_joined_5 rfl (lv_at hl 2 rfl) ?_
  refine lv_iload_n hx hb dL_joined_6 rfl (lv_at hl 3 rfl) ?_
  refine caXV_i (As := [.int x1, .int x2, .int x3]) (rest := [.int (0 : Int32), .ref (q 33)]) (hM _) F (cwV 3 hts gL_joined_X7_joined rfl rfl rfl hdX7_joined ⟨Nat.le_of_ble_eq_true rfl, Nat.le_of_ble_eq_true rfl⟩) hK hP hD hDm hS hA EV.blind (fun U hU hW => EV.call hX hS hDm hU hW) (va_recv hK hP (ci := 8) (q0 := 0) rfl rfl) rfl hl.1 rfl (Nat.le_of_ble_eq_true rfl) dL_joined_7 ⟨Nat.le_of_ble_eq_true rfl, Nat.le_of_ble_eq_true rfl⟩ (fun H locs k9 u9 E9 ce9 q9 h9 hP hD hS hce hcv hcl hE => ?_) (fun H locs r9 u9 h9 hP hD hS => ?_)
  · rcases he _ _ h9 with rfl | rfl
    · subst hE
      refine vx_catch (name := "java/lang/IllegalArgumentException") hown [] ⟨0, 12, 15, 13⟩ [⟨0, 12, 19, 19⟩] (by rw [htb]; rfl) (fun z hz => nomatch hz) (by decide) (by decide) (hts (.classLink RL 13 "java/lang/IllegalArgumentException") (mm 1 rfl)) (va_Nw.use rfl hX.1.2.2.2.2.2.2.2.2.2.2.2.2.2.2.2.2.2.2.2.2.2.1) hce hcv hcl ?_
      refine lv_astore (lv' := [(5, .ref q9), (0, .ref (q 0)), (1, .int x1), (2, .int x2), (3, .int x3), (4, .ref (q 33))]) hx hb dL_joined_15 hl (by decide) rfl (fun ls hl => ?_)
      refine lv_iconst (v := (1 : Int32)) hx hb dL_joined_17 (by decide) ?_
      exact hend _ _ _ (u9, o) _ _ (Or.inr ⟨1, h9, rfl, rfl⟩) hP hD hS dL_joined_18 rfl
    · subst hE
      refine vx_catch (name := "java/lang/IndexOutOfBoundsException") hown [⟨0, 12, 15, 13⟩] ⟨0, 12, 19, 19⟩ [] (by rw [htb]; rfl) (fun z hz => (List.mem_cons.mp hz).elim (fun e9 => by rw [e9]; exact Or.inr ⟨by decide, _, (hts (.classLink RL 13 "java/lang/IllegalArgumentException") (mm 1 rfl)), hX.2.2.2.2.2.2.2.2.2.2.2.2.2.2.2.2.1⟩) (fun hz => absurd hz List.not_mem_nil)) (by decide) (by decide) (hts (.classLink RL 19 "java/lang/IndexOutOfBoundsException") (mm 2 rfl)) (va_Nw.use rfl hX.1.2.2.2.2.2.2.2.2.2.2.2.2.2.2.2.2.2.2.2.2.2.2.1) hce hcv hcl ?_
      refine lv_astore (lv' := [(5, .ref q9), (0, .ref (q 0)), (1, .int x1), (2, .int x2), (3, .int x3), (4, .ref (q 33))]) hx hb dL_joined_19 hl (by decide) rfl (fun ls hl => ?_)
      refine lv_iconst (v := (2 : Int32)) hx hb dL_joined_21 (by decide) ?_
      exact hend _ _ _ (u9, o) _ _ (Or.inr ⟨2, h9, rfl, rfl⟩) hP hD hS dL_joined_22 rfl
  refine lv_i2l hx hb dL_joined_10 rfl ?_
  refine as_33 F hK hP hD hS (inb_ok (i := 0) (n := 1) (by decide)) dL_joined_11 (fun H locs hP hD hS => ?_)
  refine lv_goto (tgt := 23) hx hb dL_joined_12 (by decide) ?_
  refine lv_iconst (v := (0 : Int32)) hx hb dL_joined_23 (by decide) ?_
  exact hend _ _ _ (u9, vp_updL o (0 : Int32).toNatClampNeg r9.toInt64) _ _ (Or.inl ⟨rfl, r9, h9, rfl⟩) hP hD hS dL_joined_24 rfl
abbrev rmL_status : Room := { frames := 8, cells := 1, slots := 6, locals := 151 }
def cdL_status : Nat → Int32 := (fun e => match e with | _ => (1 : Int32))
theorem hdL_status : yL_status.cls ≠ "java/lang/invoke/MethodHandle" ∧ yL_status.cls ≠ "java/lang/invoke/VarHandle" ∧ (parseMethodDescriptor yL_status.desc).map (fun d => d.parameters.length) = some 3 := by decide +kernel
set_option maxRecDepth 100000 in
set_option maxHeartbeats 8000000 in
theorem ctL_status (l : Launch) (dC : Nat → ClassId) (dI : Nat → Nat → Nat) (cq : Nat → ClassId) (q : Nat → Nat) (S : CS) (M : MS) (o : Nat → Int64) (sz h0 : Nat) (x1 : Int32)  (post : Int32 → CS → Prop) (px : Nat → CS → Prop) (hM : ∀ sz, CtX_i l yX7_status wsX7_status rmX7_status (fun a => h0 ≤ a) (EV h0 q) dC dI cq (wA cq q S M o) sz [.ref (q 0), .int x1] (fun S => wA cq q S M o) post px (1) (6)) (he : ∀ e u, px e u → e = 2) : Met l yL_status wsL_status rmL_status (PreW (fun a => h0 ≤ a) (EV h0 q) dC dI cq (wA cq q S M o) sz [.ref (q 0), .int x1, .ref (q 33)]) (va_Qi (fun (r : Int32) (u : CS × (Nat → Int64)) => (r = 0 ∧ ∃ v, post v u.1 ∧ u.2 = vp_updL o (0 : Int32).toNatClampNeg v.toInt64) ∨ (∃ e, px e u.1 ∧ r = cdL_status e ∧ u.2 = o)) (fun u t => BkW dC dI cq (va_A (wA cq q S M o) sz) (wA cq q u.1 M u.2) t) (va_A (wA cq q S M o) sz)) (1) (6) (va_A (wA cq q S M o) sz) := by
  refine entWH_i (hh := [(0, 9, 12, 19)]) (ty := .int) (wf := fun u : CS × (Nat → Int64) => wA cq q u.1 M u.2) (cc := cL_status) (maxL := 4) (by decide) rfl (Nat.le_of_ble_eq_true rfl) (fun p e s m args below meth c A Q ls htb F hA hP hK hD hDm hX hS hl hend => ?_)
  obtain ⟨hx, hb, hml, hown, hts⟩ := id F
  have hown : s.vm.findClass RL = some m.cls := hown
  have F : CallFix p m c cL_status 4 s args wsL_status RL := F
  have hl : lv_has ls 4 [(0, .ref (q 0)), (1, .int x1), (2, .ref (q 33))] := hl
  refine lv_aload_n hx hb dL_status_0 rfl (lv_at hl 2 rfl) ?_
  refine lv_iconst (v := (0 : Int32)) hx hb dL_status_1 (by decide) ?_
  refine lv_aload_n hx hb dL_status_2 rfl (lv_at hl 0 rfl) ?_
  refine lv_iload_n hx hb dL_status_3 rfl (lv_at hl 1 rfl) ?_
  refine caXV_i (As := [.int x1]) (rest := [.int (0 : Int32), .ref (q 33)]) (hM _) F (cwV 1 hts gL_status_X7_status rfl rfl rfl hdX7_status ⟨Nat.le_of_ble_eq_true rfl, Nat.le_of_ble_eq_true rfl⟩) hK hP hD hDm hS hA EV.blind (fun U hU hW => EV.call hX hS hDm hU hW) (va_recv hK hP (ci := 8) (q0 := 0) rfl rfl) rfl hl.1 rfl (Nat.le_of_ble_eq_true rfl) dL_status_4 ⟨Nat.le_of_ble_eq_true rfl, Nat.le_of_ble_eq_true rfl⟩ (fun H locs k9 u9 E9 ce9 q9 h9 hP hD hS hce hcv hcl hE => ?_) (fun H locs r9 u9 h9 hP hD hS => ?_)
  · rcases he _ _ h9 with rfl
    · subst hE
      refine vx_catch (name := "java/lang/IndexOutOfBoundsException") hown [] ⟨0, 9, 12, 19⟩ [] (by rw [htb]; rfl) (fun z hz => nomatch hz) (by decide) (by decide) (hts (.classLink RL 19 "java/lang/IndexOutOfBoundsException") (mm 1 rfl)) (va_Nw.use rfl hX.1.2.2.2.2.2.2.2.2.2.2.2.2.2.2.2.2.2.2.2.2.2.2.1) hce hcv hcl ?_
      refine lv_astore_n (lv' := [(3, .ref q9), (0, .ref (q 0)), (1, .int x1), (2, .ref (q 33))]) hx hb dL_status_12 rfl hl (by decide) rfl (fun ls hl => ?_)
      refine lv_iconst (v := (1 : Int32)) hx hb dL_status_13 (by decide) ?_
      exact hend _ _ _ (u9, o) _ _ (Or.inr ⟨2, h9, rfl, rfl⟩) hP hD hS dL_status_14 rfl
  refine lv_i2l hx hb dL_status_7 rfl ?_
  refine as_33 F hK hP hD hS (inb_ok (i := 0) (n := 1) (by decide)) dL_status_8 (fun H locs hP hD hS => ?_)
  refine lv_goto (tgt := 15) hx hb dL_status_9 (by decide) ?_
  refine lv_iconst (v := (0 : Int32)) hx hb dL_status_15 (by decide) ?_
  exact hend _ _ _ (u9, vp_updL o (0 : Int32).toNatClampNeg r9.toInt64) _ _ (Or.inl ⟨rfl, r9, h9, rfl⟩) hP hD hS dL_status_16 rfl
abbrev rmL_echo : Room := { frames := 8, cells := 2, slots := 12, locals := 144 }
def cdL_echo : Nat → Int32 := (fun e => match e with | 1 => (2 : Int32) | _ => (1 : Int32))
theorem hdL_echo : yL_echo.cls ≠ "java/lang/invoke/MethodHandle" ∧ yL_echo.cls ≠ "java/lang/invoke/VarHandle" ∧ (parseMethodDescriptor yL_echo.desc).map (fun d => d.parameters.length) = some 4 := by decide +kernel
set_option maxRecDepth 100000 in
set_option maxHeartbeats 8000000 in
theorem ctL_echo (l : Launch) (dC : Nat → ClassId) (dI : Nat → Nat → Nat) (cq : Nat → ClassId) (q : Nat → Nat) (S : CS) (M : MS) (o : Nat → Int64) (sz h0 : Nat) (x1 : Int32) (x2 : Int32)  (post : Int32 → CS → Prop) (px : Nat → CS → Prop) (hM : ∀ sz, CtX_i l yX7_echo wsX7_echo rmX7_echo (fun a => h0 ≤ a) (EV h0 q) dC dI cq (wA cq q S M o) sz [.ref (q 0), .int x1, .int x2] (fun S => wA cq q S M o) post px (2) (12)) (he : ∀ e u, px e u → e = 1 ∨ e = 2) : Met l yL_echo wsL_echo rmL_echo (PreW (fun a => h0 ≤ a) (EV h0 q) dC dI cq (wA cq q S M o) sz [.ref (q 0), .int x1, .int x2, .ref (q 33)]) (va_Qi (fun (r : Int32) (u : CS × (Nat → Int64)) => (r = 0 ∧ ∃ v, post v u.1 ∧ u.2 = vp_updL o (0 : Int32).toNatClampNeg v.toInt64) ∨ (∃ e, px e u.1 ∧ r = cdL_echo e ∧ u.2 = o)) (fun u t => BkW dC dI cq (va_A (wA cq q S M o) sz) (wA cq q u.1 M u.2) t) (va_A (wA cq q S M o) sz)) (2) (12) (va_A (wA cq q S M o) sz) := by
  refine entWH_i (hh := [(0, 10, 13, 19), (0, 10, 17, 13)]) (ty := .int) (wf := fun u : CS × (Nat → Int64) => wA cq q u.1 M u.2) (cc := cL_echo) (maxL := 5) (by decide) rfl (Nat.le_of_ble_eq_true rfl) (fun p e s m args below meth c A Q ls htb F hA hP hK hD hDm hX hS hl hend => ?_)
  obtain ⟨hx, hb, hml, hown, hts⟩ := id F
  have hown : s.vm.findClass RL = some m.cls := hown
  have F : CallFix p m c cL_echo 5 s args wsL_echo RL := F
  have hl : lv_has ls 5 [(0, .ref (q 0)), (1, .int x1), (2, .int x2), (3, .ref (q 33))] := hl
  refine lv_aload_n hx hb dL_echo_0 rfl (lv_at hl 3 rfl) ?_
  refine lv_iconst (v := (0 : Int32)) hx hb dL_echo_1 (by decide) ?_
  refine lv_aload_n hx hb dL_echo_2 rfl (lv_at hl 0 rfl) ?_
  refine lv_iload_n hx hb dL_echo_3 rfl (lv_at hl 1 rfl) ?_
  refine lv_iload_n hx hb dL_echo_4 rfl (lv_at hl 2 rfl) ?_
  refine caXV_i (As := [.int x1, .int x2]) (rest := [.int (0 : Int32), .ref (q 33)]) (hM _) F (cwV 2 hts gL_echo_X7_echo rfl rfl rfl hdX7_echo ⟨Nat.le_of_ble_eq_true rfl, Nat.le_of_ble_eq_true rfl⟩) hK hP hD hDm hS hA EV.blind (fun U hU hW => EV.call hX hS hDm hU hW) (va_recv hK hP (ci := 8) (q0 := 0) rfl rfl) rfl hl.1 rfl (Nat.le_of_ble_eq_true rfl) dL_echo_5 ⟨Nat.le_of_ble_eq_true rfl, Nat.le_of_ble_eq_true rfl⟩ (fun H locs k9 u9 E9 ce9 q9 h9 hP hD hS hce hcv hcl hE => ?_) (fun H locs r9 u9 h9 hP hD hS => ?_)
  · rcases he _ _ h9 with rfl | rfl
    · subst hE
      refine vx_catch (name := "java/lang/IllegalArgumentException") hown [⟨0, 10, 13, 19⟩] ⟨0, 10, 17, 13⟩ [] (by rw [htb]; rfl) (fun z hz => (List.mem_cons.mp hz).elim (fun e9 => by rw [e9]; exact Or.inr ⟨by decide, _, (hts (.classLink RL 19 "java/lang/IndexOutOfBoundsException") (mm 1 rfl)), hX.2.2.2.2.2.2.2.2.2.2.2.2.2.2.1⟩) (fun hz => absurd hz List.not_mem_nil)) (by decide) (by decide) (hts (.classLink RL 13 "java/lang/IllegalArgumentException") (mm 2 rfl)) (va_Nw.use rfl hX.1.2.2.2.2.2.2.2.2.2.2.2.2.2.2.2.2.2.2.2.2.2.1) hce hcv hcl ?_
      refine lv_astore (lv' := [(4, .ref q9), (0, .ref (q 0)), (1, .int x1), (2, .int x2), (3, .ref (q 33))]) hx hb dL_echo_17 hl (by decide) rfl (fun ls hl => ?_)
      refine lv_iconst (v := (2 : Int32)) hx hb dL_echo_19 (by decide) ?_
      exact hend _ _ _ (u9, o) _ _ (Or.inr ⟨1, h9, rfl, rfl⟩) hP hD hS dL_echo_20 rfl
    · subst hE
      refine vx_catch (name := "java/lang/IndexOutOfBoundsException") hown [] ⟨0, 10, 13, 19⟩ [⟨0, 10, 17, 13⟩] (by rw [htb]; rfl) (fun z hz => nomatch hz) (by decide) (by decide) (hts (.classLink RL 19 "java/lang/IndexOutOfBoundsException") (mm 1 rfl)) (va_Nw.use rfl hX.1.2.2.2.2.2.2.2.2.2.2.2.2.2.2.2.2.2.2.2.2.2.2.1) hce hcv hcl ?_
      refine lv_astore (lv' := [(4, .ref q9), (0, .ref (q 0)), (1, .int x1), (2, .int x2), (3, .ref (q 33))]) hx hb dL_echo_13 hl (by decide) rfl (fun ls hl => ?_)
      refine lv_iconst (v := (1 : Int32)) hx hb dL_echo_15 (by decide) ?_
      exact hend _ _ _ (u9, o) _ _ (Or.inr ⟨2, h9, rfl, rfl⟩) hP hD hS dL_echo_16 rfl
  refine lv_i2l hx hb dL_echo_8 rfl ?_
  refine as_33 F hK hP hD hS (inb_ok (i := 0) (n := 1) (by decide)) dL_echo_9 (fun H locs hP hD hS => ?_)
  refine lv_goto (tgt := 21) hx hb dL_echo_10 (by decide) ?_
  refine lv_iconst (v := (0 : Int32)) hx hb dL_echo_21 (by decide) ?_
  exact hend _ _ _ (u9, vp_updL o (0 : Int32).toNatClampNeg r9.toInt64) _ _ (Or.inl ⟨rfl, r9, h9, rfl⟩) hP hD hS dL_echo_22 rfl
abbrev rmL_crosstalk : Room := { frames := 8, cells := 2, slots := 12, locals := 143 }
def cdL_crosstalk : Nat → Int32 := (fun e => match e with | _ => (1 : Int32))
theorem hdL_crosstalk : yL_crosstalk.cls ≠ "java/lang/invoke/MethodHandle" ∧ yL_crosstalk.cls ≠ "java/lang/invoke/VarHandle" ∧ (parseMethodDescriptor yL_crosstalk.desc).map (fun d => d.parameters.length) = some 4 := by decide +kernel
set_option maxRecDepth 100000 in
set_option maxHeartbeats 8000000 in
theorem ctL_crosstalk (l : Launch) (dC : Nat → ClassId) (dI : Nat → Nat → Nat) (cq : Nat → ClassId) (q : Nat → Nat) (S : CS) (M : MS) (o : Nat → Int64) (sz h0 : Nat) (x1 : Int32) (x2 : Int32)  (post : Int32 → CS → Prop) (px : Nat → CS → Prop) (hM : ∀ sz, CtX_i l yX7_crosstalk wsX7_crosstalk rmX7_crosstalk (fun a => h0 ≤ a) (EV h0 q) dC dI cq (wA cq q S M o) sz [.ref (q 0), .int x1, .int x2] (fun S => wA cq q S M o) post px (2) (12)) (he : ∀ e u, px e u → e = 2) : Met l yL_crosstalk wsL_crosstalk rmL_crosstalk (PreW (fun a => h0 ≤ a) (EV h0 q) dC dI cq (wA cq q S M o) sz [.ref (q 0), .int x1, .int x2, .ref (q 33)]) (va_Qi (fun (r : Int32) (u : CS × (Nat → Int64)) => (r = 0 ∧ ∃ v, post v u.1 ∧ u.2 = vp_updL o (0 : Int32).toNatClampNeg v.toInt64) ∨ (∃ e, px e u.1 ∧ r = cdL_crosstalk e ∧ u.2 = o)) (fun u t => BkW dC dI cq (va_A (wA cq q S M o) sz) (wA cq q u.1 M u.2) t) (va_A (wA cq q S M o) sz)) (2) (12) (va_A (wA cq q S M o) sz) := by
  refine entWH_i (hh := [(0, 10, 13, 19)]) (ty := .int) (wf := fun u : CS × (Nat → Int64) => wA cq q u.1 M u.2) (cc := cL_crosstalk) (maxL := 5) (by decide) rfl (Nat.le_of_ble_eq_true rfl) (fun p e s m args below meth c A Q ls htb F hA hP hK hD hDm hX hS hl hend => ?_)
  obtain ⟨hx, hb, hml, hown, hts⟩ := id F
  have hown : s.vm.findClass RL = some m.cls := hown
  have F : CallFix p m c cL_crosstalk 5 s args wsL_crosstalk RL := F
  have hl : lv_has ls 5 [(0, .ref (q 0)), (1, .int x1), (2, .int x2), (3, .ref (q 33))] := hl
  refine lv_aload_n hx hb dL_crosstalk_0 rfl (lv_at hl 3 rfl) ?_
  refine lv_iconst (v := (0 : Int32)) hx hb dL_crosstalk_1 (by decide) ?_
  refine lv_aload_n hx hb dL_crosstalk_2 rfl (lv_at hl 0 rfl) ?_
  refine lv_iload_n hx hb dL_crosstalk_3 rfl (lv_at hl 1 rfl) ?_
  refine lv_iload_n hx hb dL_crosstalk_4 rfl (lv_at hl 2 rfl) ?_
  refine caXV_i (As := [.int x1, .int x2]) (rest := [.int (0 : Int32), .ref (q 33)]) (hM _) F (cwV 2 hts gL_crosstalk_X7_crosstalk rfl rfl rfl hdX7_crosstalk ⟨Nat.le_of_ble_eq_true rfl, Nat.le_of_ble_eq_true rfl⟩) hK hP hD hDm hS hA EV.blind (fun U hU hW => EV.call hX hS hDm hU hW) (va_recv hK hP (ci := 8) (q0 := 0) rfl rfl) rfl hl.1 rfl (Nat.le_of_ble_eq_true rfl) dL_crosstalk_5 ⟨Nat.le_of_ble_eq_true rfl, Nat.le_of_ble_eq_true rfl⟩ (fun H locs k9 u9 E9 ce9 q9 h9 hP hD hS hce hcv hcl hE => ?_) (fun H locs r9 u9 h9 hP hD hS => ?_)
  · rcases he _ _ h9 with rfl
    · subst hE
      refine vx_catch (name := "java/lang/IndexOutOfBoundsException") hown [] ⟨0, 10, 13, 19⟩ [] (by rw [htb]; rfl) (fun z hz => nomatch hz) (by decide) (by decide) (hts (.classLink RL 19 "java/lang/IndexOutOfBoundsException") (mm 1 rfl)) (va_Nw.use rfl hX.1.2.2.2.2.2.2.2.2.2.2.2.2.2.2.2.2.2.2.2.2.2.2.1) hce hcv hcl ?_
      refine lv_astore (lv' := [(4, .ref q9), (0, .ref (q 0)), (1, .int x1), (2, .int x2), (3, .ref (q 33))]) hx hb dL_crosstalk_13 hl (by decide) rfl (fun ls hl => ?_)
      refine lv_iconst (v := (1 : Int32)) hx hb dL_crosstalk_15 (by decide) ?_
      exact hend _ _ _ (u9, o) _ _ (Or.inr ⟨2, h9, rfl, rfl⟩) hP hD hS dL_crosstalk_16 rfl
  refine lv_i2l hx hb dL_crosstalk_8 rfl ?_
  refine as_33 F hK hP hD hS (inb_ok (i := 0) (n := 1) (by decide)) dL_crosstalk_9 (fun H locs hP hD hS => ?_)
  refine lv_goto (tgt := 17) hx hb dL_crosstalk_10 (by decide) ?_
  refine lv_iconst (v := (0 : Int32)) hx hb dL_crosstalk_17 (by decide) ?_
  exact hend _ _ _ (u9, vp_updL o (0 : Int32).toNatClampNeg r9.toInt64) _ _ (Or.inl ⟨rfl, r9, h9, rfl⟩) hP hD hS dL_crosstalk_18 rfl
abbrev rmL_records : Room := { frames := 8, cells := 2, slots := 12, locals := 144 }
def cdL_records : Nat → Int32 := (fun e => match e with | 1 => (2 : Int32) | _ => (1 : Int32))
theorem hdL_records : yL_records.cls ≠ "java/lang/invoke/MethodHandle" ∧ yL_records.cls ≠ "java/lang/invoke/VarHandle" ∧ (parseMethodDescriptor yL_records.desc).map (fun d => d.parameters.length) = some 4 := by decide +kernel
set_option maxRecDepth 100000 in
set_option maxHeartbeats 8000000 in
theorem ctL_records (l : Launch) (dC : Nat → ClassId) (dI : Nat → Nat → Nat) (cq : Nat → ClassId) (q : Nat → Nat) (S : CS) (M : MS) (o : Nat → Int64) (sz h0 : Nat) (x1 : Int32) (x2 : Int32)  (post : Int32 → CS → Prop) (px : Nat → CS → Prop) (hM : ∀ sz, CtX_i l yX7_records wsX7_records rmX7_records (fun a => h0 ≤ a) (EV h0 q) dC dI cq (wA cq q S M o) sz [.ref (q 0), .int x1, .int x2] (fun S => wA cq q S M o) post px (2) (12)) (he : ∀ e u, px e u → e = 1 ∨ e = 2) : Met l yL_records wsL_records rmL_records (PreW (fun a => h0 ≤ a) (EV h0 q) dC dI cq (wA cq q S M o) sz [.ref (q 0), .int x1, .int x2, .ref (q 33)]) (va_Qi (fun (r : Int32) (u : CS × (Nat → Int64)) => (r = 0 ∧ ∃ v, post v u.1 ∧ u.2 = vp_updL o (0 : Int32).toNatClampNeg v.toInt64) ∨ (∃ e, px e u.1 ∧ r = cdL_records e ∧ u.2 = o)) (fun u t => BkW dC dI cq (va_A (wA cq q S M o) sz) (wA cq q u.1 M u.2) t) (va_A (wA cq q S M o) sz)) (2) (12) (va_A (wA cq q S M o) sz) := by
  refine entWH_i (hh := [(0, 10, 13, 19), (0, 10, 17, 13)]) (ty := .int) (wf := fun u : CS × (Nat → Int64) => wA cq q u.1 M u.2) (cc := cL_records) (maxL := 5) (by decide) rfl (Nat.le_of_ble_eq_true rfl) (fun p e s m args below meth c A Q ls htb F hA hP hK hD hDm hX hS hl hend => ?_)
  obtain ⟨hx, hb, hml, hown, hts⟩ := id F
  have hown : s.vm.findClass RL = some m.cls := hown
  have F : CallFix p m c cL_records 5 s args wsL_records RL := F
  have hl : lv_has ls 5 [(0, .ref (q 0)), (1, .int x1), (2, .int x2), (3, .ref (q 33))] := hl
  refine lv_aload_n hx hb dL_records_0 rfl (lv_at hl 3 rfl) ?_
  refine lv_iconst (v := (0 : Int32)) hx hb dL_records_1 (by decide) ?_
  refine lv_aload_n hx hb dL_records_2 rfl (lv_at hl 0 rfl) ?_
  refine lv_iload_n hx hb dL_records_3 rfl (lv_at hl 1 rfl) ?_
  refine lv_iload_n hx hb dL_records_4 rfl (lv_at hl 2 rfl) ?_
  refine caXV_i (As := [.int x1, .int x2]) (rest := [.int (0 : Int32), .ref (q 33)]) (hM _) F (cwV 2 hts gL_records_X7_records rfl rfl rfl hdX7_records ⟨Nat.le_of_ble_eq_true rfl, Nat.le_of_ble_eq_true rfl⟩) hK hP hD hDm hS hA EV.blind (fun U hU hW => EV.call hX hS hDm hU hW) (va_recv hK hP (ci := 8) (q0 := 0) rfl rfl) rfl hl.1 rfl (Nat.le_of_ble_eq_true rfl) dL_records_5 ⟨Nat.le_of_ble_eq_true rfl, Nat.le_of_ble_eq_true rfl⟩ (fun H locs k9 u9 E9 ce9 q9 h9 hP hD hS hce hcv hcl hE => ?_) (fun H locs r9 u9 h9 hP hD hS => ?_)
  · rcases he _ _ h9 with rfl | rfl
    · subst hE
      refine vx_catch (name := "java/lang/IllegalArgumentException") hown [⟨0, 10, 13, 19⟩] ⟨0, 10, 17, 13⟩ [] (by rw [htb]; rfl) (fun z hz => (List.mem_cons.mp hz).elim (fun e9 => by rw [e9]; exact Or.inr ⟨by decide, _, (hts (.classLink RL 19 "java/lang/IndexOutOfBoundsException") (mm 1 rfl)), hX.2.2.2.2.2.2.2.2.2.2.2.2.2.2.1⟩) (fun hz => absurd hz List.not_mem_nil)) (by decide) (by decide) (hts (.classLink RL 13 "java/lang/IllegalArgumentException") (mm 2 rfl)) (va_Nw.use rfl hX.1.2.2.2.2.2.2.2.2.2.2.2.2.2.2.2.2.2.2.2.2.2.1) hce hcv hcl ?_
      refine lv_astore (lv' := [(4, .ref q9), (0, .ref (q 0)), (1, .int x1), (2, .int x2), (3, .ref (q 33))]) hx hb dL_records_17 hl (by decide) rfl (fun ls hl => ?_)
      refine lv_iconst (v := (2 : Int32)) hx hb dL_records_19 (by decide) ?_
      exact hend _ _ _ (u9, o) _ _ (Or.inr ⟨1, h9, rfl, rfl⟩) hP hD hS dL_records_20 rfl
    · subst hE
      refine vx_catch (name := "java/lang/IndexOutOfBoundsException") hown [] ⟨0, 10, 13, 19⟩ [⟨0, 10, 17, 13⟩] (by rw [htb]; rfl) (fun z hz => nomatch hz) (by decide) (by decide) (hts (.classLink RL 19 "java/lang/IndexOutOfBoundsException") (mm 1 rfl)) (va_Nw.use rfl hX.1.2.2.2.2.2.2.2.2.2.2.2.2.2.2.2.2.2.2.2.2.2.2.1) hce hcv hcl ?_
      refine lv_astore (lv' := [(4, .ref q9), (0, .ref (q 0)), (1, .int x1), (2, .int x2), (3, .ref (q 33))]) hx hb dL_records_13 hl (by decide) rfl (fun ls hl => ?_)
      refine lv_iconst (v := (1 : Int32)) hx hb dL_records_15 (by decide) ?_
      exact hend _ _ _ (u9, o) _ _ (Or.inr ⟨2, h9, rfl, rfl⟩) hP hD hS dL_records_16 rfl
  refine lv_i2l hx hb dL_records_8 rfl ?_
  refine as_33 F hK hP hD hS (inb_ok (i := 0) (n := 1) (by decide)) dL_records_9 (fun H locs hP hD hS => ?_)
  refine lv_goto (tgt := 21) hx hb dL_records_10 (by decide) ?_
  refine lv_iconst (v := (0 : Int32)) hx hb dL_records_21 (by decide) ?_
  exact hend _ _ _ (u9, vp_updL o (0 : Int32).toNatClampNeg r9.toInt64) _ _ (Or.inl ⟨rfl, r9, h9, rfl⟩) hP hD hS dL_records_22 rfl
abbrev rmL_explain : Room := { frames := 14, cells := 1, slots := 6, locals := 482 }
def cdL_explain : Nat → Int32 := (fun e => match e with | _ => (1 : Int32))
theorem hdL_explain : yL_explain.cls ≠ "java/lang/invoke/MethodHandle" ∧ yL_explain.cls ≠ "java/lang/invoke/VarHandle" ∧ (parseMethodDescriptor yL_explain.desc).map (fun d => d.parameters.length) = some 3 := by decide +kernel
set_option maxRecDepth 100000 in
set_option maxHeartbeats 8000000 in
theorem ctL_explain (l : Launch) (dC : Nat → ClassId) (dI : Nat → Nat → Nat) (cq : Nat → ClassId) (q : Nat → Nat) (S : CS) (M : MS) (o : Nat → Int64) (sz h0 : Nat) (x1 : Int32)  (post : Int32 → CS → Prop) (px : Nat → CS → Prop) (hM : ∀ sz, CtX_i l yX7_explain wsX7_explain rmX7_explain (fun a => h0 ≤ a) (EV h0 q) dC dI cq (wA cq q S M o) sz [.ref (q 0), .int x1] (fun S => wA cq q S M o) post px (1) (6)) (he : ∀ e u, px e u → e = 1) : Met l yL_explain wsL_explain rmL_explain (PreW (fun a => h0 ≤ a) (EV h0 q) dC dI cq (wA cq q S M o) sz [.ref (q 0), .int x1, .ref (q 33)]) (va_Qi (fun (r : Int32) (u : CS × (Nat → Int64)) => (r = 0 ∧ ∃ v, post v u.1 ∧ u.2 = vp_updL o (0 : Int32).toNatClampNeg v.toInt64) ∨ (∃ e, px e u.1 ∧ r = cdL_explain e ∧ u.2 = o)) (fun u t => BkW dC dI cq (va_A (wA cq q S M o) sz) (wA cq q u.1 M u.2) t) (va_A (wA cq q S M o) sz)) (1) (6) (va_A (wA cq q S M o) sz) := by
  refine entWH_i (hh := [(0, 9, 12, 13)]) (ty := .int) (wf := fun u : CS × (Nat → Int64) => wA cq q u.1 M u.2) (cc := cL_explain) (maxL := 4) (by decide) rfl (Nat.le_of_ble_eq_true rfl) (fun p e s m args below meth c A Q ls htb F hA hP hK hD hDm hX hS hl hend => ?_)
  obtain ⟨hx, hb, hml, hown, hts⟩ := id F
  have hown : s.vm.findClass RL = some m.cls := hown
  have F : CallFix p m c cL_explain 4 s args wsL_explain RL := F
  have hl : lv_has ls 4 [(0, .ref (q 0)), (1, .int x1), (2, .ref (q 33))] := hl
  refine lv_aload_n hx hb dL_explain_0 rfl (lv_at hl 2 rfl) ?_
  refine lv_iconst (v := (0 : Int32)) hx hb dL_explain_1 (by decide) ?_
  refine lv_aload_n hx hb dL_explain_2 rfl (lv_at hl 0 rfl) ?_
  refine lv_iload_n hx hb dL_explain_3 rfl (lv_at hl 1 rfl) ?_
  refine caXV_i (As := [.int x1]) (rest := [.int (0 : Int32), .ref (q 33)]) (hM _) F (cwV 1 hts gL_explain_X7_explain rfl rfl rfl hdX7_explain ⟨Nat.le_of_ble_eq_true rfl, Nat.le_of_ble_eq_true rfl⟩) hK hP hD hDm hS hA EV.blind (fun U hU hW => EV.call hX hS hDm hU hW) (va_recv hK hP (ci := 8) (q0 := 0) rfl rfl) rfl hl.1 rfl (Nat.le_of_ble_eq_true rfl) dL_explain_4 ⟨Nat.le_of_ble_eq_true rfl, Nat.le_of_ble_eq_true rfl⟩ (fun H locs k9 u9 E9 ce9 q9 h9 hP hD hS hce hcv hcl hE => ?_) (fun H locs r9 u9 h9 hP hD hS => ?_)
  · rcases he _ _ h9 with rfl
    · subst hE
      refine vx_catch (name := "java/lang/IllegalArgumentException") hown [] ⟨0, 9, 12, 13⟩ [] (by rw [htb]; rfl) (fun z hz => nomatch hz) (by decide) (by decide) (hts (.classLink RL 13 "java/lang/IllegalArgumentException") (mm 1 rfl)) (va_Nw.use rfl hX.1.2.2.2.2.2.2.2.2.2.2.2.2.2.2.2.2.2.2.2.2.2.1) hce hcv hcl ?_
      refine lv_astore_n (lv' := [(3, .ref q9), (0, .ref (q 0)), (1, .int x1), (2, .ref (q 33))]) hx hb dL_explain_12 rfl hl (by decide) rfl (fun ls hl => ?_)
      refine lv_iconst (v := (1 : Int32)) hx hb dL_explain_13 (by decide) ?_
      exact hend _ _ _ (u9, o) _ _ (Or.inr ⟨1, h9, rfl, rfl⟩) hP hD hS dL_explain_14 rfl
  refine lv_i2l hx hb dL_explain_7 rfl ?_
  refine as_33 F hK hP hD hS (inb_ok (i := 0) (n := 1) (by decide)) dL_explain_8 (fun H locs hP hD hS => ?_)
  refine lv_goto (tgt := 15) hx hb dL_explain_9 (by decide) ?_
  refine lv_iconst (v := (0 : Int32)) hx hb dL_explain_15 (by decide) ?_
  exact hend _ _ _ (u9, vp_updL o (0 : Int32).toNatClampNeg r9.toInt64) _ _ (Or.inl ⟨rfl, r9, h9, rfl⟩) hP hD hS dL_explain_16 rfl
abbrev rmL_explained : Room := { frames := 14, cells := 1, slots := 6, locals := 482 }
def cdL_explained : Nat → Int32 := (fun e => match e with | _ => (1 : Int32))
theorem hdL_explained : yL_explained.cls ≠ "java/lang/invoke/MethodHandle" ∧ yL_explained.cls ≠ "java/lang/invoke/VarHandle" ∧ (parseMethodDescriptor yL_explained.desc).map (fun d => d.parameters.length) = some 3 := by decide +kernel
set_option maxRecDepth 100000 in
set_option maxHeartbeats 8000000 in
theorem ctL_explained (l : Launch) (dC : Nat → ClassId) (dI : Nat → Nat → Nat) (cq : Nat → ClassId) (q : Nat → Nat) (S : CS) (M : MS) (o : Nat → Int64) (sz h0 : Nat) (x1 : Int32)  (post : Int32 → CS → Prop) (px : Nat → CS → Prop) (hM : ∀ sz, CtX_i l yX7_explained wsX7_explained rmX7_explained (fun a => h0 ≤ a) (EV h0 q) dC dI cq (wA cq q S M o) sz [.ref (q 0), .int x1] (fun S => wA cq q S M o) post px (1) (6)) (he : ∀ e u, px e u → e = 2) : Met l yL_explained wsL_explained rmL_explained (PreW (fun a => h0 ≤ a) (EV h0 q) dC dI cq (wA cq q S M o) sz [.ref (q 0), .int x1, .ref (q 33)]) (va_Qi (fun (r : Int32) (u : CS × (Nat → Int64)) => (r = 0 ∧ ∃ v, post v u.1 ∧ u.2 = vp_updL o (0 : Int32).toNatClampNeg v.toInt64) ∨ (∃ e, px e u.1 ∧ r = cdL_explained e ∧ u.2 = o)) (fun u t => BkW dC dI cq (va_A (wA cq q S M o) sz) (wA cq q u.1 M u.2) t) (va_A (wA cq q S M o) sz)) (1) (6) (va_A (wA cq q S M o) sz) := by
  refine entWH_i (hh := [(0, 9, 12, 19)]) (ty := .int) (wf := fun u : CS × (Nat → Int64) => wA cq q u.1 M u.2) (cc := cL_explained) (maxL := 4) (by decide) rfl (Nat.le_of_ble_eq_true rfl) (fun p e s m args below meth c A Q ls htb F hA hP hK hD hDm hX hS hl hend => ?_)
  obtain ⟨hx, hb, hml, hown, hts⟩ := id F
  have hown : s.vm.findClass RL = some m.cls := hown
  have F : CallFix p m c cL_explained 4 s args wsL_explained RL := F
  have hl : lv_has ls 4 [(0, .ref (q 0)), (1, .int x1), (2, .ref (q 33))] := hl
  refine lv_aload_n hx hb dL_explained_0 rfl (lv_at hl 2 rfl) ?_
  refine lv_iconst (v := (0 : Int32)) hx hb dL_explained_1 (by decide) ?_
  refine lv_aload_n hx hb dL_explained_2 rfl (lv_at hl 0 rfl) ?_
  refine lv_iload_n hx hb dL_explained_3 rfl (lv_at hl 1 rfl) ?_
  refine caXV_i (As := [.int x1]) (rest := [.int (0 : Int32), .ref (q 33)]) (hM _) F (cwV 1 hts gL_explained_X7_explained rfl rfl rfl hdX7_explained ⟨Nat.le_of_ble_eq_true rfl, Nat.le_of_ble_eq_true rfl⟩) hK hP hD hDm hS hA EV.blind (fun U hU hW => EV.call hX hS hDm hU hW) (va_recv hK hP (ci := 8) (q0 := 0) rfl rfl) rfl hl.1 rfl (Nat.le_of_ble_eq_true rfl) dL_explained_4 ⟨Nat.le_of_ble_eq_true rfl, Nat.le_of_ble_eq_true rfl⟩ (fun H locs k9 u9 E9 ce9 q9 h9 hP hD hS hce hcv hcl hE => ?_) (fun H locs r9 u9 h9 hP hD hS => ?_)
  · rcases he _ _ h9 with rfl
    · subst hE
      refine vx_catch (name := "java/lang/IndexOutOfBoundsException") hown [] ⟨0, 9, 12, 19⟩ [] (by rw [htb]; rfl) (fun z hz => nomatch hz) (by decide) (by decide) (hts (.classLink RL 19 "java/lang/IndexOutOfBoundsException") (mm 1 rfl)) (va_Nw.use rfl hX.1.2.2.2.2.2.2.2.2.2.2.2.2.2.2.2.2.2.2.2.2.2.2.1) hce hcv hcl ?_
      refine lv_astore_n (lv' := [(3, .ref q9), (0, .ref (q 0)), (1, .int x1), (2, .ref (q 33))]) hx hb dL_explained_12 rfl hl (by decide) rfl (fun ls hl => ?_)
      refine lv_iconst (v := (1 : Int32)) hx hb dL_explained_13 (by decide) ?_
      exact hend _ _ _ (u9, o) _ _ (Or.inr ⟨2, h9, rfl, rfl⟩) hP hD hS dL_explained_14 rfl
  refine lv_i2l hx hb dL_explained_7 rfl ?_
  refine as_33 F hK hP hD hS (inb_ok (i := 0) (n := 1) (by decide)) dL_explained_8 (fun H locs hP hD hS => ?_)
  refine lv_goto (tgt := 15) hx hb dL_explained_9 (by decide) ?_
  refine lv_iconst (v := (0 : Int32)) hx hb dL_explained_15 (by decide) ?_
  exact hend _ _ _ (u9, vp_updL o (0 : Int32).toNatClampNeg r9.toInt64) _ _ (Or.inl ⟨rfl, r9, h9, rfl⟩) hP hD hS dL_explained_16 rfl
abbrev rmL_count : Room := { frames := 8, cells := 1, slots := 6, locals := 151 }
def cdL_count : Nat → Int32 := (fun e => match e with | _ => (1 : Int32))
theorem hdL_count : yL_count.cls ≠ "java/lang/invoke/MethodHandle" ∧ yL_count.cls ≠ "java/lang/invoke/VarHandle" ∧ (parseMethodDescriptor yL_count.desc).map (fun d => d.parameters.length) = some 3 := by decide +kernel
set_option maxRecDepth 100000 in
set_option maxHeartbeats 8000000 in
theorem ctL_count (l : Launch) (dC : Nat → ClassId) (dI : Nat → Nat → Nat) (cq : Nat → ClassId) (q : Nat → Nat) (S : CS) (M : MS) (o : Nat → Int64) (sz h0 : Nat) (x1 : Int32)  (post : Int32 → CS → Prop) (px : Nat → CS → Prop) (hM : ∀ sz, CtX_i l yX7_count wsX7_count rmX7_count (fun a => h0 ≤ a) (EV h0 q) dC dI cq (wA cq q S M o) sz [.ref (q 0), .int x1] (fun S => wA cq q S M o) post px (1) (6)) (he : ∀ e u, px e u → e = 1) : Met l yL_count wsL_count rmL_count (PreW (fun a => h0 ≤ a) (EV h0 q) dC dI cq (wA cq q S M o) sz [.ref (q 0), .int x1, .ref (q 33)]) (va_Qi (fun (r : Int32) (u : CS × (Nat → Int64)) => (r = 0 ∧ ∃ v, post v u.1 ∧ u.2 = vp_updL o (0 : Int32).toNatClampNeg v.toInt64) ∨ (∃ e, px e u.1 ∧ r = cdL_count e ∧ u.2 = o)) (fun u t => BkW dC dI cq (va_A (wA cq q S M o) sz) (wA cq q u.1 M u.2) t) (va_A (wA cq q S M o) sz)) (1) (6) (va_A (wA cq q S M o) sz) := by
  refine entWH_i (hh := [(0, 9, 12, 13)]) (ty := .int) (wf := fun u : CS × (Nat → Int64) => wA cq q u.1 M u.2) (cc := cL_count) (maxL := 4) (by decide) rfl (Nat.le_of_ble_eq_true rfl) (fun p e s m args below meth c A Q ls htb F hA hP hK hD hDm hX hS hl hend => ?_)
  obtain ⟨hx, hb, hml, hown, hts⟩ := id F
  have hown : s.vm.findClass RL = some m.cls := hown
  have F : CallFix p m c cL_count 4 s args wsL_count RL := F
  have hl : lv_has ls 4 [(0, .ref (q 0)), (1, .int x1), (2, .ref (q 33))] := hl
  refine lv_aload_n hx hb dL_count_0 rfl (lv_at hl 2 rfl) ?_
  refine lv_iconst (v := (0 : Int32)) hx hb dL_count_1 (by decide) ?_
  refine lv_aload_n hx hb dL_count_2 rfl (lv_at hl 0 rfl) ?_
  refine lv_iload_n hx hb dL_count_3 rfl (lv_at hl 1 rfl) ?_
  refine caXV_i (As := [.int x1]) (rest := [.int (0 : Int32), .ref (q 33)]) (hM _) F (cwV 1 hts gL_count_X7_count rfl rfl rfl hdX7_count ⟨Nat.le_of_ble_eq_true rfl, Nat.le_of_ble_eq_true rfl⟩) hK hP hD hDm hS hA EV.blind (fun U hU hW => EV.call hX hS hDm hU hW) (va_recv hK hP (ci := 8) (q0 := 0) rfl rfl) rfl hl.1 rfl (Nat.le_of_ble_eq_true rfl) dL_count_4 ⟨Nat.le_of_ble_eq_true rfl, Nat.le_of_ble_eq_true rfl⟩ (fun H locs k9 u9 E9 ce9 q9 h9 hP hD hS hce hcv hcl hE => ?_) (fun H locs r9 u9 h9 hP hD hS => ?_)
  · rcases he _ _ h9 with rfl
    · subst hE
      refine vx_catch (name := "java/lang/IllegalArgumentException") hown [] ⟨0, 9, 12, 13⟩ [] (by rw [htb]; rfl) (fun z hz => nomatch hz) (by decide) (by decide) (hts (.classLink RL 13 "java/lang/IllegalArgumentException") (mm 1 rfl)) (va_Nw.use rfl hX.1.2.2.2.2.2.2.2.2.2.2.2.2.2.2.2.2.2.2.2.2.2.1) hce hcv hcl ?_
      refine lv_astore_n (lv' := [(3, .ref q9), (0, .ref (q 0)), (1, .int x1), (2, .ref (q 33))]) hx hb dL_count_12 rfl hl (by decide) rfl (fun ls hl => ?_)
      refine lv_iconst (v := (1 : Int32)) hx hb dL_count_13 (by decide) ?_
      exact hend _ _ _ (u9, o) _ _ (Or.inr ⟨1, h9, rfl, rfl⟩) hP hD hS dL_count_14 rfl
  refine lv_i2l hx hb dL_count_7 rfl ?_
  refine as_33 F hK hP hD hS (inb_ok (i := 0) (n := 1) (by decide)) dL_count_8 (fun H locs hP hD hS => ?_)
  refine lv_goto (tgt := 15) hx hb dL_count_9 (by decide) ?_
  refine lv_iconst (v := (0 : Int32)) hx hb dL_count_15 (by decide) ?_
  exact hend _ _ _ (u9, vp_updL o (0 : Int32).toNatClampNeg r9.toInt64) _ _ (Or.inl ⟨rfl, r9, h9, rfl⟩) hP hD hS dL_count_16 rfl
abbrev rmL_fault : Room := { frames := 8, cells := 2, slots := 12, locals := 144 }
def cdL_fault : Nat → Int32 := (fun e => match e with | 1 => (2 : Int32) | _ => (1 : Int32))
theorem hdL_fault : yL_fault.cls ≠ "java/lang/invoke/MethodHandle" ∧ yL_fault.cls ≠ "java/lang/invoke/VarHandle" ∧ (parseMethodDescriptor yL_fault.desc).map (fun d => d.parameters.length) = some 4 := by decide +kernel
set_option maxRecDepth 100000 in
set_option maxHeartbeats 8000000 in
theorem ctL_fault (l : Launch) (dC : Nat → ClassId) (dI : Nat → Nat → Nat) (cq : Nat → ClassId) (q : Nat → Nat) (S : CS) (M : MS) (o : Nat → Int64) (sz h0 : Nat) (x1 : Int32) (x2 : Int32)  (post : Int32 → CS → Prop) (px : Nat → CS → Prop) (hM : ∀ sz, CtX_i l yX7_fault wsX7_fault rmX7_fault (fun a => h0 ≤ a) (EV h0 q) dC dI cq (wA cq q S M o) sz [.ref (q 0), .int x1, .int x2] (fun S => wA cq q S M o) post px (2) (12)) (he : ∀ e u, px e u → e = 1 ∨ e = 2) : Met l yL_fault wsL_fault rmL_fault (PreW (fun a => h0 ≤ a) (EV h0 q) dC dI cq (wA cq q S M o) sz [.ref (q 0), .int x1, .int x2, .ref (q 33)]) (va_Qi (fun (r : Int32) (u : CS × (Nat → Int64)) => (r = 0 ∧ ∃ v, post v u.1 ∧ u.2 = vp_updL o (0 : Int32).toNatClampNeg v.toInt64) ∨ (∃ e, px e u.1 ∧ r = cdL_fault e ∧ u.2 = o)) (fun u t => BkW dC dI cq (va_A (wA cq q S M o) sz) (wA cq q u.1 M u.2) t) (va_A (wA cq q S M o) sz)) (2) (12) (va_A (wA cq q S M o) sz) := by
  refine entWH_i (hh := [(0, 10, 13, 19), (0, 10, 17, 13)]) (ty := .int) (wf := fun u : CS × (Nat → Int64) => wA cq q u.1 M u.2) (cc := cL_fault) (maxL := 5) (by decide) rfl (Nat.le_of_ble_eq_true rfl) (fun p e s m args below meth c A Q ls htb F hA hP hK hD hDm hX hS hl hend => ?_)
  obtain ⟨hx, hb, hml, hown, hts⟩ := id F
  have hown : s.vm.findClass RL = some m.cls := hown
  have F : CallFix p m c cL_fault 5 s args wsL_fault RL := F
  have hl : lv_has ls 5 [(0, .ref (q 0)), (1, .int x1), (2, .int x2), (3, .ref (q 33))] := hl
  refine lv_aload_n hx hb dL_fault_0 rfl (lv_at hl 3 rfl) ?_
  refine lv_iconst (v := (0 : Int32)) hx hb dL_fault_1 (by decide) ?_
  refine lv_aload_n hx hb dL_fault_2 rfl (lv_at hl 0 rfl) ?_
  refine lv_iload_n hx hb dL_fault_3 rfl (lv_at hl 1 rfl) ?_
  refine lv_iload_n hx hb dL_fault_4 rfl (lv_at hl 2 rfl) ?_
  refine caXV_i (As := [.int x1, .int x2]) (rest := [.int (0 : Int32), .ref (q 33)]) (hM _) F (cwV 2 hts gL_fault_X7_fault rfl rfl rfl hdX7_fault ⟨Nat.le_of_ble_eq_true rfl, Nat.le_of_ble_eq_true rfl⟩) hK hP hD hDm hS hA EV.blind (fun U hU hW => EV.call hX hS hDm hU hW) (va_recv hK hP (ci := 8) (q0 := 0) rfl rfl) rfl hl.1 rfl (Nat.le_of_ble_eq_true rfl) dL_fault_5 ⟨Nat.le_of_ble_eq_true rfl, Nat.le_of_ble_eq_true rfl⟩ (fun H locs k9 u9 E9 ce9 q9 h9 hP hD hS hce hcv hcl hE => ?_) (fun H locs r9 u9 h9 hP hD hS => ?_)
  · rcases he _ _ h9 with rfl | rfl
    · subst hE
      refine vx_catch (name := "java/lang/IllegalArgumentException") hown [⟨0, 10, 13, 19⟩] ⟨0, 10, 17, 13⟩ [] (by rw [htb]; rfl) (fun z hz => (List.mem_cons.mp hz).elim (fun e9 => by rw [e9]; exact Or.inr ⟨by decide, _, (hts (.classLink RL 19 "java/lang/IndexOutOfBoundsException") (mm 1 rfl)), hX.2.2.2.2.2.2.2.2.2.2.2.2.2.2.1⟩) (fun hz => absurd hz List.not_mem_nil)) (by decide) (by decide) (hts (.classLink RL 13 "java/lang/IllegalArgumentException") (mm 2 rfl)) (va_Nw.use rfl hX.1.2.2.2.2.2.2.2.2.2.2.2.2.2.2.2.2.2.2.2.2.2.1) hce hcv hcl ?_
      refine lv_astore (lv' := [(4, .ref q9), (0, .ref (q 0)), (1, .int x1), (2, .int x2), (3, .ref (q 33))]) hx hb dL_fault_17 hl (by decide) rfl (fun ls hl => ?_)
      refine lv_iconst (v := (2 : Int32)) hx hb dL_fault_19 (by decide) ?_
      exact hend _ _ _ (u9, o) _ _ (Or.inr ⟨1, h9, rfl, rfl⟩) hP hD hS dL_fault_20 rfl
    · subst hE
      refine vx_catch (name := "java/lang/IndexOutOfBoundsException") hown [] ⟨0, 10, 13, 19⟩ [⟨0, 10, 17, 13⟩] (by rw [htb]; rfl) (fun z hz => nomatch hz) (by decide) (by decide) (hts (.classLink RL 19 "java/lang/IndexOutOfBoundsException") (mm 1 rfl)) (va_Nw.use rfl hX.1.2.2.2.2.2.2.2.2.2.2.2.2.2.2.2.2.2.2.2.2.2.2.1) hce hcv hcl ?_
      refine lv_astore (lv' := [(4, .ref q9), (0, .ref (q 0)), (1, .int x1), (2, .int x2), (3, .ref (q 33))]) hx hb dL_fault_13 hl (by decide) rfl (fun ls hl => ?_)
      refine lv_iconst (v := (1 : Int32)) hx hb dL_fault_15 (by decide) ?_
      exact hend _ _ _ (u9, o) _ _ (Or.inr ⟨2, h9, rfl, rfl⟩) hP hD hS dL_fault_16 rfl
  refine lv_i2l hx hb dL_fault_8 rfl ?_
  refine as_33 F hK hP hD hS (inb_ok (i := 0) (n := 1) (by decide)) dL_fault_9 (fun H locs hP hD hS => ?_)
  refine lv_goto (tgt := 21) hx hb dL_fault_10 (by decide) ?_
  refine lv_iconst (v := (0 : Int32)) hx hb dL_fault_21 (by decide) ?_
  exact hend _ _ _ (u9, vp_updL o (0 : Int32).toNatClampNeg r9.toInt64) _ _ (Or.inl ⟨rfl, r9, h9, rfl⟩) hP hD hS dL_fault_22 rfl
abbrev rmL_wire : Room := { frames := 9, cells := 2, slots := 12, locals := 164 }
def cdL_wire : Nat → Int32 := (fun e => match e with | 1 => (1 : Int32) | _ => (2 : Int32))
theorem hdL_wire : yL_wire.cls ≠ "java/lang/invoke/MethodHandle" ∧ yL_wire.cls ≠ "java/lang/invoke/VarHandle" ∧ (parseMethodDescriptor yL_wire.desc).map (fun d => d.parameters.length) = some 4 := by decide +kernel
set_option maxRecDepth 100000 in
set_option maxHeartbeats 8000000 in
theorem ctL_wire (l : Launch) (dC : Nat → ClassId) (dI : Nat → Nat → Nat) (cq : Nat → ClassId) (q : Nat → Nat) (S : CS) (M : MS) (o : Nat → Int64) (sz h0 : Nat) (x1 : Int32) (x2 : Int32)  (post : Int32 → CS → Prop) (px : Nat → CS → Prop) (hM : ∀ sz, CtX_i l yX7_wire wsX7_wire rmX7_wire (fun a => h0 ≤ a) (EV h0 q) dC dI cq (wA cq q S M o) sz [.ref (q 0), .int x1, .int x2] (fun S => wA cq q S M o) post px (2) (12)) (he : ∀ e u, px e u → e = 1 ∨ e = 2) : Met l yL_wire wsL_wire rmL_wire (PreW (fun a => h0 ≤ a) (EV h0 q) dC dI cq (wA cq q S M o) sz [.ref (q 0), .int x1, .int x2, .ref (q 33)]) (va_Qi (fun (r : Int32) (u : CS × (Nat → Int64)) => (r = 0 ∧ ∃ v, post v u.1 ∧ u.2 = vp_updL o (0 : Int32).toNatClampNeg v.toInt64) ∨ (∃ e, px e u.1 ∧ r = cdL_wire e ∧ u.2 = o)) (fun u t => BkW dC dI cq (va_A (wA cq q S M o) sz) (wA cq q u.1 M u.2) t) (va_A (wA cq q S M o) sz)) (2) (12) (va_A (wA cq q S M o) sz) := by
  refine entWH_i (hh := [(0, 10, 13, 13), (0, 10, 17, 19)]) (ty := .int) (wf := fun u : CS × (Nat → Int64) => wA cq q u.1 M u.2) (cc := cL_wire) (maxL := 5) (by decide) rfl (Nat.le_of_ble_eq_true rfl) (fun p e s m args below meth c A Q ls htb F hA hP hK hD hDm hX hS hl hend => ?_)
  obtain ⟨hx, hb, hml, hown, hts⟩ := id F
  have hown : s.vm.findClass RL = some m.cls := hown
  have F : CallFix p m c cL_wire 5 s args wsL_wire RL := F
  have hl : lv_has ls 5 [(0, .ref (q 0)), (1, .int x1), (2, .int x2), (3, .ref (q 33))] := hl
  refine lv_aload_n hx hb dL_wire_0 rfl (lv_at hl 3 rfl) ?_
  refine lv_iconst (v := (0 : Int32)) hx hb dL_wire_1 (by decide) ?_
  refine lv_aload_n hx hb dL_wire_2 rfl (lv_at hl 0 rfl) ?_
  refine lv_iload_n hx hb dL_wire_3 rfl (lv_at hl 1 rfl) ?_
  refine lv_iload_n hx hb dL_wire_4 rfl (lv_at hl 2 rfl) ?_
  refine caXV_i (As := [.int x1, .int x2]) (rest := [.int (0 : Int32), .ref (q 33)]) (hM _) F (cwV 2 hts gL_wire_X7_wire rfl rfl rfl hdX7_wire ⟨Nat.le_of_ble_eq_true rfl, Nat.le_of_ble_eq_true rfl⟩) hK hP hD hDm hS hA EV.blind (fun U hU hW => EV.call hX hS hDm hU hW) (va_recv hK hP (ci := 8) (q0 := 0) rfl rfl) rfl hl.1 rfl (Nat.le_of_ble_eq_true rfl) dL_wire_5 ⟨Nat.le_of_ble_eq_true rfl, Nat.le_of_ble_eq_true rfl⟩ (fun H locs k9 u9 E9 ce9 q9 h9 hP hD hS hce hcv hcl hE => ?_) (fun H locs r9 u9 h9 hP hD hS => ?_)
  · rcases he _ _ h9 with rfl | rfl
    · subst hE
      refine vx_catch (name := "java/lang/IllegalArgumentException") hown [] ⟨0, 10, 13, 13⟩ [⟨0, 10, 17, 19⟩] (by rw [htb]; rfl) (fun z hz => nomatch hz) (by decide) (by decide) (hts (.classLink RL 13 "java/lang/IllegalArgumentException") (mm 1 rfl)) (va_Nw.use rfl hX.1.2.2.2.2.2.2.2.2.2.2.2.2.2.2.2.2.2.2.2.2.2.1) hce hcv hcl ?_
      refine lv_astore (lv' := [(4, .ref q9), (0, .ref (q 0)), (1, .int x1), (2, .int x2), (3, .ref (q 33))]) hx hb dL_wire_13 hl (by decide) rfl (fun ls hl => ?_)
      refine lv_iconst (v := (1 : Int32)) hx hb dL_wire_15 (by decide) ?_
      exact hend _ _ _ (u9, o) _ _ (Or.inr ⟨1, h9, rfl, rfl⟩) hP hD hS dL_wire_16 rfl
    · subst hE
      refine vx_catch (name := "java/lang/IndexOutOfBoundsException") hown [⟨0, 10, 13, 13⟩] ⟨0, 10, 17, 19⟩ [] (by rw [htb]; rfl) (fun z hz => (List.mem_cons.mp hz).elim (fun e9 => by rw [e9]; exact Or.inr ⟨by decide, _, (hts (.classLink RL 13 "java/lang/IllegalArgumentException") (mm 1 rfl)), hX.2.2.2.2.2.2.2.2.2.2.2.2.2.2.2.2.1⟩) (fun hz => absurd hz List.not_mem_nil)) (by decide) (by decide) (hts (.classLink RL 19 "java/lang/IndexOutOfBoundsException") (mm 2 rfl)) (va_Nw.use rfl hX.1.2.2.2.2.2.2.2.2.2.2.2.2.2.2.2.2.2.2.2.2.2.2.1) hce hcv hcl ?_
      refine lv_astore (lv' := [(4, .ref q9), (0, .ref (q 0)), (1, .int x1), (2, .int x2), (3, .ref (q 33))]) hx hb dL_wire_17 hl (by decide) rfl (fun ls hl => ?_)
      refine lv_iconst (v := (2 : Int32)) hx hb dL_wire_19 (by decide) ?_
      exact hend _ _ _ (u9, o) _ _ (Or.inr ⟨2, h9, rfl, rfl⟩) hP hD hS dL_wire_20 rfl
  refine lv_i2l hx hb dL_wire_8 rfl ?_
  refine as_33 F hK hP hD hS (inb_ok (i := 0) (n := 1) (by decide)) dL_wire_9 (fun H locs hP hD hS => ?_)
  refine lv_goto (tgt := 21) hx hb dL_wire_10 (by decide) ?_
  refine lv_iconst (v := (0 : Int32)) hx hb dL_wire_21 (by decide) ?_
  exact hend _ _ _ (u9, vp_updL o (0 : Int32).toNatClampNeg r9.toInt64) _ _ (Or.inl ⟨rfl, r9, h9, rfl⟩) hP hD hS dL_wire_22 rfl
