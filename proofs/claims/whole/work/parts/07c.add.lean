theorem entW_I {l : Launch} {dC : Nat → ClassId} {dI : Nat → Nat → Nat} {cq : Nat → ClassId} {w : va_W} {U : Type} {wf : U → va_W} {post : U → Prop} {y : MethodName} {ws ws' : List Cond} {cc : ByteArray} {maxL mc ms : Nat} {rm : Room} {Dm : Nat → Prop} {X : State → Prop} {sz : Nat} {av : List Value} (hy : plainName y.cls = true) (hw : ws = Cond.code y cc maxL none :: ws') (hlen : (lg_sl av).length ≤ maxL) (hyn : y.name = "<init>")
    (body : ∀ (p : Program) (e : Env) (s : State) (m : MethodId) (args : Array Value) (below : List Frame) (meth : Method) (c : Code) (A : Nat → Prop) (Q : State → Prop) (ls : Array Slot), CallFix p m c cc maxL s args ws y.cls → (∀ a, s.heap.size ≤ a → A a) → va_P (dC, dI) vwCl w s.heap → va_K (dC, dI) vwCl (tyA cq) s → va_D A w → (∀ a, A a → Dm a) → X s → va_S A s.heap s.heap [] → lv_has ls maxL (lv_args 0 av) → meth.name = "<init>" →
      (∀ (H : Heap) (locs : List Loc) (u : U) (pc : Nat) (ls : Array Slot), post u → va_P (dC, dI) vwCl (wf u) H → va_D A (wf u) → va_S A s.heap H locs → decode cc pc = .ok (.return_, 1) → W p l e rm s m args below meth c H locs mc ms Q (F0 m pc ls [])) →
      W p l e rm s m args below meth c s.heap [] 0 0 Q (F0 m 0 ls [])) :
    Met l y ws rm (PreW Dm X dC dI cq w sz av) (va_Qv post (fun u t => BkW dC dI cq (va_A w sz) (wf u) t) (va_A w sz)) mc ms (va_A w sz) := by
  refine Met.ofW (cc := cc) (maxL := maxL) (ret := none) hy hw ?_
  intro p e s m args below meth c s₁ B hml hv
  obtain ⟨rfl, hsz, hP, hK, hD0, hz0, hX⟩ := hv
  have hx := B.exec
  have hb := B.bytes
  have hr := B.returns
  have hts := atoms_spec (ws := ws) B.pre
  have hown : s.vm.findClass y.cls = some m.cls := findClass_of_methodNamed B.named
  have hlocks := B.notSynchronized
  subst hsz
  have hD := hD0.self (sz := s.heap.size)
  have hA : ∀ a : Nat, s.heap.size ≤ a → va_A w s.heap.size a := fun a h => Or.inr h
  have hl := lv_entry av (n := maxL) hlen
  rw [lg_entry_eq]
  refine body p e s m _ below meth c _ _ _ ⟨hx, hb, hml, hown, hts⟩ hA hP hK hD (fun a h => h.elim (fun ⟨k, e, h⟩ => hD0.2 k (a, e) h) (fun h => hz0 a h)) hX va_S.rf hl ((name_of_methodNamed B.named B.method).1.trans hyn) ?_
  intro H locs u pc ls hpost hP hD hS hdg
  exact W.vret hx hb hr (fun t ht hW => ⟨⟨u, rfl, hpost, by rw [ht]; exact hP, va_K.moved hW.alike hK, hD⟩, hS.F ht⟩) hS.2.2 hdg
theorem caWI_v {l : Launch} {dC : Nat → ClassId} {dI : Nat → Nat → Nat} {cq : Nat → ClassId} {p : Program} {e : Env} {R : Room} {s : State} {m : MethodId} {args : Array Value} {below : List Frame} {meth : Method} {c : Code} {H : Heap} {locs : List Loc} {cells slots : Nat} {Q : State → Prop} {A : Nat → Prop} {w : va_W} {U : Type} {wf : U → va_W} {post : U → Prop} {y : MethodName} {cc bytes : ByteArray} {maxL nL n index mc ms : Nat} {ws Ts : List Cond} {rm : Room} {own : String} {b : Nat} {As rest st0 : List Value} {pc : Nat} {ls : Array Slot} {Dm : Nat → Prop} {X : State → Prop}
    (hM : Met l y ws rm (PreW Dm X dC dI cq w H.size (.ref b :: As)) (va_Qv post (fun u t => BkW dC dI cq (va_A w H.size) (wf u) t) (va_A w H.size)) mc ms (va_A w H.size))
    (F : CallFix p m c cc nL s args Ts own) (cw : CallB R s args own index y bytes maxL none ws rm mc ms n ∧ y.name = "<init>" ∧ (Cond.instanceMethod y).before args s = true) (hK : va_K (dC, dI) vwCl (tyA cq) s) (hP : va_P (dC, dI) vwCl w H) (hD : va_D A w) (hDm : ∀ a, A a → Dm a) (hS : va_S A s.heap H locs) (hA : ∀ a, s.heap.size ≤ a → A a)
    (hXb : ∀ (U : State) (g : JFrame) (mk : MethodId) (a : Array Value), X U → X (U.calling g mk a)) (hXc : ∀ U : State, U.heap = H → s.WarmedH U.vm → X U)
    (hn : As.length = n) (hsize : ls.size = nL) (hst : st0 = As.reverse ++ .ref b :: rest) (hW : (rest.map fun v => v.category).sum ≤ 8) (hdg : decode cc pc = .ok (.invokespecial index, 3)) (hf : cells + mc ≤ R.cells ∧ slots + ms ≤ R.slots)
    (kk : ∀ (H1 : Heap) (locs1 : List Loc) (u : U), post u → va_P (dC, dI) vwCl (wf u) H1 → va_D A (wf u) → va_S A s.heap H1 locs1 → W p l e R s m args below meth c H1 locs1 (cells + mc) (slots + ms) Q (F0 m (pc + 3) ls rest)) :
    W p l e R s m args below meth c H locs cells slots Q (F0 m pc ls st0) := by
  have hFc := freeW hD hS hA
  refine va_callv (va_runI (As := As) (rest := rest) F hM cw ⟨PreW.blind hXb, fun U hU hW => ⟨rfl, by rw [hU], by rw [hU]; exact hP, va_K.moved hW.alike hK, hD.weaken (fun _ _ _ h => hDm _ h), fun a h => hDm a (hA a (Nat.le_trans hS.1 h)), hXc U hU hW⟩⟩ rfl hn hsize hst (lv_room hW) hdg hf) hS (fun a _ h => hFc a h) hFc (fun u t H1 locs1 ht hvm hw hB hz1 hk1 hS1 => ?_)
  obtain ⟨hP1, hK1, hD1⟩ := hB
  rw [ht] at hP1
  exact kk H1 locs1 u hw hP1 (hD1.weaken (fun i z _ hz => hFc _ hz)) hS1
theorem adr_add (fl : List FT) (w : FT) : va_up (adr fl) fl.length (some w.1) = adr (fl ++ [w]) := by
  funext j
  unfold adr
  rcases Nat.lt_trichotomy j fl.length with h | h | h
  · rw [va_up_ne _ _ (by omega), List.getElem?_append_left h]
  · subst h
    rw [va_up_self, List.getElem?_append_right (Nat.le_refl _), Nat.sub_self]
    rfl
  · rw [va_up_ne _ _ (by omega), List.getElem?_eq_none (by omega), List.getElem?_eq_none (by simp; omega)]
def addF (S : CS) (w : FT) (a : Nat) : CS := (upd S.1 4 (S.1 4 + 1), S.2.1, S.2.2.1, S.2.2.2.1 ++ [w], some a)
/-- a world with a fault that isn't in the list yet -/
def wN (cq : Nat → ClassId) (q : Nat → Nat) (S : CS) (M : MS) (o : Nat → Int64) (mc : Int32) (w : FT) : va_W := wG cq q S M o mc (edA q S) (nI S.2.2.2.1.length) (wEd cq S ++ (S.2.2.2.1 ++ [w]).map wFc)
theorem wN_some {cq : Nat → ClassId} {q : Nat → Nat} {S : CS} {M : MS} {o : Nat → Int64} {mc : Int32} {w : FT} {a : Nat} (hm : S.2.2.2.2 = some a) : wN cq q S M o mc w = wG cq q S M o mc a (nI S.2.2.2.1.length) ((a, .inl (cq 34, 10, .inr (.inr (.inr (.inr (adr S.2.2.2.1)))))) :: (S.2.2.2.1 ++ [w]).map wFc) := by
  unfold wN edA wEd
  rw [hm]
  rfl
theorem wN_none {cq : Nat → ClassId} {q : Nat → Nat} {S : CS} {M : MS} {o : Nat → Int64} {mc : Int32} {w : FT} (hm : S.2.2.2.2 = none) (hf : S.2.2.2.1 = []) : wN cq q S M o mc w = wG cq q S M o mc (q 34) 0 [wFc w] := by
  unfold wN edA wEd
  rw [hm, hf]
  rfl
theorem wN_w {cq : Nat → ClassId} {q : Nat → Nat} {S : CS} {M : MS} {o : Nat → Int64} {mc : Int32} {a : Nat} {z : Int32} {e : va_E} {fl : List FT} {w : FT} : (wG cq q S M o mc a z ((a, e) :: (fl ++ [w]).map wFc))[35 + fl.length]? = some (w.1, .inr (3, [.int (w.2 0), .int (w.2 1), .int (w.2 2), .int (w.2 3), .int (w.2 4)])) := by
  have h1 : (wG cq q S M o mc a z ((a, e) :: (fl ++ [w]).map wFc))[35 + fl.length]? = ((fl ++ [w]).map wFc)[fl.length]? := by
    unfold wG
    rw [Nat.add_comm 35 _]
    rfl
  rw [h1, List.getElem?_map, List.getElem?_append_right (Nat.le_refl _), Nat.sub_self]
  rfl
theorem wA_N (cq : Nat → ClassId) (q : Nat → Nat) (S : CS) (M : MS) (o : Nat → Int64) (w : FT) : wA cq q S M o ++ [wFc w] = wN cq q S M o (S.1 4) w := by
  have h1 : wA cq q S M o ++ [wFc w] = wG cq q S M o (S.1 4) (edA q S) (nI S.2.2.2.1.length) (wF cq S ++ [wFc w]) := rfl
  rw [h1]
  unfold wN wF
  rw [List.append_assoc, List.map_append]
  rfl
theorem hdJx4a65c_grow_92f84 : yJx4a65c_grow_92f84.cls = RJx4a65c ∧ yJx4a65c_grow_92f84.cls ≠ "java/lang/invoke/MethodHandle" ∧ yJx4a65c_grow_92f84.cls ≠ "java/lang/invoke/VarHandle" ∧ (parseMethodDescriptor yJx4a65c_grow_92f84.desc).map (fun d => d.parameters.length) = some 1 := by decide +kernel
abbrev rmJx4a65c_grow_92f84 : Room := { frames := 1, cells := 1, slots := 10, locals := 40 }
set_option maxRecDepth 100000 in
set_option maxHeartbeats 8000000 in
theorem ctJx4a65c_grow_92f84 (l : Launch) (dC : Nat → ClassId) (dI : Nat → Nat → Nat) (cq : Nat → ClassId) (q : Nat → Nat) (S : CS) (M : MS) (o : Nat → Int64) (sz h0 : Nat) (mc : Int32) (w : FT) : Met l yJx4a65c_grow_92f84 wsJx4a65c_grow_92f84 rmJx4a65c_grow_92f84 (PreW (fun a => h0 ≤ a) (EV h0 q) dC dI cq (wG cq q S M o mc (q 34) 0 [wFc w]) sz [.ref (q 3), .int (0 + 1)]) (va_Qr (fun _ : Nat => True) (fun u a t => a = id u ∧ BkW dC dI cq (va_A (wG cq q S M o mc (q 34) 0 [wFc w]) sz) (wG cq q S M o mc u 0 [(u, .inl (cq 34, 10, .inr (.inr (.inr (.inr (adr [])))))), wFc w]) t) (va_A (wG cq q S M o mc (q 34) 0 [wFc w]) sz)) 1 10 (va_A (wG cq q S M o mc (q 34) 0 [wFc w]) sz) := by
  refine entW_r (wf := fun u => wG cq q S M o mc u 0 [(u, .inl (cq 34, 10, .inr (.inr (.inr (.inr (adr [])))))), wFc w]) (ra := id) (cc := cJx4a65c_grow_92f84) (maxL := 4) (Or.inr ⟨_, rfl⟩) (by decide) rfl (Nat.le_of_ble_eq_true rfl) (fun p e s m args below meth c A Q ls F hA hP hK hD hDm hX hS hl hend => ?_)
  obtain ⟨hx, hb, hml, hown, hts⟩ := id F
  have hown : s.vm.findClass RJx4a65c = some m.cls := hown
  have F : CallFix p m c cJx4a65c_grow_92f84 4 s args wsJx4a65c_grow_92f84 RJx4a65c := F
  have hl : lv_has ls 4 [(0, .ref (q 3)), (1, .int (0 + 1))] := hl
  have hin : ∀ w ∈ u_ws RJx4a65c TJx4a65c 3, w ∈ wsJx4a65c_grow_92f84 := fun w h => List.mem_cons_of_mem _ (List.mem_append_right _ h)
  refine lv_aload_n hx hb dJx4a65c_grow_92f84_0 rfl (lv_at hl 0 rfl) ?_
  refine va_get (D := (dC, dI)) (ci := 0) (v := .ref (q 34)) (C := RJx4a65c) (T := TJx4a65c) (N := 3) hx hb hts hin hown hK hP 3 rfl rfl 1 (by decide) (hts (.fieldLink RJx4a65c 9 "java/util/ArrayList" "elementData" "[Ljava/lang/Object;") (mm 1 rfl)) (fun _ h9 => h9) rfl dJx4a65c_grow_92f84_1 ?_
  refine va_tlen hx hb (hX.2.2.1.narrow hDm) hS (v := 0) (by decide) dJx4a65c_grow_92f84_4 ?_
  refine lv_istore_n (lv' := [(2, .int 0), (0, .ref (q 3)), (1, .int (0 + 1))]) hx hb dJx4a65c_grow_92f84_5 rfl hl (by decide) rfl (fun ls hl => ?_)
  refine lv_iload_n hx hb dJx4a65c_grow_92f84_6 rfl (lv_at hl 0 rfl) ?_
  refine lv_if_gt (tgt := 20) hx hb dJx4a65c_grow_92f84_7 (by decide) (fun c1 => absurd c1 (by decide)) (fun c1 => ?_)
  refine lv_aload_n hx hb dJx4a65c_grow_92f84_10 rfl (lv_at hl 1 rfl) ?_
  refine va_get (D := (dC, dI)) (ci := 0) (v := .ref (q 34)) (C := RJx4a65c) (T := TJx4a65c) (N := 3) hx hb hts hin hown hK hP 3 rfl rfl 1 (by decide) (hts (.fieldLink RJx4a65c 9 "java/util/ArrayList" "elementData" "[Ljava/lang/Object;") (mm 1 rfl)) (fun _ h9 => h9) rfl dJx4a65c_grow_92f84_11 ?_
  refine va_gets hx hb (hX.2.1.narrow hDm) hS hown (hts (.fieldLink RJx4a65c 39 "java/util/ArrayList" "DEFAULTCAPACITY_EMPTY_ELEMENTDATA" "[Ljava/lang/Object;") (mm 2 rfl)) (fun _ h9 => h9) dJx4a65c_grow_92f84_14 ?_
  refine lv_acmp_eq (rx := some (q 34)) (ry := some (q 34)) (tgt := 45) hx hb dJx4a65c_grow_92f84_17 (by decide) (fun c2 => ?_) (fun c2 => absurd rfl c2)
  refine lv_aload_n hx hb dJx4a65c_grow_92f84_45 rfl (lv_at hl 1 rfl) ?_
  refine lv_bipush (v := (10 : Int32)) hx hb dJx4a65c_grow_92f84_46 (by decide) ?_
  refine lv_iload_n hx hb dJx4a65c_grow_92f84_48 rfl (lv_at hl 2 rfl) ?_
  refine va_mmax hx hb (hml.trans hl.1.symm) hown (hts (.methodLink RJx4a65c 79 Lib.Math.max.name) (mm 3 rfl)) (hts (.static Lib.Math.max.name) (mm 4 rfl)) (hts (.initialized "java/lang/Math") (mm 5 rfl)) (hts (.code Lib.Math.max.name Lib.Math.max.code 2 (some .int)) (mm 6 rfl)) (Nat.le_of_ble_eq_true rfl) (Nat.le_of_ble_eq_true rfl) (Nat.zero_le _) (Nat.zero_le _) dJx4a65c_grow_92f84_49 ?_
  refine va_newq (N' := 10) hx hb hown (hts (.classLink RJx4a65c 7 "java/lang/Object") (mm 7 rfl)) hX.2.2.2.1 hK hP hD hS hA (by decide) (by decide) (by decide) (Nat.le_of_ble_eq_true rfl) (Nat.le_of_ble_eq_true rfl) dJx4a65c_grow_92f84_52 (fun a cA H hK9 hP hD hS => ?_)
  have hcA : cA = cq 34 := by
    obtain ⟨-, k1, m1, -, -, -, h1⟩ := hK9.2 25 _ rfl
    obtain ⟨-, k2, m2, -, -, -, h2⟩ := hK.2 24 _ rfl
    exact Option.some.inj (h1.symm.trans h2)
  subst hcA
  have hP := hP.sub (ws' := wG cq q S M o mc (q 34) 0 [(a, .inl (cq 34, 10, .inr (.inr (.inr (.inr (adr [])))))), wFc w]) [0, 1, 2, 3, 4, 5, 6, 7, 8, 9, 10, 11, 12, 13, 14, 15, 16, 17, 18, 19, 20, 21, 22, 23, 24, 25, 26, 27, 28, 29, 30, 31, 32, 33, 35, 34] rfl
  have hD := hD.sub (ws' := wG cq q S M o mc (q 34) 0 [(a, .inl (cq 34, 10, .inr (.inr (.inr (.inr (adr [])))))), wFc w]) [0, 1, 2, 3, 4, 5, 6, 7, 8, 9, 10, 11, 12, 13, 14, 15, 16, 17, 18, 19, 20, 21, 22, 23, 24, 25, 26, 27, 28, 29, 30, 31, 32, 33, 35, 34] (by decide) rfl
  refine lv_dup_x1 hx hb dJx4a65c_grow_92f84_55 rfl rfl ?_
  refine pG_ed F hin (hts (.fieldLink RJx4a65c 9 "java/util/ArrayList" "elementData" "[Ljava/lang/Object;") (mm 1 rfl)) hK hP hD hS dJx4a65c_grow_92f84_56 (fun H locs hP hD hS => ?_)
  exact hend _ _ a _ _ trivial hP hD hS dJx4a65c_grow_92f84_59
theorem hdJx4a65c_grow_d5877 : yJx4a65c_grow_d5877.cls = RJx4a65c ∧ yJx4a65c_grow_d5877.cls ≠ "java/lang/invoke/MethodHandle" ∧ yJx4a65c_grow_d5877.cls ≠ "java/lang/invoke/VarHandle" ∧ (parseMethodDescriptor yJx4a65c_grow_d5877.desc).map (fun d => d.parameters.length) = some 0 := by decide +kernel
abbrev rmJx4a65c_grow_d5877 : Room := { frames := 2, cells := 1, slots := 10, locals := 70 }
set_option maxRecDepth 100000 in
set_option maxHeartbeats 8000000 in
theorem ctJx4a65c_grow_d5877 (l : Launch) (dC : Nat → ClassId) (dI : Nat → Nat → Nat) (cq : Nat → ClassId) (q : Nat → Nat) (S : CS) (M : MS) (o : Nat → Int64) (sz h0 : Nat) (mc : Int32) (w : FT) : Met l yJx4a65c_grow_d5877 wsJx4a65c_grow_d5877 rmJx4a65c_grow_d5877 (PreW (fun a => h0 ≤ a) (EV h0 q) dC dI cq (wG cq q S M o mc (q 34) 0 [wFc w]) sz [.ref (q 3)]) (va_Qr (fun _ : Nat => True) (fun u a t => a = id u ∧ BkW dC dI cq (va_A (wG cq q S M o mc (q 34) 0 [wFc w]) sz) (wG cq q S M o mc u 0 [(u, .inl (cq 34, 10, .inr (.inr (.inr (.inr (adr [])))))), wFc w]) t) (va_A (wG cq q S M o mc (q 34) 0 [wFc w]) sz)) 1 10 (va_A (wG cq q S M o mc (q 34) 0 [wFc w]) sz) := by
  refine entW_r (wf := fun u => wG cq q S M o mc u 0 [(u, .inl (cq 34, 10, .inr (.inr (.inr (.inr (adr [])))))), wFc w]) (ra := id) (cc := cJx4a65c_grow_d5877) (maxL := 1) (Or.inr ⟨_, rfl⟩) (by decide) rfl (Nat.le_of_ble_eq_true rfl) (fun p e s m args below meth c A Q ls F hA hP hK hD hDm hX hS hl hend => ?_)
  obtain ⟨hx, hb, hml, hown, hts⟩ := id F
  have hown : s.vm.findClass RJx4a65c = some m.cls := hown
  have F : CallFix p m c cJx4a65c_grow_d5877 1 s args wsJx4a65c_grow_d5877 RJx4a65c := F
  have hl : lv_has ls 1 [(0, .ref (q 3))] := hl
  have hin : ∀ w ∈ u_ws RJx4a65c TJx4a65c 3, w ∈ wsJx4a65c_grow_d5877 := fun w h => List.mem_cons_of_mem _ (List.mem_append_right _ h)
  refine lv_aload_n hx hb dJx4a65c_grow_d5877_0 rfl (lv_at hl 0 rfl) ?_
  refine lv_aload_n hx hb dJx4a65c_grow_d5877_1 rfl (lv_at hl 0 rfl) ?_
  refine va_get (D := (dC, dI)) (ci := 0) (v := .int 0) (C := RJx4a65c) (T := TJx4a65c) (N := 3) hx hb hts hin hown hK hP 3 rfl rfl 2 (by decide) (hts (.fieldLink RJx4a65c 48 "java/util/ArrayList" "size" "I") (mm 1 rfl)) (fun _ h9 => h9) rfl dJx4a65c_grow_d5877_2 ?_
  refine lv_iconst (v := (1 : Int32)) hx hb dJx4a65c_grow_d5877_5 (by decide) ?_
  refine lv_iadd hx hb dJx4a65c_grow_d5877_6 ?_
  refine caWV_r (As := [.int (0 + 1)]) (rest := []) (ctJx4a65c_grow_92f84 l dC dI cq q S M o _ _ mc w) F (cwV 1 hts gJx4a65c_grow_d5877_Jx4a65c_grow_92f84 rfl rfl rfl hdJx4a65c_grow_92f84 ⟨Nat.le_of_ble_eq_true rfl, Nat.le_of_ble_eq_true rfl⟩) hK hP hD hDm hS hA EV.blind (fun U hU hW => EV.call hX hS hDm hU hW) (va_recv hK hP (ci := 0) (q0 := 3) rfl rfl) rfl hl.1 rfl (Nat.le_of_ble_eq_true rfl) dJx4a65c_grow_d5877_7 ⟨Nat.le_of_ble_eq_true rfl, Nat.le_of_ble_eq_true rfl⟩ (fun H locs u _ hP hD hS => ?_)
  exact hend _ _ u _ _ trivial hP hD hS dJx4a65c_grow_d5877_10
theorem hdJx4a65c_add_72be8 : yJx4a65c_add_72be8.cls = RJx4a65c ∧ yJx4a65c_add_72be8.cls ≠ "java/lang/invoke/MethodHandle" ∧ yJx4a65c_add_72be8.cls ≠ "java/lang/invoke/VarHandle" ∧ (parseMethodDescriptor yJx4a65c_add_72be8.desc).map (fun d => d.parameters.length) = some 3 := by decide +kernel
abbrev rmJx4a65c_add_72be8 : Room := { frames := 3, cells := 1, slots := 10, locals := 100 }
set_option maxRecDepth 100000 in
set_option maxHeartbeats 8000000 in
theorem ctJx4a65c_add_72be8 (l : Launch) (dC : Nat → ClassId) (dI : Nat → Nat → Nat) (cq : Nat → ClassId) (q : Nat → Nat) (S : CS) (M : MS) (o : Nat → Int64) (sz h0 : Nat) (mc : Int32) (w : FT) (hlt : S.2.2.2.1.length < 10) (hmo : S.2.2.2.2 = none → S.2.2.2.1 = []) : Met l yJx4a65c_add_72be8 wsJx4a65c_add_72be8 rmJx4a65c_add_72be8 (PreW (fun a => h0 ≤ a) (EV h0 q) dC dI cq (wN cq q S M o mc w) sz [.ref (q 3), .ref w.1, .ref (edA q S), .int (nI S.2.2.2.1.length)]) (va_Qv (fun _ : Nat => True) (fun u t => BkW dC dI cq (va_A (wN cq q S M o mc w) sz) ((fun u : Nat => wG cq q S M o mc u (nI (S.2.2.2.1 ++ [w]).length) ((u, .inl (cq 34, 10, .inr (.inr (.inr (.inr (adr (S.2.2.2.1 ++ [w]))))))) :: (S.2.2.2.1 ++ [w]).map wFc)) u) t) (va_A (wN cq q S M o mc w) sz)) 1 10 (va_A (wN cq q S M o mc w) sz) := by
  refine entW_v (wf := (fun u : Nat => wG cq q S M o mc u (nI (S.2.2.2.1 ++ [w]).length) ((u, .inl (cq 34, 10, .inr (.inr (.inr (.inr (adr (S.2.2.2.1 ++ [w]))))))) :: (S.2.2.2.1 ++ [w]).map wFc))) (cc := cJx4a65c_add_72be8) (maxL := 4) (by decide) rfl (Nat.le_of_ble_eq_true rfl) (fun p e s m args below meth c A Q ls F hA hP hK hD hDm hX hS hl hend => ?_)
  obtain ⟨hx, hb, hml, hown, hts⟩ := id F
  have hown : s.vm.findClass RJx4a65c = some m.cls := hown
  have F : CallFix p m c cJx4a65c_add_72be8 4 s args wsJx4a65c_add_72be8 RJx4a65c := F
  have hl : lv_has ls 4 [(0, .ref (q 3)), (1, .ref w.1), (2, .ref (edA q S)), (3, .int (nI S.2.2.2.1.length))] := hl
  have hin : ∀ w ∈ u_ws RJx4a65c TJx4a65c 3, w ∈ wsJx4a65c_add_72be8 := fun w h => List.mem_cons_of_mem _ (List.mem_append_right _ h)
  have hj : ∀ (a : Nat) (H : Heap) (locs : List Loc) (ls : Array Slot), va_P (dC, dI) vwCl (wG cq q S M o mc a (nI S.2.2.2.1.length) ((a, .inl (cq 34, 10, .inr (.inr (.inr (.inr (adr S.2.2.2.1)))))) :: (S.2.2.2.1 ++ [w]).map wFc)) H → va_D A (wG cq q S M o mc a (nI S.2.2.2.1.length) ((a, .inl (cq 34, 10, .inr (.inr (.inr (.inr (adr S.2.2.2.1)))))) :: (S.2.2.2.1 ++ [w]).map wFc)) → va_S A s.heap H locs → lv_has ls 4 [(0, .ref (q 3)), (1, .ref w.1), (2, .ref a), (3, .int (nI S.2.2.2.1.length))] → W p l e rmJx4a65c_add_72be8 s m args below meth c H locs 1 10 Q (F0 m 11 ls []) := by
    intro a H locs ls hP hD hS hl
    refine lv_aload_n hx hb dJx4a65c_add_72be8_11 rfl (lv_at hl 2 rfl) ?_
    refine lv_iload_n hx hb dJx4a65c_add_72be8_12 rfl (lv_at hl 3 rfl) ?_
    refine lv_aload_n hx hb dJx4a65c_add_72be8_13 rfl (lv_at hl 1 rfl) ?_
    refine va_astqO (D := (dC, dI)) (r := (RX2, TX2, 5)) hx hb hK hP hD hS 34 24 (35 + S.2.2.2.1.length) 3 rfl rfl hX.1.2.2.2.2.2.2.2.2.2.2.2.2.2.2.2.2.2.2.2.2.1 wN_w rfl (vp_in_nI hlt (by decide)) dJx4a65c_add_72be8_14 (fun H locs hP hD hS => ?_)
    rw [nI_clamp (by omega), adr_add] at hP hD
    have hP : va_P (dC, dI) vwCl (wG cq q S M o mc a (nI S.2.2.2.1.length) ((a, .inl (cq 34, 10, .inr (.inr (.inr (.inr (adr (S.2.2.2.1 ++ [w]))))))) :: (S.2.2.2.1 ++ [w]).map wFc)) H := hP
    have hD : va_D A (wG cq q S M o mc a (nI S.2.2.2.1.length) ((a, .inl (cq 34, 10, .inr (.inr (.inr (.inr (adr (S.2.2.2.1 ++ [w]))))))) :: (S.2.2.2.1 ++ [w]).map wFc)) := hD
    refine lv_aload_n hx hb dJx4a65c_add_72be8_15 rfl (lv_at hl 0 rfl) ?_
    refine lv_iload_n hx hb dJx4a65c_add_72be8_16 rfl (lv_at hl 3 rfl) ?_
    refine lv_iconst (v := (1 : Int32)) hx hb dJx4a65c_add_72be8_17 (by decide) ?_
    refine lv_iadd hx hb dJx4a65c_add_72be8_18 ?_
    rw [nI_1]
    refine pG_sz F hin (hts (.fieldLink RJx4a65c 48 "java/util/ArrayList" "size" "I") (mm 1 rfl)) hK hP hD hS dJx4a65c_add_72be8_19 (fun H locs hP hD hS => ?_)
    have hn9 : (S.2.2.2.1 ++ [w]).length = S.2.2.2.1.length + 1 := by rw [List.length_append]; rfl
    rw [← hn9] at hP hD
    exact hend _ _ a _ _ trivial hP hD hS dJx4a65c_add_72be8_22
  refine lv_iload_n hx hb dJx4a65c_add_72be8_0 rfl (lv_at hl 3 rfl) ?_
  refine lv_aload_n hx hb dJx4a65c_add_72be8_1 rfl (lv_at hl 2 rfl) ?_
  cases hm : S.2.2.2.2 with
  | some a =>
    have he : edA q S = a := by unfold edA; rw [hm]
    rw [wN_some hm] at hP hD
    rw [he] at hl ⊢
    refine va_alen (D := (dC, dI)) hx hb hK hP 34 24 rfl rfl (v := 10) rfl dJx4a65c_add_72be8_2 ?_
    refine lv_icmp_ne (tgt := 11) hx hb dJx4a65c_add_72be8_3 (by decide) (fun c1 => ?_) (fun c1 => absurd c1 (by
      intro e
      have e2 : S.2.2.2.1.length = 10 := (nI_eq (by omega) (by decide)).mp (e.trans (by decide))
      omega))
    refine W.widen (k := 1) (n := 10) (Nat.zero_le _) (Nat.zero_le _) ?_
    exact hj a _ _ _ hP hD hS hl
  | none =>
    have hf := hmo hm
    have he : edA q S = q 34 := by unfold edA; rw [hm]
    rw [wN_none hm hf] at hP hD
    rw [he, hf] at hl ⊢
    refine va_tlen hx hb (hX.2.2.1.narrow hDm) hS (v := 0) (by decide) dJx4a65c_add_72be8_2 ?_
    refine lv_icmp_ne (tgt := 11) hx hb dJx4a65c_add_72be8_3 (by decide) (fun c1 => absurd (by decide) c1) (fun c1 => ?_)
    refine lv_aload_n hx hb dJx4a65c_add_72be8_6 rfl (lv_at hl 0 rfl) ?_
    refine caWV_r (As := []) (rest := []) (ctJx4a65c_grow_d5877 l dC dI cq q S M o _ _ mc w) F (cwV 0 hts gJx4a65c_add_72be8_Jx4a65c_grow_d5877 rfl rfl rfl hdJx4a65c_grow_d5877 ⟨Nat.le_of_ble_eq_true rfl, Nat.le_of_ble_eq_true rfl⟩) hK hP hD hDm hS hA EV.blind (fun U hU hW => EV.call hX hS hDm hU hW) (va_recv hK hP (ci := 0) (q0 := 3) rfl rfl) rfl hl.1 rfl (Nat.le_of_ble_eq_true rfl) dJx4a65c_add_72be8_7 ⟨Nat.le_of_ble_eq_true rfl, Nat.le_of_ble_eq_true rfl⟩ (fun H locs u _ hP hD hS => ?_)
    refine lv_astore_n (lv' := [(2, .ref u), (0, .ref (q 3)), (1, .ref w.1), (3, .int (nI ([] : List FT).length))]) hx hb dJx4a65c_add_72be8_10 rfl hl (by decide) rfl (fun ls hl => ?_)
    rw [hf] at hj
    exact hj u _ _ _ hP hD hS (lv_sub hl [1, 2, 0, 3] rfl)
