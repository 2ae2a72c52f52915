def exn (e : Nat) : String := match e with
  | 1 => "java/lang/IllegalArgumentException"
  | 2 => "java/lang/IndexOutOfBoundsException"
  | _ => "java/lang/IllegalStateException"
abbrev QX (dC : Nat → ClassId) (dI : Nat → Nat → Nat) (cq : Nat → ClassId) (A : Nat → Prop) {U : Type} (wf : U → va_W) (px : Nat → U → Prop) : String → State → State → Prop := vx_X (fun _ : U => True) (fun E u t => (∃ e, px e u ∧ E = exn e) ∧ BkW dC dI cq A (wf u) t) A
def bt {α β : Type} (x : Option (Except Nat α × CS)) (g : α → CS → Option (Except Nat β × CS)) : Option (Except Nat β × CS) := match x with
  | none => none
  | some (.error e, S) => some (.error e, S)
  | some (.ok a, S) => g a S
theorem bto {α β : Type} {x : Option (Except Nat α × CS)} {g : α → CS → Option (Except Nat β × CS)} {r : Except Nat β × CS} (h : bt x g = some r) : (∃ e S, x = some (.error e, S) ∧ r = (.error e, S)) ∨ ∃ a S, x = some (.ok a, S) ∧ g a S = some r := by
  unfold bt at h
  split at h
  · cases h
  · exact Or.inl ⟨_, _, rfl, (Option.some.inj h).symm⟩
  · exact Or.inr ⟨_, _, rfl, h⟩
abbrev CtX_i (l : Launch) (y : MethodName) (ws : List Cond) (rm : Room) (Dm : Nat → Prop) (X : State → Prop) (dC : Nat → ClassId) (dI : Nat → Nat → Nat) (cq : Nat → ClassId) (w : va_W) (sz : Nat) (av : List Value) {U : Type} (wf : U → va_W) (post : (Int32 → U → Prop)) (px : Nat → U → Prop) (mc ms : Nat) : Prop := vx_Met l y ws rm (PreW Dm X dC dI cq w sz av) (va_Qi post (fun u t => BkW dC dI cq (va_A w sz) (wf u) t) (va_A w sz)) (QX dC dI cq (va_A w sz) wf px) mc ms (va_A w sz)
theorem enX_i {l : Launch} {dC : Nat → ClassId} {dI : Nat → Nat → Nat} {cq : Nat → ClassId} {w : va_W} {U : Type} {wf : U → va_W} {post : (Int32 → U → Prop)} {px : Nat → U → Prop} {y : MethodName} {ws ws' : List Cond} {cc : ByteArray} {maxL mc ms : Nat} {rm : Room} {Dm : Nat → Prop} {X : State → Prop} {sz : Nat} {av : List Value} {ty : FieldType} (hy : plainName y.cls = true) (hw : ws = Cond.code y cc maxL (some ty) :: ws') (hlen : (lg_sl av).length ≤ maxL)
    (body : ∀ (p : Program) (e : Env) (s : State) (m : MethodId) (args : Array Value) (below : List Frame) (meth : Method) (c : Code) (A : Nat → Prop) (Q : State → Prop) (ls : Array Slot), Q = vx_MQ below (va_Qi post (fun u t => BkW dC dI cq A (wf u) t) A) (QX dC dI cq A wf px) args s mc ms A → (∀ x ∈ c.exceptionTable.toList, False) → meth.locks = false → CallFix p m c cc maxL s args ws y.cls → (∀ a, s.heap.size ≤ a → A a) → va_P (dC, dI) vwCl w s.heap → va_K (dC, dI) vwCl (tyA cq) s → va_D A w → (∀ a, A a → Dm a) → X s → va_S A s.heap s.heap [] → lv_has ls maxL (lv_args 0 av) →
      (∀ (H : Heap) (locs : List Loc) (cells slots : Nat) (r : Int32) (u : U) (pc : Nat) (ls : Array Slot), post r u → va_P (dC, dI) vwCl (wf u) H → va_D A (wf u) → va_S A s.heap H locs → decode cc pc = .ok (.ireturn, 1) → narrow ty (.int r) = .int r → cells ≤ mc → slots ≤ ms → W p l e rm s m args below meth c H locs cells slots Q (F0 m pc ls [.int r])) →
      (∀ (H : Heap) (locs : List Loc) (cells slots n : Nat) (u : U) (pc : Nat) (ls : Array Slot) (rest : List Value) (E : String) (ce : Cell) (q9 : Addr), px n u → va_P (dC, dI) vwCl (wf u) H → va_D A (wf u) → va_S A s.heap H locs → H[q9]? = some ce → ce.vm = .none → s.vm.findClass E = some ce.cls → E = exn n → cells ≤ mc → slots ≤ ms → vx_W p l e rm s m args below meth c H locs cells slots Q (F0 m pc ls rest) q9) →
      W p l e rm s m args below meth c s.heap [] 0 0 Q (F0 m 0 ls [])) :
    CtX_i l y ws rm Dm X dC dI cq w sz av wf post px mc ms := by
  refine vx_ofW (cc := cc) (maxL := maxL) (ret := (some ty)) hy hw ?_
  intro p e s m args below meth c s₁ B hml htab hv
  obtain ⟨rfl, hsz, hP, hK, hD0, hz0, hX⟩ := hv
  have hx := B.exec
  have hb := B.bytes
  have hr := B.returns
  have hts := atoms_spec (ws := ws) B.pre
  have hown : s.vm.findClass y.cls = some m.cls := findClass_of_methodNamed B.named
  have hlocks := B.notSynchronized
  subst hsz
  have hD := hD0.self (sz := s.heap.size)
  have hA : ∀ a : Nat, s.heap.size ≤ a → va_A w s.heap.size a := fun a h => Or.inr h
  have hl := lv_entry av (n := maxL) hlen
  rw [lg_entry_eq]
  refine body p e s m _ below meth c _ _ _ rfl htab hlocks ⟨hx, hb, hml, hown, hts⟩ hA hP hK hD (fun a h => h.elim (fun ⟨k, e, h⟩ => hD0.2 k (a, e) h) (fun h => hz0 a h)) hX va_S.rf hl ?_ ?_
  · intro H locs cells slots r u pc ls hpost hP hD hS hdg hnr h1 h2
    refine W.widen (k := mc) (n := ms) h1 h2 ?_
    exact vx_ret (W.zret hx hb hr hnr (fun t ht hW => ⟨⟨r, u, rfl, hpost, by rw [ht]; exact hP, va_K.moved hW.alike hK, hD⟩, hS.F ht⟩) hS.2.2 hdg)
  · intro H locs cells slots n u pc ls rest E ce q9 hp hP hD hS hce hcv hcl hE h1 h2
    exact vx_out (fun x hx => (htab x hx).elim) hlocks hce hcv hcl (fun t ht hvm => ⟨u, trivial, ⟨⟨n, hp, hE⟩, by rw [ht]; exact hP, va_K.moved hvm hK, hD⟩, hS.F ht⟩) hS.2.2 h1 h2
theorem caXV_i {l : Launch} {dC : Nat → ClassId} {dI : Nat → Nat → Nat} {cq : Nat → ClassId} {p : Program} {e : Env} {R : Room} {s : State} {m : MethodId} {args : Array Value} {below : List Frame} {meth : Method} {c : Code} {H : Heap} {locs : List Loc} {cells slots : Nat} {Q : State → Prop} {A : Nat → Prop} {w : va_W} {U : Type} {wf : U → va_W} {post : (Int32 → U → Prop)} {px : Nat → U → Prop} {y : MethodName} {cc bytes : ByteArray} {maxL nL n index mc ms : Nat} {ret : Option FieldType} {ws Ts : List Cond} {rm : Room} {own C : String} {b : Nat} {As rest st0 : List Value} {pc : Nat} {ls : Array Slot} {Dm : Nat → Prop} {X : State → Prop}
    (hM : CtX_i l y ws rm Dm X dC dI cq w H.size (.ref b :: As) wf post px mc ms)
    (F : CallFix p m c cc nL s args Ts own) (cw : CallW R s args own C index y bytes maxL ret ws rm mc ms n) (hK : va_K (dC, dI) vwCl (tyA cq) s) (hP : va_P (dC, dI) vwCl w H) (hD : va_D A w) (hDm : ∀ a, A a → Dm a) (hS : va_S A s.heap H locs) (hA : ∀ a, s.heap.size ≤ a → A a)
    (hXb : ∀ (U : State) (g : JFrame) (mk : MethodId) (a : Array Value), X U → X (U.calling g mk a)) (hXc : ∀ U : State, U.heap = H → s.WarmedH U.vm → X U)
    (hrec : ∃ cellB : Cell, H[b]? = some cellB ∧ cellB.vm.isStatics = false ∧ s.vm.findClass C = some cellB.cls) (hn : As.length = n) (hsize : ls.size = nL) (hst : st0 = As.reverse ++ .ref b :: rest) (hW : (rest.map fun v => v.category).sum ≤ 8) (hdg : decode cc pc = .ok (.invokevirtual index, 3)) (hf : cells + mc ≤ R.cells ∧ slots + ms ≤ R.slots)
    (kx : ∀ (H1 : Heap) (locs1 : List Loc) (k : Nat) (u : U) (E : String) (ce : Cell) (q9 : Addr), px k u → va_P (dC, dI) vwCl (wf u) H1 → va_D A (wf u) → va_S A s.heap H1 locs1 → H1[q9]? = some ce → ce.vm = .none → s.vm.findClass E = some ce.cls → E = exn k → vx_W p l e R s m args below meth c H1 locs1 (cells + mc) (slots + ms) Q (F0 m pc ls rest) q9)
    (kk : ∀ (H1 : Heap) (locs1 : List Loc) (r : Int32) (u : U), post r u → va_P (dC, dI) vwCl (wf u) H1 → va_D A (wf u) → va_S A s.heap H1 locs1 → W p l e R s m args below meth c H1 locs1 (cells + mc) (slots + ms) Q (F0 m (pc + 3) ls (.int r :: rest))) :
    W p l e R s m args below meth c H locs cells slots Q (F0 m pc ls st0) := by
  have hFc := freeW hD hS hA
  refine vx_calli (vx_runV (As := As) (rest := rest) F hM cw ⟨PreW.blind hXb, hrec, fun U hU hW => ⟨rfl, by rw [hU], by rw [hU]; exact hP, va_K.moved hW.alike hK, hD.weaken (fun _ _ _ h => hDm _ h), fun a h => hDm a (hA a (Nat.le_trans hS.1 h)), hXc U hU hW⟩⟩ rfl hn hsize hst (lv_room hW) hdg hf) hS (fun a _ h => hFc a h) hFc (fun a _ h => hFc a h) (fun E ce q9 u t H1 locs1 ht hvm hw hB hz1 hk1 hS1 hce hcv hcl => ?_) (fun r u t H1 locs1 ht hvm hw hB hz1 hk1 hS1 => ?_)
  · obtain ⟨⟨k, hk, hE⟩, hP1, hK1, hD1⟩ := hB
    rw [ht] at hP1
    exact kx H1 locs1 k u E ce q9 hk hP1 (hD1.weaken (fun i z _ hz => hFc _ hz)) hS1 hce hcv hcl hE
  · obtain ⟨hP1, hK1, hD1⟩ := hB
    rw [ht] at hP1
    exact kk H1 locs1 r u hw hP1 (hD1.weaken (fun i z _ hz => hFc _ hz)) hS1
theorem caXS_i {l : Launch} {dC : Nat → ClassId} {dI : Nat → Nat → Nat} {cq : Nat → ClassId} {p : Program} {e : Env} {R : Room} {s : State} {m : MethodId} {args : Array Value} {below : List Frame} {meth : Method} {c : Code} {H : Heap} {locs : List Loc} {cells slots : Nat} {Q : State → Prop} {A : Nat → Prop} {w : va_W} {U : Type} {wf : U → va_W} {post : (Int32 → U → Prop)} {px : Nat → U → Prop} {y : MethodName} {cc bytes : ByteArray} {maxL nL n index mc ms : Nat} {ret : Option FieldType} {ws Ts : List Cond} {rm : Room} {own : String} {As rest st0 : List Value} {pc : Nat} {ls : Array Slot} {Dm : Nat → Prop} {X : State → Prop}
    (hM : CtX_i l y ws rm Dm X dC dI cq w H.size (As) wf post px mc ms)
    (F : CallFix p m c cc nL s args Ts own) (cw : CallB R s args own index y bytes maxL ret ws rm mc ms n ∧ (Cond.static y).before args s = true) (hK : va_K (dC, dI) vwCl (tyA cq) s) (hP : va_P (dC, dI) vwCl w H) (hD : va_D A w) (hDm : ∀ a, A a → Dm a) (hS : va_S A s.heap H locs) (hA : ∀ a, s.heap.size ≤ a → A a)
    (hXb : ∀ (U : State) (g : JFrame) (mk : MethodId) (a : Array Value), X U → X (U.calling g mk a)) (hXc : ∀ U : State, U.heap = H → s.WarmedH U.vm → X U)
    (hn : As.length = n) (hsize : ls.size = nL) (hst : st0 = As.reverse ++ rest) (hW : (rest.map fun v => v.category).sum ≤ 8) (hdg : decode cc pc = .ok (.invokestatic index, 3)) (hf : cells + mc ≤ R.cells ∧ slots + ms ≤ R.slots)
    (kx : ∀ (H1 : Heap) (locs1 : List Loc) (k : Nat) (u : U) (E : String) (ce : Cell) (q9 : Addr), px k u → va_P (dC, dI) vwCl (wf u) H1 → va_D A (wf u) → va_S A s.heap H1 locs1 → H1[q9]? = some ce → ce.vm = .none → s.vm.findClass E = some ce.cls → E = exn k → vx_W p l e R s m args below meth c H1 locs1 (cells + mc) (slots + ms) Q (F0 m pc ls rest) q9)
    (kk : ∀ (H1 : Heap) (locs1 : List Loc) (r : Int32) (u : U), post r u → va_P (dC, dI) vwCl (wf u) H1 → va_D A (wf u) → va_S A s.heap H1 locs1 → W p l e R s m args below meth c H1 locs1 (cells + mc) (slots + ms) Q (F0 m (pc + 3) ls (.int r :: rest))) :
    W p l e R s m args below meth c H locs cells slots Q (F0 m pc ls st0) := by
  have hFc := freeW hD hS hA
  refine vx_calli (vx_runS (As := As) (rest := rest) F hM cw ⟨PreW.blind hXb, fun U hU hW => ⟨rfl, by rw [hU], by rw [hU]; exact hP, va_K.moved hW.alike hK, hD.weaken (fun _ _ _ h => hDm _ h), fun a h => hDm a (hA a (Nat.le_trans hS.1 h)), hXc U hU hW⟩⟩ rfl hn hsize hst (lv_room hW) hdg hf) hS (fun a _ h => hFc a h) hFc (fun a _ h => hFc a h) (fun E ce q9 u t H1 locs1 ht hvm hw hB hz1 hk1 hS1 hce hcv hcl => ?_) (fun r u t H1 locs1 ht hvm hw hB hz1 hk1 hS1 => ?_)
  · obtain ⟨⟨k, hk, hE⟩, hP1, hK1, hD1⟩ := hB
    rw [ht] at hP1
    exact kx H1 locs1 k u E ce q9 hk hP1 (hD1.weaken (fun i z _ hz => hFc _ hz)) hS1 hce hcv hcl hE
  · obtain ⟨hP1, hK1, hD1⟩ := hB
    rw [ht] at hP1
    exact kk H1 locs1 r u hw hP1 (hD1.weaken (fun i z _ hz => hFc _ hz)) hS1
abbrev CtX_v (l : Launch) (y : MethodName) (ws : List Cond) (rm : Room) (Dm : Nat → Prop) (X : State → Prop) (dC : Nat → ClassId) (dI : Nat → Nat → Nat) (cq : Nat → ClassId) (w : va_W) (sz : Nat) (av : List Value) {U : Type} (wf : U → va_W) (post : (U → Prop)) (px : Nat → U → Prop) (mc ms : Nat) : Prop := vx_Met l y ws rm (PreW Dm X dC dI cq w sz av) (va_Qv post (fun u t => BkW dC dI cq (va_A w sz) (wf u) t) (va_A w sz)) (QX dC dI cq (va_A w sz) wf px) mc ms (va_A w sz)
theorem enX_v {l : Launch} {dC : Nat → ClassId} {dI : Nat → Nat → Nat} {cq : Nat → ClassId} {w : va_W} {U : Type} {wf : U → va_W} {post : (U → Prop)} {px : Nat → U → Prop} {y : MethodName} {ws ws' : List Cond} {cc : ByteArray} {maxL mc ms : Nat} {rm : Room} {Dm : Nat → Prop} {X : State → Prop} {sz : Nat} {av : List Value} (hy : plainName y.cls = true) (hw : ws = Cond.code y cc maxL none :: ws') (hlen : (lg_sl av).length ≤ maxL)
    (body : ∀ (p : Program) (e : Env) (s : State) (m : MethodId) (args : Array Value) (below : List Frame) (meth : Method) (c : Code) (A : Nat → Prop) (Q : State → Prop) (ls : Array Slot), Q = vx_MQ below (va_Qv post (fun u t => BkW dC dI cq A (wf u) t) A) (QX dC dI cq A wf px) args s mc ms A → (∀ x ∈ c.exceptionTable.toList, False) → meth.locks = false → CallFix p m c cc maxL s args ws y.cls → (∀ a, s.heap.size ≤ a → A a) → va_P (dC, dI) vwCl w s.heap → va_K (dC, dI) vwCl (tyA cq) s → va_D A w → (∀ a, A a → Dm a) → X s → va_S A s.heap s.heap [] → lv_has ls maxL (lv_args 0 av) →
      (∀ (H : Heap) (locs : List Loc) (cells slots : Nat) (u : U) (pc : Nat) (ls : Array Slot), post u → va_P (dC, dI) vwCl (wf u) H → va_D A (wf u) → va_S A s.heap H locs → decode cc pc = .ok (.return_, 1) → cells ≤ mc → slots ≤ ms → W p l e rm s m args below meth c H locs cells slots Q (F0 m pc ls [])) →
      (∀ (H : Heap) (locs : List Loc) (cells slots n : Nat) (u : U) (pc : Nat) (ls : Array Slot) (rest : List Value) (E : String) (ce : Cell) (q9 : Addr), px n u → va_P (dC, dI) vwCl (wf u) H → va_D A (wf u) → va_S A s.heap H locs → H[q9]? = some ce → ce.vm = .none → s.vm.findClass E = some ce.cls → E = exn n → cells ≤ mc → slots ≤ ms → vx_W p l e rm s m args below meth c H locs cells slots Q (F0 m pc ls rest) q9) →
      W p l e rm s m args below meth c s.heap [] 0 0 Q (F0 m 0 ls [])) :
    CtX_v l y ws rm Dm X dC dI cq w sz av wf post px mc ms := by
  refine vx_ofW (cc := cc) (maxL := maxL) (ret := none) hy hw ?_
  intro p e s m args below meth c s₁ B hml htab hv
  obtain ⟨rfl, hsz, hP, hK, hD0, hz0, hX⟩ := hv
  have hx := B.exec
  have hb := B.bytes
  have hr := B.returns
  have hts := atoms_spec (ws := ws) B.pre
  have hown : s.vm.findClass y.cls = some m.cls := findClass_of_methodNamed B.named
  have hlocks := B.notSynchronized
  subst hsz
  have hD := hD0.self (sz := s.heap.size)
  have hA : ∀ a : Nat, s.heap.size ≤ a → va_A w s.heap.size a := fun a h => Or.inr h
  have hl := lv_entry av (n := maxL) hlen
  rw [lg_entry_eq]
  refine body p e s m _ below meth c _ _ _ rfl htab hlocks ⟨hx, hb, hml, hown, hts⟩ hA hP hK hD (fun a h => h.elim (fun ⟨k, e, h⟩ => hD0.2 k (a, e) h) (fun h => hz0 a h)) hX va_S.rf hl ?_ ?_
  · intro H locs cells slots u pc ls hpost hP hD hS hdg h1 h2
    refine W.widen (k := mc) (n := ms) h1 h2 ?_
    exact vx_ret (W.vret hx hb hr (fun t ht hW => ⟨⟨u, rfl, hpost, by rw [ht]; exact hP, va_K.moved hW.alike hK, hD⟩, hS.F ht⟩) hS.2.2 hdg)
  · intro H locs cells slots n u pc ls rest E ce q9 hp hP hD hS hce hcv hcl hE h1 h2
    exact vx_out (fun x hx => (htab x hx).elim) hlocks hce hcv hcl (fun t ht hvm => ⟨u, trivial, ⟨⟨n, hp, hE⟩, by rw [ht]; exact hP, va_K.moved hvm hK, hD⟩, hS.F ht⟩) hS.2.2 h1 h2
theorem caXV_v {l : Launch} {dC : Nat → ClassId} {dI : Nat → Nat → Nat} {cq : Nat → ClassId} {p : Program} {e : Env} {R : Room} {s : State} {m : MethodId} {args : Array Value} {below : List Frame} {meth : Method} {c : Code} {H : Heap} {locs : List Loc} {cells slots : Nat} {Q : State → Prop} {A : Nat → Prop} {w : va_W} {U : Type} {wf : U → va_W} {post : (U → Prop)} {px : Nat → U → Prop} {y : MethodName} {cc bytes : ByteArray} {maxL nL n index mc ms : Nat} {ret : Option FieldType} {ws Ts : List Cond} {rm : Room} {own C : String} {b : Nat} {As rest st0 : List Value} {pc : Nat} {ls : Array Slot} {Dm : Nat → Prop} {X : State → Prop}
    (hM : CtX_v l y ws rm Dm X dC dI cq w H.size (.ref b :: As) wf post px mc ms)
    (F : CallFix p m c cc nL s args Ts own) (cw : CallW R s args own C index y bytes maxL ret ws rm mc ms n) (hK : va_K (dC, dI) vwCl (tyA cq) s) (hP : va_P (dC, dI) vwCl w H) (hD : va_D A w) (hDm : ∀ a, A a → Dm a) (hS : va_S A s.heap H locs) (hA : ∀ a, s.heap.size ≤ a → A a)
    (hXb : ∀ (U : State) (g : JFrame) (mk : MethodId) (a : Array Value), X U → X (U.calling g mk a)) (hXc : ∀ U : State, U.heap = H → s.WarmedH U.vm → X U)
    (hrec : ∃ cellB : Cell, H[b]? = some cellB ∧ cellB.vm.isStatics = false ∧ s.vm.findClass C = some cellB.cls) (hn : As.length = n) (hsize : ls.size = nL) (hst : st0 = As.reverse ++ .ref b :: rest) (hW : (rest.map fun v => v.category).sum ≤ 8) (hdg : decode cc pc = .ok (.invokevirtual index, 3)) (hf : cells + mc ≤ R.cells ∧ slots + ms ≤ R.slots)
    (kx : ∀ (H1 : Heap) (locs1 : List Loc) (k : Nat) (u : U) (E : String) (ce : Cell) (q9 : Addr), px k u → va_P (dC, dI) vwCl (wf u) H1 → va_D A (wf u) → va_S A s.heap H1 locs1 → H1[q9]? = some ce → ce.vm = .none → s.vm.findClass E = some ce.cls → E = exn k → vx_W p l e R s m args below meth c H1 locs1 (cells + mc) (slots + ms) Q (F0 m pc ls rest) q9)
    (kk : ∀ (H1 : Heap) (locs1 : List Loc) (u : U), post u → va_P (dC, dI) vwCl (wf u) H1 → va_D A (wf u) → va_S A s.heap H1 locs1 → W p l e R s m args below meth c H1 locs1 (cells + mc) (slots + ms) Q (F0 m (pc + 3) ls rest)) :
    W p l e R s m args below meth c H locs cells slots Q (F0 m pc ls st0) := by
  have hFc := freeW hD hS hA
  refine vx_callv (vx_runV (As := As) (rest := rest) F hM cw ⟨PreW.blind hXb, hrec, fun U hU hW => ⟨rfl, by rw [hU], by rw [hU]; exact hP, va_K.moved hW.alike hK, hD.weaken (fun _ _ _ h => hDm _ h), fun a h => hDm a (hA a (Nat.le_trans hS.1 h)), hXc U hU hW⟩⟩ rfl hn hsize hst (lv_room hW) hdg hf) hS (fun a _ h => hFc a h) hFc (fun a _ h => hFc a h) (fun E ce q9 u t H1 locs1 ht hvm hw hB hz1 hk1 hS1 hce hcv hcl => ?_) (fun u t H1 locs1 ht hvm hw hB hz1 hk1 hS1 => ?_)
  · obtain ⟨⟨k, hk, hE⟩, hP1, hK1, hD1⟩ := hB
    rw [ht] at hP1
    exact kx H1 locs1 k u E ce q9 hk hP1 (hD1.weaken (fun i z _ hz => hFc _ hz)) hS1 hce hcv hcl hE
  · obtain ⟨hP1, hK1, hD1⟩ := hB
    rw [ht] at hP1
    exact kk H1 locs1 u hw hP1 (hD1.weaken (fun i z _ hz => hFc _ hz)) hS1
theorem caXS_v {l : Launch} {dC : Nat → ClassId} {dI : Nat → Nat → Nat} {cq : Nat → ClassId} {p : Program} {e : Env} {R : Room} {s : State} {m : MethodId} {args : Array Value} {below : List Frame} {meth : Method} {c : Code} {H : Heap} {locs : List Loc} {cells slots : Nat} {Q : State → Prop} {A : Nat → Prop} {w : va_W} {U : Type} {wf : U → va_W} {post : (U → Prop)} {px : Nat → U → Prop} {y : MethodName} {cc bytes : ByteArray} {maxL nL n index mc ms : Nat} {ret : Option FieldType} {ws Ts : List Cond} {rm : Room} {own : String} {As rest st0 : List Value} {pc : Nat} {ls : Array Slot} {Dm : Nat → Prop} {X : State → Prop}
    (hM : CtX_v l y ws rm Dm X dC dI cq w H.size (As) wf post px mc ms)
    (F : CallFix p m c cc nL s args Ts own) (cw : CallB R s args own index y bytes maxL ret ws rm mc ms n ∧ (Cond.static y).before args s = true) (hK : va_K (dC, dI) vwCl (tyA cq) s) (hP : va_P (dC, dI) vwCl w H) (hD : va_D A w) (hDm : ∀ a, A a → Dm a) (hS : va_S A s.heap H locs) (hA : ∀ a, s.heap.size ≤ a → A a)
    (hXb : ∀ (U : State) (g : JFrame) (mk : MethodId) (a : Array Value), X U → X (U.calling g mk a)) (hXc : ∀ U : State, U.heap = H → s.WarmedH U.vm → X U)
    (hn : As.length = n) (hsize : ls.size = nL) (hst : st0 = As.reverse ++ rest) (hW : (rest.map fun v => v.category).sum ≤ 8) (hdg : decode cc pc = .ok (.invokestatic index, 3)) (hf : cells + mc ≤ R.cells ∧ slots + ms ≤ R.slots)
    (kx : ∀ (H1 : Heap) (locs1 : List Loc) (k : Nat) (u : U) (E : String) (ce : Cell) (q9 : Addr), px k u → va_P (dC, dI) vwCl (wf u) H1 → va_D A (wf u) → va_S A s.heap H1 locs1 → H1[q9]? = some ce → ce.vm = .none → s.vm.findClass E = some ce.cls → E = exn k → vx_W p l e R s m args below meth c H1 locs1 (cells + mc) (slots + ms) Q (F0 m pc ls rest) q9)
    (kk : ∀ (H1 : Heap) (locs1 : List Loc) (u : U), post u → va_P (dC, dI) vwCl (wf u) H1 → va_D A (wf u) → va_S A s.heap H1 locs1 → W p l e R s m args below meth c H1 locs1 (cells + mc) (slots + ms) Q (F0 m (pc + 3) ls rest)) :
    W p l e R s m args below meth c H locs cells slots Q (F0 m pc ls st0) := by
  have hFc := freeW hD hS hA
  refine vx_callv (vx_runS (As := As) (rest := rest) F hM cw ⟨PreW.blind hXb, fun U hU hW => ⟨rfl, by rw [hU], by rw [hU]; exact hP, va_K.moved hW.alike hK, hD.weaken (fun _ _ _ h => hDm _ h), fun a h => hDm a (hA a (Nat.le_trans hS.1 h)), hXc U hU hW⟩⟩ rfl hn hsize hst (lv_room hW) hdg hf) hS (fun a _ h => hFc a h) hFc (fun a _ h => hFc a h) (fun E ce q9 u t H1 locs1 ht hvm hw hB hz1 hk1 hS1 hce hcv hcl => ?_) (fun u t H1 locs1 ht hvm hw hB hz1 hk1 hS1 => ?_)
  · obtain ⟨⟨k, hk, hE⟩, hP1, hK1, hD1⟩ := hB
    rw [ht] at hP1
    exact kx H1 locs1 k u E ce q9 hk hP1 (hD1.weaken (fun i z _ hz => hFc _ hz)) hS1 hce hcv hcl hE
  · obtain ⟨hP1, hK1, hD1⟩ := hB
    rw [ht] at hP1
    exact kk H1 locs1 u hw hP1 (hD1.weaken (fun i z _ hz => hFc _ hz)) hS1
/-- 'throw new E("text")' in the class, its world as it is -/
theorem thrN {l : Launch} {dC : Nat → ClassId} {dI : Nat → Nat → Nat} {cq : Nat → ClassId} {p : Program} {e : Env} {R : Room} {s : State} {m : MethodId} {args : Array Value} {below : List Frame} {meth : Method} {c : Code} {H : Heap} {locs : List Loc} {cells slots : Nat} {A : Nat → Prop} {U : Type} {wf : U → va_W} {px : Nat → U → Prop} {Qc : Array Value → State → Outcome → State → Prop} {q : Nat → Nat} {h0 : Nat} {cc : ByteArray} {Ts : List Cond} {nL pc ik is ic mc ms : Nat} {cls text : String} {ls : Array Slot} {rest : List Value} (hl : l.stackTraces = false) (F : CallFix p m c cc nL s args Ts RX7) (hX : EV h0 q s) (hDm : ∀ a, A a → h0 ≤ a) (hK : va_K (dC, dI) vwCl (tyA cq) s) (k : Nat) (u : U) (hP : va_P (dC, dI) vwCl (wf u) H) (hD : va_D A (wf u)) (hS : va_S A s.heap H locs) (hpx : px k u) (hcls : cls = exn k) (hfit : Bundle.fit cls = true)
    (hk : (Cond.classLink RX7 ik cls).before args s = true) (hini : (Cond.initialized cls).before args s = true) (hstr : ∃ sa, vk_R RX7 is text sa s) (hat : ∀ w ∈ vx_atS RX7 ic cls ["java/lang/RuntimeException", "java/lang/Exception"], w.before args s = true) (hgood : ∀ w ∈ Cond.classLink RX7 ik cls :: Cond.initialized cls :: vx_atS RX7 ic cls ["java/lang/RuntimeException", "java/lang/Exception"], vx_ot w = true)
    (hsize : ls.size = nL) (d0 : decode cc pc = .ok (.new ik, 3)) (d3 : decode cc (pc + 3) = .ok (.dup, 1)) (d4 : decode cc (pc + 4) = .ok (.ldc is, 2)) (d6 : decode cc (pc + 6) = .ok (.invokespecial ic, 3)) (d9 : decode cc (pc + 9) = .ok (.athrow, 1)) (htab : ∀ x ∈ c.exceptionTable.toList, False) (hRf : 5 < R.frames) (hRl : (rest.map fun v => v.category).sum + 82 ≤ R.locals) (hRc : cells + 1 ≤ R.cells) (hRs : slots + 6 ≤ R.slots) (hlocks : meth.locks = false) (hc : cells + 1 ≤ mc) (hs : slots + 6 ≤ ms) :
    W p l e R s m args below meth c H locs cells slots (vx_MQ below Qc (QX dC dI cq A wf px) args s mc ms A) (F0 m pc ls rest) := by
  obtain ⟨hx, hb, hml, hown, hts⟩ := F
  obtain ⟨sa, hstr⟩ := hstr
  refine vx_throwS hx hb hl hown hfit (by decide) hk hini hstr hat hgood (hX.2.2.2.2.1.narrow hDm) (hX.2.2.2.2.2.1.narrow hDm) hS (hsize.trans hml.symm) d0 d3 d4 d6 d9 (fun x hx => (htab x hx).elim) hRf hRl hRc hRs hlocks (fun t hvm hz hkq => ?_) hS.2.2 hc hs
  refine ⟨u, trivial, ⟨⟨k, hpx, hcls⟩, hP.kept (fun j z hj => hkq _ (vx_lt hP hj)), va_K.moved hvm hK, hD⟩, Nat.le_trans hS.1 hz, fun a h1 h2 => ?_⟩
  rw [hkq a (Nat.lt_of_lt_of_le h1 hS.1)]
  exact hS.2.1 a h1 h2
theorem atS_1 : ∀ w ∈ (vx_atS RX7 148 "java/lang/IllegalArgumentException" ["java/lang/RuntimeException", "java/lang/Exception"]).filter (fun w => !goodWord w), w ∈ [Cond.castable "java/lang/IllegalArgumentException" "java/lang/IllegalArgumentException", .declares ⟨"java/lang/RuntimeException", "<init>", "(Ljava/lang/String;)V"⟩, .declares ⟨"java/lang/Exception", "<init>", "(Ljava/lang/String;)V"⟩, .declares ⟨"java/lang/Throwable", "<init>", "(Ljava/lang/String;)V"⟩] := by decide +kernel
theorem atS_2 : ∀ w ∈ (vx_atS RX7 219 "java/lang/IndexOutOfBoundsException" ["java/lang/RuntimeException", "java/lang/Exception"]).filter (fun w => !goodWord w), w ∈ [Cond.castable "java/lang/IndexOutOfBoundsException" "java/lang/IndexOutOfBoundsException", .declares ⟨"java/lang/RuntimeException", "<init>", "(Ljava/lang/String;)V"⟩, .declares ⟨"java/lang/Exception", "<init>", "(Ljava/lang/String;)V"⟩, .declares ⟨"java/lang/Throwable", "<init>", "(Ljava/lang/String;)V"⟩] := by decide +kernel
theorem atS_3 : ∀ w ∈ (vx_atS RX7 116 "java/lang/IllegalStateException" ["java/lang/RuntimeException", "java/lang/Exception"]).filter (fun w => !goodWord w), w ∈ [Cond.castable "java/lang/IllegalStateException" "java/lang/IllegalStateException", .declares ⟨"java/lang/RuntimeException", "<init>", "(Ljava/lang/String;)V"⟩, .declares ⟨"java/lang/Exception", "<init>", "(Ljava/lang/String;)V"⟩, .declares ⟨"java/lang/Throwable", "<init>", "(Ljava/lang/String;)V"⟩] := by decide +kernel
theorem gdS_1 : ∀ w ∈ Cond.classLink RX7 144 "java/lang/IllegalArgumentException" :: Cond.initialized "java/lang/IllegalArgumentException" :: vx_atS RX7 148 "java/lang/IllegalArgumentException" ["java/lang/RuntimeException", "java/lang/Exception"], vx_ot w = true := by decide +kernel
theorem gdS_2 : ∀ w ∈ Cond.classLink RX7 215 "java/lang/IndexOutOfBoundsException" :: Cond.initialized "java/lang/IndexOutOfBoundsException" :: vx_atS RX7 219 "java/lang/IndexOutOfBoundsException" ["java/lang/RuntimeException", "java/lang/Exception"], vx_ot w = true := by decide +kernel
theorem gdS_3 : ∀ w ∈ Cond.classLink RX7 112 "java/lang/IllegalStateException" :: Cond.initialized "java/lang/IllegalStateException" :: vx_atS RX7 116 "java/lang/IllegalStateException" ["java/lang/RuntimeException", "java/lang/Exception"], vx_ot w = true := by decide +kernel
