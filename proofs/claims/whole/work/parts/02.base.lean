/-! the states of the class (CS: ints, int rows, the long row, the faults with their addresses, the list's own row) and of the reference (MS: ints by slot, rows by place, h), as pure values -/
abbrev MS : Type := (Nat → Int32) × (Nat → Nat → Int32) × Int64
abbrev CS : Type := (Nat → Int32) × (Nat → Nat → Int32) × (Nat → Int64) × List (Nat × (Nat → Int32)) × Option Nat
def sG (M : MS) (k : Nat) (v : Int32) : MS := (upd M.1 k v, M.2)
def sB (M : MS) (k i : Nat) (v : Int32) : MS := (M.1, va_up M.2.1 k (upd (M.2.1 k) i v), M.2.2)
def sH (M : MS) (v : Int64) : MS := (M.1, M.2.1, v)
def sF (S : CS) (k : Nat) (v : Int32) : CS := (upd S.1 k v, S.2)
def sA (S : CS) (k i : Nat) (v : Int32) : CS := (S.1, va_up S.2.1 k (upd (S.2.1 k) i v), S.2.2)
def sL (S : CS) (i : Nat) (v : Int64) : CS := (S.1, S.2.1, vp_updL S.2.2.1 i v, S.2.2.2)
/-- where the list's elements lie: its own row, or the JDK's empty one -/
def edA (q : Nat → Nat) (S : CS) : Nat := match S.2.2.2.2 with
  | none => q 34
  | some a => a
def wFc (f : Nat × (Nat → Int32)) : Nat × va_E := (f.1, .inr (3, [.int (f.2 0), .int (f.2 1), .int (f.2 2), .int (f.2 3), .int (f.2 4)]))
def wEd (cq : Nat → ClassId) (S : CS) : va_W := match S.2.2.2.2 with
  | none => []
  | some a => [(a, .inl (cq 34, 10, .inr (.inr (.inr (.inr (fun j => (S.2.2.2.1[j]?).map (fun f => f.1)))))))]
def wF (cq : Nat → ClassId) (S : CS) : va_W := wEd cq S ++ S.2.2.2.1.map wFc
/-- all cells: the class's objects and rows, the reference's, the law's row, the faults, the list's row -/
def wA (cq : Nat → ClassId) (q : Nat → Nat) (S : CS) (M : MS) (o : Nat → Int64) : va_W :=
  (q 0, .inr (8, [.ref (q 1), .ref (q 6), .ref (q 13), .ref (q 18), .ref (q 20)])) ::
  (q 1, .inr (1, [.int (S.1 0), .int (S.1 1), .int (S.1 2), .int (S.1 3), .ref (q 2), .ref (q 3), .ref (q 4)])) ::
  (q 2, .inl (cq 2, 16, .inl (S.2.1 2))) ::
  (q 3, .inr (0, [.int (S.1 4), .ref (edA q S), .int (nI S.2.2.2.1.length)])) ::
  (q 4, .inr (4, [.ref (q 5)])) ::
  (q 5, .inl (cq 5, 4, .inl (S.2.1 5))) ::
  (q 6, .inr (6, [.int (S.1 5), .int (S.1 6), .int (S.1 7), .ref (q 7), .ref (q 8), .ref (q 9), .ref (q 11), .ref (q 12)])) ::
  (q 7, .inl (cq 7, 10, .inl (S.2.1 7))) ::
  (q 8, .inl (cq 8, 10, .inl (S.2.1 8))) ::
  (q 9, .inr (4, [.ref (q 10)])) ::
  (q 10, .inl (cq 10, 18, .inl (S.2.1 10))) ::
  (q 11, .inl (cq 11, 16, .inl (S.2.1 11))) ::
  (q 12, .inl (cq 12, 16, .inl (S.2.1 12))) ::
  (q 13, .inr (2, [.ref (q 14), .ref (q 15), .ref (q 16), .ref (q 17), .int (S.1 8)])) ::
  (q 14, .inl (cq 14, 8, .inl (S.2.1 14))) ::
  (q 15, .inl (cq 15, 8, .inl (S.2.1 15))) ::
  (q 16, .inl (cq 16, 8, .inl (S.2.1 16))) ::
  (q 17, .inl (cq 17, 8, .inl (S.2.1 17))) ::
  (q 18, .inr (5, [.ref (q 19), .int (S.1 9)])) ::
  (q 19, .inl (cq 19, 8, .inr (.inl (S.2.2.1)))) ::
  (q 20, .inr (7, [.ref (q 21), .int (S.1 10), .int (S.1 11), .int (S.1 12), .int (S.1 13), .int (S.1 14), .int (S.1 15), .int (S.1 16), .int (S.1 17), .int (S.1 18)])) ::
  (q 21, .inl (cq 21, 50, .inl (S.2.1 21))) ::
  (q 22, .inr (9, [.int (M.1 0), .int (M.1 1), .int (M.1 2), .int (M.1 3), .int (M.1 4), .ref (q 23), .ref (q 24), .int (M.1 7), .ref (q 25), .int (M.1 9), .int (M.1 10), .ref (q 26), .ref (q 27), .ref (q 28), .int (M.1 14), .int (M.1 15), .int (M.1 16), .int (M.1 17), .int (M.1 18), .int (M.1 19), .int (M.1 20), .int (M.1 21), .ref (q 29), .int (M.1 23), .int (M.1 24), .ref (q 30), .ref (q 31), .ref (q 32), .long M.2.2])) ::
  (q 23, .inl (cq 23, 16, .inl (M.2.1 23))) ::
  (q 24, .inl (cq 24, 60, .inl (M.2.1 24))) ::
  (q 25, .inl (cq 25, 64, .inl (M.2.1 25))) ::
  (q 26, .inl (cq 26, 50, .inl (M.2.1 26))) ::
  (q 27, .inl (cq 27, 88, .inl (M.2.1 27))) ::
  (q 28, .inl (cq 28, 16, .inl (M.2.1 28))) ::
  (q 29, .inl (cq 29, 150, .inl (M.2.1 29))) ::
  (q 30, .inl (cq 30, 8, .inl (M.2.1 30))) ::
  (q 31, .inl (cq 31, 8, .inl (M.2.1 31))) ::
  (q 32, .inl (cq 32, 9, .inl (M.2.1 32))) ::
  (q 33, .inl (cq 33, 1, .inr (.inl (o)))) :: wF cq S
/-- the same with the list's own fields and what lies behind the fixed cells free -/
def wG (cq : Nat → ClassId) (q : Nat → Nat) (S : CS) (M : MS) (o : Nat → Int64) (mc : Int32) (ed : Nat) (sz : Int32) (tl : va_W) : va_W :=
  (q 0, .inr (8, [.ref (q 1), .ref (q 6), .ref (q 13), .ref (q 18), .ref (q 20)])) ::
  (q 1, .inr (1, [.int (S.1 0), .int (S.1 1), .int (S.1 2), .int (S.1 3), .ref (q 2), .ref (q 3), .ref (q 4)])) ::
  (q 2, .inl (cq 2, 16, .inl (S.2.1 2))) ::
  (q 3, .inr (0, [.int mc, .ref ed, .int sz])) ::
  (q 4, .inr (4, [.ref (q 5)])) ::
  (q 5, .inl (cq 5, 4, .inl (S.2.1 5))) ::
  (q 6, .inr (6, [.int (S.1 5), .int (S.1 6), .int (S.1 7), .ref (q 7), .ref (q 8), .ref (q 9), .ref (q 11), .ref (q 12)])) ::
  (q 7, .inl (cq 7, 10, .inl (S.2.1 7))) ::
  (q 8, .inl (cq 8, 10, .inl (S.2.1 8))) ::
  (q 9, .inr (4, [.ref (q 10)])) ::
  (q 10, .inl (cq 10, 18, .inl (S.2.1 10))) ::
  (q 11, .inl (cq 11, 16, .inl (S.2.1 11))) ::
  (q 12, .inl (cq 12, 16, .inl (S.2.1 12))) ::
  (q 13, .inr (2, [.ref (q 14), .ref (q 15), .ref (q 16), .ref (q 17), .int (S.1 8)])) ::
  (q 14, .inl (cq 14, 8, .inl (S.2.1 14))) ::
  (q 15, .inl (cq 15, 8, .inl (S.2.1 15))) ::
  (q 16, .inl (cq 16, 8, .inl (S.2.1 16))) ::
  (q 17, .inl (cq 17, 8, .inl (S.2.1 17))) ::
  (q 18, .inr (5, [.ref (q 19), .int (S.1 9)])) ::
  (q 19, .inl (cq 19, 8, .inr (.inl (S.2.2.1)))) ::
  (q 20, .inr (7, [.ref (q 21), .int (S.1 10), .int (S.1 11), .int (S.1 12), .int (S.1 13), .int (S.1 14), .int (S.1 15), .int (S.1 16), .int (S.1 17), .int (S.1 18)])) ::
  (q 21, .inl (cq 21, 50, .inl (S.2.1 21))) ::
  (q 22, .inr (9, [.int (M.1 0), .int (M.1 1), .int (M.1 2), .int (M.1 3), .int (M.1 4), .ref (q 23), .ref (q 24), .int (M.1 7), .ref (q 25), .int (M.1 9), .int (M.1 10), .ref (q 26), .ref (q 27), .ref (q 28), .int (M.1 14), .int (M.1 15), .int (M.1 16), .int (M.1 17), .int (M.1 18), .int (M.1 19), .int (M.1 20), .int (M.1 21), .ref (q 29), .int (M.1 23), .int (M.1 24), .ref (q 30), .ref (q 31), .ref (q 32), .long M.2.2])) ::
  (q 23, .inl (cq 23, 16, .inl (M.2.1 23))) ::
  (q 24, .inl (cq 24, 60, .inl (M.2.1 24))) ::
  (q 25, .inl (cq 25, 64, .inl (M.2.1 25))) ::
  (q 26, .inl (cq 26, 50, .inl (M.2.1 26))) ::
  (q 27, .inl (cq 27, 88, .inl (M.2.1 27))) ::
  (q 28, .inl (cq 28, 16, .inl (M.2.1 28))) ::
  (q 29, .inl (cq 29, 150, .inl (M.2.1 29))) ::
  (q 30, .inl (cq 30, 8, .inl (M.2.1 30))) ::
  (q 31, .inl (cq 31, 8, .inl (M.2.1 31))) ::
  (q 32, .inl (cq 32, 9, .inl (M.2.1 32))) ::
  (q 33, .inl (cq 33, 1, .inr (.inl (o)))) :: tl
theorem wA_G (cq : Nat → ClassId) (q : Nat → Nat) (S : CS) (M : MS) (o : Nat → Int64) : wA cq q S M o = wG cq q S M o (S.1 4) (edA q S) (nI S.2.2.2.1.length) (wF cq S) := rfl
abbrev tyA (cq : Nat → ClassId) : List (ClassId × FieldType) := [(cq 2, .int), (cq 5, .int), (cq 7, .int), (cq 8, .int), (cq 10, .int), (cq 11, .int), (cq 12, .int), (cq 14, .int), (cq 15, .int), (cq 16, .int), (cq 17, .int), (cq 21, .int), (cq 23, .int), (cq 24, .int), (cq 25, .int), (cq 26, .int), (cq 27, .int), (cq 28, .int), (cq 29, .int), (cq 30, .int), (cq 31, .int), (cq 32, .int), (cq 19, .long), (cq 33, .long), (cq 34, .object "java/lang/Object")]
/-- an index in its row -/
def inb (i : Int32) (n : Nat) : Bool := decide (¬ (i < 0 ∨ n ≤ i.toNatClampNeg))
theorem inb_ok {i : Int32} {n : Nat} (h : inb i n = true) : vp_in i n := of_decide_eq_true (p := ¬ (i < 0 ∨ n ≤ i.toNatClampNeg)) h
theorem gd {α : Type} {c : Prop} {inst : Decidable c} {t : Option α} {r : α} (h : (@ite _ c inst t none) = some r) : c ∧ t = some r := by
  by_cases hc : c
  · exact ⟨hc, by rw [if_pos hc] at h; exact h⟩
  · rw [if_neg hc] at h; cases h
theorem it {α : Type} {c : Prop} {inst : Decidable c} {a b r : α} (hc : c) (h : (@ite _ c inst a b) = r) : a = r := by rw [if_pos hc] at h; exact h
theorem ie {α : Type} {c : Prop} {inst : Decidable c} {a b r : α} (hc : ¬ c) (h : (@ite _ c inst a b) = r) : b = r := by rw [if_neg hc] at h; exact h
def bn {α β : Type} (x : Option α) (f : α → Option β) : Option β := match x with
  | none => none
  | some a => f a
theorem bo {α β : Type} {x : Option α} {f : α → Option β} {r : β} (h : bn x f = some r) : ∃ a, x = some a ∧ f a = some r := by
  cases x with
  | none => cases h
  | some a => exact ⟨a, rfl, h⟩
theorem bn_some {α β : Type} (a : α) (f : α → Option β) : bn (some a) f = f a := rfl
def bm {α β γ : Type} (x : Option (α × β)) (f : α → β → Option γ) : Option γ := match x with
  | none => none
  | some a => f a.1 a.2
theorem bp {α β γ : Type} {x : Option (α × β)} {f : α → β → Option γ} {r : γ} (h : bm x f = some r) : ∃ a b, x = some (a, b) ∧ f a b = some r := by
  cases x with
  | none => cases h
  | some a => exact ⟨a.1, a.2, rfl, h⟩
theorem bm_some {α β γ : Type} (a : α) (b : β) (f : α → β → Option γ) : bm (some (a, b)) f = f a b := rfl
theorem mm {ws : List Cond} {w : Cond} (i : Nat) (h : ws[i]? = some w) : w ∈ ws := List.mem_of_getElem? h
def PreX (Dm : Nat → Prop) (X : State → Prop) (dC : Nat → ClassId) (dI : Nat → Nat → Nat) (cq : Nat → ClassId) (q : Nat → Nat) (S : CS) (M : MS) (o : Nat → Int64) (sz : Nat) (av : List Value) : Array Value → State → Prop :=
  va_Pc av (fun U => U.heap.size = sz ∧ va_P (dC, dI) vwCl (wA cq q S M o) U.heap ∧ va_K (dC, dI) vwCl (tyA cq) U ∧ va_D Dm (wA cq q S M o) ∧ (∀ a, sz ≤ a → Dm a) ∧ X U)
def Bk (dC : Nat → ClassId) (dI : Nat → Nat → Nat) (cq : Nat → ClassId) (q : Nat → Nat) (A : Nat → Prop) (S : CS) (M : MS) (o : Nat → Int64) (t : State) : Prop :=
  va_P (dC, dI) vwCl (wA cq q S M o) t.heap ∧ va_K (dC, dI) vwCl (tyA cq) t ∧ va_D A (wA cq q S M o)
theorem freeW {A : Nat → Prop} {ws : va_W} {H0 H : Heap} {locs : List Loc} (hD : va_D A ws) (hS : va_S A H0 H locs) (hA : ∀ a, H0.size ≤ a → A a) : ∀ a, va_A ws H.size a → A a := fun a h => h.elim (fun ⟨k, e, h⟩ => hD.2 k (a, e) h) (fun h => hA a (Nat.le_trans hS.1 h))
theorem PreX.blind {Dm : Nat → Prop} {X : State → Prop} {dC : Nat → ClassId} {dI : Nat → Nat → Nat} {cq : Nat → ClassId} {q : Nat → Nat} {S : CS} {M : MS} {o : Nat → Int64} {sz : Nat} {av : List Value} (hX : ∀ (U : State) (g : JFrame) (mk : MethodId) (a : Array Value), X U → X (U.calling g mk a)) : FrameBlind (PreX Dm X dC dI cq q S M o sz av) := by
  intro a U g mk h
  obtain ⟨q0, q1, qP, qK, qD, qz, qX⟩ := h
  exact ⟨q0, q1, qP, va_K.moved (u := U) (U := U.calling g mk a) (Vm.Alike.refl U.vm) qK, qD, qz, hX U g mk a qX⟩
theorem ent_i {l : Launch} {dC : Nat → ClassId} {dI : Nat → Nat → Nat} {cq : Nat → ClassId} {q : Nat → Nat} {S : CS} {M : MS} {o : Nat → Int64} {y : MethodName} {ws ws' : List Cond} {cc : ByteArray} {maxL : Nat} {rm : Room} {Dm : Nat → Prop} {X : State → Prop} {sz : Nat} {av : List Value} {post : (Int32 → CS × MS → Prop)} (hy : plainName y.cls = true) (hw : ws = Cond.code y cc maxL (some .int) :: ws') (hlen : (lg_sl av).length ≤ maxL)
    (body : ∀ (p : Program) (e : Env) (s : State) (m : MethodId) (args : Array Value) (below : List Frame) (meth : Method) (c : Code) (A : Nat → Prop) (Q : State → Prop) (ls : Array Slot), CallFix p m c cc maxL s args ws y.cls → (∀ a, s.heap.size ≤ a → A a) → va_P (dC, dI) vwCl (wA cq q S M o) s.heap → va_K (dC, dI) vwCl (tyA cq) s → va_D A (wA cq q S M o) → (∀ a, A a → Dm a) → X s → lv_has ls maxL (lv_args 0 av) →
      (∀ (H : Heap) (locs : List Loc) (r : Int32) (u : CS × MS) (pc : Nat) (ls : Array Slot), post r u → va_P (dC, dI) vwCl (wA cq q u.1 u.2 o) H → va_D A (wA cq q u.1 u.2 o) → va_S A s.heap H locs → decode cc pc = .ok (.ireturn, 1) → W p l e rm s m args below meth c H locs 0 0 Q (F0 m pc ls [.int r])) →
      W p l e rm s m args below meth c s.heap [] 0 0 Q (F0 m 0 ls [])) :
    Met l y ws rm (PreX Dm X dC dI cq q S M o sz av) (va_Qi post (fun u t => Bk dC dI cq q (va_A (wA cq q S M o) sz) u.1 u.2 o t) (va_A (wA cq q S M o) sz)) 0 0 (va_A (wA cq q S M o) sz) := by
  refine Met.ofW (cc := cc) (maxL := maxL) (ret := (some .int)) hy hw ?_
  intro p e s m args below meth c s₁ B hml hv
  obtain ⟨rfl, hsz, hP, hK, hD0, hz0, hX⟩ := hv
  have hx := B.exec
  have hb := B.bytes
  have hr := B.returns
  have hts := atoms_spec (ws := ws) B.pre
  have hown : s.vm.findClass y.cls = some m.cls := findClass_of_methodNamed B.named
  have hlocks := B.notSynchronized
  subst hsz
  have hD := hD0.self (sz := s.heap.size)
  have hA : ∀ a : Nat, s.heap.size ≤ a → va_A (wA cq q S M o) s.heap.size a := fun a h => Or.inr h
  have hl := lv_entry av (n := maxL) hlen
  rw [lg_entry_eq]
  refine body p e s m _ below meth c _ _ _ ⟨hx, hb, hml, hown, hts⟩ hA hP hK hD (fun a h => h.elim (fun ⟨k, e, h⟩ => hD0.2 k (a, e) h) (fun h => hz0 a h)) hX hl ?_
  intro H locs r u pc ls hpost hP hD hS hdg
  exact W.iret hx hb hr (fun t ht hW => ⟨⟨r, u, rfl, hpost, by rw [ht]; exact hP, va_K.moved hW.alike hK, hD⟩, hS.F ht⟩) hS.2.2 hdg
theorem ent_z {l : Launch} {dC : Nat → ClassId} {dI : Nat → Nat → Nat} {cq : Nat → ClassId} {q : Nat → Nat} {S : CS} {M : MS} {o : Nat → Int64} {y : MethodName} {ws ws' : List Cond} {cc : ByteArray} {maxL : Nat} {rm : Room} {Dm : Nat → Prop} {X : State → Prop} {sz : Nat} {av : List Value} {post : (Int32 → CS × MS → Prop)} (hy : plainName y.cls = true) (hw : ws = Cond.code y cc maxL (some .boolean) :: ws') (hlen : (lg_sl av).length ≤ maxL)
    (body : ∀ (p : Program) (e : Env) (s : State) (m : MethodId) (args : Array Value) (below : List Frame) (meth : Method) (c : Code) (A : Nat → Prop) (Q : State → Prop) (ls : Array Slot), CallFix p m c cc maxL s args ws y.cls → (∀ a, s.heap.size ≤ a → A a) → va_P (dC, dI) vwCl (wA cq q S M o) s.heap → va_K (dC, dI) vwCl (tyA cq) s → va_D A (wA cq q S M o) → (∀ a, A a → Dm a) → X s → lv_has ls maxL (lv_args 0 av) →
      (∀ (H : Heap) (locs : List Loc) (r : Int32) (u : CS × MS) (pc : Nat) (ls : Array Slot), post r u → va_P (dC, dI) vwCl (wA cq q u.1 u.2 o) H → va_D A (wA cq q u.1 u.2 o) → va_S A s.heap H locs → decode cc pc = .ok (.ireturn, 1) → (narrow .boolean (.int r) = .int r) → W p l e rm s m args below meth c H locs 0 0 Q (F0 m pc ls [.int r])) →
      W p l e rm s m args below meth c s.heap [] 0 0 Q (F0 m 0 ls [])) :
    Met l y ws rm (PreX Dm X dC dI cq q S M o sz av) (va_Qi post (fun u t => Bk dC dI cq q (va_A (wA cq q S M o) sz) u.1 u.2 o t) (va_A (wA cq q S M o) sz)) 0 0 (va_A (wA cq q S M o) sz) := by
  refine Met.ofW (cc := cc) (maxL := maxL) (ret := (some .boolean)) hy hw ?_
  intro p e s m args below meth c s₁ B hml hv
  obtain ⟨rfl, hsz, hP, hK, hD0, hz0, hX⟩ := hv
  have hx := B.exec
  have hb := B.bytes
  have hr := B.returns
  have hts := atoms_spec (ws := ws) B.pre
  have hown : s.vm.findClass y.cls = some m.cls := findClass_of_methodNamed B.named
  have hlocks := B.notSynchronized
  subst hsz
  have hD := hD0.self (sz := s.heap.size)
  have hA : ∀ a : Nat, s.heap.size ≤ a → va_A (wA cq q S M o) s.heap.size a := fun a h => Or.inr h
  have hl := lv_entry av (n := maxL) hlen
  rw [lg_entry_eq]
  refine body p e s m _ below meth c _ _ _ ⟨hx, hb, hml, hown, hts⟩ hA hP hK hD (fun a h => h.elim (fun ⟨k, e, h⟩ => hD0.2 k (a, e) h) (fun h => hz0 a h)) hX hl ?_
  intro H locs r u pc ls hpost hP hD hS hdg hnr
  exact W.zret hx hb hr hnr (fun t ht hW => ⟨⟨r, u, rfl, hpost, by rw [ht]; exact hP, va_K.moved hW.alike hK, hD⟩, hS.F ht⟩) hS.2.2 hdg
theorem ent_l {l : Launch} {dC : Nat → ClassId} {dI : Nat → Nat → Nat} {cq : Nat → ClassId} {q : Nat → Nat} {S : CS} {M : MS} {o : Nat → Int64} {y : MethodName} {ws ws' : List Cond} {cc : ByteArray} {maxL : Nat} {rm : Room} {Dm : Nat → Prop} {X : State → Prop} {sz : Nat} {av : List Value} {post : (Int64 → CS × MS → Prop)} (hy : plainName y.cls = true) (hw : ws = Cond.code y cc maxL (some .long) :: ws') (hlen : (lg_sl av).length ≤ maxL)
    (body : ∀ (p : Program) (e : Env) (s : State) (m : MethodId) (args : Array Value) (below : List Frame) (meth : Method) (c : Code) (A : Nat → Prop) (Q : State → Prop) (ls : Array Slot), CallFix p m c cc maxL s args ws y.cls → (∀ a, s.heap.size ≤ a → A a) → va_P (dC, dI) vwCl (wA cq q S M o) s.heap → va_K (dC, dI) vwCl (tyA cq) s → va_D A (wA cq q S M o) → (∀ a, A a → Dm a) → X s → lv_has ls maxL (lv_args 0 av) →
      (∀ (H : Heap) (locs : List Loc) (r : Int64) (u : CS × MS) (pc : Nat) (ls : Array Slot), post r u → va_P (dC, dI) vwCl (wA cq q u.1 u.2 o) H → va_D A (wA cq q u.1 u.2 o) → va_S A s.heap H locs → decode cc pc = .ok (.lreturn, 1) → W p l e rm s m args below meth c H locs 0 0 Q (F0 m pc ls [.long r])) →
      W p l e rm s m args below meth c s.heap [] 0 0 Q (F0 m 0 ls [])) :
    Met l y ws rm (PreX Dm X dC dI cq q S M o sz av) (va_Ql post (fun u t => Bk dC dI cq q (va_A (wA cq q S M o) sz) u.1 u.2 o t) (va_A (wA cq q S M o) sz)) 0 0 (va_A (wA cq q S M o) sz) := by
  refine Met.ofW (cc := cc) (maxL := maxL) (ret := (some .long)) hy hw ?_
  intro p e s m args below meth c s₁ B hml hv
  obtain ⟨rfl, hsz, hP, hK, hD0, hz0, hX⟩ := hv
  have hx := B.exec
  have hb := B.bytes
  have hr := B.returns
  have hts := atoms_spec (ws := ws) B.pre
  have hown : s.vm.findClass y.cls = some m.cls := findClass_of_methodNamed B.named
  have hlocks := B.notSynchronized
  subst hsz
  have hD := hD0.self (sz := s.heap.size)
  have hA : ∀ a : Nat, s.heap.size ≤ a → va_A (wA cq q S M o) s.heap.size a := fun a h => Or.inr h
  have hl := lv_entry av (n := maxL) hlen
  rw [lg_entry_eq]
  refine body p e s m _ below meth c _ _ _ ⟨hx, hb, hml, hown, hts⟩ hA hP hK hD (fun a h => h.elim (fun ⟨k, e, h⟩ => hD0.2 k (a, e) h) (fun h => hz0 a h)) hX hl ?_
  intro H locs r u pc ls hpost hP hD hS hdg
  exact W.lret hx hb hr (fun t ht hW => ⟨⟨r, u, rfl, hpost, by rw [ht]; exact hP, va_K.moved hW.alike hK, hD⟩, hS.F ht⟩) hS.2.2 hdg
theorem ent_v {l : Launch} {dC : Nat → ClassId} {dI : Nat → Nat → Nat} {cq : Nat → ClassId} {q : Nat → Nat} {S : CS} {M : MS} {o : Nat → Int64} {y : MethodName} {ws ws' : List Cond} {cc : ByteArray} {maxL : Nat} {rm : Room} {Dm : Nat → Prop} {X : State → Prop} {sz : Nat} {av : List Value} {post : (CS × MS → Prop)} (hy : plainName y.cls = true) (hw : ws = Cond.code y cc maxL none :: ws') (hlen : (lg_sl av).length ≤ maxL)
    (body : ∀ (p : Program) (e : Env) (s : State) (m : MethodId) (args : Array Value) (below : List Frame) (meth : Method) (c : Code) (A : Nat → Prop) (Q : State → Prop) (ls : Array Slot), CallFix p m c cc maxL s args ws y.cls → (∀ a, s.heap.size ≤ a → A a) → va_P (dC, dI) vwCl (wA cq q S M o) s.heap → va_K (dC, dI) vwCl (tyA cq) s → va_D A (wA cq q S M o) → (∀ a, A a → Dm a) → X s → lv_has ls maxL (lv_args 0 av) →
      (∀ (H : Heap) (locs : List Loc) (u : CS × MS) (pc : Nat) (ls : Array Slot), post u → va_P (dC, dI) vwCl (wA cq q u.1 u.2 o) H → va_D A (wA cq q u.1 u.2 o) → va_S A s.heap H locs → decode cc pc = .ok (.return_, 1) → W p l e rm s m args below meth c H locs 0 0 Q (F0 m pc ls [])) →
      W p l e rm s m args below meth c s.heap [] 0 0 Q (F0 m 0 ls [])) :
    Met l y ws rm (PreX Dm X dC dI cq q S M o sz av) (va_Qv post (fun u t => Bk dC dI cq q (va_A (wA cq q S M o) sz) u.1 u.2 o t) (va_A (wA cq q S M o) sz)) 0 0 (va_A (wA cq q S M o) sz) := by
  refine Met.ofW (cc := cc) (maxL := maxL) (ret := none) hy hw ?_
  intro p e s m args below meth c s₁ B hml hv
  obtain ⟨rfl, hsz, hP, hK, hD0, hz0, hX⟩ := hv
  have hx := B.exec
  have hb := B.bytes
  have hr := B.returns
  have hts := atoms_spec (ws := ws) B.pre
  have hown : s.vm.findClass y.cls = some m.cls := findClass_of_methodNamed B.named
  have hlocks := B.notSynchronized
  subst hsz
  have hD := hD0.self (sz := s.heap.size)
  have hA : ∀ a : Nat, s.heap.size ≤ a → va_A (wA cq q S M o) s.heap.size a := fun a h => Or.inr h
  have hl := lv_entry av (n := maxL) hlen
  rw [lg_entry_eq]
  refine body p e s m _ below meth c _ _ _ ⟨hx, hb, hml, hown, hts⟩ hA hP hK hD (fun a h => h.elim (fun ⟨k, e, h⟩ => hD0.2 k (a, e) h) (fun h => hz0 a h)) hX hl ?_
  intro H locs u pc ls hpost hP hD hS hdg
  exact W.vret hx hb hr (fun t ht hW => ⟨⟨u, rfl, hpost, by rw [ht]; exact hP, va_K.moved hW.alike hK, hD⟩, hS.F ht⟩) hS.2.2 hdg
theorem callV_i {l : Launch} {dC : Nat → ClassId} {dI : Nat → Nat → Nat} {cq : Nat → ClassId} {q : Nat → Nat} {S : CS} {M : MS} {o : Nat → Int64} {p : Program} {e : Env} {R : Room} {s : State} {m : MethodId} {args : Array Value} {below : List Frame} {meth : Method} {c : Code} {H : Heap} {locs : List Loc} {cells slots : Nat} {Q : State → Prop} {A : Nat → Prop} {y : MethodName} {cc bytes : ByteArray} {maxL nL n index : Nat} {ret : Option FieldType} {ws Ts : List Cond} {rm : Room} {own C : String} {b : Nat} {As rest st0 : List Value} {pc : Nat} {ls : Array Slot} {Dm : Nat → Prop} {X : State → Prop} {post : (Int32 → CS × MS → Prop)}
    (hM : Met l y ws rm (PreX Dm X dC dI cq q S M o H.size (.ref b :: As)) (va_Qi post (fun u t => Bk dC dI cq q (va_A (wA cq q S M o) H.size) u.1 u.2 o t) (va_A (wA cq q S M o) H.size)) 0 0 (va_A (wA cq q S M o) H.size))
    (F : CallFix p m c cc nL s args Ts own) (cw : CallW R s args own C index y bytes maxL ret ws rm 0 0 n) (hK : va_K (dC, dI) vwCl (tyA cq) s) (hP : va_P (dC, dI) vwCl (wA cq q S M o) H) (hD : va_D A (wA cq q S M o)) (hDm : ∀ a, A a → Dm a) (hS : va_S A s.heap H locs) (hA : ∀ a, s.heap.size ≤ a → A a)
    (hXb : ∀ (U : State) (g : JFrame) (mk : MethodId) (a : Array Value), X U → X (U.calling g mk a)) (hXc : ∀ U : State, U.heap = H → s.WarmedH U.vm → X U)
    (hrec : ∃ cellB : Cell, H[b]? = some cellB ∧ cellB.vm.isStatics = false ∧ s.vm.findClass C = some cellB.cls) (hn : As.length = n) (hsize : ls.size = nL) (hst : st0 = As.reverse ++ .ref b :: rest) (hW : (rest.map fun v => v.category).sum ≤ 8) (hdg : decode cc pc = .ok (.invokevirtual index, 3)) (hf : cells + 0 ≤ R.cells ∧ slots + 0 ≤ R.slots)
    (kk : ∀ (H1 : Heap) (locs1 : List Loc) (r : Int32) (u : CS × MS), post r u → va_P (dC, dI) vwCl (wA cq q u.1 u.2 o) H1 → va_D A (wA cq q u.1 u.2 o) → va_S A s.heap H1 locs1 → W p l e R s m args below meth c H1 locs1 cells slots Q (F0 m (pc + 3) ls (.int r :: rest))) :
    W p l e R s m args below meth c H locs cells slots Q (F0 m pc ls st0) := by
  have hFc := freeW hD hS hA
  refine va_calli (va_runV (As := As) (rest := rest) F hM cw ⟨PreX.blind hXb, hrec, fun U hU hW => ⟨rfl, by rw [hU], by rw [hU]; exact hP, va_K.moved hW.alike hK, hD.weaken (fun _ _ _ h => hDm _ h), fun a h => hDm a (hA a (Nat.le_trans hS.1 h)), hXc U hU hW⟩⟩ rfl hn hsize hst (lv_room hW) hdg hf) hS (fun a _ h => hFc a h) hFc (fun r u t H1 locs1 ht hvm hw hB hz1 hk1 hS1 => ?_)
  obtain ⟨hP1, hK1, hD1⟩ := hB
  rw [ht] at hP1
  exact kk H1 locs1 r u hw hP1 (hD1.weaken (fun i z _ hz => hFc _ hz)) hS1
theorem callS_i {l : Launch} {dC : Nat → ClassId} {dI : Nat → Nat → Nat} {cq : Nat → ClassId} {q : Nat → Nat} {S : CS} {M : MS} {o : Nat → Int64} {p : Program} {e : Env} {R : Room} {s : State} {m : MethodId} {args : Array Value} {below : List Frame} {meth : Method} {c : Code} {H : Heap} {locs : List Loc} {cells slots : Nat} {Q : State → Prop} {A : Nat → Prop} {y : MethodName} {cc bytes : ByteArray} {maxL nL n index : Nat} {ret : Option FieldType} {ws Ts : List Cond} {rm : Room} {own : String} {As rest st0 : List Value} {pc : Nat} {ls : Array Slot} {Dm : Nat → Prop} {X : State → Prop} {post : (Int32 → CS × MS → Prop)}
    (hM : Met l y ws rm (PreX Dm X dC dI cq q S M o H.size (As)) (va_Qi post (fun u t => Bk dC dI cq q (va_A (wA cq q S M o) H.size) u.1 u.2 o t) (va_A (wA cq q S M o) H.size)) 0 0 (va_A (wA cq q S M o) H.size))
    (F : CallFix p m c cc nL s args Ts own) (cw : CallB R s args own index y bytes maxL ret ws rm 0 0 n ∧ (Cond.static y).before args s = true) (hK : va_K (dC, dI) vwCl (tyA cq) s) (hP : va_P (dC, dI) vwCl (wA cq q S M o) H) (hD : va_D A (wA cq q S M o)) (hDm : ∀ a, A a → Dm a) (hS : va_S A s.heap H locs) (hA : ∀ a, s.heap.size ≤ a → A a)
    (hXb : ∀ (U : State) (g : JFrame) (mk : MethodId) (a : Array Value), X U → X (U.calling g mk a)) (hXc : ∀ U : State, U.heap = H → s.WarmedH U.vm → X U)
    (hn : As.length = n) (hsize : ls.size = nL) (hst : st0 = As.reverse ++ rest) (hW : (rest.map fun v => v.category).sum ≤ 8) (hdg : decode cc pc = .ok (.invokestatic index, 3)) (hf : cells + 0 ≤ R.cells ∧ slots + 0 ≤ R.slots)
    (kk : ∀ (H1 : Heap) (locs1 : List Loc) (r : Int32) (u : CS × MS), post r u → va_P (dC, dI) vwCl (wA cq q u.1 u.2 o) H1 → va_D A (wA cq q u.1 u.2 o) → va_S A s.heap H1 locs1 → W p l e R s m args below meth c H1 locs1 cells slots Q (F0 m (pc + 3) ls (.int r :: rest))) :
    W p l e R s m args below meth c H locs cells slots Q (F0 m pc ls st0) := by
  have hFc := freeW hD hS hA
  refine va_calli (va_runS (As := As) (rest := rest) F hM cw ⟨PreX.blind hXb, fun U hU hW => ⟨rfl, by rw [hU], by rw [hU]; exact hP, va_K.moved hW.alike hK, hD.weaken (fun _ _ _ h => hDm _ h), fun a h => hDm a (hA a (Nat.le_trans hS.1 h)), hXc U hU hW⟩⟩ rfl hn hsize hst (lv_room hW) hdg hf) hS (fun a _ h => hFc a h) hFc (fun r u t H1 locs1 ht hvm hw hB hz1 hk1 hS1 => ?_)
  obtain ⟨hP1, hK1, hD1⟩ := hB
  rw [ht] at hP1
  exact kk H1 locs1 r u hw hP1 (hD1.weaken (fun i z _ hz => hFc _ hz)) hS1
theorem callV_l {l : Launch} {dC : Nat → ClassId} {dI : Nat → Nat → Nat} {cq : Nat → ClassId} {q : Nat → Nat} {S : CS} {M : MS} {o : Nat → Int64} {p : Program} {e : Env} {R : Room} {s : State} {m : MethodId} {args : Array Value} {below : List Frame} {meth : Method} {c : Code} {H : Heap} {locs : List Loc} {cells slots : Nat} {Q : State → Prop} {A : Nat → Prop} {y : MethodName} {cc bytes : ByteArray} {maxL nL n index : Nat} {ret : Option FieldType} {ws Ts : List Cond} {rm : Room} {own C : String} {b : Nat} {As rest st0 : List Value} {pc : Nat} {ls : Array Slot} {Dm : Nat → Prop} {X : State → Prop} {post : (Int64 → CS × MS → Prop)}
    (hM : Met l y ws rm (PreX Dm X dC dI cq q S M o H.size (.ref b :: As)) (va_Ql post (fun u t => Bk dC dI cq q (va_A (wA cq q S M o) H.size) u.1 u.2 o t) (va_A (wA cq q S M o) H.size)) 0 0 (va_A (wA cq q S M o) H.size))
    (F : CallFix p m c cc nL s args Ts own) (cw : CallW R s args own C index y bytes maxL ret ws rm 0 0 n) (hK : va_K (dC, dI) vwCl (tyA cq) s) (hP : va_P (dC, dI) vwCl (wA cq q S M o) H) (hD : va_D A (wA cq q S M o)) (hDm : ∀ a, A a → Dm a) (hS : va_S A s.heap H locs) (hA : ∀ a, s.heap.size ≤ a → A a)
    (hXb : ∀ (U : State) (g : JFrame) (mk : MethodId) (a : Array Value), X U → X (U.calling g mk a)) (hXc : ∀ U : State, U.heap = H → s.WarmedH U.vm → X U)
    (hrec : ∃ cellB : Cell, H[b]? = some cellB ∧ cellB.vm.isStatics = false ∧ s.vm.findClass C = some cellB.cls) (hn : As.length = n) (hsize : ls.size = nL) (hst : st0 = As.reverse ++ .ref b :: rest) (hW : (rest.map fun v => v.category).sum ≤ 8) (hdg : decode cc pc = .ok (.invokevirtual index, 3)) (hf : cells + 0 ≤ R.cells ∧ slots + 0 ≤ R.slots)
    (kk : ∀ (H1 : Heap) (locs1 : List Loc) (r : Int64) (u : CS × MS), post r u → va_P (dC, dI) vwCl (wA cq q u.1 u.2 o) H1 → va_D A (wA cq q u.1 u.2 o) → va_S A s.heap H1 locs1 → W p l e R s m args below meth c H1 locs1 cells slots Q (F0 m (pc + 3) ls (.long r :: rest))) :
    W p l e R s m args below meth c H locs cells slots Q (F0 m pc ls st0) := by
  have hFc := freeW hD hS hA
  refine va_calll (va_runV (As := As) (rest := rest) F hM cw ⟨PreX.blind hXb, hrec, fun U hU hW => ⟨rfl, by rw [hU], by rw [hU]; exact hP, va_K.moved hW.alike hK, hD.weaken (fun _ _ _ h => hDm _ h), fun a h => hDm a (hA a (Nat.le_trans hS.1 h)), hXc U hU hW⟩⟩ rfl hn hsize hst (lv_room hW) hdg hf) hS (fun a _ h => hFc a h) hFc (fun r u t H1 locs1 ht hvm hw hB hz1 hk1 hS1 => ?_)
  obtain ⟨hP1, hK1, hD1⟩ := hB
  rw [ht] at hP1
  exact kk H1 locs1 r u hw hP1 (hD1.weaken (fun i z _ hz => hFc _ hz)) hS1
theorem callS_l {l : Launch} {dC : Nat → ClassId} {dI : Nat → Nat → Nat} {cq : Nat → ClassId} {q : Nat → Nat} {S : CS} {M : MS} {o : Nat → Int64} {p : Program} {e : Env} {R : Room} {s : State} {m : MethodId} {args : Array Value} {below : List Frame} {meth : Method} {c : Code} {H : Heap} {locs : List Loc} {cells slots : Nat} {Q : State → Prop} {A : Nat → Prop} {y : MethodName} {cc bytes : ByteArray} {maxL nL n index : Nat} {ret : Option FieldType} {ws Ts : List Cond} {rm : Room} {own : String} {As rest st0 : List Value} {pc : Nat} {ls : Array Slot} {Dm : Nat → Prop} {X : State → Prop} {post : (Int64 → CS × MS → Prop)}
    (hM : Met l y ws rm (PreX Dm X dC dI cq q S M o H.size (As)) (va_Ql post (fun u t => Bk dC dI cq q (va_A (wA cq q S M o) H.size) u.1 u.2 o t) (va_A (wA cq q S M o) H.size)) 0 0 (va_A (wA cq q S M o) H.size))
    (F : CallFix p m c cc nL s args Ts own) (cw : CallB R s args own index y bytes maxL ret ws rm 0 0 n ∧ (Cond.static y).before args s = true) (hK : va_K (dC, dI) vwCl (tyA cq) s) (hP : va_P (dC, dI) vwCl (wA cq q S M o) H) (hD : va_D A (wA cq q S M o)) (hDm : ∀ a, A a → Dm a) (hS : va_S A s.heap H locs) (hA : ∀ a, s.heap.size ≤ a → A a)
    (hXb : ∀ (U : State) (g : JFrame) (mk : MethodId) (a : Array Value), X U → X (U.calling g mk a)) (hXc : ∀ U : State, U.heap = H → s.WarmedH U.vm → X U)
    (hn : As.length = n) (hsize : ls.size = nL) (hst : st0 = As.reverse ++ rest) (hW : (rest.map fun v => v.category).sum ≤ 8) (hdg : decode cc pc = .ok (.invokestatic index, 3)) (hf : cells + 0 ≤ R.cells ∧ slots + 0 ≤ R.slots)
    (kk : ∀ (H1 : Heap) (locs1 : List Loc) (r : Int64) (u : CS × MS), post r u → va_P (dC, dI) vwCl (wA cq q u.1 u.2 o) H1 → va_D A (wA cq q u.1 u.2 o) → va_S A s.heap H1 locs1 → W p l e R s m args below meth c H1 locs1 cells slots Q (F0 m (pc + 3) ls (.long r :: rest))) :
    W p l e R s m args below meth c H locs cells slots Q (F0 m pc ls st0) := by
  have hFc := freeW hD hS hA
  refine va_calll (va_runS (As := As) (rest := rest) F hM cw ⟨PreX.blind hXb, fun U hU hW => ⟨rfl, by rw [hU], by rw [hU]; exact hP, va_K.moved hW.alike hK, hD.weaken (fun _ _ _ h => hDm _ h), fun a h => hDm a (hA a (Nat.le_trans hS.1 h)), hXc U hU hW⟩⟩ rfl hn hsize hst (lv_room hW) hdg hf) hS (fun a _ h => hFc a h) hFc (fun r u t H1 locs1 ht hvm hw hB hz1 hk1 hS1 => ?_)
  obtain ⟨hP1, hK1, hD1⟩ := hB
  rw [ht] at hP1
  exact kk H1 locs1 r u hw hP1 (hD1.weaken (fun i z _ hz => hFc _ hz)) hS1
theorem callV_v {l : Launch} {dC : Nat → ClassId} {dI : Nat → Nat → Nat} {cq : Nat → ClassId} {q : Nat → Nat} {S : CS} {M : MS} {o : Nat → Int64} {p : Program} {e : Env} {R : Room} {s : State} {m : MethodId} {args : Array Value} {below : List Frame} {meth : Method} {c : Code} {H : Heap} {locs : List Loc} {cells slots : Nat} {Q : State → Prop} {A : Nat → Prop} {y : MethodName} {cc bytes : ByteArray} {maxL nL n index : Nat} {ret : Option FieldType} {ws Ts : List Cond} {rm : Room} {own C : String} {b : Nat} {As rest st0 : List Value} {pc : Nat} {ls : Array Slot} {Dm : Nat → Prop} {X : State → Prop} {post : (CS × MS → Prop)}
    (hM : Met l y ws rm (PreX Dm X dC dI cq q S M o H.size (.ref b :: As)) (va_Qv post (fun u t => Bk dC dI cq q (va_A (wA cq q S M o) H.size) u.1 u.2 o t) (va_A (wA cq q S M o) H.size)) 0 0 (va_A (wA cq q S M o) H.size))
    (F : CallFix p m c cc nL s args Ts own) (cw : CallW R s args own C index y bytes maxL ret ws rm 0 0 n) (hK : va_K (dC, dI) vwCl (tyA cq) s) (hP : va_P (dC, dI) vwCl (wA cq q S M o) H) (hD : va_D A (wA cq q S M o)) (hDm : ∀ a, A a → Dm a) (hS : va_S A s.heap H locs) (hA : ∀ a, s.heap.size ≤ a → A a)
    (hXb : ∀ (U : State) (g : JFrame) (mk : MethodId) (a : Array Value), X U → X (U.calling g mk a)) (hXc : ∀ U : State, U.heap = H → s.WarmedH U.vm → X U)
    (hrec : ∃ cellB : Cell, H[b]? = some cellB ∧ cellB.vm.isStatics = false ∧ s.vm.findClass C = some cellB.cls) (hn : As.length = n) (hsize : ls.size = nL) (hst : st0 = As.reverse ++ .ref b :: rest) (hW : (rest.map fun v => v.category).sum ≤ 8) (hdg : decode cc pc = .ok (.invokevirtual index, 3)) (hf : cells + 0 ≤ R.cells ∧ slots + 0 ≤ R.slots)
    (kk : ∀ (H1 : Heap) (locs1 : List Loc) (u : CS × MS), post u → va_P (dC, dI) vwCl (wA cq q u.1 u.2 o) H1 → va_D A (wA cq q u.1 u.2 o) → va_S A s.heap H1 locs1 → W p l e R s m args below meth c H1 locs1 cells slots Q (F0 m (pc + 3) ls rest)) :
    W p l e R s m args below meth c H locs cells slots Q (F0 m pc ls st0) := by
  have hFc := freeW hD hS hA
  refine va_callv (va_runV (As := As) (rest := rest) F hM cw ⟨PreX.blind hXb, hrec, fun U hU hW => ⟨rfl, by rw [hU], by rw [hU]; exact hP, va_K.moved hW.alike hK, hD.weaken (fun _ _ _ h => hDm _ h), fun a h => hDm a (hA a (Nat.le_trans hS.1 h)), hXc U hU hW⟩⟩ rfl hn hsize hst (lv_room hW) hdg hf) hS (fun a _ h => hFc a h) hFc (fun u t H1 locs1 ht hvm hw hB hz1 hk1 hS1 => ?_)
  obtain ⟨hP1, hK1, hD1⟩ := hB
  rw [ht] at hP1
  exact kk H1 locs1 u hw hP1 (hD1.weaken (fun i z _ hz => hFc _ hz)) hS1
theorem callS_v {l : Launch} {dC : Nat → ClassId} {dI : Nat → Nat → Nat} {cq : Nat → ClassId} {q : Nat → Nat} {S : CS} {M : MS} {o : Nat → Int64} {p : Program} {e : Env} {R : Room} {s : State} {m : MethodId} {args : Array Value} {below : List Frame} {meth : Method} {c : Code} {H : Heap} {locs : List Loc} {cells slots : Nat} {Q : State → Prop} {A : Nat → Prop} {y : MethodName} {cc bytes : ByteArray} {maxL nL n index : Nat} {ret : Option FieldType} {ws Ts : List Cond} {rm : Room} {own : String} {As rest st0 : List Value} {pc : Nat} {ls : Array Slot} {Dm : Nat → Prop} {X : State → Prop} {post : (CS × MS → Prop)}
    (hM : Met l y ws rm (PreX Dm X dC dI cq q S M o H.size (As)) (va_Qv post (fun u t => Bk dC dI cq q (va_A (wA cq q S M o) H.size) u.1 u.2 o t) (va_A (wA cq q S M o) H.size)) 0 0 (va_A (wA cq q S M o) H.size))
    (F : CallFix p m c cc nL s args Ts own) (cw : CallB R s args own index y bytes maxL ret ws rm 0 0 n ∧ (Cond.static y).before args s = true) (hK : va_K (dC, dI) vwCl (tyA cq) s) (hP : va_P (dC, dI) vwCl (wA cq q S M o) H) (hD : va_D A (wA cq q S M o)) (hDm : ∀ a, A a → Dm a) (hS : va_S A s.heap H locs) (hA : ∀ a, s.heap.size ≤ a → A a)
    (hXb : ∀ (U : State) (g : JFrame) (mk : MethodId) (a : Array Value), X U → X (U.calling g mk a)) (hXc : ∀ U : State, U.heap = H → s.WarmedH U.vm → X U)
    (hn : As.length = n) (hsize : ls.size = nL) (hst : st0 = As.reverse ++ rest) (hW : (rest.map fun v => v.category).sum ≤ 8) (hdg : decode cc pc = .ok (.invokestatic index, 3)) (hf : cells + 0 ≤ R.cells ∧ slots + 0 ≤ R.slots)
    (kk : ∀ (H1 : Heap) (locs1 : List Loc) (u : CS × MS), post u → va_P (dC, dI) vwCl (wA cq q u.1 u.2 o) H1 → va_D A (wA cq q u.1 u.2 o) → va_S A s.heap H1 locs1 → W p l e R s m args below meth c H1 locs1 cells slots Q (F0 m (pc + 3) ls rest)) :
    W p l e R s m args below meth c H locs cells slots Q (F0 m pc ls st0) := by
  have hFc := freeW hD hS hA
  refine va_callv (va_runS (As := As) (rest := rest) F hM cw ⟨PreX.blind hXb, fun U hU hW => ⟨rfl, by rw [hU], by rw [hU]; exact hP, va_K.moved hW.alike hK, hD.weaken (fun _ _ _ h => hDm _ h), fun a h => hDm a (hA a (Nat.le_trans hS.1 h)), hXc U hU hW⟩⟩ rfl hn hsize hst (lv_room hW) hdg hf) hS (fun a _ h => hFc a h) hFc (fun u t H1 locs1 ht hvm hw hB hz1 hk1 hS1 => ?_)
  obtain ⟨hP1, hK1, hD1⟩ := hB
  rw [ht] at hP1
  exact kk H1 locs1 u hw hP1 (hD1.weaken (fun i z _ hz => hFc _ hz)) hS1
abbrev CtR_i (l : Launch) (y : MethodName) (ws : List Cond) (rm : Room) (Dm : Nat → Prop) (X : State → Prop) (dC : Nat → ClassId) (dI : Nat → Nat → Nat) (cq : Nat → ClassId) (q : Nat → Nat) (S : CS) (M : MS) (o : Nat → Int64) (sz : Nat) (av : List Value) (r1 : Int32)  : Prop := Met l y ws rm (PreX Dm X dC dI cq q S M o sz av) (va_Qi (fun (r : Int32) (u : CS × MS) => r = r1 ∧ u = (S, M)) (fun u t => Bk dC dI cq q (va_A (wA cq q S M o) sz) u.1 u.2 o t) (va_A (wA cq q S M o) sz)) 0 0 (va_A (wA cq q S M o) sz)
theorem enR_i {l : Launch} {dC : Nat → ClassId} {dI : Nat → Nat → Nat} {cq : Nat → ClassId} {q : Nat → Nat} {S : CS} {M : MS} {o : Nat → Int64} {y : MethodName} {ws ws' : List Cond} {cc : ByteArray} {maxL : Nat} {rm : Room} {Dm : Nat → Prop} {X : State → Prop} {sz : Nat} {av : List Value} {r1 : Int32}  (hy : plainName y.cls = true) (hw : ws = Cond.code y cc maxL (some .int) :: ws') (hlen : (lg_sl av).length ≤ maxL)
    (body : ∀ (p : Program) (e : Env) (s : State) (m : MethodId) (args : Array Value) (below : List Frame) (meth : Method) (c : Code) (A : Nat → Prop) (Q : State → Prop) (ls : Array Slot), CallFix p m c cc maxL s args ws y.cls → (∀ a, s.heap.size ≤ a → A a) → va_P (dC, dI) vwCl (wA cq q S M o) s.heap → va_K (dC, dI) vwCl (tyA cq) s → va_D A (wA cq q S M o) → (∀ a, A a → Dm a) → X s → va_S A s.heap s.heap [] → lv_has ls maxL (lv_args 0 av) →
      (∀ (H : Heap) (locs : List Loc) (r : Int32) (pc : Nat) (ls : Array Slot), some r = some r1 → va_P (dC, dI) vwCl (wA cq q S M o) H → va_D A (wA cq q S M o) → va_S A s.heap H locs → decode cc pc = .ok (.ireturn, 1) → W p l e rm s m args below meth c H locs 0 0 Q (F0 m pc ls [.int r])) →
      W p l e rm s m args below meth c s.heap [] 0 0 Q (F0 m 0 ls [])) :
    CtR_i l y ws rm Dm X dC dI cq q S M o sz av r1  := by
  refine ent_i hy hw hlen (fun p e s m args below meth c A Q ls F hA hP hK hD hDm hX hl hend => ?_)
  refine body p e s m args below meth c A Q ls F hA hP hK hD hDm hX va_S.rf hl ?_
  intro H locs r pc ls hv hP hD hS hdg
  cases hv
  exact hend H locs _ (S, M) pc ls ⟨rfl, rfl⟩ hP hD hS hdg
theorem enR_z {l : Launch} {dC : Nat → ClassId} {dI : Nat → Nat → Nat} {cq : Nat → ClassId} {q : Nat → Nat} {S : CS} {M : MS} {o : Nat → Int64} {y : MethodName} {ws ws' : List Cond} {cc : ByteArray} {maxL : Nat} {rm : Room} {Dm : Nat → Prop} {X : State → Prop} {sz : Nat} {av : List Value} {r1 : Int32}  (hy : plainName y.cls = true) (hw : ws = Cond.code y cc maxL (some .boolean) :: ws') (hlen : (lg_sl av).length ≤ maxL)
    (body : ∀ (p : Program) (e : Env) (s : State) (m : MethodId) (args : Array Value) (below : List Frame) (meth : Method) (c : Code) (A : Nat → Prop) (Q : State → Prop) (ls : Array Slot), CallFix p m c cc maxL s args ws y.cls → (∀ a, s.heap.size ≤ a → A a) → va_P (dC, dI) vwCl (wA cq q S M o) s.heap → va_K (dC, dI) vwCl (tyA cq) s → va_D A (wA cq q S M o) → (∀ a, A a → Dm a) → X s → va_S A s.heap s.heap [] → lv_has ls maxL (lv_args 0 av) →
      (∀ (H : Heap) (locs : List Loc) (r : Int32) (pc : Nat) (ls : Array Slot), some r = some r1 → va_P (dC, dI) vwCl (wA cq q S M o) H → va_D A (wA cq q S M o) → va_S A s.heap H locs → decode cc pc = .ok (.ireturn, 1) → (narrow .boolean (.int r) = .int r) → W p l e rm s m args below meth c H locs 0 0 Q (F0 m pc ls [.int r])) →
      W p l e rm s m args below meth c s.heap [] 0 0 Q (F0 m 0 ls [])) :
    CtR_i l y ws rm Dm X dC dI cq q S M o sz av r1  := by
  refine ent_z hy hw hlen (fun p e s m args below meth c A Q ls F hA hP hK hD hDm hX hl hend => ?_)
  refine body p e s m args below meth c A Q ls F hA hP hK hD hDm hX va_S.rf hl ?_
  intro H locs r pc ls hv hP hD hS hdg hnr
  cases hv
  exact hend H locs _ (S, M) pc ls ⟨rfl, rfl⟩ hP hD hS hdg hnr
theorem caVR_i {l : Launch} {dC : Nat → ClassId} {dI : Nat → Nat → Nat} {cq : Nat → ClassId} {q : Nat → Nat} {S : CS} {M : MS} {o : Nat → Int64} {p : Program} {e : Env} {R : Room} {s : State} {m : MethodId} {args : Array Value} {below : List Frame} {meth : Method} {c : Code} {H : Heap} {locs : List Loc} {cells slots : Nat} {Q : State → Prop} {A : Nat → Prop} {y : MethodName} {cc bytes : ByteArray} {maxL nL n index : Nat} {ret : Option FieldType} {ws Ts : List Cond} {rm : Room} {own C : String} {b : Nat} {As rest st0 : List Value} {pc : Nat} {ls : Array Slot} {Dm : Nat → Prop} {X : State → Prop} {r1 : Int32} 
    (hM : CtR_i l y ws rm Dm X dC dI cq q S M o H.size (.ref b :: As) r1 )
    (F : CallFix p m c cc nL s args Ts own) (cw : CallW R s args own C index y bytes maxL ret ws rm 0 0 n) (hK : va_K (dC, dI) vwCl (tyA cq) s) (hP : va_P (dC, dI) vwCl (wA cq q S M o) H) (hD : va_D A (wA cq q S M o)) (hDm : ∀ a, A a → Dm a) (hS : va_S A s.heap H locs) (hA : ∀ a, s.heap.size ≤ a → A a)
    (hXb : ∀ (U : State) (g : JFrame) (mk : MethodId) (a : Array Value), X U → X (U.calling g mk a)) (hXc : ∀ U : State, U.heap = H → s.WarmedH U.vm → X U)
    (hrec : ∃ cellB : Cell, H[b]? = some cellB ∧ cellB.vm.isStatics = false ∧ s.vm.findClass C = some cellB.cls) (hn : As.length = n) (hsize : ls.size = nL) (hst : st0 = As.reverse ++ .ref b :: rest) (hW : (rest.map fun v => v.category).sum ≤ 8) (hdg : decode cc pc = .ok (.invokevirtual index, 3)) (hf : cells + 0 ≤ R.cells ∧ slots + 0 ≤ R.slots)
    (kk : ∀ (H1 : Heap) (locs1 : List Loc), va_P (dC, dI) vwCl (wA cq q S M o) H1 → va_D A (wA cq q S M o) → va_S A s.heap H1 locs1 → W p l e R s m args below meth c H1 locs1 cells slots Q (F0 m (pc + 3) ls (.int r1 :: rest))) :
    W p l e R s m args below meth c H locs cells slots Q (F0 m pc ls st0) := by
  refine callV_i hM F cw hK hP hD hDm hS hA hXb hXc hrec hn hsize hst hW hdg hf (fun H1 locs1 r u hu hP hD hS => ?_)
  obtain ⟨rfl, rfl⟩ := hu
  exact kk H1 locs1 hP hD hS
theorem caSR_i {l : Launch} {dC : Nat → ClassId} {dI : Nat → Nat → Nat} {cq : Nat → ClassId} {q : Nat → Nat} {S : CS} {M : MS} {o : Nat → Int64} {p : Program} {e : Env} {R : Room} {s : State} {m : MethodId} {args : Array Value} {below : List Frame} {meth : Method} {c : Code} {H : Heap} {locs : List Loc} {cells slots : Nat} {Q : State → Prop} {A : Nat → Prop} {y : MethodName} {cc bytes : ByteArray} {maxL nL n index : Nat} {ret : Option FieldType} {ws Ts : List Cond} {rm : Room} {own : String} {As rest st0 : List Value} {pc : Nat} {ls : Array Slot} {Dm : Nat → Prop} {X : State → Prop} {r1 : Int32} 
    (hM : CtR_i l y ws rm Dm X dC dI cq q S M o H.size (As) r1 )
    (F : CallFix p m c cc nL s args Ts own) (cw : CallB R s args own index y bytes maxL ret ws rm 0 0 n ∧ (Cond.static y).before args s = true) (hK : va_K (dC, dI) vwCl (tyA cq) s) (hP : va_P (dC, dI) vwCl (wA cq q S M o) H) (hD : va_D A (wA cq q S M o)) (hDm : ∀ a, A a → Dm a) (hS : va_S A s.heap H locs) (hA : ∀ a, s.heap.size ≤ a → A a)
    (hXb : ∀ (U : State) (g : JFrame) (mk : MethodId) (a : Array Value), X U → X (U.calling g mk a)) (hXc : ∀ U : State, U.heap = H → s.WarmedH U.vm → X U)
    (hn : As.length = n) (hsize : ls.size = nL) (hst : st0 = As.reverse ++ rest) (hW : (rest.map fun v => v.category).sum ≤ 8) (hdg : decode cc pc = .ok (.invokestatic index, 3)) (hf : cells + 0 ≤ R.cells ∧ slots + 0 ≤ R.slots)
    (kk : ∀ (H1 : Heap) (locs1 : List Loc), va_P (dC, dI) vwCl (wA cq q S M o) H1 → va_D A (wA cq q S M o) → va_S A s.heap H1 locs1 → W p l e R s m args below meth c H1 locs1 cells slots Q (F0 m (pc + 3) ls (.int r1 :: rest))) :
    W p l e R s m args below meth c H locs cells slots Q (F0 m pc ls st0) := by
  refine callS_i hM F cw hK hP hD hDm hS hA hXb hXc hn hsize hst hW hdg hf (fun H1 locs1 r u hu hP hD hS => ?_)
  obtain ⟨rfl, rfl⟩ := hu
  exact kk H1 locs1 hP hD hS
abbrev CtR_l (l : Launch) (y : MethodName) (ws : List Cond) (rm : Room) (Dm : Nat → Prop) (X : State → Prop) (dC : Nat → ClassId) (dI : Nat → Nat → Nat) (cq : Nat → ClassId) (q : Nat → Nat) (S : CS) (M : MS) (o : Nat → Int64) (sz : Nat) (av : List Value) (r1 : Int64)  : Prop := Met l y ws rm (PreX Dm X dC dI cq q S M o sz av) (va_Ql (fun (r : Int64) (u : CS × MS) => r = r1 ∧ u = (S, M)) (fun u t => Bk dC dI cq q (va_A (wA cq q S M o) sz) u.1 u.2 o t) (va_A (wA cq q S M o) sz)) 0 0 (va_A (wA cq q S M o) sz)
theorem enR_l {l : Launch} {dC : Nat → ClassId} {dI : Nat → Nat → Nat} {cq : Nat → ClassId} {q : Nat → Nat} {S : CS} {M : MS} {o : Nat → Int64} {y : MethodName} {ws ws' : List Cond} {cc : ByteArray} {maxL : Nat} {rm : Room} {Dm : Nat → Prop} {X : State → Prop} {sz : Nat} {av : List Value} {r1 : Int64}  (hy : plainName y.cls = true) (hw : ws = Cond.code y cc maxL (some .long) :: ws') (hlen : (lg_sl av).length ≤ maxL)
    (body : ∀ (p : Program) (e : Env) (s : State) (m : MethodId) (args : Array Value) (below : List Frame) (meth : Method) (c : Code) (A : Nat → Prop) (Q : State → Prop) (ls : Array Slot), CallFix p m c cc maxL s args ws y.cls → (∀ a, s.heap.size ≤ a → A a) → va_P (dC, dI) vwCl (wA cq q S M o) s.heap → va_K (dC, dI) vwCl (tyA cq) s → va_D A (wA cq q S M o) → (∀ a, A a → Dm a) → X s → va_S A s.heap s.heap [] → lv_has ls maxL (lv_args 0 av) →
      (∀ (H : Heap) (locs : List Loc) (r : Int64) (pc : Nat) (ls : Array Slot), some r = some r1 → va_P (dC, dI) vwCl (wA cq q S M o) H → va_D A (wA cq q S M o) → va_S A s.heap H locs → decode cc pc = .ok (.lreturn, 1) → W p l e rm s m args below meth c H locs 0 0 Q (F0 m pc ls [.long r])) →
      W p l e rm s m args below meth c s.heap [] 0 0 Q (F0 m 0 ls [])) :
    CtR_l l y ws rm Dm X dC dI cq q S M o sz av r1  := by
  refine ent_l hy hw hlen (fun p e s m args below meth c A Q ls F hA hP hK hD hDm hX hl hend => ?_)
  refine body p e s m args below meth c A Q ls F hA hP hK hD hDm hX va_S.rf hl ?_
  intro H locs r pc ls hv hP hD hS hdg
  cases hv
  exact hend H locs _ (S, M) pc ls ⟨rfl, rfl⟩ hP hD hS hdg
theorem caVR_l {l : Launch} {dC : Nat → ClassId} {dI : Nat → Nat → Nat} {cq : Nat → ClassId} {q : Nat → Nat} {S : CS} {M : MS} {o : Nat → Int64} {p : Program} {e : Env} {R : Room} {s : State} {m : MethodId} {args : Array Value} {below : List Frame} {meth : Method} {c : Code} {H : Heap} {locs : List Loc} {cells slots : Nat} {Q : State → Prop} {A : Nat → Prop} {y : MethodName} {cc bytes : ByteArray} {maxL nL n index : Nat} {ret : Option FieldType} {ws Ts : List Cond} {rm : Room} {own C : String} {b : Nat} {As rest st0 : List Value} {pc : Nat} {ls : Array Slot} {Dm : Nat → Prop} {X : State → Prop} {r1 : Int64} 
    (hM : CtR_l l y ws rm Dm X dC dI cq q S M o H.size (.ref b :: As) r1 )
    (F : CallFix p m c cc nL s args Ts own) (cw : CallW R s args own C index y bytes maxL ret ws rm 0 0 n) (hK : va_K (dC, dI) vwCl (tyA cq) s) (hP : va_P (dC, dI) vwCl (wA cq q S M o) H) (hD : va_D A (wA cq q S M o)) (hDm : ∀ a, A a → Dm a) (hS : va_S A s.heap H locs) (hA : ∀ a, s.heap.size ≤ a → A a)
    (hXb : ∀ (U : State) (g : JFrame) (mk : MethodId) (a : Array Value), X U → X (U.calling g mk a)) (hXc : ∀ U : State, U.heap = H → s.WarmedH U.vm → X U)
    (hrec : ∃ cellB : Cell, H[b]? = some cellB ∧ cellB.vm.isStatics = false ∧ s.vm.findClass C = some cellB.cls) (hn : As.length = n) (hsize : ls.size = nL) (hst : st0 = As.reverse ++ .ref b :: rest) (hW : (rest.map fun v => v.category).sum ≤ 8) (hdg : decode cc pc = .ok (.invokevirtual index, 3)) (hf : cells + 0 ≤ R.cells ∧ slots + 0 ≤ R.slots)
    (kk : ∀ (H1 : Heap) (locs1 : List Loc), va_P (dC, dI) vwCl (wA cq q S M o) H1 → va_D A (wA cq q S M o) → va_S A s.heap H1 locs1 → W p l e R s m args below meth c H1 locs1 cells slots Q (F0 m (pc + 3) ls (.long r1 :: rest))) :
    W p l e R s m args below meth c H locs cells slots Q (F0 m pc ls st0) := by
  refine callV_l hM F cw hK hP hD hDm hS hA hXb hXc hrec hn hsize hst hW hdg hf (fun H1 locs1 r u hu hP hD hS => ?_)
  obtain ⟨rfl, rfl⟩ := hu
  exact kk H1 locs1 hP hD hS
theorem caSR_l {l : Launch} {dC : Nat → ClassId} {dI : Nat → Nat → Nat} {cq : Nat → ClassId} {q : Nat → Nat} {S : CS} {M : MS} {o : Nat → Int64} {p : Program} {e : Env} {R : Room} {s : State} {m : MethodId} {args : Array Value} {below : List Frame} {meth : Method} {c : Code} {H : Heap} {locs : List Loc} {cells slots : Nat} {Q : State → Prop} {A : Nat → Prop} {y : MethodName} {cc bytes : ByteArray} {maxL nL n index : Nat} {ret : Option FieldType} {ws Ts : List Cond} {rm : Room} {own : String} {As rest st0 : List Value} {pc : Nat} {ls : Array Slot} {Dm : Nat → Prop} {X : State → Prop} {r1 : Int64} 
    (hM : CtR_l l y ws rm Dm X dC dI cq q S M o H.size (As) r1 )
    (F : CallFix p m c cc nL s args Ts own) (cw : CallB R s args own index y bytes maxL ret ws rm 0 0 n ∧ (Cond.static y).before args s = true) (hK : va_K (dC, dI) vwCl (tyA cq) s) (hP : va_P (dC, dI) vwCl (wA cq q S M o) H) (hD : va_D A (wA cq q S M o)) (hDm : ∀ a, A a → Dm a) (hS : va_S A s.heap H locs) (hA : ∀ a, s.heap.size ≤ a → A a)
    (hXb : ∀ (U : State) (g : JFrame) (mk : MethodId) (a : Array Value), X U → X (U.calling g mk a)) (hXc : ∀ U : State, U.heap = H → s.WarmedH U.vm → X U)
    (hn : As.length = n) (hsize : ls.size = nL) (hst : st0 = As.reverse ++ rest) (hW : (rest.map fun v => v.category).sum ≤ 8) (hdg : decode cc pc = .ok (.invokestatic index, 3)) (hf : cells + 0 ≤ R.cells ∧ slots + 0 ≤ R.slots)
    (kk : ∀ (H1 : Heap) (locs1 : List Loc), va_P (dC, dI) vwCl (wA cq q S M o) H1 → va_D A (wA cq q S M o) → va_S A s.heap H1 locs1 → W p l e R s m args below meth c H1 locs1 cells slots Q (F0 m (pc + 3) ls (.long r1 :: rest))) :
    W p l e R s m args below meth c H locs cells slots Q (F0 m pc ls st0) := by
  refine callS_l hM F cw hK hP hD hDm hS hA hXb hXc hn hsize hst hW hdg hf (fun H1 locs1 r u hu hP hD hS => ?_)
  obtain ⟨rfl, rfl⟩ := hu
  exact kk H1 locs1 hP hD hS
abbrev CtM_i (l : Launch) (y : MethodName) (ws : List Cond) (rm : Room) (Dm : Nat → Prop) (X : State → Prop) (dC : Nat → ClassId) (dI : Nat → Nat → Nat) (cq : Nat → ClassId) (q : Nat → Nat) (S : CS) (M : MS) (o : Nat → Int64) (sz : Nat) (av : List Value) (r1 : Int32) (M1 : MS) : Prop := Met l y ws rm (PreX Dm X dC dI cq q S M o sz av) (va_Qi (fun (r : Int32) (u : CS × MS) => r = r1 ∧ u = (S, M1)) (fun u t => Bk dC dI cq q (va_A (wA cq q S M o) sz) u.1 u.2 o t) (va_A (wA cq q S M o) sz)) 0 0 (va_A (wA cq q S M o) sz)
theorem enM_i {l : Launch} {dC : Nat → ClassId} {dI : Nat → Nat → Nat} {cq : Nat → ClassId} {q : Nat → Nat} {S : CS} {M : MS} {o : Nat → Int64} {y : MethodName} {ws ws' : List Cond} {cc : ByteArray} {maxL : Nat} {rm : Room} {Dm : Nat → Prop} {X : State → Prop} {sz : Nat} {av : List Value} {r1 : Int32} {M1 : MS} (hy : plainName y.cls = true) (hw : ws = Cond.code y cc maxL (some .int) :: ws') (hlen : (lg_sl av).length ≤ maxL)
    (body : ∀ (p : Program) (e : Env) (s : State) (m : MethodId) (args : Array Value) (below : List Frame) (meth : Method) (c : Code) (A : Nat → Prop) (Q : State → Prop) (ls : Array Slot), CallFix p m c cc maxL s args ws y.cls → (∀ a, s.heap.size ≤ a → A a) → va_P (dC, dI) vwCl (wA cq q S M o) s.heap → va_K (dC, dI) vwCl (tyA cq) s → va_D A (wA cq q S M o) → (∀ a, A a → Dm a) → X s → va_S A s.heap s.heap [] → lv_has ls maxL (lv_args 0 av) →
      (∀ (H : Heap) (locs : List Loc) (r : Int32) (M2 : MS) (pc : Nat) (ls : Array Slot), some (r, M2) = some (r1, M1) → va_P (dC, dI) vwCl (wA cq q S M2 o) H → va_D A (wA cq q S M2 o) → va_S A s.heap H locs → decode cc pc = .ok (.ireturn, 1) → W p l e rm s m args below meth c H locs 0 0 Q (F0 m pc ls [.int r])) →
      W p l e rm s m args below meth c s.heap [] 0 0 Q (F0 m 0 ls [])) :
    CtM_i l y ws rm Dm X dC dI cq q S M o sz av r1 M1 := by
  refine ent_i hy hw hlen (fun p e s m args below meth c A Q ls F hA hP hK hD hDm hX hl hend => ?_)
  refine body p e s m args below meth c A Q ls F hA hP hK hD hDm hX va_S.rf hl ?_
  intro H locs r M2 pc ls hv hP hD hS hdg
  cases hv
  exact hend H locs _ (S, _) pc ls ⟨rfl, rfl⟩ hP hD hS hdg
theorem enM_z {l : Launch} {dC : Nat → ClassId} {dI : Nat → Nat → Nat} {cq : Nat → ClassId} {q : Nat → Nat} {S : CS} {M : MS} {o : Nat → Int64} {y : MethodName} {ws ws' : List Cond} {cc : ByteArray} {maxL : Nat} {rm : Room} {Dm : Nat → Prop} {X : State → Prop} {sz : Nat} {av : List Value} {r1 : Int32} {M1 : MS} (hy : plainName y.cls = true) (hw : ws = Cond.code y cc maxL (some .boolean) :: ws') (hlen : (lg_sl av).length ≤ maxL)
    (body : ∀ (p : Program) (e : Env) (s : State) (m : MethodId) (args : Array Value) (below : List Frame) (meth : Method) (c : Code) (A : Nat → Prop) (Q : State → Prop) (ls : Array Slot), CallFix p m c cc maxL s args ws y.cls → (∀ a, s.heap.size ≤ a → A a) → va_P (dC, dI) vwCl (wA cq q S M o) s.heap → va_K (dC, dI) vwCl (tyA cq) s → va_D A (wA cq q S M o) → (∀ a, A a → Dm a) → X s → va_S A s.heap s.heap [] → lv_has ls maxL (lv_args 0 av) →
      (∀ (H : Heap) (locs : List Loc) (r : Int32) (M2 : MS) (pc : Nat) (ls : Array Slot), some (r, M2) = some (r1, M1) → va_P (dC, dI) vwCl (wA cq q S M2 o) H → va_D A (wA cq q S M2 o) → va_S A s.heap H locs → decode cc pc = .ok (.ireturn, 1) → (narrow .boolean (.int r) = .int r) → W p l e rm s m args below meth c H locs 0 0 Q (F0 m pc ls [.int r])) →
      W p l e rm s m args below meth c s.heap [] 0 0 Q (F0 m 0 ls [])) :
    CtM_i l y ws rm Dm X dC dI cq q S M o sz av r1 M1 := by
  refine ent_z hy hw hlen (fun p e s m args below meth c A Q ls F hA hP hK hD hDm hX hl hend => ?_)
  refine body p e s m args below meth c A Q ls F hA hP hK hD hDm hX va_S.rf hl ?_
  intro H locs r M2 pc ls hv hP hD hS hdg hnr
  cases hv
  exact hend H locs _ (S, _) pc ls ⟨rfl, rfl⟩ hP hD hS hdg hnr
theorem caVM_i {l : Launch} {dC : Nat → ClassId} {dI : Nat → Nat → Nat} {cq : Nat → ClassId} {q : Nat → Nat} {S : CS} {M : MS} {o : Nat → Int64} {p : Program} {e : Env} {R : Room} {s : State} {m : MethodId} {args : Array Value} {below : List Frame} {meth : Method} {c : Code} {H : Heap} {locs : List Loc} {cells slots : Nat} {Q : State → Prop} {A : Nat → Prop} {y : MethodName} {cc bytes : ByteArray} {maxL nL n index : Nat} {ret : Option FieldType} {ws Ts : List Cond} {rm : Room} {own C : String} {b : Nat} {As rest st0 : List Value} {pc : Nat} {ls : Array Slot} {Dm : Nat → Prop} {X : State → Prop} {r1 : Int32} {M1 : MS}
    (hM : CtM_i l y ws rm Dm X dC dI cq q S M o H.size (.ref b :: As) r1 M1)
    (F : CallFix p m c cc nL s args Ts own) (cw : CallW R s args own C index y bytes maxL ret ws rm 0 0 n) (hK : va_K (dC, dI) vwCl (tyA cq) s) (hP : va_P (dC, dI) vwCl (wA cq q S M o) H) (hD : va_D A (wA cq q S M o)) (hDm : ∀ a, A a → Dm a) (hS : va_S A s.heap H locs) (hA : ∀ a, s.heap.size ≤ a → A a)
    (hXb : ∀ (U : State) (g : JFrame) (mk : MethodId) (a : Array Value), X U → X (U.calling g mk a)) (hXc : ∀ U : State, U.heap = H → s.WarmedH U.vm → X U)
    (hrec : ∃ cellB : Cell, H[b]? = some cellB ∧ cellB.vm.isStatics = false ∧ s.vm.findClass C = some cellB.cls) (hn : As.length = n) (hsize : ls.size = nL) (hst : st0 = As.reverse ++ .ref b :: rest) (hW : (rest.map fun v => v.category).sum ≤ 8) (hdg : decode cc pc = .ok (.invokevirtual index, 3)) (hf : cells + 0 ≤ R.cells ∧ slots + 0 ≤ R.slots)
    (kk : ∀ (H1 : Heap) (locs1 : List Loc), va_P (dC, dI) vwCl (wA cq q S M1 o) H1 → va_D A (wA cq q S M1 o) → va_S A s.heap H1 locs1 → W p l e R s m args below meth c H1 locs1 cells slots Q (F0 m (pc + 3) ls (.int r1 :: rest))) :
    W p l e R s m args below meth c H locs cells slots Q (F0 m pc ls st0) := by
  refine callV_i hM F cw hK hP hD hDm hS hA hXb hXc hrec hn hsize hst hW hdg hf (fun H1 locs1 r u hu hP hD hS => ?_)
  obtain ⟨rfl, rfl⟩ := hu
  exact kk H1 locs1 hP hD hS
theorem caSM_i {l : Launch} {dC : Nat → ClassId} {dI : Nat → Nat → Nat} {cq : Nat → ClassId} {q : Nat → Nat} {S : CS} {M : MS} {o : Nat → Int64} {p : Program} {e : Env} {R : Room} {s : State} {m : MethodId} {args : Array Value} {below : List Frame} {meth : Method} {c : Code} {H : Heap} {locs : List Loc} {cells slots : Nat} {Q : State → Prop} {A : Nat → Prop} {y : MethodName} {cc bytes : ByteArray} {maxL nL n index : Nat} {ret : Option FieldType} {ws Ts : List Cond} {rm : Room} {own : String} {As rest st0 : List Value} {pc : Nat} {ls : Array Slot} {Dm : Nat → Prop} {X : State → Prop} {r1 : Int32} {M1 : MS}
    (hM : CtM_i l y ws rm Dm X dC dI cq q S M o H.size (As) r1 M1)
    (F : CallFix p m c cc nL s args Ts own) (cw : CallB R s args own index y bytes maxL ret ws rm 0 0 n ∧ (Cond.static y).before args s = true) (hK : va_K (dC, dI) vwCl (tyA cq) s) (hP : va_P (dC, dI) vwCl (wA cq q S M o) H) (hD : va_D A (wA cq q S M o)) (hDm : ∀ a, A a → Dm a) (hS : va_S A s.heap H locs) (hA : ∀ a, s.heap.size ≤ a → A a)
    (hXb : ∀ (U : State) (g : JFrame) (mk : MethodId) (a : Array Value), X U → X (U.calling g mk a)) (hXc : ∀ U : State, U.heap = H → s.WarmedH U.vm → X U)
    (hn : As.length = n) (hsize : ls.size = nL) (hst : st0 = As.reverse ++ rest) (hW : (rest.map fun v => v.category).sum ≤ 8) (hdg : decode cc pc = .ok (.invokestatic index, 3)) (hf : cells + 0 ≤ R.cells ∧ slots + 0 ≤ R.slots)
    (kk : ∀ (H1 : Heap) (locs1 : List Loc), va_P (dC, dI) vwCl (wA cq q S M1 o) H1 → va_D A (wA cq q S M1 o) → va_S A s.heap H1 locs1 → W p l e R s m args below meth c H1 locs1 cells slots Q (F0 m (pc + 3) ls (.int r1 :: rest))) :
    W p l e R s m args below meth c H locs cells slots Q (F0 m pc ls st0) := by
  refine callS_i hM F cw hK hP hD hDm hS hA hXb hXc hn hsize hst hW hdg hf (fun H1 locs1 r u hu hP hD hS => ?_)
  obtain ⟨rfl, rfl⟩ := hu
  exact kk H1 locs1 hP hD hS
abbrev CtM_l (l : Launch) (y : MethodName) (ws : List Cond) (rm : Room) (Dm : Nat → Prop) (X : State → Prop) (dC : Nat → ClassId) (dI : Nat → Nat → Nat) (cq : Nat → ClassId) (q : Nat → Nat) (S : CS) (M : MS) (o : Nat → Int64) (sz : Nat) (av : List Value) (r1 : Int64) (M1 : MS) : Prop := Met l y ws rm (PreX Dm X dC dI cq q S M o sz av) (va_Ql (fun (r : Int64) (u : CS × MS) => r = r1 ∧ u = (S, M1)) (fun u t => Bk dC dI cq q (va_A (wA cq q S M o) sz) u.1 u.2 o t) (va_A (wA cq q S M o) sz)) 0 0 (va_A (wA cq q S M o) sz)
theorem enM_l {l : Launch} {dC : Nat → ClassId} {dI : Nat → Nat → Nat} {cq : Nat → ClassId} {q : Nat → Nat} {S : CS} {M : MS} {o : Nat → Int64} {y : MethodName} {ws ws' : List Cond} {cc : ByteArray} {maxL : Nat} {rm : Room} {Dm : Nat → Prop} {X : State → Prop} {sz : Nat} {av : List Value} {r1 : Int64} {M1 : MS} (hy : plainName y.cls = true) (hw : ws = Cond.code y cc maxL (some .long) :: ws') (hlen : (lg_sl av).length ≤ maxL)
    (body : ∀ (p : Program) (e : Env) (s : State) (m : MethodId) (args : Array Value) (below : List Frame) (meth : Method) (c : Code) (A : Nat → Prop) (Q : State → Prop) (ls : Array Slot), CallFix p m c cc maxL s args ws y.cls → (∀ a, s.heap.size ≤ a → A a) → va_P (dC, dI) vwCl (wA cq q S M o) s.heap → va_K (dC, dI) vwCl (tyA cq) s → va_D A (wA cq q S M o) → (∀ a, A a → Dm a) → X s → va_S A s.heap s.heap [] → lv_has ls maxL (lv_args 0 av) →
      (∀ (H : Heap) (locs : List Loc) (r : Int64) (M2 : MS) (pc : Nat) (ls : Array Slot), some (r, M2) = some (r1, M1) → va_P (dC, dI) vwCl (wA cq q S M2 o) H → va_D A (wA cq q S M2 o) → va_S A s.heap H locs → decode cc pc = .ok (.lreturn, 1) → W p l e rm s m args below meth c H locs 0 0 Q (F0 m pc ls [.long r])) →
      W p l e rm s m args below meth c s.heap [] 0 0 Q (F0 m 0 ls [])) :
    CtM_l l y ws rm Dm X dC dI cq q S M o sz av r1 M1 := by
  refine ent_l hy hw hlen (fun p e s m args below meth c A Q ls F hA hP hK hD hDm hX hl hend => ?_)
  refine body p e s m args below meth c A Q ls F hA hP hK hD hDm hX va_S.rf hl ?_
  intro H locs r M2 pc ls hv hP hD hS hdg
  cases hv
  exact hend H locs _ (S, _) pc ls ⟨rfl, rfl⟩ hP hD hS hdg
theorem caVM_l {l : Launch} {dC : Nat → ClassId} {dI : Nat → Nat → Nat} {cq : Nat → ClassId} {q : Nat → Nat} {S : CS} {M : MS} {o : Nat → Int64} {p : Program} {e : Env} {R : Room} {s : State} {m : MethodId} {args : Array Value} {below : List Frame} {meth : Method} {c : Code} {H : Heap} {locs : List Loc} {cells slots : Nat} {Q : State → Prop} {A : Nat → Prop} {y : MethodName} {cc bytes : ByteArray} {maxL nL n index : Nat} {ret : Option FieldType} {ws Ts : List Cond} {rm : Room} {own C : String} {b : Nat} {As rest st0 : List Value} {pc : Nat} {ls : Array Slot} {Dm : Nat → Prop} {X : State → Prop} {r1 : Int64} {M1 : MS}
    (hM : CtM_l l y ws rm Dm X dC dI cq q S M o H.size (.ref b :: As) r1 M1)
    (F : CallFix p m c cc nL s args Ts own) (cw : CallW R s args own C index y bytes maxL ret ws rm 0 0 n) (hK : va_K (dC, dI) vwCl (tyA cq) s) (hP : va_P (dC, dI) vwCl (wA cq q S M o) H) (hD : va_D A (wA cq q S M o)) (hDm : ∀ a, A a → Dm a) (hS : va_S A s.heap H locs) (hA : ∀ a, s.heap.size ≤ a → A a)
    (hXb : ∀ (U : State) (g : JFrame) (mk : MethodId) (a : Array Value), X U → X (U.calling g mk a)) (hXc : ∀ U : State, U.heap = H → s.WarmedH U.vm → X U)
    (hrec : ∃ cellB : Cell, H[b]? = some cellB ∧ cellB.vm.isStatics = false ∧ s.vm.findClass C = some cellB.cls) (hn : As.length = n) (hsize : ls.size = nL) (hst : st0 = As.reverse ++ .ref b :: rest) (hW : (rest.map fun v => v.category).sum ≤ 8) (hdg : decode cc pc = .ok (.invokevirtual index, 3)) (hf : cells + 0 ≤ R.cells ∧ slots + 0 ≤ R.slots)
    (kk : ∀ (H1 : Heap) (locs1 : List Loc), va_P (dC, dI) vwCl (wA cq q S M1 o) H1 → va_D A (wA cq q S M1 o) → va_S A s.heap H1 locs1 → W p l e R s m args below meth c H1 locs1 cells slots Q (F0 m (pc + 3) ls (.long r1 :: rest))) :
    W p l e R s m args below meth c H locs cells slots Q (F0 m pc ls st0) := by
  refine callV_l hM F cw hK hP hD hDm hS hA hXb hXc hrec hn hsize hst hW hdg hf (fun H1 locs1 r u hu hP hD hS => ?_)
  obtain ⟨rfl, rfl⟩ := hu
  exact kk H1 locs1 hP hD hS
theorem caSM_l {l : Launch} {dC : Nat → ClassId} {dI : Nat → Nat → Nat} {cq : Nat → ClassId} {q : Nat → Nat} {S : CS} {M : MS} {o : Nat → Int64} {p : Program} {e : Env} {R : Room} {s : State} {m : MethodId} {args : Array Value} {below : List Frame} {meth : Method} {c : Code} {H : Heap} {locs : List Loc} {cells slots : Nat} {Q : State → Prop} {A : Nat → Prop} {y : MethodName} {cc bytes : ByteArray} {maxL nL n index : Nat} {ret : Option FieldType} {ws Ts : List Cond} {rm : Room} {own : String} {As rest st0 : List Value} {pc : Nat} {ls : Array Slot} {Dm : Nat → Prop} {X : State → Prop} {r1 : Int64} {M1 : MS}
    (hM : CtM_l l y ws rm Dm X dC dI cq q S M o H.size (As) r1 M1)
    (F : CallFix p m c cc nL s args Ts own) (cw : CallB R s args own index y bytes maxL ret ws rm 0 0 n ∧ (Cond.static y).before args s = true) (hK : va_K (dC, dI) vwCl (tyA cq) s) (hP : va_P (dC, dI) vwCl (wA cq q S M o) H) (hD : va_D A (wA cq q S M o)) (hDm : ∀ a, A a → Dm a) (hS : va_S A s.heap H locs) (hA : ∀ a, s.heap.size ≤ a → A a)
    (hXb : ∀ (U : State) (g : JFrame) (mk : MethodId) (a : Array Value), X U → X (U.calling g mk a)) (hXc : ∀ U : State, U.heap = H → s.WarmedH U.vm → X U)
    (hn : As.length = n) (hsize : ls.size = nL) (hst : st0 = As.reverse ++ rest) (hW : (rest.map fun v => v.category).sum ≤ 8) (hdg : decode cc pc = .ok (.invokestatic index, 3)) (hf : cells + 0 ≤ R.cells ∧ slots + 0 ≤ R.slots)
    (kk : ∀ (H1 : Heap) (locs1 : List Loc), va_P (dC, dI) vwCl (wA cq q S M1 o) H1 → va_D A (wA cq q S M1 o) → va_S A s.heap H1 locs1 → W p l e R s m args below meth c H1 locs1 cells slots Q (F0 m (pc + 3) ls (.long r1 :: rest))) :
    W p l e R s m args below meth c H locs cells slots Q (F0 m pc ls st0) := by
  refine callS_l hM F cw hK hP hD hDm hS hA hXb hXc hn hsize hst hW hdg hf (fun H1 locs1 r u hu hP hD hS => ?_)
  obtain ⟨rfl, rfl⟩ := hu
  exact kk H1 locs1 hP hD hS
abbrev CtM_v (l : Launch) (y : MethodName) (ws : List Cond) (rm : Room) (Dm : Nat → Prop) (X : State → Prop) (dC : Nat → ClassId) (dI : Nat → Nat → Nat) (cq : Nat → ClassId) (q : Nat → Nat) (S : CS) (M : MS) (o : Nat → Int64) (sz : Nat) (av : List Value) (M1 : MS) : Prop := Met l y ws rm (PreX Dm X dC dI cq q S M o sz av) (va_Qv (fun (u : CS × MS) => u = (S, M1)) (fun u t => Bk dC dI cq q (va_A (wA cq q S M o) sz) u.1 u.2 o t) (va_A (wA cq q S M o) sz)) 0 0 (va_A (wA cq q S M o) sz)
theorem enM_v {l : Launch} {dC : Nat → ClassId} {dI : Nat → Nat → Nat} {cq : Nat → ClassId} {q : Nat → Nat} {S : CS} {M : MS} {o : Nat → Int64} {y : MethodName} {ws ws' : List Cond} {cc : ByteArray} {maxL : Nat} {rm : Room} {Dm : Nat → Prop} {X : State → Prop} {sz : Nat} {av : List Value} {M1 : MS} (hy : plainName y.cls = true) (hw : ws = Cond.code y cc maxL none :: ws') (hlen : (lg_sl av).length ≤ maxL)
    (body : ∀ (p : Program) (e : Env) (s : State) (m : MethodId) (args : Array Value) (below : List Frame) (meth : Method) (c : Code) (A : Nat → Prop) (Q : State → Prop) (ls : Array Slot), CallFix p m c cc maxL s args ws y.cls → (∀ a, s.heap.size ≤ a → A a) → va_P (dC, dI) vwCl (wA cq q S M o) s.heap → va_K (dC, dI) vwCl (tyA cq) s → va_D A (wA cq q S M o) → (∀ a, A a → Dm a) → X s → va_S A s.heap s.heap [] → lv_has ls maxL (lv_args 0 av) →
      (∀ (H : Heap) (locs : List Loc) (M2 : MS) (pc : Nat) (ls : Array Slot), some M2 = some M1 → va_P (dC, dI) vwCl (wA cq q S M2 o) H → va_D A (wA cq q S M2 o) → va_S A s.heap H locs → decode cc pc = .ok (.return_, 1) → W p l e rm s m args below meth c H locs 0 0 Q (F0 m pc ls [])) →
      W p l e rm s m args below meth c s.heap [] 0 0 Q (F0 m 0 ls [])) :
    CtM_v l y ws rm Dm X dC dI cq q S M o sz av M1 := by
  refine ent_v hy hw hlen (fun p e s m args below meth c A Q ls F hA hP hK hD hDm hX hl hend => ?_)
  refine body p e s m args below meth c A Q ls F hA hP hK hD hDm hX va_S.rf hl ?_
  intro H locs M2 pc ls hv hP hD hS hdg
  cases hv
  exact hend H locs (S, _) pc ls rfl hP hD hS hdg
theorem caVM_v {l : Launch} {dC : Nat → ClassId} {dI : Nat → Nat → Nat} {cq : Nat → ClassId} {q : Nat → Nat} {S : CS} {M : MS} {o : Nat → Int64} {p : Program} {e : Env} {R : Room} {s : State} {m : MethodId} {args : Array Value} {below : List Frame} {meth : Method} {c : Code} {H : Heap} {locs : List Loc} {cells slots : Nat} {Q : State → Prop} {A : Nat → Prop} {y : MethodName} {cc bytes : ByteArray} {maxL nL n index : Nat} {ret : Option FieldType} {ws Ts : List Cond} {rm : Room} {own C : String} {b : Nat} {As rest st0 : List Value} {pc : Nat} {ls : Array Slot} {Dm : Nat → Prop} {X : State → Prop} {M1 : MS}
    (hM : CtM_v l y ws rm Dm X dC dI cq q S M o H.size (.ref b :: As) M1)
    (F : CallFix p m c cc nL s args Ts own) (cw : CallW R s args own C index y bytes maxL ret ws rm 0 0 n) (hK : va_K (dC, dI) vwCl (tyA cq) s) (hP : va_P (dC, dI) vwCl (wA cq q S M o) H) (hD : va_D A (wA cq q S M o)) (hDm : ∀ a, A a → Dm a) (hS : va_S A s.heap H locs) (hA : ∀ a, s.heap.size ≤ a → A a)
    (hXb : ∀ (U : State) (g : JFrame) (mk : MethodId) (a : Array Value), X U → X (U.calling g mk a)) (hXc : ∀ U : State, U.heap = H → s.WarmedH U.vm → X U)
    (hrec : ∃ cellB : Cell, H[b]? = some cellB ∧ cellB.vm.isStatics = false ∧ s.vm.findClass C = some cellB.cls) (hn : As.length = n) (hsize : ls.size = nL) (hst : st0 = As.reverse ++ .ref b :: rest) (hW : (rest.map fun v => v.category).sum ≤ 8) (hdg : decode cc pc = .ok (.invokevirtual index, 3)) (hf : cells + 0 ≤ R.cells ∧ slots + 0 ≤ R.slots)
    (kk : ∀ (H1 : Heap) (locs1 : List Loc), va_P (dC, dI) vwCl (wA cq q S M1 o) H1 → va_D A (wA cq q S M1 o) → va_S A s.heap H1 locs1 → W p l e R s m args below meth c H1 locs1 cells slots Q (F0 m (pc + 3) ls rest)) :
    W p l e R s m args below meth c H locs cells slots Q (F0 m pc ls st0) := by
  refine callV_v hM F cw hK hP hD hDm hS hA hXb hXc hrec hn hsize hst hW hdg hf (fun H1 locs1 u hu hP hD hS => ?_)
  subst hu
  exact kk H1 locs1 hP hD hS
theorem caSM_v {l : Launch} {dC : Nat → ClassId} {dI : Nat → Nat → Nat} {cq : Nat → ClassId} {q : Nat → Nat} {S : CS} {M : MS} {o : Nat → Int64} {p : Program} {e : Env} {R : Room} {s : State} {m : MethodId} {args : Array Value} {below : List Frame} {meth : Method} {c : Code} {H : Heap} {locs : List Loc} {cells slots : Nat} {Q : State → Prop} {A : Nat → Prop} {y : MethodName} {cc bytes : ByteArray} {maxL nL n index : Nat} {ret : Option FieldType} {ws Ts : List Cond} {rm : Room} {own : String} {As rest st0 : List Value} {pc : Nat} {ls : Array Slot} {Dm : Nat → Prop} {X : State → Prop} {M1 : MS}
    (hM : CtM_v l y ws rm Dm X dC dI cq q S M o H.size (As) M1)
    (F : CallFix p m c cc nL s args Ts own) (cw : CallB R s args own index y bytes maxL ret ws rm 0 0 n ∧ (Cond.static y).before args s = true) (hK : va_K (dC, dI) vwCl (tyA cq) s) (hP : va_P (dC, dI) vwCl (wA cq q S M o) H) (hD : va_D A (wA cq q S M o)) (hDm : ∀ a, A a → Dm a) (hS : va_S A s.heap H locs) (hA : ∀ a, s.heap.size ≤ a → A a)
    (hXb : ∀ (U : State) (g : JFrame) (mk : MethodId) (a : Array Value), X U → X (U.calling g mk a)) (hXc : ∀ U : State, U.heap = H → s.WarmedH U.vm → X U)
    (hn : As.length = n) (hsize : ls.size = nL) (hst : st0 = As.reverse ++ rest) (hW : (rest.map fun v => v.category).sum ≤ 8) (hdg : decode cc pc = .ok (.invokestatic index, 3)) (hf : cells + 0 ≤ R.cells ∧ slots + 0 ≤ R.slots)
    (kk : ∀ (H1 : Heap) (locs1 : List Loc), va_P (dC, dI) vwCl (wA cq q S M1 o) H1 → va_D A (wA cq q S M1 o) → va_S A s.heap H1 locs1 → W p l e R s m args below meth c H1 locs1 cells slots Q (F0 m (pc + 3) ls rest)) :
    W p l e R s m args below meth c H locs cells slots Q (F0 m pc ls st0) := by
  refine callS_v hM F cw hK hP hD hDm hS hA hXb hXc hn hsize hst hW hdg hf (fun H1 locs1 u hu hP hD hS => ?_)
  subst hu
  exact kk H1 locs1 hP hD hS
abbrev CtC_i (l : Launch) (y : MethodName) (ws : List Cond) (rm : Room) (Dm : Nat → Prop) (X : State → Prop) (dC : Nat → ClassId) (dI : Nat → Nat → Nat) (cq : Nat → ClassId) (q : Nat → Nat) (S : CS) (M : MS) (o : Nat → Int64) (sz : Nat) (av : List Value) (r1 : Int32) (S1 : CS) : Prop := Met l y ws rm (PreX Dm X dC dI cq q S M o sz av) (va_Qi (fun (r : Int32) (u : CS × MS) => r = r1 ∧ u = (S1, M)) (fun u t => Bk dC dI cq q (va_A (wA cq q S M o) sz) u.1 u.2 o t) (va_A (wA cq q S M o) sz)) 0 0 (va_A (wA cq q S M o) sz)
theorem enC_i {l : Launch} {dC : Nat → ClassId} {dI : Nat → Nat → Nat} {cq : Nat → ClassId} {q : Nat → Nat} {S : CS} {M : MS} {o : Nat → Int64} {y : MethodName} {ws ws' : List Cond} {cc : ByteArray} {maxL : Nat} {rm : Room} {Dm : Nat → Prop} {X : State → Prop} {sz : Nat} {av : List Value} {r1 : Int32} {S1 : CS} (hy : plainName y.cls = true) (hw : ws = Cond.code y cc maxL (some .int) :: ws') (hlen : (lg_sl av).length ≤ maxL)
    (body : ∀ (p : Program) (e : Env) (s : State) (m : MethodId) (args : Array Value) (below : List Frame) (meth : Method) (c : Code) (A : Nat → Prop) (Q : State → Prop) (ls : Array Slot), CallFix p m c cc maxL s args ws y.cls → (∀ a, s.heap.size ≤ a → A a) → va_P (dC, dI) vwCl (wA cq q S M o) s.heap → va_K (dC, dI) vwCl (tyA cq) s → va_D A (wA cq q S M o) → (∀ a, A a → Dm a) → X s → va_S A s.heap s.heap [] → lv_has ls maxL (lv_args 0 av) →
      (∀ (H : Heap) (locs : List Loc) (r : Int32) (S2 : CS) (pc : Nat) (ls : Array Slot), some (r, S2) = some (r1, S1) → va_P (dC, dI) vwCl (wA cq q S2 M o) H → va_D A (wA cq q S2 M o) → va_S A s.heap H locs → decode cc pc = .ok (.ireturn, 1) → W p l e rm s m args below meth c H locs 0 0 Q (F0 m pc ls [.int r])) →
      W p l e rm s m args below meth c s.heap [] 0 0 Q (F0 m 0 ls [])) :
    CtC_i l y ws rm Dm X dC dI cq q S M o sz av r1 S1 := by
  refine ent_i hy hw hlen (fun p e s m args below meth c A Q ls F hA hP hK hD hDm hX hl hend => ?_)
  refine body p e s m args below meth c A Q ls F hA hP hK hD hDm hX va_S.rf hl ?_
  intro H locs r S2 pc ls hv hP hD hS hdg
  cases hv
  exact hend H locs _ (_, M) pc ls ⟨rfl, rfl⟩ hP hD hS hdg
theorem enC_z {l : Launch} {dC : Nat → ClassId} {dI : Nat → Nat → Nat} {cq : Nat → ClassId} {q : Nat → Nat} {S : CS} {M : MS} {o : Nat → Int64} {y : MethodName} {ws ws' : List Cond} {cc : ByteArray} {maxL : Nat} {rm : Room} {Dm : Nat → Prop} {X : State → Prop} {sz : Nat} {av : List Value} {r1 : Int32} {S1 : CS} (hy : plainName y.cls = true) (hw : ws = Cond.code y cc maxL (some .boolean) :: ws') (hlen : (lg_sl av).length ≤ maxL)
    (body : ∀ (p : Program) (e : Env) (s : State) (m : MethodId) (args : Array Value) (below : List Frame) (meth : Method) (c : Code) (A : Nat → Prop) (Q : State → Prop) (ls : Array Slot), CallFix p m c cc maxL s args ws y.cls → (∀ a, s.heap.size ≤ a → A a) → va_P (dC, dI) vwCl (wA cq q S M o) s.heap → va_K (dC, dI) vwCl (tyA cq) s → va_D A (wA cq q S M o) → (∀ a, A a → Dm a) → X s → va_S A s.heap s.heap [] → lv_has ls maxL (lv_args 0 av) →
      (∀ (H : Heap) (locs : List Loc) (r : Int32) (S2 : CS) (pc : Nat) (ls : Array Slot), some (r, S2) = some (r1, S1) → va_P (dC, dI) vwCl (wA cq q S2 M o) H → va_D A (wA cq q S2 M o) → va_S A s.heap H locs → decode cc pc = .ok (.ireturn, 1) → (narrow .boolean (.int r) = .int r) → W p l e rm s m args below meth c H locs 0 0 Q (F0 m pc ls [.int r])) →
      W p l e rm s m args below meth c s.heap [] 0 0 Q (F0 m 0 ls [])) :
    CtC_i l y ws rm Dm X dC dI cq q S M o sz av r1 S1 := by
  refine ent_z hy hw hlen (fun p e s m args below meth c A Q ls F hA hP hK hD hDm hX hl hend => ?_)
  refine body p e s m args below meth c A Q ls F hA hP hK hD hDm hX va_S.rf hl ?_
  intro H locs r S2 pc ls hv hP hD hS hdg hnr
  cases hv
  exact hend H locs _ (_, M) pc ls ⟨rfl, rfl⟩ hP hD hS hdg hnr
theorem caVC_i {l : Launch} {dC : Nat → ClassId} {dI : Nat → Nat → Nat} {cq : Nat → ClassId} {q : Nat → Nat} {S : CS} {M : MS} {o : Nat → Int64} {p : Program} {e : Env} {R : Room} {s : State} {m : MethodId} {args : Array Value} {below : List Frame} {meth : Method} {c : Code} {H : Heap} {locs : List Loc} {cells slots : Nat} {Q : State → Prop} {A : Nat → Prop} {y : MethodName} {cc bytes : ByteArray} {maxL nL n index : Nat} {ret : Option FieldType} {ws Ts : List Cond} {rm : Room} {own C : String} {b : Nat} {As rest st0 : List Value} {pc : Nat} {ls : Array Slot} {Dm : Nat → Prop} {X : State → Prop} {r1 : Int32} {S1 : CS}
    (hM : CtC_i l y ws rm Dm X dC dI cq q S M o H.size (.ref b :: As) r1 S1)
    (F : CallFix p m c cc nL s args Ts own) (cw : CallW R s args own C index y bytes maxL ret ws rm 0 0 n) (hK : va_K (dC, dI) vwCl (tyA cq) s) (hP : va_P (dC, dI) vwCl (wA cq q S M o) H) (hD : va_D A (wA cq q S M o)) (hDm : ∀ a, A a → Dm a) (hS : va_S A s.heap H locs) (hA : ∀ a, s.heap.size ≤ a → A a)
    (hXb : ∀ (U : State) (g : JFrame) (mk : MethodId) (a : Array Value), X U → X (U.calling g mk a)) (hXc : ∀ U : State, U.heap = H → s.WarmedH U.vm → X U)
    (hrec : ∃ cellB : Cell, H[b]? = some cellB ∧ cellB.vm.isStatics = false ∧ s.vm.findClass C = some cellB.cls) (hn : As.length = n) (hsize : ls.size = nL) (hst : st0 = As.reverse ++ .ref b :: rest) (hW : (rest.map fun v => v.category).sum ≤ 8) (hdg : decode cc pc = .ok (.invokevirtual index, 3)) (hf : cells + 0 ≤ R.cells ∧ slots + 0 ≤ R.slots)
    (kk : ∀ (H1 : Heap) (locs1 : List Loc), va_P (dC, dI) vwCl (wA cq q S1 M o) H1 → va_D A (wA cq q S1 M o) → va_S A s.heap H1 locs1 → W p l e R s m args below meth c H1 locs1 cells slots Q (F0 m (pc + 3) ls (.int r1 :: rest))) :
    W p l e R s m args below meth c H locs cells slots Q (F0 m pc ls st0) := by
  refine callV_i hM F cw hK hP hD hDm hS hA hXb hXc hrec hn hsize hst hW hdg hf (fun H1 locs1 r u hu hP hD hS => ?_)
  obtain ⟨rfl, rfl⟩ := hu
  exact kk H1 locs1 hP hD hS
theorem caSC_i {l : Launch} {dC : Nat → ClassId} {dI : Nat → Nat → Nat} {cq : Nat → ClassId} {q : Nat → Nat} {S : CS} {M : MS} {o : Nat → Int64} {p : Program} {e : Env} {R : Room} {s : State} {m : MethodId} {args : Array Value} {below : List Frame} {meth : Method} {c : Code} {H : Heap} {locs : List Loc} {cells slots : Nat} {Q : State → Prop} {A : Nat → Prop} {y : MethodName} {cc bytes : ByteArray} {maxL nL n index : Nat} {ret : Option FieldType} {ws Ts : List Cond} {rm : Room} {own : String} {As rest st0 : List Value} {pc : Nat} {ls : Array Slot} {Dm : Nat → Prop} {X : State → Prop} {r1 : Int32} {S1 : CS}
    (hM : CtC_i l y ws rm Dm X dC dI cq q S M o H.size (As) r1 S1)
    (F : CallFix p m c cc nL s args Ts own) (cw : CallB R s args own index y bytes maxL ret ws rm 0 0 n ∧ (Cond.static y).before args s = true) (hK : va_K (dC, dI) vwCl (tyA cq) s) (hP : va_P (dC, dI) vwCl (wA cq q S M o) H) (hD : va_D A (wA cq q S M o)) (hDm : ∀ a, A a → Dm a) (hS : va_S A s.heap H locs) (hA : ∀ a, s.heap.size ≤ a → A a)
    (hXb : ∀ (U : State) (g : JFrame) (mk : MethodId) (a : Array Value), X U → X (U.calling g mk a)) (hXc : ∀ U : State, U.heap = H → s.WarmedH U.vm → X U)
    (hn : As.length = n) (hsize : ls.size = nL) (hst : st0 = As.reverse ++ rest) (hW : (rest.map fun v => v.category).sum ≤ 8) (hdg : decode cc pc = .ok (.invokestatic index, 3)) (hf : cells + 0 ≤ R.cells ∧ slots + 0 ≤ R.slots)
    (kk : ∀ (H1 : Heap) (locs1 : List Loc), va_P (dC, dI) vwCl (wA cq q S1 M o) H1 → va_D A (wA cq q S1 M o) → va_S A s.heap H1 locs1 → W p l e R s m args below meth c H1 locs1 cells slots Q (F0 m (pc + 3) ls (.int r1 :: rest))) :
    W p l e R s m args below meth c H locs cells slots Q (F0 m pc ls st0) := by
  refine callS_i hM F cw hK hP hD hDm hS hA hXb hXc hn hsize hst hW hdg hf (fun H1 locs1 r u hu hP hD hS => ?_)
  obtain ⟨rfl, rfl⟩ := hu
  exact kk H1 locs1 hP hD hS
abbrev CtC_l (l : Launch) (y : MethodName) (ws : List Cond) (rm : Room) (Dm : Nat → Prop) (X : State → Prop) (dC : Nat → ClassId) (dI : Nat → Nat → Nat) (cq : Nat → ClassId) (q : Nat → Nat) (S : CS) (M : MS) (o : Nat → Int64) (sz : Nat) (av : List Value) (r1 : Int64) (S1 : CS) : Prop := Met l y ws rm (PreX Dm X dC dI cq q S M o sz av) (va_Ql (fun (r : Int64) (u : CS × MS) => r = r1 ∧ u = (S1, M)) (fun u t => Bk dC dI cq q (va_A (wA cq q S M o) sz) u.1 u.2 o t) (va_A (wA cq q S M o) sz)) 0 0 (va_A (wA cq q S M o) sz)
theorem enC_l {l : Launch} {dC : Nat → ClassId} {dI : Nat → Nat → Nat} {cq : Nat → ClassId} {q : Nat → Nat} {S : CS} {M : MS} {o : Nat → Int64} {y : MethodName} {ws ws' : List Cond} {cc : ByteArray} {maxL : Nat} {rm : Room} {Dm : Nat → Prop} {X : State → Prop} {sz : Nat} {av : List Value} {r1 : Int64} {S1 : CS} (hy : plainName y.cls = true) (hw : ws = Cond.code y cc maxL (some .long) :: ws') (hlen : (lg_sl av).length ≤ maxL)
    (body : ∀ (p : Program) (e : Env) (s : State) (m : MethodId) (args : Array Value) (below : List Frame) (meth : Method) (c : Code) (A : Nat → Prop) (Q : State → Prop) (ls : Array Slot), CallFix p m c cc maxL s args ws y.cls → (∀ a, s.heap.size ≤ a → A a) → va_P (dC, dI) vwCl (wA cq q S M o) s.heap → va_K (dC, dI) vwCl (tyA cq) s → va_D A (wA cq q S M o) → (∀ a, A a → Dm a) → X s → va_S A s.heap s.heap [] → lv_has ls maxL (lv_args 0 av) →
      (∀ (H : Heap) (locs : List Loc) (r : Int64) (S2 : CS) (pc : Nat) (ls : Array Slot), some (r, S2) = some (r1, S1) → va_P (dC, dI) vwCl (wA cq q S2 M o) H → va_D A (wA cq q S2 M o) → va_S A s.heap H locs → decode cc pc = .ok (.lreturn, 1) → W p l e rm s m args below meth c H locs 0 0 Q (F0 m pc ls [.long r])) →
      W p l e rm s m args below meth c s.heap [] 0 0 Q (F0 m 0 ls [])) :
    CtC_l l y ws rm Dm X dC dI cq q S M o sz av r1 S1 := by
  refine ent_l hy hw hlen (fun p e s m args below meth c A Q ls F hA hP hK hD hDm hX hl hend => ?_)
  refine body p e s m args below meth c A Q ls F hA hP hK hD hDm hX va_S.rf hl ?_
  intro H locs r S2 pc ls hv hP hD hS hdg
  cases hv
  exact hend H locs _ (_, M) pc ls ⟨rfl, rfl⟩ hP hD hS hdg
theorem caVC_l {l : Launch} {dC : Nat → ClassId} {dI : Nat → Nat → Nat} {cq : Nat → ClassId} {q : Nat → Nat} {S : CS} {M : MS} {o : Nat → Int64} {p : Program} {e : Env} {R : Room} {s : State} {m : MethodId} {args : Array Value} {below : List Frame} {meth : Method} {c : Code} {H : Heap} {locs : List Loc} {cells slots : Nat} {Q : State → Prop} {A : Nat → Prop} {y : MethodName} {cc bytes : ByteArray} {maxL nL n index : Nat} {ret : Option FieldType} {ws Ts : List Cond} {rm : Room} {own C : String} {b : Nat} {As rest st0 : List Value} {pc : Nat} {ls : Array Slot} {Dm : Nat → Prop} {X : State → Prop} {r1 : Int64} {S1 : CS}
    (hM : CtC_l l y ws rm Dm X dC dI cq q S M o H.size (.ref b :: As) r1 S1)
    (F : CallFix p m c cc nL s args Ts own) (cw : CallW R s args own C index y bytes maxL ret ws rm 0 0 n) (hK : va_K (dC, dI) vwCl (tyA cq) s) (hP : va_P (dC, dI) vwCl (wA cq q S M o) H) (hD : va_D A (wA cq q S M o)) (hDm : ∀ a, A a → Dm a) (hS : va_S A s.heap H locs) (hA : ∀ a, s.heap.size ≤ a → A a)
    (hXb : ∀ (U : State) (g : JFrame) (mk : MethodId) (a : Array Value), X U → X (U.calling g mk a)) (hXc : ∀ U : State, U.heap = H → s.WarmedH U.vm → X U)
    (hrec : ∃ cellB : Cell, H[b]? = some cellB ∧ cellB.vm.isStatics = false ∧ s.vm.findClass C = some cellB.cls) (hn : As.length = n) (hsize : ls.size = nL) (hst : st0 = As.reverse ++ .ref b :: rest) (hW : (rest.map fun v => v.category).sum ≤ 8) (hdg : decode cc pc = .ok (.invokevirtual index, 3)) (hf : cells + 0 ≤ R.cells ∧ slots + 0 ≤ R.slots)
    (kk : ∀ (H1 : Heap) (locs1 : List Loc), va_P (dC, dI) vwCl (wA cq q S1 M o) H1 → va_D A (wA cq q S1 M o) → va_S A s.heap H1 locs1 → W p l e R s m args below meth c H1 locs1 cells slots Q (F0 m (pc + 3) ls (.long r1 :: rest))) :
    W p l e R s m args below meth c H locs cells slots Q (F0 m pc ls st0) := by
  refine callV_l hM F cw hK hP hD hDm hS hA hXb hXc hrec hn hsize hst hW hdg hf (fun H1 locs1 r u hu hP hD hS => ?_)
  obtain ⟨rfl, rfl⟩ := hu
  exact kk H1 locs1 hP hD hS
theorem caSC_l {l : Launch} {dC : Nat → ClassId} {dI : Nat → Nat → Nat} {cq : Nat → ClassId} {q : Nat → Nat} {S : CS} {M : MS} {o : Nat → Int64} {p : Program} {e : Env} {R : Room} {s : State} {m : MethodId} {args : Array Value} {below : List Frame} {meth : Method} {c : Code} {H : Heap} {locs : List Loc} {cells slots : Nat} {Q : State → Prop} {A : Nat → Prop} {y : MethodName} {cc bytes : ByteArray} {maxL nL n index : Nat} {ret : Option FieldType} {ws Ts : List Cond} {rm : Room} {own : String} {As rest st0 : List Value} {pc : Nat} {ls : Array Slot} {Dm : Nat → Prop} {X : State → Prop} {r1 : Int64} {S1 : CS}
    (hM : CtC_l l y ws rm Dm X dC dI cq q S M o H.size (As) r1 S1)
    (F : CallFix p m c cc nL s args Ts own) (cw : CallB R s args own index y bytes maxL ret ws rm 0 0 n ∧ (Cond.static y).before args s = true) (hK : va_K (dC, dI) vwCl (tyA cq) s) (hP : va_P (dC, dI) vwCl (wA cq q S M o) H) (hD : va_D A (wA cq q S M o)) (hDm : ∀ a, A a → Dm a) (hS : va_S A s.heap H locs) (hA : ∀ a, s.heap.size ≤ a → A a)
    (hXb : ∀ (U : State) (g : JFrame) (mk : MethodId) (a : Array Value), X U → X (U.calling g mk a)) (hXc : ∀ U : State, U.heap = H → s.WarmedH U.vm → X U)
    (hn : As.length = n) (hsize : ls.size = nL) (hst : st0 = As.reverse ++ rest) (hW : (rest.map fun v => v.category).sum ≤ 8) (hdg : decode cc pc = .ok (.invokestatic index, 3)) (hf : cells + 0 ≤ R.cells ∧ slots + 0 ≤ R.slots)
    (kk : ∀ (H1 : Heap) (locs1 : List Loc), va_P (dC, dI) vwCl (wA cq q S1 M o) H1 → va_D A (wA cq q S1 M o) → va_S A s.heap H1 locs1 → W p l e R s m args below meth c H1 locs1 cells slots Q (F0 m (pc + 3) ls (.long r1 :: rest))) :
    W p l e R s m args below meth c H locs cells slots Q (F0 m pc ls st0) := by
  refine callS_l hM F cw hK hP hD hDm hS hA hXb hXc hn hsize hst hW hdg hf (fun H1 locs1 r u hu hP hD hS => ?_)
  obtain ⟨rfl, rfl⟩ := hu
  exact kk H1 locs1 hP hD hS
abbrev CtC_v (l : Launch) (y : MethodName) (ws : List Cond) (rm : Room) (Dm : Nat → Prop) (X : State → Prop) (dC : Nat → ClassId) (dI : Nat → Nat → Nat) (cq : Nat → ClassId) (q : Nat → Nat) (S : CS) (M : MS) (o : Nat → Int64) (sz : Nat) (av : List Value) (S1 : CS) : Prop := Met l y ws rm (PreX Dm X dC dI cq q S M o sz av) (va_Qv (fun (u : CS × MS) => u = (S1, M)) (fun u t => Bk dC dI cq q (va_A (wA cq q S M o) sz) u.1 u.2 o t) (va_A (wA cq q S M o) sz)) 0 0 (va_A (wA cq q S M o) sz)
theorem enC_v {l : Launch} {dC : Nat → ClassId} {dI : Nat → Nat → Nat} {cq : Nat → ClassId} {q : Nat → Nat} {S : CS} {M : MS} {o : Nat → Int64} {y : MethodName} {ws ws' : List Cond} {cc : ByteArray} {maxL : Nat} {rm : Room} {Dm : Nat → Prop} {X : State → Prop} {sz : Nat} {av : List Value} {S1 : CS} (hy : plainName y.cls = true) (hw : ws = Cond.code y cc maxL none :: ws') (hlen : (lg_sl av).length ≤ maxL)
    (body : ∀ (p : Program) (e : Env) (s : State) (m : MethodId) (args : Array Value) (below : List Frame) (meth : Method) (c : Code) (A : Nat → Prop) (Q : State → Prop) (ls : Array Slot), CallFix p m c cc maxL s args ws y.cls → (∀ a, s.heap.size ≤ a → A a) → va_P (dC, dI) vwCl (wA cq q S M o) s.heap → va_K (dC, dI) vwCl (tyA cq) s → va_D A (wA cq q S M o) → (∀ a, A a → Dm a) → X s → va_S A s.heap s.heap [] → lv_has ls maxL (lv_args 0 av) →
      (∀ (H : Heap) (locs : List Loc) (S2 : CS) (pc : Nat) (ls : Array Slot), some S2 = some S1 → va_P (dC, dI) vwCl (wA cq q S2 M o) H → va_D A (wA cq q S2 M o) → va_S A s.heap H locs → decode cc pc = .ok (.return_, 1) → W p l e rm s m args below meth c H locs 0 0 Q (F0 m pc ls [])) →
      W p l e rm s m args below meth c s.heap [] 0 0 Q (F0 m 0 ls [])) :
    CtC_v l y ws rm Dm X dC dI cq q S M o sz av S1 := by
  refine ent_v hy hw hlen (fun p e s m args below meth c A Q ls F hA hP hK hD hDm hX hl hend => ?_)
  refine body p e s m args below meth c A Q ls F hA hP hK hD hDm hX va_S.rf hl ?_
  intro H locs S2 pc ls hv hP hD hS hdg
  cases hv
  exact hend H locs (_, M) pc ls rfl hP hD hS hdg
theorem caVC_v {l : Launch} {dC : Nat → ClassId} {dI : Nat → Nat → Nat} {cq : Nat → ClassId} {q : Nat → Nat} {S : CS} {M : MS} {o : Nat → Int64} {p : Program} {e : Env} {R : Room} {s : State} {m : MethodId} {args : Array Value} {below : List Frame} {meth : Method} {c : Code} {H : Heap} {locs : List Loc} {cells slots : Nat} {Q : State → Prop} {A : Nat → Prop} {y : MethodName} {cc bytes : ByteArray} {maxL nL n index : Nat} {ret : Option FieldType} {ws Ts : List Cond} {rm : Room} {own C : String} {b : Nat} {As rest st0 : List Value} {pc : Nat} {ls : Array Slot} {Dm : Nat → Prop} {X : State → Prop} {S1 : CS}
    (hM : CtC_v l y ws rm Dm X dC dI cq q S M o H.size (.ref b :: As) S1)
    (F : CallFix p m c cc nL s args Ts own) (cw : CallW R s args own C index y bytes maxL ret ws rm 0 0 n) (hK : va_K (dC, dI) vwCl (tyA cq) s) (hP : va_P (dC, dI) vwCl (wA cq q S M o) H) (hD : va_D A (wA cq q S M o)) (hDm : ∀ a, A a → Dm a) (hS : va_S A s.heap H locs) (hA : ∀ a, s.heap.size ≤ a → A a)
    (hXb : ∀ (U : State) (g : JFrame) (mk : MethodId) (a : Array Value), X U → X (U.calling g mk a)) (hXc : ∀ U : State, U.heap = H → s.WarmedH U.vm → X U)
    (hrec : ∃ cellB : Cell, H[b]? = some cellB ∧ cellB.vm.isStatics = false ∧ s.vm.findClass C = some cellB.cls) (hn : As.length = n) (hsize : ls.size = nL) (hst : st0 = As.reverse ++ .ref b :: rest) (hW : (rest.map fun v => v.category).sum ≤ 8) (hdg : decode cc pc = .ok (.invokevirtual index, 3)) (hf : cells + 0 ≤ R.cells ∧ slots + 0 ≤ R.slots)
    (kk : ∀ (H1 : Heap) (locs1 : List Loc), va_P (dC, dI) vwCl (wA cq q S1 M o) H1 → va_D A (wA cq q S1 M o) → va_S A s.heap H1 locs1 → W p l e R s m args below meth c H1 locs1 cells slots Q (F0 m (pc + 3) ls rest)) :
    W p l e R s m args below meth c H locs cells slots Q (F0 m pc ls st0) := by
  refine callV_v hM F cw hK hP hD hDm hS hA hXb hXc hrec hn hsize hst hW hdg hf (fun H1 locs1 u hu hP hD hS => ?_)
  subst hu
  exact kk H1 locs1 hP hD hS
theorem caSC_v {l : Launch} {dC : Nat → ClassId} {dI : Nat → Nat → Nat} {cq : Nat → ClassId} {q : Nat → Nat} {S : CS} {M : MS} {o : Nat → Int64} {p : Program} {e : Env} {R : Room} {s : State} {m : MethodId} {args : Array Value} {below : List Frame} {meth : Method} {c : Code} {H : Heap} {locs : List Loc} {cells slots : Nat} {Q : State → Prop} {A : Nat → Prop} {y : MethodName} {cc bytes : ByteArray} {maxL nL n index : Nat} {ret : Option FieldType} {ws Ts : List Cond} {rm : Room} {own : String} {As rest st0 : List Value} {pc : Nat} {ls : Array Slot} {Dm : Nat → Prop} {X : State → Prop} {S1 : CS}
    (hM : CtC_v l y ws rm Dm X dC dI cq q S M o H.size (As) S1)
    (F : CallFix p m c cc nL s args Ts own) (cw : CallB R s args own index y bytes maxL ret ws rm 0 0 n ∧ (Cond.static y).before args s = true) (hK : va_K (dC, dI) vwCl (tyA cq) s) (hP : va_P (dC, dI) vwCl (wA cq q S M o) H) (hD : va_D A (wA cq q S M o)) (hDm : ∀ a, A a → Dm a) (hS : va_S A s.heap H locs) (hA : ∀ a, s.heap.size ≤ a → A a)
    (hXb : ∀ (U : State) (g : JFrame) (mk : MethodId) (a : Array Value), X U → X (U.calling g mk a)) (hXc : ∀ U : State, U.heap = H → s.WarmedH U.vm → X U)
    (hn : As.length = n) (hsize : ls.size = nL) (hst : st0 = As.reverse ++ rest) (hW : (rest.map fun v => v.category).sum ≤ 8) (hdg : decode cc pc = .ok (.invokestatic index, 3)) (hf : cells + 0 ≤ R.cells ∧ slots + 0 ≤ R.slots)
    (kk : ∀ (H1 : Heap) (locs1 : List Loc), va_P (dC, dI) vwCl (wA cq q S1 M o) H1 → va_D A (wA cq q S1 M o) → va_S A s.heap H1 locs1 → W p l e R s m args below meth c H1 locs1 cells slots Q (F0 m (pc + 3) ls rest)) :
    W p l e R s m args below meth c H locs cells slots Q (F0 m pc ls st0) := by
  refine callS_v hM F cw hK hP hD hDm hS hA hXb hXc hn hsize hst hW hdg hf (fun H1 locs1 u hu hP hD hS => ?_)
  subst hu
  exact kk H1 locs1 hP hD hS
theorem pt_22_0 {l : Launch} {dC : Nat → ClassId} {dI : Nat → Nat → Nat} {cq : Nat → ClassId} {q : Nat → Nat} {S : CS} {M : MS} {o : Nat → Int64} {p : Program} {e : Env} {R : Room} {s : State} {m : MethodId} {args : Array Value} {below : List Frame} {meth : Method} {c : Code} {H : Heap} {locs : List Loc} {cells slots : Nat} {Q : State → Prop} {A : Nat → Prop} {cc : ByteArray} {Ts : List Cond} {index pc nL : Nat} {own : String} {ls : Array Slot} {rest : List Value} {v : Int32} (F : CallFix p m c cc nL s args Ts own) (hin : ∀ w ∈ u_ws RX8 TX8 29, w ∈ Ts) (hlink : (Cond.fieldLink own index "CableTesterModel" "thrown" "I").before args s = true) (hK : va_K (dC, dI) vwCl (tyA cq) s) (hP : va_P (dC, dI) vwCl (wA cq q S M o) H) (hD : va_D A (wA cq q S M o)) (hS : va_S A s.heap H locs) (hdg : decode cc pc = .ok (.putfield index, 3))
    (kk : ∀ (H1 : Heap) (locs1 : List Loc), va_P (dC, dI) vwCl (wA cq q S (sG M 0 v) o) H1 → va_D A (wA cq q S (sG M 0 v) o) → va_S A s.heap H1 locs1 → W p l e R s m args below meth c H1 locs1 cells slots Q (F0 m (pc + 3) ls rest)) :
    W p l e R s m args below meth c H locs cells slots Q (F0 m pc ls (.int v :: .ref (q 22) :: rest)) :=
  va_put (D := (dC, dI)) (ci := 9) (v := .int v) (ty := .int) (C := RX8) (T := TX8) (N := 29) F.1 F.2.1 F.2.2.2.2 hin tyX8 tyX8_ok nmX8 F.2.2.2.1 hK hP hD hS 22 rfl rfl 0 (by decide) hlink (fun _ h9 => h9) rfl (by decide +kernel) rfl rfl (Nat.le_of_ble_eq_true rfl) hdg (fun H1 locs1 hP hD hS => kk H1 locs1 hP hD hS)
theorem pt_22_1 {l : Launch} {dC : Nat → ClassId} {dI : Nat → Nat → Nat} {cq : Nat → ClassId} {q : Nat → Nat} {S : CS} {M : MS} {o : Nat → Int64} {p : Program} {e : Env} {R : Room} {s : State} {m : MethodId} {args : Array Value} {below : List Frame} {meth : Method} {c : Code} {H : Heap} {locs : List Loc} {cells slots : Nat} {Q : State → Prop} {A : Nat → Prop} {cc : ByteArray} {Ts : List Cond} {index pc nL : Nat} {own : String} {ls : Array Slot} {rest : List Value} {v : Int32} (F : CallFix p m c cc nL s args Ts own) (hin : ∀ w ∈ u_ws RX8 TX8 29, w ∈ Ts) (hlink : (Cond.fieldLink own index "CableTesterModel" "length" "I").before args s = true) (hK : va_K (dC, dI) vwCl (tyA cq) s) (hP : va_P (dC, dI) vwCl (wA cq q S M o) H) (hD : va_D A (wA cq q S M o)) (hS : va_S A s.heap H locs) (hdg : decode cc pc = .ok (.putfield index, 3))
    (kk : ∀ (H1 : Heap) (locs1 : List Loc), va_P (dC, dI) vwCl (wA cq q S (sG M 1 v) o) H1 → va_D A (wA cq q S (sG M 1 v) o) → va_S A s.heap H1 locs1 → W p l e R s m args below meth c H1 locs1 cells slots Q (F0 m (pc + 3) ls rest)) :
    W p l e R s m args below meth c H locs cells slots Q (F0 m pc ls (.int v :: .ref (q 22) :: rest)) :=
  va_put (D := (dC, dI)) (ci := 9) (v := .int v) (ty := .int) (C := RX8) (T := TX8) (N := 29) F.1 F.2.1 F.2.2.2.2 hin tyX8 tyX8_ok nmX8 F.2.2.2.1 hK hP hD hS 22 rfl rfl 1 (by decide) hlink (fun _ h9 => h9) rfl (by decide +kernel) rfl rfl (Nat.le_of_ble_eq_true rfl) hdg (fun H1 locs1 hP hD hS => kk H1 locs1 hP hD hS)
theorem pt_22_2 {l : Launch} {dC : Nat → ClassId} {dI : Nat → Nat → Nat} {cq : Nat → ClassId} {q : Nat → Nat} {S : CS} {M : MS} {o : Nat → Int64} {p : Program} {e : Env} {R : Room} {s : State} {m : MethodId} {args : Array Value} {below : List Frame} {meth : Method} {c : Code} {H : Heap} {locs : List Loc} {cells slots : Nat} {Q : State → Prop} {A : Nat → Prop} {cc : ByteArray} {Ts : List Cond} {index pc nL : Nat} {own : String} {ls : Array Slot} {rest : List Value} {v : Int32} (F : CallFix p m c cc nL s args Ts own) (hin : ∀ w ∈ u_ws RX8 TX8 29, w ∈ Ts) (hlink : (Cond.fieldLink own index "CableTesterModel" "velocity" "I").before args s = true) (hK : va_K (dC, dI) vwCl (tyA cq) s) (hP : va_P (dC, dI) vwCl (wA cq q S M o) H) (hD : va_D A (wA cq q S M o)) (hS : va_S A s.heap H locs) (hdg : decode cc pc = .ok (.putfield index, 3))
    (kk : ∀ (H1 : Heap) (locs1 : List Loc), va_P (dC, dI) vwCl (wA cq q S (sG M 2 v) o) H1 → va_D A (wA cq q S (sG M 2 v) o) → va_S A s.heap H1 locs1 → W p l e R s m args below meth c H1 locs1 cells slots Q (F0 m (pc + 3) ls rest)) :
    W p l e R s m args below meth c H locs cells slots Q (F0 m pc ls (.int v :: .ref (q 22) :: rest)) :=
  va_put (D := (dC, dI)) (ci := 9) (v := .int v) (ty := .int) (C := RX8) (T := TX8) (N := 29) F.1 F.2.1 F.2.2.2.2 hin tyX8 tyX8_ok nmX8 F.2.2.2.1 hK hP hD hS 22 rfl rfl 2 (by decide) hlink (fun _ h9 => h9) rfl (by decide +kernel) rfl rfl (Nat.le_of_ble_eq_true rfl) hdg (fun H1 locs1 hP hD hS => kk H1 locs1 hP hD hS)
theorem pt_22_3 {l : Launch} {dC : Nat → ClassId} {dI : Nat → Nat → Nat} {cq : Nat → ClassId} {q : Nat → Nat} {S : CS} {M : MS} {o : Nat → Int64} {p : Program} {e : Env} {R : Room} {s : State} {m : MethodId} {args : Array Value} {below : List Frame} {meth : Method} {c : Code} {H : Heap} {locs : List Loc} {cells slots : Nat} {Q : State → Prop} {A : Nat → Prop} {cc : ByteArray} {Ts : List Cond} {index pc nL : Nat} {own : String} {ls : Array Slot} {rest : List Value} {v : Int32} (F : CallFix p m c cc nL s args Ts own) (hin : ∀ w ∈ u_ws RX8 TX8 29, w ∈ Ts) (hlink : (Cond.fieldLink own index "CableTesterModel" "remote" "I").before args s = true) (hK : va_K (dC, dI) vwCl (tyA cq) s) (hP : va_P (dC, dI) vwCl (wA cq q S M o) H) (hD : va_D A (wA cq q S M o)) (hS : va_S A s.heap H locs) (hdg : decode cc pc = .ok (.putfield index, 3))
    (kk : ∀ (H1 : Heap) (locs1 : List Loc), va_P (dC, dI) vwCl (wA cq q S (sG M 3 v) o) H1 → va_D A (wA cq q S (sG M 3 v) o) → va_S A s.heap H1 locs1 → W p l e R s m args below meth c H1 locs1 cells slots Q (F0 m (pc + 3) ls rest)) :
    W p l e R s m args below meth c H locs cells slots Q (F0 m pc ls (.int v :: .ref (q 22) :: rest)) :=
  va_put (D := (dC, dI)) (ci := 9) (v := .int v) (ty := .int) (C := RX8) (T := TX8) (N := 29) F.1 F.2.1 F.2.2.2.2 hin tyX8 tyX8_ok nmX8 F.2.2.2.1 hK hP hD hS 22 rfl rfl 3 (by decide) hlink (fun _ h9 => h9) rfl (by decide +kernel) rfl rfl (Nat.le_of_ble_eq_true rfl) hdg (fun H1 locs1 hP hD hS => kk H1 locs1 hP hD hS)
theorem pt_22_4 {l : Launch} {dC : Nat → ClassId} {dI : Nat → Nat → Nat} {cq : Nat → ClassId} {q : Nat → Nat} {S : CS} {M : MS} {o : Nat → Int64} {p : Program} {e : Env} {R : Room} {s : State} {m : MethodId} {args : Array Value} {below : List Frame} {meth : Method} {c : Code} {H : Heap} {locs : List Loc} {cells slots : Nat} {Q : State → Prop} {A : Nat → Prop} {cc : ByteArray} {Ts : List Cond} {index pc nL : Nat} {own : String} {ls : Array Slot} {rest : List Value} {v : Int32} (F : CallFix p m c cc nL s args Ts own) (hin : ∀ w ∈ u_ws RX8 TX8 29, w ∈ Ts) (hlink : (Cond.fieldLink own index "CableTesterModel" "tick" "I").before args s = true) (hK : va_K (dC, dI) vwCl (tyA cq) s) (hP : va_P (dC, dI) vwCl (wA cq q S M o) H) (hD : va_D A (wA cq q S M o)) (hS : va_S A s.heap H locs) (hdg : decode cc pc = .ok (.putfield index, 3))
    (kk : ∀ (H1 : Heap) (locs1 : List Loc), va_P (dC, dI) vwCl (wA cq q S (sG M 4 v) o) H1 → va_D A (wA cq q S (sG M 4 v) o) → va_S A s.heap H1 locs1 → W p l e R s m args below meth c H1 locs1 cells slots Q (F0 m (pc + 3) ls rest)) :
    W p l e R s m args below meth c H locs cells slots Q (F0 m pc ls (.int v :: .ref (q 22) :: rest)) :=
  va_put (D := (dC, dI)) (ci := 9) (v := .int v) (ty := .int) (C := RX8) (T := TX8) (N := 29) F.1 F.2.1 F.2.2.2.2 hin tyX8 tyX8_ok nmX8 F.2.2.2.1 hK hP hD hS 22 rfl rfl 4 (by decide) hlink (fun _ h9 => h9) rfl (by decide +kernel) rfl rfl (Nat.le_of_ble_eq_true rfl) hdg (fun H1 locs1 hP hD hS => kk H1 locs1 hP hD hS)
theorem pt_22_7 {l : Launch} {dC : Nat → ClassId} {dI : Nat → Nat → Nat} {cq : Nat → ClassId} {q : Nat → Nat} {S : CS} {M : MS} {o : Nat → Int64} {p : Program} {e : Env} {R : Room} {s : State} {m : MethodId} {args : Array Value} {below : List Frame} {meth : Method} {c : Code} {H : Heap} {locs : List Loc} {cells slots : Nat} {Q : State → Prop} {A : Nat → Prop} {cc : ByteArray} {Ts : List Cond} {index pc nL : Nat} {own : String} {ls : Array Slot} {rest : List Value} {v : Int32} (F : CallFix p m c cc nL s args Ts own) (hin : ∀ w ∈ u_ws RX8 TX8 29, w ∈ Ts) (hlink : (Cond.fieldLink own index "CableTesterModel" "many" "I").before args s = true) (hK : va_K (dC, dI) vwCl (tyA cq) s) (hP : va_P (dC, dI) vwCl (wA cq q S M o) H) (hD : va_D A (wA cq q S M o)) (hS : va_S A s.heap H locs) (hdg : decode cc pc = .ok (.putfield index, 3))
    (kk : ∀ (H1 : Heap) (locs1 : List Loc), va_P (dC, dI) vwCl (wA cq q S (sG M 7 v) o) H1 → va_D A (wA cq q S (sG M 7 v) o) → va_S A s.heap H1 locs1 → W p l e R s m args below meth c H1 locs1 cells slots Q (F0 m (pc + 3) ls rest)) :
    W p l e R s m args below meth c H locs cells slots Q (F0 m pc ls (.int v :: .ref (q 22) :: rest)) :=
  va_put (D := (dC, dI)) (ci := 9) (v := .int v) (ty := .int) (C := RX8) (T := TX8) (N := 29) F.1 F.2.1 F.2.2.2.2 hin tyX8 tyX8_ok nmX8 F.2.2.2.1 hK hP hD hS 22 rfl rfl 7 (by decide) hlink (fun _ h9 => h9) rfl (by decide +kernel) rfl rfl (Nat.le_of_ble_eq_true rfl) hdg (fun H1 locs1 hP hD hS => kk H1 locs1 hP hD hS)
theorem pt_22_9 {l : Launch} {dC : Nat → ClassId} {dI : Nat → Nat → Nat} {cq : Nat → ClassId} {q : Nat → Nat} {S : CS} {M : MS} {o : Nat → Int64} {p : Program} {e : Env} {R : Room} {s : State} {m : MethodId} {args : Array Value} {below : List Frame} {meth : Method} {c : Code} {H : Heap} {locs : List Loc} {cells slots : Nat} {Q : State → Prop} {A : Nat → Prop} {cc : ByteArray} {Ts : List Cond} {index pc nL : Nat} {own : String} {ls : Array Slot} {rest : List Value} {v : Int32} (F : CallFix p m c cc nL s args Ts own) (hin : ∀ w ∈ u_ws RX8 TX8 29, w ∈ Ts) (hlink : (Cond.fieldLink own index "CableTesterModel" "records" "I").before args s = true) (hK : va_K (dC, dI) vwCl (tyA cq) s) (hP : va_P (dC, dI) vwCl (wA cq q S M o) H) (hD : va_D A (wA cq q S M o)) (hS : va_S A s.heap H locs) (hdg : decode cc pc = .ok (.putfield index, 3))
    (kk : ∀ (H1 : Heap) (locs1 : List Loc), va_P (dC, dI) vwCl (wA cq q S (sG M 9 v) o) H1 → va_D A (wA cq q S (sG M 9 v) o) → va_S A s.heap H1 locs1 → W p l e R s m args below meth c H1 locs1 cells slots Q (F0 m (pc + 3) ls rest)) :
    W p l e R s m args below meth c H locs cells slots Q (F0 m pc ls (.int v :: .ref (q 22) :: rest)) :=
  va_put (D := (dC, dI)) (ci := 9) (v := .int v) (ty := .int) (C := RX8) (T := TX8) (N := 29) F.1 F.2.1 F.2.2.2.2 hin tyX8 tyX8_ok nmX8 F.2.2.2.1 hK hP hD hS 22 rfl rfl 9 (by decide) hlink (fun _ h9 => h9) rfl (by decide +kernel) rfl rfl (Nat.le_of_ble_eq_true rfl) hdg (fun H1 locs1 hP hD hS => kk H1 locs1 hP hD hS)
theorem pt_22_10 {l : Launch} {dC : Nat → ClassId} {dI : Nat → Nat → Nat} {cq : Nat → ClassId} {q : Nat → Nat} {S : CS} {M : MS} {o : Nat → Int64} {p : Program} {e : Env} {R : Room} {s : State} {m : MethodId} {args : Array Value} {below : List Frame} {meth : Method} {c : Code} {H : Heap} {locs : List Loc} {cells slots : Nat} {Q : State → Prop} {A : Nat → Prop} {cc : ByteArray} {Ts : List Cond} {index pc nL : Nat} {own : String} {ls : Array Slot} {rest : List Value} {v : Int32} (F : CallFix p m c cc nL s args Ts own) (hin : ∀ w ∈ u_ws RX8 TX8 29, w ∈ Ts) (hlink : (Cond.fieldLink own index "CableTesterModel" "letters" "I").before args s = true) (hK : va_K (dC, dI) vwCl (tyA cq) s) (hP : va_P (dC, dI) vwCl (wA cq q S M o) H) (hD : va_D A (wA cq q S M o)) (hS : va_S A s.heap H locs) (hdg : decode cc pc = .ok (.putfield index, 3))
    (kk : ∀ (H1 : Heap) (locs1 : List Loc), va_P (dC, dI) vwCl (wA cq q S (sG M 10 v) o) H1 → va_D A (wA cq q S (sG M 10 v) o) → va_S A s.heap H1 locs1 → W p l e R s m args below meth c H1 locs1 cells slots Q (F0 m (pc + 3) ls rest)) :
    W p l e R s m args below meth c H locs cells slots Q (F0 m pc ls (.int v :: .ref (q 22) :: rest)) :=
  va_put (D := (dC, dI)) (ci := 9) (v := .int v) (ty := .int) (C := RX8) (T := TX8) (N := 29) F.1 F.2.1 F.2.2.2.2 hin tyX8 tyX8_ok nmX8 F.2.2.2.1 hK hP hD hS 22 rfl rfl 10 (by decide) hlink (fun _ h9 => h9) rfl (by decide +kernel) rfl rfl (Nat.le_of_ble_eq_true rfl) hdg (fun H1 locs1 hP hD hS => kk H1 locs1 hP hD hS)
theorem pt_22_14 {l : Launch} {dC : Nat → ClassId} {dI : Nat → Nat → Nat} {cq : Nat → ClassId} {q : Nat → Nat} {S : CS} {M : MS} {o : Nat → Int64} {p : Program} {e : Env} {R : Room} {s : State} {m : MethodId} {args : Array Value} {below : List Frame} {meth : Method} {c : Code} {H : Heap} {locs : List Loc} {cells slots : Nat} {Q : State → Prop} {A : Nat → Prop} {cc : ByteArray} {Ts : List Cond} {index pc nL : Nat} {own : String} {ls : Array Slot} {rest : List Value} {v : Int32} (F : CallFix p m c cc nL s args Ts own) (hin : ∀ w ∈ u_ws RX8 TX8 29, w ∈ Ts) (hlink : (Cond.fieldLink own index "CableTesterModel" "step" "I").before args s = true) (hK : va_K (dC, dI) vwCl (tyA cq) s) (hP : va_P (dC, dI) vwCl (wA cq q S M o) H) (hD : va_D A (wA cq q S M o)) (hS : va_S A s.heap H locs) (hdg : decode cc pc = .ok (.putfield index, 3))
    (kk : ∀ (H1 : Heap) (locs1 : List Loc), va_P (dC, dI) vwCl (wA cq q S (sG M 14 v) o) H1 → va_D A (wA cq q S (sG M 14 v) o) → va_S A s.heap H1 locs1 → W p l e R s m args below meth c H1 locs1 cells slots Q (F0 m (pc + 3) ls rest)) :
    W p l e R s m args below meth c H locs cells slots Q (F0 m pc ls (.int v :: .ref (q 22) :: rest)) :=
  va_put (D := (dC, dI)) (ci := 9) (v := .int v) (ty := .int) (C := RX8) (T := TX8) (N := 29) F.1 F.2.1 F.2.2.2.2 hin tyX8 tyX8_ok nmX8 F.2.2.2.1 hK hP hD hS 22 rfl rfl 14 (by decide) hlink (fun _ h9 => h9) rfl (by decide +kernel) rfl rfl (Nat.le_of_ble_eq_true rfl) hdg (fun H1 locs1 hP hD hS => kk H1 locs1 hP hD hS)
theorem pt_22_15 {l : Launch} {dC : Nat → ClassId} {dI : Nat → Nat → Nat} {cq : Nat → ClassId} {q : Nat → Nat} {S : CS} {M : MS} {o : Nat → Int64} {p : Program} {e : Env} {R : Room} {s : State} {m : MethodId} {args : Array Value} {below : List Frame} {meth : Method} {c : Code} {H : Heap} {locs : List Loc} {cells slots : Nat} {Q : State → Prop} {A : Nat → Prop} {cc : ByteArray} {Ts : List Cond} {index pc nL : Nat} {own : String} {ls : Array Slot} {rest : List Value} {v : Int32} (F : CallFix p m c cc nL s args Ts own) (hin : ∀ w ∈ u_ws RX8 TX8 29, w ∈ Ts) (hlink : (Cond.fieldLink own index "CableTesterModel" "sign" "I").before args s = true) (hK : va_K (dC, dI) vwCl (tyA cq) s) (hP : va_P (dC, dI) vwCl (wA cq q S M o) H) (hD : va_D A (wA cq q S M o)) (hS : va_S A s.heap H locs) (hdg : decode cc pc = .ok (.putfield index, 3))
    (kk : ∀ (H1 : Heap) (locs1 : List Loc), va_P (dC, dI) vwCl (wA cq q S (sG M 15 v) o) H1 → va_D A (wA cq q S (sG M 15 v) o) → va_S A s.heap H1 locs1 → W p l e R s m args below meth c H1 locs1 cells slots Q (F0 m (pc + 3) ls rest)) :
    W p l e R s m args below meth c H locs cells slots Q (F0 m pc ls (.int v :: .ref (q 22) :: rest)) :=
  va_put (D := (dC, dI)) (ci := 9) (v := .int v) (ty := .int) (C := RX8) (T := TX8) (N := 29) F.1 F.2.1 F.2.2.2.2 hin tyX8 tyX8_ok nmX8 F.2.2.2.1 hK hP hD hS 22 rfl rfl 15 (by decide) hlink (fun _ h9 => h9) rfl (by decide +kernel) rfl rfl (Nat.le_of_ble_eq_true rfl) hdg (fun H1 locs1 hP hD hS => kk H1 locs1 hP hD hS)
theorem pt_22_16 {l : Launch} {dC : Nat → ClassId} {dI : Nat → Nat → Nat} {cq : Nat → ClassId} {q : Nat → Nat} {S : CS} {M : MS} {o : Nat → Int64} {p : Program} {e : Env} {R : Room} {s : State} {m : MethodId} {args : Array Value} {below : List Frame} {meth : Method} {c : Code} {H : Heap} {locs : List Loc} {cells slots : Nat} {Q : State → Prop} {A : Nat → Prop} {cc : ByteArray} {Ts : List Cond} {index pc nL : Nat} {own : String} {ls : Array Slot} {rest : List Value} {v : Int32} (F : CallFix p m c cc nL s args Ts own) (hin : ∀ w ∈ u_ws RX8 TX8 29, w ∈ Ts) (hlink : (Cond.fieldLink own index "CableTesterModel" "one" "I").before args s = true) (hK : va_K (dC, dI) vwCl (tyA cq) s) (hP : va_P (dC, dI) vwCl (wA cq q S M o) H) (hD : va_D A (wA cq q S M o)) (hS : va_S A s.heap H locs) (hdg : decode cc pc = .ok (.putfield index, 3))
    (kk : ∀ (H1 : Heap) (locs1 : List Loc), va_P (dC, dI) vwCl (wA cq q S (sG M 16 v) o) H1 → va_D A (wA cq q S (sG M 16 v) o) → va_S A s.heap H1 locs1 → W p l e R s m args below meth c H1 locs1 cells slots Q (F0 m (pc + 3) ls rest)) :
    W p l e R s m args below meth c H locs cells slots Q (F0 m pc ls (.int v :: .ref (q 22) :: rest)) :=
  va_put (D := (dC, dI)) (ci := 9) (v := .int v) (ty := .int) (C := RX8) (T := TX8) (N := 29) F.1 F.2.1 F.2.2.2.2 hin tyX8 tyX8_ok nmX8 F.2.2.2.1 hK hP hD hS 22 rfl rfl 16 (by decide) hlink (fun _ h9 => h9) rfl (by decide +kernel) rfl rfl (Nat.le_of_ble_eq_true rfl) hdg (fun H1 locs1 hP hD hS => kk H1 locs1 hP hD hS)
theorem pt_22_17 {l : Launch} {dC : Nat → ClassId} {dI : Nat → Nat → Nat} {cq : Nat → ClassId} {q : Nat → Nat} {S : CS} {M : MS} {o : Nat → Int64} {p : Program} {e : Env} {R : Room} {s : State} {m : MethodId} {args : Array Value} {below : List Frame} {meth : Method} {c : Code} {H : Heap} {locs : List Loc} {cells slots : Nat} {Q : State → Prop} {A : Nat → Prop} {cc : ByteArray} {Ts : List Cond} {index pc nL : Nat} {own : String} {ls : Array Slot} {rest : List Value} {v : Int32} (F : CallFix p m c cc nL s args Ts own) (hin : ∀ w ∈ u_ws RX8 TX8 29, w ∈ Ts) (hlink : (Cond.fieldLink own index "CableTesterModel" "other" "I").before args s = true) (hK : va_K (dC, dI) vwCl (tyA cq) s) (hP : va_P (dC, dI) vwCl (wA cq q S M o) H) (hD : va_D A (wA cq q S M o)) (hS : va_S A s.heap H locs) (hdg : decode cc pc = .ok (.putfield index, 3))
    (kk : ∀ (H1 : Heap) (locs1 : List Loc), va_P (dC, dI) vwCl (wA cq q S (sG M 17 v) o) H1 → va_D A (wA cq q S (sG M 17 v) o) → va_S A s.heap H1 locs1 → W p l e R s m args below meth c H1 locs1 cells slots Q (F0 m (pc + 3) ls rest)) :
    W p l e R s m args below meth c H locs cells slots Q (F0 m pc ls (.int v :: .ref (q 22) :: rest)) :=
  va_put (D := (dC, dI)) (ci := 9) (v := .int v) (ty := .int) (C := RX8) (T := TX8) (N := 29) F.1 F.2.1 F.2.2.2.2 hin tyX8 tyX8_ok nmX8 F.2.2.2.1 hK hP hD hS 22 rfl rfl 17 (by decide) hlink (fun _ h9 => h9) rfl (by decide +kernel) rfl rfl (Nat.le_of_ble_eq_true rfl) hdg (fun H1 locs1 hP hD hS => kk H1 locs1 hP hD hS)
theorem pt_22_18 {l : Launch} {dC : Nat → ClassId} {dI : Nat → Nat → Nat} {cq : Nat → ClassId} {q : Nat → Nat} {S : CS} {M : MS} {o : Nat → Int64} {p : Program} {e : Env} {R : Room} {s : State} {m : MethodId} {args : Array Value} {below : List Frame} {meth : Method} {c : Code} {H : Heap} {locs : List Loc} {cells slots : Nat} {Q : State → Prop} {A : Nat → Prop} {cc : ByteArray} {Ts : List Cond} {index pc nL : Nat} {own : String} {ls : Array Slot} {rest : List Value} {v : Int32} (F : CallFix p m c cc nL s args Ts own) (hin : ∀ w ∈ u_ws RX8 TX8 29, w ∈ Ts) (hlink : (Cond.fieldLink own index "CableTesterModel" "number" "I").before args s = true) (hK : va_K (dC, dI) vwCl (tyA cq) s) (hP : va_P (dC, dI) vwCl (wA cq q S M o) H) (hD : va_D A (wA cq q S M o)) (hS : va_S A s.heap H locs) (hdg : decode cc pc = .ok (.putfield index, 3))
    (kk : ∀ (H1 : Heap) (locs1 : List Loc), va_P (dC, dI) vwCl (wA cq q S (sG M 18 v) o) H1 → va_D A (wA cq q S (sG M 18 v) o) → va_S A s.heap H1 locs1 → W p l e R s m args below meth c H1 locs1 cells slots Q (F0 m (pc + 3) ls rest)) :
    W p l e R s m args below meth c H locs cells slots Q (F0 m pc ls (.int v :: .ref (q 22) :: rest)) :=
  va_put (D := (dC, dI)) (ci := 9) (v := .int v) (ty := .int) (C := RX8) (T := TX8) (N := 29) F.1 F.2.1 F.2.2.2.2 hin tyX8 tyX8_ok nmX8 F.2.2.2.1 hK hP hD hS 22 rfl rfl 18 (by decide) hlink (fun _ h9 => h9) rfl (by decide +kernel) rfl rfl (Nat.le_of_ble_eq_true rfl) hdg (fun H1 locs1 hP hD hS => kk H1 locs1 hP hD hS)
theorem pt_22_19 {l : Launch} {dC : Nat → ClassId} {dI : Nat → Nat → Nat} {cq : Nat → ClassId} {q : Nat → Nat} {S : CS} {M : MS} {o : Nat → Int64} {p : Program} {e : Env} {R : Room} {s : State} {m : MethodId} {args : Array Value} {below : List Frame} {meth : Method} {c : Code} {H : Heap} {locs : List Loc} {cells slots : Nat} {Q : State → Prop} {A : Nat → Prop} {cc : ByteArray} {Ts : List Cond} {index pc nL : Nat} {own : String} {ls : Array Slot} {rest : List Value} {v : Int32} (F : CallFix p m c cc nL s args Ts own) (hin : ∀ w ∈ u_ws RX8 TX8 29, w ∈ Ts) (hlink : (Cond.fieldLink own index "CableTesterModel" "place" "I").before args s = true) (hK : va_K (dC, dI) vwCl (tyA cq) s) (hP : va_P (dC, dI) vwCl (wA cq q S M o) H) (hD : va_D A (wA cq q S M o)) (hS : va_S A s.heap H locs) (hdg : decode cc pc = .ok (.putfield index, 3))
    (kk : ∀ (H1 : Heap) (locs1 : List Loc), va_P (dC, dI) vwCl (wA cq q S (sG M 19 v) o) H1 → va_D A (wA cq q S (sG M 19 v) o) → va_S A s.heap H1 locs1 → W p l e R s m args below meth c H1 locs1 cells slots Q (F0 m (pc + 3) ls rest)) :
    W p l e R s m args below meth c H locs cells slots Q (F0 m pc ls (.int v :: .ref (q 22) :: rest)) :=
  va_put (D := (dC, dI)) (ci := 9) (v := .int v) (ty := .int) (C := RX8) (T := TX8) (N := 29) F.1 F.2.1 F.2.2.2.2 hin tyX8 tyX8_ok nmX8 F.2.2.2.1 hK hP hD hS 22 rfl rfl 19 (by decide) hlink (fun _ h9 => h9) rfl (by decide +kernel) rfl rfl (Nat.le_of_ble_eq_true rfl) hdg (fun H1 locs1 hP hD hS => kk H1 locs1 hP hD hS)
theorem pt_22_20 {l : Launch} {dC : Nat → ClassId} {dI : Nat → Nat → Nat} {cq : Nat → ClassId} {q : Nat → Nat} {S : CS} {M : MS} {o : Nat → Int64} {p : Program} {e : Env} {R : Room} {s : State} {m : MethodId} {args : Array Value} {below : List Frame} {meth : Method} {c : Code} {H : Heap} {locs : List Loc} {cells slots : Nat} {Q : State → Prop} {A : Nat → Prop} {cc : ByteArray} {Ts : List Cond} {index pc nL : Nat} {own : String} {ls : Array Slot} {rest : List Value} {v : Int32} (F : CallFix p m c cc nL s args Ts own) (hin : ∀ w ∈ u_ws RX8 TX8 29, w ∈ Ts) (hlink : (Cond.fieldLink own index "CableTesterModel" "period" "I").before args s = true) (hK : va_K (dC, dI) vwCl (tyA cq) s) (hP : va_P (dC, dI) vwCl (wA cq q S M o) H) (hD : va_D A (wA cq q S M o)) (hS : va_S A s.heap H locs) (hdg : decode cc pc = .ok (.putfield index, 3))
    (kk : ∀ (H1 : Heap) (locs1 : List Loc), va_P (dC, dI) vwCl (wA cq q S (sG M 20 v) o) H1 → va_D A (wA cq q S (sG M 20 v) o) → va_S A s.heap H1 locs1 → W p l e R s m args below meth c H1 locs1 cells slots Q (F0 m (pc + 3) ls rest)) :
    W p l e R s m args below meth c H locs cells slots Q (F0 m pc ls (.int v :: .ref (q 22) :: rest)) :=
  va_put (D := (dC, dI)) (ci := 9) (v := .int v) (ty := .int) (C := RX8) (T := TX8) (N := 29) F.1 F.2.1 F.2.2.2.2 hin tyX8 tyX8_ok nmX8 F.2.2.2.1 hK hP hD hS 22 rfl rfl 20 (by decide) hlink (fun _ h9 => h9) rfl (by decide +kernel) rfl rfl (Nat.le_of_ble_eq_true rfl) hdg (fun H1 locs1 hP hD hS => kk H1 locs1 hP hD hS)
theorem pt_22_21 {l : Launch} {dC : Nat → ClassId} {dI : Nat → Nat → Nat} {cq : Nat → ClassId} {q : Nat → Nat} {S : CS} {M : MS} {o : Nat → Int64} {p : Program} {e : Env} {R : Room} {s : State} {m : MethodId} {args : Array Value} {below : List Frame} {meth : Method} {c : Code} {H : Heap} {locs : List Loc} {cells slots : Nat} {Q : State → Prop} {A : Nat → Prop} {cc : ByteArray} {Ts : List Cond} {index pc nL : Nat} {own : String} {ls : Array Slot} {rest : List Value} {v : Int32} (F : CallFix p m c cc nL s args Ts own) (hin : ∀ w ∈ u_ws RX8 TX8 29, w ∈ Ts) (hlink : (Cond.fieldLink own index "CableTesterModel" "items" "I").before args s = true) (hK : va_K (dC, dI) vwCl (tyA cq) s) (hP : va_P (dC, dI) vwCl (wA cq q S M o) H) (hD : va_D A (wA cq q S M o)) (hS : va_S A s.heap H locs) (hdg : decode cc pc = .ok (.putfield index, 3))
    (kk : ∀ (H1 : Heap) (locs1 : List Loc), va_P (dC, dI) vwCl (wA cq q S (sG M 21 v) o) H1 → va_D A (wA cq q S (sG M 21 v) o) → va_S A s.heap H1 locs1 → W p l e R s m args below meth c H1 locs1 cells slots Q (F0 m (pc + 3) ls rest)) :
    W p l e R s m args below meth c H locs cells slots Q (F0 m pc ls (.int v :: .ref (q 22) :: rest)) :=
  va_put (D := (dC, dI)) (ci := 9) (v := .int v) (ty := .int) (C := RX8) (T := TX8) (N := 29) F.1 F.2.1 F.2.2.2.2 hin tyX8 tyX8_ok nmX8 F.2.2.2.1 hK hP hD hS 22 rfl rfl 21 (by decide) hlink (fun _ h9 => h9) rfl (by decide +kernel) rfl rfl (Nat.le_of_ble_eq_true rfl) hdg (fun H1 locs1 hP hD hS => kk H1 locs1 hP hD hS)
theorem pt_22_23 {l : Launch} {dC : Nat → ClassId} {dI : Nat → Nat → Nat} {cq : Nat → ClassId} {q : Nat → Nat} {S : CS} {M : MS} {o : Nat → Int64} {p : Program} {e : Env} {R : Room} {s : State} {m : MethodId} {args : Array Value} {below : List Frame} {meth : Method} {c : Code} {H : Heap} {locs : List Loc} {cells slots : Nat} {Q : State → Prop} {A : Nat → Prop} {cc : ByteArray} {Ts : List Cond} {index pc nL : Nat} {own : String} {ls : Array Slot} {rest : List Value} {v : Int32} (F : CallFix p m c cc nL s args Ts own) (hin : ∀ w ∈ u_ws RX8 TX8 29, w ∈ Ts) (hlink : (Cond.fieldLink own index "CableTesterModel" "cuts" "I").before args s = true) (hK : va_K (dC, dI) vwCl (tyA cq) s) (hP : va_P (dC, dI) vwCl (wA cq q S M o) H) (hD : va_D A (wA cq q S M o)) (hS : va_S A s.heap H locs) (hdg : decode cc pc = .ok (.putfield index, 3))
    (kk : ∀ (H1 : Heap) (locs1 : List Loc), va_P (dC, dI) vwCl (wA cq q S (sG M 23 v) o) H1 → va_D A (wA cq q S (sG M 23 v) o) → va_S A s.heap H1 locs1 → W p l e R s m args below meth c H1 locs1 cells slots Q (F0 m (pc + 3) ls rest)) :
    W p l e R s m args below meth c H locs cells slots Q (F0 m pc ls (.int v :: .ref (q 22) :: rest)) :=
  va_put (D := (dC, dI)) (ci := 9) (v := .int v) (ty := .int) (C := RX8) (T := TX8) (N := 29) F.1 F.2.1 F.2.2.2.2 hin tyX8 tyX8_ok nmX8 F.2.2.2.1 hK hP hD hS 22 rfl rfl 23 (by decide) hlink (fun _ h9 => h9) rfl (by decide +kernel) rfl rfl (Nat.le_of_ble_eq_true rfl) hdg (fun H1 locs1 hP hD hS => kk H1 locs1 hP hD hS)
theorem pt_22_24 {l : Launch} {dC : Nat → ClassId} {dI : Nat → Nat → Nat} {cq : Nat → ClassId} {q : Nat → Nat} {S : CS} {M : MS} {o : Nat → Int64} {p : Program} {e : Env} {R : Room} {s : State} {m : MethodId} {args : Array Value} {below : List Frame} {meth : Method} {c : Code} {H : Heap} {locs : List Loc} {cells slots : Nat} {Q : State → Prop} {A : Nat → Prop} {cc : ByteArray} {Ts : List Cond} {index pc nL : Nat} {own : String} {ls : Array Slot} {rest : List Value} {v : Int32} (F : CallFix p m c cc nL s args Ts own) (hin : ∀ w ∈ u_ws RX8 TX8 29, w ∈ Ts) (hlink : (Cond.fieldLink own index "CableTesterModel" "exchanges" "I").before args s = true) (hK : va_K (dC, dI) vwCl (tyA cq) s) (hP : va_P (dC, dI) vwCl (wA cq q S M o) H) (hD : va_D A (wA cq q S M o)) (hS : va_S A s.heap H locs) (hdg : decode cc pc = .ok (.putfield index, 3))
    (kk : ∀ (H1 : Heap) (locs1 : List Loc), va_P (dC, dI) vwCl (wA cq q S (sG M 24 v) o) H1 → va_D A (wA cq q S (sG M 24 v) o) → va_S A s.heap H1 locs1 → W p l e R s m args below meth c H1 locs1 cells slots Q (F0 m (pc + 3) ls rest)) :
    W p l e R s m args below meth c H locs cells slots Q (F0 m pc ls (.int v :: .ref (q 22) :: rest)) :=
  va_put (D := (dC, dI)) (ci := 9) (v := .int v) (ty := .int) (C := RX8) (T := TX8) (N := 29) F.1 F.2.1 F.2.2.2.2 hin tyX8 tyX8_ok nmX8 F.2.2.2.1 hK hP hD hS 22 rfl rfl 24 (by decide) hlink (fun _ h9 => h9) rfl (by decide +kernel) rfl rfl (Nat.le_of_ble_eq_true rfl) hdg (fun H1 locs1 hP hD hS => kk H1 locs1 hP hD hS)
theorem pt_22_28 {l : Launch} {dC : Nat → ClassId} {dI : Nat → Nat → Nat} {cq : Nat → ClassId} {q : Nat → Nat} {S : CS} {M : MS} {o : Nat → Int64} {p : Program} {e : Env} {R : Room} {s : State} {m : MethodId} {args : Array Value} {below : List Frame} {meth : Method} {c : Code} {H : Heap} {locs : List Loc} {cells slots : Nat} {Q : State → Prop} {A : Nat → Prop} {cc : ByteArray} {Ts : List Cond} {index pc nL : Nat} {own : String} {ls : Array Slot} {rest : List Value} {v : Int64} (F : CallFix p m c cc nL s args Ts own) (hin : ∀ w ∈ u_ws RX8 TX8 29, w ∈ Ts) (hlink : (Cond.fieldLink own index "CableTesterModel" "h" "J").before args s = true) (hK : va_K (dC, dI) vwCl (tyA cq) s) (hP : va_P (dC, dI) vwCl (wA cq q S M o) H) (hD : va_D A (wA cq q S M o)) (hS : va_S A s.heap H locs) (hdg : decode cc pc = .ok (.putfield index, 3))
    (kk : ∀ (H1 : Heap) (locs1 : List Loc), va_P (dC, dI) vwCl (wA cq q S (sH M v) o) H1 → va_D A (wA cq q S (sH M v) o) → va_S A s.heap H1 locs1 → W p l e R s m args below meth c H1 locs1 cells slots Q (F0 m (pc + 3) ls rest)) :
    W p l e R s m args below meth c H locs cells slots Q (F0 m pc ls (.long v :: .ref (q 22) :: rest)) :=
  va_put (D := (dC, dI)) (ci := 9) (v := .long v) (ty := .long) (C := RX8) (T := TX8) (N := 29) F.1 F.2.1 F.2.2.2.2 hin tyX8 tyX8_ok nmX8 F.2.2.2.1 hK hP hD hS 22 rfl rfl 28 (by decide) hlink (fun _ h9 => h9) rfl (by decide +kernel) rfl rfl (Nat.le_of_ble_eq_true rfl) hdg (fun H1 locs1 hP hD hS => kk H1 locs1 hP hD hS)
theorem as_23 {l : Launch} {dC : Nat → ClassId} {dI : Nat → Nat → Nat} {cq : Nat → ClassId} {q : Nat → Nat} {S : CS} {M : MS} {o : Nat → Int64} {p : Program} {e : Env} {R : Room} {s : State} {m : MethodId} {args : Array Value} {below : List Frame} {meth : Method} {c : Code} {H : Heap} {locs : List Loc} {cells slots : Nat} {Q : State → Prop} {A : Nat → Prop} {cc : ByteArray} {Ts : List Cond} {pc nL : Nat} {own : String} {ls : Array Slot} {rest : List Value} {i : Int32} {v : Int32} (F : CallFix p m c cc nL s args Ts own) (hK : va_K (dC, dI) vwCl (tyA cq) s) (hP : va_P (dC, dI) vwCl (wA cq q S M o) H) (hD : va_D A (wA cq q S M o)) (hS : va_S A s.heap H locs) (hin : vp_in i 16) (hdg : decode cc pc = .ok (.iastore, 1))
    (kk : ∀ (H1 : Heap) (locs1 : List Loc), va_P (dC, dI) vwCl (wA cq q S (sB M 23 i.toNatClampNeg v) o) H1 → va_D A (wA cq q S (sB M 23 i.toNatClampNeg v) o) → va_S A s.heap H1 locs1 → W p l e R s m args below meth c H1 locs1 cells slots Q (F0 m (pc + 1) ls rest)) :
    W p l e R s m args below meth c H locs cells slots Q (F0 m pc ls (.int v :: .int i :: .ref (q 23) :: rest)) :=
  va_iast (D := (dC, dI)) F.1 F.2.1 hK hP hD hS 23 12 rfl rfl hin hdg (fun H1 locs1 hP hD hS => kk H1 locs1 hP hD hS)
theorem as_24 {l : Launch} {dC : Nat → ClassId} {dI : Nat → Nat → Nat} {cq : Nat → ClassId} {q : Nat → Nat} {S : CS} {M : MS} {o : Nat → Int64} {p : Program} {e : Env} {R : Room} {s : State} {m : MethodId} {args : Array Value} {below : List Frame} {meth : Method} {c : Code} {H : Heap} {locs : List Loc} {cells slots : Nat} {Q : State → Prop} {A : Nat → Prop} {cc : ByteArray} {Ts : List Cond} {pc nL : Nat} {own : String} {ls : Array Slot} {rest : List Value} {i : Int32} {v : Int32} (F : CallFix p m c cc nL s args Ts own) (hK : va_K (dC, dI) vwCl (tyA cq) s) (hP : va_P (dC, dI) vwCl (wA cq q S M o) H) (hD : va_D A (wA cq q S M o)) (hS : va_S A s.heap H locs) (hin : vp_in i 60) (hdg : decode cc pc = .ok (.iastore, 1))
    (kk : ∀ (H1 : Heap) (locs1 : List Loc), va_P (dC, dI) vwCl (wA cq q S (sB M 24 i.toNatClampNeg v) o) H1 → va_D A (wA cq q S (sB M 24 i.toNatClampNeg v) o) → va_S A s.heap H1 locs1 → W p l e R s m args below meth c H1 locs1 cells slots Q (F0 m (pc + 1) ls rest)) :
    W p l e R s m args below meth c H locs cells slots Q (F0 m pc ls (.int v :: .int i :: .ref (q 24) :: rest)) :=
  va_iast (D := (dC, dI)) F.1 F.2.1 hK hP hD hS 24 13 rfl rfl hin hdg (fun H1 locs1 hP hD hS => kk H1 locs1 hP hD hS)
theorem as_25 {l : Launch} {dC : Nat → ClassId} {dI : Nat → Nat → Nat} {cq : Nat → ClassId} {q : Nat → Nat} {S : CS} {M : MS} {o : Nat → Int64} {p : Program} {e : Env} {R : Room} {s : State} {m : MethodId} {args : Array Value} {below : List Frame} {meth : Method} {c : Code} {H : Heap} {locs : List Loc} {cells slots : Nat} {Q : State → Prop} {A : Nat → Prop} {cc : ByteArray} {Ts : List Cond} {pc nL : Nat} {own : String} {ls : Array Slot} {rest : List Value} {i : Int32} {v : Int32} (F : CallFix p m c cc nL s args Ts own) (hK : va_K (dC, dI) vwCl (tyA cq) s) (hP : va_P (dC, dI) vwCl (wA cq q S M o) H) (hD : va_D A (wA cq q S M o)) (hS : va_S A s.heap H locs) (hin : vp_in i 64) (hdg : decode cc pc = .ok (.iastore, 1))
    (kk : ∀ (H1 : Heap) (locs1 : List Loc), va_P (dC, dI) vwCl (wA cq q S (sB M 25 i.toNatClampNeg v) o) H1 → va_D A (wA cq q S (sB M 25 i.toNatClampNeg v) o) → va_S A s.heap H1 locs1 → W p l e R s m args below meth c H1 locs1 cells slots Q (F0 m (pc + 1) ls rest)) :
    W p l e R s m args below meth c H locs cells slots Q (F0 m pc ls (.int v :: .int i :: .ref (q 25) :: rest)) :=
  va_iast (D := (dC, dI)) F.1 F.2.1 hK hP hD hS 25 14 rfl rfl hin hdg (fun H1 locs1 hP hD hS => kk H1 locs1 hP hD hS)
theorem as_26 {l : Launch} {dC : Nat → ClassId} {dI : Nat → Nat → Nat} {cq : Nat → ClassId} {q : Nat → Nat} {S : CS} {M : MS} {o : Nat → Int64} {p : Program} {e : Env} {R : Room} {s : State} {m : MethodId} {args : Array Value} {below : List Frame} {meth : Method} {c : Code} {H : Heap} {locs : List Loc} {cells slots : Nat} {Q : State → Prop} {A : Nat → Prop} {cc : ByteArray} {Ts : List Cond} {pc nL : Nat} {own : String} {ls : Array Slot} {rest : List Value} {i : Int32} {v : Int32} (F : CallFix p m c cc nL s args Ts own) (hK : va_K (dC, dI) vwCl (tyA cq) s) (hP : va_P (dC, dI) vwCl (wA cq q S M o) H) (hD : va_D A (wA cq q S M o)) (hS : va_S A s.heap H locs) (hin : vp_in i 50) (hdg : decode cc pc = .ok (.iastore, 1))
    (kk : ∀ (H1 : Heap) (locs1 : List Loc), va_P (dC, dI) vwCl (wA cq q S (sB M 26 i.toNatClampNeg v) o) H1 → va_D A (wA cq q S (sB M 26 i.toNatClampNeg v) o) → va_S A s.heap H1 locs1 → W p l e R s m args below meth c H1 locs1 cells slots Q (F0 m (pc + 1) ls rest)) :
    W p l e R s m args below meth c H locs cells slots Q (F0 m pc ls (.int v :: .int i :: .ref (q 26) :: rest)) :=
  va_iast (D := (dC, dI)) F.1 F.2.1 hK hP hD hS 26 15 rfl rfl hin hdg (fun H1 locs1 hP hD hS => kk H1 locs1 hP hD hS)
theorem as_27 {l : Launch} {dC : Nat → ClassId} {dI : Nat → Nat → Nat} {cq : Nat → ClassId} {q : Nat → Nat} {S : CS} {M : MS} {o : Nat → Int64} {p : Program} {e : Env} {R : Room} {s : State} {m : MethodId} {args : Array Value} {below : List Frame} {meth : Method} {c : Code} {H : Heap} {locs : List Loc} {cells slots : Nat} {Q : State → Prop} {A : Nat → Prop} {cc : ByteArray} {Ts : List Cond} {pc nL : Nat} {own : String} {ls : Array Slot} {rest : List Value} {i : Int32} {v : Int32} (F : CallFix p m c cc nL s args Ts own) (hK : va_K (dC, dI) vwCl (tyA cq) s) (hP : va_P (dC, dI) vwCl (wA cq q S M o) H) (hD : va_D A (wA cq q S M o)) (hS : va_S A s.heap H locs) (hin : vp_in i 88) (hdg : decode cc pc = .ok (.iastore, 1))
    (kk : ∀ (H1 : Heap) (locs1 : List Loc), va_P (dC, dI) vwCl (wA cq q S (sB M 27 i.toNatClampNeg v) o) H1 → va_D A (wA cq q S (sB M 27 i.toNatClampNeg v) o) → va_S A s.heap H1 locs1 → W p l e R s m args below meth c H1 locs1 cells slots Q (F0 m (pc + 1) ls rest)) :
    W p l e R s m args below meth c H locs cells slots Q (F0 m pc ls (.int v :: .int i :: .ref (q 27) :: rest)) :=
  va_iast (D := (dC, dI)) F.1 F.2.1 hK hP hD hS 27 16 rfl rfl hin hdg (fun H1 locs1 hP hD hS => kk H1 locs1 hP hD hS)
theorem as_28 {l : Launch} {dC : Nat → ClassId} {dI : Nat → Nat → Nat} {cq : Nat → ClassId} {q : Nat → Nat} {S : CS} {M : MS} {o : Nat → Int64} {p : Program} {e : Env} {R : Room} {s : State} {m : MethodId} {args : Array Value} {below : List Frame} {meth : Method} {c : Code} {H : Heap} {locs : List Loc} {cells slots : Nat} {Q : State → Prop} {A : Nat → Prop} {cc : ByteArray} {Ts : List Cond} {pc nL : Nat} {own : String} {ls : Array Slot} {rest : List Value} {i : Int32} {v : Int32} (F : CallFix p m c cc nL s args Ts own) (hK : va_K (dC, dI) vwCl (tyA cq) s) (hP : va_P (dC, dI) vwCl (wA cq q S M o) H) (hD : va_D A (wA cq q S M o)) (hS : va_S A s.heap H locs) (hin : vp_in i 16) (hdg : decode cc pc = .ok (.iastore, 1))
    (kk : ∀ (H1 : Heap) (locs1 : List Loc), va_P (dC, dI) vwCl (wA cq q S (sB M 28 i.toNatClampNeg v) o) H1 → va_D A (wA cq q S (sB M 28 i.toNatClampNeg v) o) → va_S A s.heap H1 locs1 → W p l e R s m args below meth c H1 locs1 cells slots Q (F0 m (pc + 1) ls rest)) :
    W p l e R s m args below meth c H locs cells slots Q (F0 m pc ls (.int v :: .int i :: .ref (q 28) :: rest)) :=
  va_iast (D := (dC, dI)) F.1 F.2.1 hK hP hD hS 28 17 rfl rfl hin hdg (fun H1 locs1 hP hD hS => kk H1 locs1 hP hD hS)
theorem as_29 {l : Launch} {dC : Nat → ClassId} {dI : Nat → Nat → Nat} {cq : Nat → ClassId} {q : Nat → Nat} {S : CS} {M : MS} {o : Nat → Int64} {p : Program} {e : Env} {R : Room} {s : State} {m : MethodId} {args : Array Value} {below : List Frame} {meth : Method} {c : Code} {H : Heap} {locs : List Loc} {cells slots : Nat} {Q : State → Prop} {A : Nat → Prop} {cc : ByteArray} {Ts : List Cond} {pc nL : Nat} {own : String} {ls : Array Slot} {rest : List Value} {i : Int32} {v : Int32} (F : CallFix p m c cc nL s args Ts own) (hK : va_K (dC, dI) vwCl (tyA cq) s) (hP : va_P (dC, dI) vwCl (wA cq q S M o) H) (hD : va_D A (wA cq q S M o)) (hS : va_S A s.heap H locs) (hin : vp_in i 150) (hdg : decode cc pc = .ok (.iastore, 1))
    (kk : ∀ (H1 : Heap) (locs1 : List Loc), va_P (dC, dI) vwCl (wA cq q S (sB M 29 i.toNatClampNeg v) o) H1 → va_D A (wA cq q S (sB M 29 i.toNatClampNeg v) o) → va_S A s.heap H1 locs1 → W p l e R s m args below meth c H1 locs1 cells slots Q (F0 m (pc + 1) ls rest)) :
    W p l e R s m args below meth c H locs cells slots Q (F0 m pc ls (.int v :: .int i :: .ref (q 29) :: rest)) :=
  va_iast (D := (dC, dI)) F.1 F.2.1 hK hP hD hS 29 18 rfl rfl hin hdg (fun H1 locs1 hP hD hS => kk H1 locs1 hP hD hS)
theorem as_30 {l : Launch} {dC : Nat → ClassId} {dI : Nat → Nat → Nat} {cq : Nat → ClassId} {q : Nat → Nat} {S : CS} {M : MS} {o : Nat → Int64} {p : Program} {e : Env} {R : Room} {s : State} {m : MethodId} {args : Array Value} {below : List Frame} {meth : Method} {c : Code} {H : Heap} {locs : List Loc} {cells slots : Nat} {Q : State → Prop} {A : Nat → Prop} {cc : ByteArray} {Ts : List Cond} {pc nL : Nat} {own : String} {ls : Array Slot} {rest : List Value} {i : Int32} {v : Int32} (F : CallFix p m c cc nL s args Ts own) (hK : va_K (dC, dI) vwCl (tyA cq) s) (hP : va_P (dC, dI) vwCl (wA cq q S M o) H) (hD : va_D A (wA cq q S M o)) (hS : va_S A s.heap H locs) (hin : vp_in i 8) (hdg : decode cc pc = .ok (.iastore, 1))
    (kk : ∀ (H1 : Heap) (locs1 : List Loc), va_P (dC, dI) vwCl (wA cq q S (sB M 30 i.toNatClampNeg v) o) H1 → va_D A (wA cq q S (sB M 30 i.toNatClampNeg v) o) → va_S A s.heap H1 locs1 → W p l e R s m args below meth c H1 locs1 cells slots Q (F0 m (pc + 1) ls rest)) :
    W p l e R s m args below meth c H locs cells slots Q (F0 m pc ls (.int v :: .int i :: .ref (q 30) :: rest)) :=
  va_iast (D := (dC, dI)) F.1 F.2.1 hK hP hD hS 30 19 rfl rfl hin hdg (fun H1 locs1 hP hD hS => kk H1 locs1 hP hD hS)
theorem as_31 {l : Launch} {dC : Nat → ClassId} {dI : Nat → Nat → Nat} {cq : Nat → ClassId} {q : Nat → Nat} {S : CS} {M : MS} {o : Nat → Int64} {p : Program} {e : Env} {R : Room} {s : State} {m : MethodId} {args : Array Value} {below : List Frame} {meth : Method} {c : Code} {H : Heap} {locs : List Loc} {cells slots : Nat} {Q : State → Prop} {A : Nat → Prop} {cc : ByteArray} {Ts : List Cond} {pc nL : Nat} {own : String} {ls : Array Slot} {rest : List Value} {i : Int32} {v : Int32} (F : CallFix p m c cc nL s args Ts own) (hK : va_K (dC, dI) vwCl (tyA cq) s) (hP : va_P (dC, dI) vwCl (wA cq q S M o) H) (hD : va_D A (wA cq q S M o)) (hS : va_S A s.heap H locs) (hin : vp_in i 8) (hdg : decode cc pc = .ok (.iastore, 1))
    (kk : ∀ (H1 : Heap) (locs1 : List Loc), va_P (dC, dI) vwCl (wA cq q S (sB M 31 i.toNatClampNeg v) o) H1 → va_D A (wA cq q S (sB M 31 i.toNatClampNeg v) o) → va_S A s.heap H1 locs1 → W p l e R s m args below meth c H1 locs1 cells slots Q (F0 m (pc + 1) ls rest)) :
    W p l e R s m args below meth c H locs cells slots Q (F0 m pc ls (.int v :: .int i :: .ref (q 31) :: rest)) :=
  va_iast (D := (dC, dI)) F.1 F.2.1 hK hP hD hS 31 20 rfl rfl hin hdg (fun H1 locs1 hP hD hS => kk H1 locs1 hP hD hS)
theorem as_32 {l : Launch} {dC : Nat → ClassId} {dI : Nat → Nat → Nat} {cq : Nat → ClassId} {q : Nat → Nat} {S : CS} {M : MS} {o : Nat → Int64} {p : Program} {e : Env} {R : Room} {s : State} {m : MethodId} {args : Array Value} {below : List Frame} {meth : Method} {c : Code} {H : Heap} {locs : List Loc} {cells slots : Nat} {Q : State → Prop} {A : Nat → Prop} {cc : ByteArray} {Ts : List Cond} {pc nL : Nat} {own : String} {ls : Array Slot} {rest : List Value} {i : Int32} {v : Int32} (F : CallFix p m c cc nL s args Ts own) (hK : va_K (dC, dI) vwCl (tyA cq) s) (hP : va_P (dC, dI) vwCl (wA cq q S M o) H) (hD : va_D A (wA cq q S M o)) (hS : va_S A s.heap H locs) (hin : vp_in i 9) (hdg : decode cc pc = .ok (.iastore, 1))
    (kk : ∀ (H1 : Heap) (locs1 : List Loc), va_P (dC, dI) vwCl (wA cq q S (sB M 32 i.toNatClampNeg v) o) H1 → va_D A (wA cq q S (sB M 32 i.toNatClampNeg v) o) → va_S A s.heap H1 locs1 → W p l e R s m args below meth c H1 locs1 cells slots Q (F0 m (pc + 1) ls rest)) :
    W p l e R s m args below meth c H locs cells slots Q (F0 m pc ls (.int v :: .int i :: .ref (q 32) :: rest)) :=
  va_iast (D := (dC, dI)) F.1 F.2.1 hK hP hD hS 32 21 rfl rfl hin hdg (fun H1 locs1 hP hD hS => kk H1 locs1 hP hD hS)
theorem ne_i {x k : Int32} {n : Int} (hk : k.toInt = n) (h : ¬ x = k) : ¬ x.toInt = n := fun e => h (Int32.toInt_inj.mp (e.trans hk.symm))
def bz (r : Int32) : Bool := decide (narrow .boolean (.int r) = .int r)
theorem bz_ok {r : Int32} (h : bz r = true) : narrow .boolean (.int r) = .int r := of_decide_eq_true h
