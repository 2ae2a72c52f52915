/-! the law's walk: what holds in it; a static method of its own -/
def LC (p : Program) (s : State) (m : MethodId) (c : Code) (b L : Nat) (xs : Nat → Int32) (dC : Nat → ClassId) (dI : Nat → Nat → Nat) (cq : Nat → ClassId) (q : Nat → Nat) : Prop :=
  p.tables.exec = Jvm.exec ∧ c.code = cL_law ∧ c.maxLocals = 9 ∧ s.vm.findClass RL = some m.cls ∧ (∀ w ∈ wsL_law, w.before #[Value.ref b] s = true) ∧ va_X b L xs s s.heap ∧ b < s.heap.size ∧ va_K (dC, dI) vwCl (tyA cq) s ∧ EV s.heap.size q s
theorem LC.dr {p : Program} {s : State} {m : MethodId} {c : Code} {b L : Nat} {xs : Nat → Int32} {dC : Nat → ClassId} {dI : Nat → Nat → Nat} {cq : Nat → ClassId} {q : Nat → Nat} (h : LC p s m c b L xs dC dI cq q) (d : Drawn) : LC p (s.setDrawn d) m c b L xs dC dI cq q := by
  obtain ⟨h1, h2, h3, h4, h5, h6, h7, h8, h9⟩ := h
  exact ⟨h1, h2, h3, h4, dr_words h5 d, h6, h7, va_K.moved (u := s) (U := s.setDrawn d) (Vm.Alike.refl s.vm) h8, NW.same rfl h9.1, EH.same rfl rfl h9.2⟩
theorem caWS_i {l : Launch} {dC : Nat → ClassId} {dI : Nat → Nat → Nat} {cq : Nat → ClassId} {p : Program} {e : Env} {R : Room} {s : State} {m : MethodId} {args : Array Value} {below : List Frame} {meth : Method} {c : Code} {H : Heap} {locs : List Loc} {cells slots : Nat} {Q : State → Prop} {A : Nat → Prop} {w : va_W} {U : Type} {wf : U → va_W} {post : Int32 → U → Prop} {y : MethodName} {cc bytes : ByteArray} {maxL nL n index mc ms : Nat} {ret : Option FieldType} {hh : List (Nat × Nat × Nat × Nat)} {ws Ts : List Cond} {rm : Room} {own : String} {As rest st0 : List Value} {pc : Nat} {ls : Array Slot} {Dm : Nat → Prop} {X : State → Prop}
    (hM : Met l y ws rm (PreW Dm X dC dI cq w H.size As) (va_Qi post (fun u t => BkW dC dI cq (va_A w H.size) (wf u) t) (va_A w H.size)) mc ms (va_A w H.size))
    (F : CallFix p m c cc nL s args Ts own) (cw : vx_CSW R s args own index y bytes maxL ret hh ws rm mc ms n) (hK : va_K (dC, dI) vwCl (tyA cq) s) (hP : va_P (dC, dI) vwCl w H) (hD : va_D A w) (hDm : ∀ a, A a → Dm a) (hS : va_S A s.heap H locs) (hA : ∀ a, s.heap.size ≤ a → A a)
    (hXb : ∀ (U : State) (g : JFrame) (mk : MethodId) (a : Array Value), X U → X (U.calling g mk a)) (hXc : ∀ U : State, U.heap = H → s.WarmedH U.vm → X U)
    (hn : As.length = n) (hsize : ls.size = nL) (hst : st0 = As.reverse ++ rest) (hW : (rest.map fun v => v.category).sum ≤ 8) (hdg : decode cc pc = .ok (.invokestatic index, 3)) (hf : cells + mc ≤ R.cells ∧ slots + ms ≤ R.slots)
    (kk : ∀ (H1 : Heap) (locs1 : List Loc) (r : Int32) (u : U), post r u → va_P (dC, dI) vwCl (wf u) H1 → va_D A (wf u) → va_S A s.heap H1 locs1 → W p l e R s m args below meth c H1 locs1 (cells + mc) (slots + ms) Q (F0 m (pc + 3) ls (.int r :: rest))) :
    W p l e R s m args below meth c H locs cells slots Q (F0 m pc ls st0) := by
  have hFc := freeW hD hS hA
  refine va_calli (vx_runSW (As := As) (rest := rest) F hM cw ⟨PreW.blind hXb, fun U hU hW => ⟨rfl, by rw [hU], by rw [hU]; exact hP, va_K.moved hW.alike hK, hD.weaken (fun _ _ _ h => hDm _ h), fun a h => hDm a (hA a (Nat.le_trans hS.1 h)), hXc U hU hW⟩⟩ rfl hn hsize hst (lv_room hW) hdg hf) hS (fun a _ h => hFc a h) hFc (fun r u t H1 locs1 ht hvm hw hB hz1 hk1 hS1 => ?_)
  obtain ⟨hP1, hK1, hD1⟩ := hB
  rw [ht] at hP1
  exact kk H1 locs1 r u hw hP1 (hD1.weaken (fun i z _ hz => hFc _ hz)) hS1
theorem lw_fin {cd : Nat → Int32} {ok : Nat → Prop} {z : Int32 × MS} {r9 : Int32} {S1 : CS} {o o1 : Nat → Int64} (h9 : (r9 = 0 ∧ ∃ v, Sq7 cd ok (.ok v, S1) z ∧ o1 = vp_updL o (0 : Int32).toNatClampNeg v.toInt64) ∨ (∃ e, Sq7 cd ok (.error e, S1) z ∧ r9 = cd e ∧ o1 = o)) : z.2.1 0 = r9 ∧ (r9 = 0 → o1 (0 : Int32).toNatClampNeg = z.1.toInt64) ∧ Rel S1 z.2 := by
  rcases h9 with ⟨hr, v, hst, ho⟩ | ⟨k, hst, hr, ho⟩
  · obtain ⟨h0, hv, hrel⟩ := hst
    refine ⟨h0.trans hr.symm, fun _ => ?_, hrel⟩
    rw [ho, ← hv]
    exact pk_uLs
  · obtain ⟨_, h0, hne, hrel⟩ := hst
    exact ⟨h0.trans hr.symm, fun h => absurd (hr.symm.trans h) hne, hrel⟩
theorem sqa_use {x : Option (Except Nat Unit × CS)} {w : Nat → Int32} {y : Option (Int32 × MS)} {cd : Nat → Int32} {ok : Nat → Prop} (h : Sqa x w y cd ok) {b1 : Int32} {M1 : MS} (e8 : y = some (b1, M1)) : ∃ rs, x = some rs ∧ (∀ S9, rs = (.ok (), S9) → S9.2.2.2.1.length < 10 ∧ (S9.2.2.2.2 = none → S9.2.2.2.1 = [])) ∧ (∀ k u, rs = (.error k, u) → ok k) ∧ ∀ (o o1 : Nat → Int64) (r9 : Int32) (S1 : CS), ((r9 = 0 ∧ ∃ v, (∃ (S9 : CS) (a b : Nat), rs = (.ok (), S9) ∧ v = nI S9.2.2.2.1.length ∧ S1 = addF S9 (a, w) b) ∧ o1 = vp_updL o (0 : Int32).toNatClampNeg v.toInt64) ∨ (∃ e, rs = (.error e, S1) ∧ r9 = cd e ∧ o1 = o)) → M1.1 0 = r9 ∧ (r9 = 0 → o1 (0 : Int32).toNatClampNeg = b1.toInt64) ∧ Rel S1 M1 := by
  rcases h with ⟨z, hx, hroom, hy, h0, hrel⟩ | ⟨k, z, hx, hy, hk, h0, hne, hrel⟩
  · rw [hy] at e8
    injection e8 with e8
    injection e8 with eb eM
    refine ⟨_, hx, ?_, ?_, ?_⟩
    · intro S9 h
      injection h with h1 h2
      rw [← h2]
      exact hroom
    · intro k u h
      injection h with h1 h2
      cases h1
    · intro o o1 r9 S1 h9
      rcases h9 with ⟨hr, v, ⟨S9, a, b, hs, hv, hS1⟩, ho⟩ | ⟨k, hs, _⟩
      · injection hs with h1 h2
        rw [← eM]
        refine ⟨h0.trans hr.symm, fun _ => ?_, ?_⟩
        · rw [ho, hv, ← h2, ← eb]
          exact pk_uLs
        · rw [hS1, ← h2]
          exact hrel a b
      · injection hs with h1 h2
        cases h1
  · rw [hy] at e8
    injection e8 with e8
    injection e8 with eb eM
    refine ⟨_, hx, ?_, ?_, ?_⟩
    · intro S9 h
      injection h with h1 h2
      cases h1
    · intro k' u h
      injection h with h1 h2
      injection h1 with h1
      rw [← h1]
      exact hk
    · intro o o1 r9 S1 h9
      rcases h9 with ⟨hr, v, ⟨S9, a, b, hs, _⟩, _⟩ | ⟨k', hs, hr, ho⟩
      · injection hs with h1 h2
        cases h1
      · injection hs with h1 h2
        injection h1 with h1
        rw [← eM]
        refine ⟨?_, fun h => ?_, ?_⟩
        · rw [h0, hr, h1]
        · rw [hr, ← h1] at h
          exact absurd h hne
        · rw [← h2]
          exact hrel
