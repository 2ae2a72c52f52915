theorem pG_mc {l : Launch} {dC : Nat → ClassId} {dI : Nat → Nat → Nat} {cq : Nat → ClassId} {q : Nat → Nat} {S : CS} {M : MS} {o : Nat → Int64} {p : Program} {e : Env} {R : Room} {s : State} {m : MethodId} {args : Array Value} {below : List Frame} {meth : Method} {c : Code} {H : Heap} {locs : List Loc} {cells slots : Nat} {Q : State → Prop} {A : Nat → Prop} {mc : Int32} {ed : Nat} {z : Int32} {tl : va_W} {cc : ByteArray} {Ts : List Cond} {index pc nL : Nat} {ls : Array Slot} {rest : List Value} {v : Int32} (F : CallFix p m c cc nL s args Ts RJx4a65c) (hin : ∀ w ∈ u_ws RJx4a65c TJx4a65c 3, w ∈ Ts) (hlink : (Cond.fieldLink RJx4a65c index "java/util/ArrayList" "modCount" "I").before args s = true) (hsame : (Cond.sameField "java/util/ArrayList" "java/util/AbstractList" "modCount" "I").before args s = true) (hK : va_K (dC, dI) vwCl (tyA cq) s) (hP : va_P (dC, dI) vwCl (wG cq q S M o mc ed z tl) H) (hD : va_D A (wG cq q S M o mc ed z tl)) (hS : va_S A s.heap H locs) (hdg : decode cc pc = .ok (.putfield index, 3))
    (kk : ∀ (H1 : Heap) (locs1 : List Loc), va_P (dC, dI) vwCl (wG cq q S M o v ed z tl) H1 → va_D A (wG cq q S M o v ed z tl) → va_S A s.heap H1 locs1 → W p l e R s m args below meth c H1 locs1 cells slots Q (F0 m (pc + 3) ls rest)) :
    W p l e R s m args below meth c H locs cells slots Q (F0 m pc ls (.int v :: .ref (q 3) :: rest)) :=
  va_put (D := (dC, dI)) (ci := 0) (v := .int v) (ty := .int) (C := RJx4a65c) (T := TJx4a65c) (N := 3) F.1 F.2.1 F.2.2.2.2 hin tyJx4a65c tyJx4a65c_ok nmJx4a65c F.2.2.2.1 hK hP hD hS 3 rfl rfl 0 (by decide) hlink (u_same hsame) rfl (by decide +kernel) rfl rfl (Nat.le_of_ble_eq_true rfl) hdg (fun H1 locs1 hP hD hS => kk H1 locs1 hP hD hS)
theorem pG_ed {l : Launch} {dC : Nat → ClassId} {dI : Nat → Nat → Nat} {cq : Nat → ClassId} {q : Nat → Nat} {S : CS} {M : MS} {o : Nat → Int64} {p : Program} {e : Env} {R : Room} {s : State} {m : MethodId} {args : Array Value} {below : List Frame} {meth : Method} {c : Code} {H : Heap} {locs : List Loc} {cells slots : Nat} {Q : State → Prop} {A : Nat → Prop} {mc : Int32} {ed : Nat} {z : Int32} {tl : va_W} {cc : ByteArray} {Ts : List Cond} {index pc nL : Nat} {ls : Array Slot} {rest : List Value} {v : Nat} (F : CallFix p m c cc nL s args Ts RJx4a65c) (hin : ∀ w ∈ u_ws RJx4a65c TJx4a65c 3, w ∈ Ts) (hlink : (Cond.fieldLink RJx4a65c index "java/util/ArrayList" "elementData" "[Ljava/lang/Object;").before args s = true) (hK : va_K (dC, dI) vwCl (tyA cq) s) (hP : va_P (dC, dI) vwCl (wG cq q S M o mc ed z tl) H) (hD : va_D A (wG cq q S M o mc ed z tl)) (hS : va_S A s.heap H locs) (hdg : decode cc pc = .ok (.putfield index, 3))
    (kk : ∀ (H1 : Heap) (locs1 : List Loc), va_P (dC, dI) vwCl (wG cq q S M o mc v z tl) H1 → va_D A (wG cq q S M o mc v z tl) → va_S A s.heap H1 locs1 → W p l e R s m args below meth c H1 locs1 cells slots Q (F0 m (pc + 3) ls rest)) :
    W p l e R s m args below meth c H locs cells slots Q (F0 m pc ls (.ref v :: .ref (q 3) :: rest)) :=
  va_put (D := (dC, dI)) (ci := 0) (v := .ref v) (ty := (.array (.object "java/lang/Object"))) (C := RJx4a65c) (T := TJx4a65c) (N := 3) F.1 F.2.1 F.2.2.2.2 hin tyJx4a65c tyJx4a65c_ok nmJx4a65c F.2.2.2.1 hK hP hD hS 3 rfl rfl 1 (by decide) hlink (fun _ h9 => h9) rfl (by decide +kernel) rfl rfl (Nat.le_of_ble_eq_true rfl) hdg (fun H1 locs1 hP hD hS => kk H1 locs1 hP hD hS)
theorem pG_sz {l : Launch} {dC : Nat → ClassId} {dI : Nat → Nat → Nat} {cq : Nat → ClassId} {q : Nat → Nat} {S : CS} {M : MS} {o : Nat → Int64} {p : Program} {e : Env} {R : Room} {s : State} {m : MethodId} {args : Array Value} {below : List Frame} {meth : Method} {c : Code} {H : Heap} {locs : List Loc} {cells slots : Nat} {Q : State → Prop} {A : Nat → Prop} {mc : Int32} {ed : Nat} {z : Int32} {tl : va_W} {cc : ByteArray} {Ts : List Cond} {index pc nL : Nat} {ls : Array Slot} {rest : List Value} {v : Int32} (F : CallFix p m c cc nL s args Ts RJx4a65c) (hin : ∀ w ∈ u_ws RJx4a65c TJx4a65c 3, w ∈ Ts) (hlink : (Cond.fieldLink RJx4a65c index "java/util/ArrayList" "size" "I").before args s = true) (hK : va_K (dC, dI) vwCl (tyA cq) s) (hP : va_P (dC, dI) vwCl (wG cq q S M o mc ed z tl) H) (hD : va_D A (wG cq q S M o mc ed z tl)) (hS : va_S A s.heap H locs) (hdg : decode cc pc = .ok (.putfield index, 3))
    (kk : ∀ (H1 : Heap) (locs1 : List Loc), va_P (dC, dI) vwCl (wG cq q S M o mc ed v tl) H1 → va_D A (wG cq q S M o mc ed v tl) → va_S A s.heap H1 locs1 → W p l e R s m args below meth c H1 locs1 cells slots Q (F0 m (pc + 3) ls rest)) :
    W p l e R s m args below meth c H locs cells slots Q (F0 m pc ls (.int v :: .ref (q 3) :: rest)) :=
  va_put (D := (dC, dI)) (ci := 0) (v := .int v) (ty := .int) (C := RJx4a65c) (T := TJx4a65c) (N := 3) F.1 F.2.1 F.2.2.2.2 hin tyJx4a65c tyJx4a65c_ok nmJx4a65c F.2.2.2.1 hK hP hD hS 3 rfl rfl 2 (by decide) hlink (fun _ h9 => h9) rfl (by decide +kernel) rfl rfl (Nat.le_of_ble_eq_true rfl) hdg (fun H1 locs1 hP hD hS => kk H1 locs1 hP hD hS)
/-- the rows' addresses by their places -/
def adr (fl : List FT) : Nat → Option Nat := fun j => (fl[j]?).map (fun f => f.1)
def clr (S : CS) : CS := (upd S.1 4 (S.1 4 + 1), S.2.1, S.2.2.1, [], S.2.2.2.2)
def mJx4a65c_clear_da8c8 (S : CS) : Option (CS) := match S.2.2.2.2 with
  | none => if S.2.2.2.1.length = 0 then some (clr S) else none
  | some _ => if S.2.2.2.1.length ≤ 10 then some (clr S) else none
theorem wG_some {cq : Nat → ClassId} {q : Nat → Nat} {S : CS} {M : MS} {o : Nat → Int64} {a : Nat} (hm : S.2.2.2.2 = some a) : wA cq q S M o = wG cq q S M o (S.1 4) a (nI S.2.2.2.1.length) ((a, .inl (cq 34, 10, .inr (.inr (.inr (.inr (adr S.2.2.2.1)))))) :: S.2.2.2.1.map wFc) := by
  rw [wA_G]
  unfold edA wF wEd
  rw [hm]
  rfl
theorem wG_none {cq : Nat → ClassId} {q : Nat → Nat} {S : CS} {M : MS} {o : Nat → Int64} (hm : S.2.2.2.2 = none) : wA cq q S M o = wG cq q S M o (S.1 4) (q 34) (nI S.2.2.2.1.length) (S.2.2.2.1.map wFc) := by
  rw [wA_G]
  unfold edA wF wEd
  rw [hm]
  rfl
/-- a world whose list has other fields is the world of another state -/
theorem wG_back (cq : Nat → ClassId) (q : Nat → Nat) (S : CS) (M : MS) (o : Nat → Int64) (v : Int32) (a : Nat) (fl : List FT) : wG cq q S M o v a (nI fl.length) ((a, .inl (cq 34, 10, .inr (.inr (.inr (.inr (adr fl)))))) :: fl.map wFc) = wA cq q (upd S.1 4 v, S.2.1, S.2.2.1, fl, some a) M o := rfl
theorem wG_back0 (cq : Nat → ClassId) (q : Nat → Nat) (S : CS) (M : MS) (o : Nat → Int64) (v : Int32) : wG cq q S M o v (q 34) 0 [] = wA cq q (upd S.1 4 v, S.2.1, S.2.2.1, [], none) M o := rfl
abbrev rmJx4a65c_clear_da8c8 : Room := { frames := 0, cells := 0, slots := 0, locals := 0 }
theorem hdJx4a65c_clear_da8c8 : yJx4a65c_clear_da8c8.cls = RJx4a65c ∧ yJx4a65c_clear_da8c8.cls ≠ "java/lang/invoke/MethodHandle" ∧ yJx4a65c_clear_da8c8.cls ≠ "java/lang/invoke/VarHandle" ∧ (parseMethodDescriptor yJx4a65c_clear_da8c8.desc).map (fun d => d.parameters.length) = some 0 := by decide +kernel
set_option maxRecDepth 100000 in
set_option maxHeartbeats 8000000 in
theorem ctJx4a65c_clear_da8c8 (l : Launch) (dC : Nat → ClassId) (dI : Nat → Nat → Nat) (cq : Nat → ClassId) (q : Nat → Nat) (S : CS) (M : MS) (o : Nat → Int64) (sz h0 : Nat) (SS : CS) (h : mJx4a65c_clear_da8c8 S = some SS) : CtC_v l yJx4a65c_clear_da8c8 wsJx4a65c_clear_da8c8 rmJx4a65c_clear_da8c8 (fun a => h0 ≤ a) (EV h0 q) dC dI cq q S M o sz [.ref (q 3)] SS := by
  refine enC_v (cc := cJx4a65c_clear_da8c8) (maxL := 4) (by decide) rfl (Nat.le_of_ble_eq_true rfl) (fun p e s m args below meth c A Q ls F hA hP hK hD hDm hX hS hl hend => ?_)
  obtain ⟨hx, hb, hml, hown, hts⟩ := id F
  have hown : s.vm.findClass RJx4a65c = some m.cls := hown
  have F : CallFix p m c cJx4a65c_clear_da8c8 4 s args wsJx4a65c_clear_da8c8 RJx4a65c := F
  have hl : lv_has ls 4 [(0, .ref (q 3))] := hl
  have hin : ∀ w ∈ u_ws RJx4a65c TJx4a65c 3, w ∈ wsJx4a65c_clear_da8c8 := fun w h => List.mem_cons_of_mem _ (List.mem_append_right _ h)
  unfold mJx4a65c_clear_da8c8 at h
  split at h
  · rename_i hm
    obtain ⟨g1, h⟩ := gd h
    have hfl : S.2.2.2.1 = [] := List.length_eq_zero_iff.mp g1
    rw [wG_none hm, hfl] at hP hD
    have hP : va_P (dC, dI) vwCl (wG cq q S M o (S.1 4) (q 34) 0 []) s.heap := hP
    have hD : va_D A (wG cq q S M o (S.1 4) (q 34) 0 []) := hD
    refine lv_aload_n hx hb dJx4a65c_clear_da8c8_0 rfl (lv_at hl 0 rfl) ?_
    refine lv_dup hx hb dJx4a65c_clear_da8c8_1 rfl ?_
    refine va_get (D := (dC, dI)) (ci := 0) (v := .int (S.1 4)) (C := RJx4a65c) (T := TJx4a65c) (N := 3) hx hb hts hin hown hK hP 3 rfl rfl 0 (by decide) (hts (.fieldLink RJx4a65c 63 "java/util/ArrayList" "modCount" "I") (mm 1 rfl)) (u_same (hts (.sameField "java/util/ArrayList" "java/util/AbstractList" "modCount" "I") (mm 2 rfl))) rfl dJx4a65c_clear_da8c8_2 ?_
    refine lv_iconst (v := (1 : Int32)) hx hb dJx4a65c_clear_da8c8_5 (by decide) ?_
    refine lv_iadd hx hb dJx4a65c_clear_da8c8_6 ?_
    refine pG_mc F hin (hts (.fieldLink RJx4a65c 63 "java/util/ArrayList" "modCount" "I") (mm 1 rfl)) (hts (.sameField "java/util/ArrayList" "java/util/AbstractList" "modCount" "I") (mm 2 rfl)) hK hP hD hS dJx4a65c_clear_da8c8_7 (fun H locs hP hD hS => ?_)
    refine lv_aload_n hx hb dJx4a65c_clear_da8c8_10 rfl (lv_at hl 0 rfl) ?_
    refine va_get (D := (dC, dI)) (ci := 0) (v := .ref (q 34)) (C := RJx4a65c) (T := TJx4a65c) (N := 3) hx hb hts hin hown hK hP 3 rfl rfl 1 (by decide) (hts (.fieldLink RJx4a65c 9 "java/util/ArrayList" "elementData" "[Ljava/lang/Object;") (mm 3 rfl)) (fun _ h9 => h9) rfl dJx4a65c_clear_da8c8_11 ?_
    refine lv_astore_n (lv' := [(1, .ref (q 34)), (0, .ref (q 3))]) hx hb dJx4a65c_clear_da8c8_14 rfl hl (by decide) rfl (fun ls hl => ?_)
    refine lv_aload_n hx hb dJx4a65c_clear_da8c8_15 rfl (lv_at hl 1 rfl) ?_
    refine va_get (D := (dC, dI)) (ci := 0) (v := .int 0) (C := RJx4a65c) (T := TJx4a65c) (N := 3) hx hb hts hin hown hK hP 3 rfl rfl 2 (by decide) (hts (.fieldLink RJx4a65c 48 "java/util/ArrayList" "size" "I") (mm 4 rfl)) (fun _ h9 => h9) rfl dJx4a65c_clear_da8c8_16 ?_
    refine lv_istore_n (lv' := [(2, .int 0), (1, .ref (q 34)), (0, .ref (q 3))]) hx hb dJx4a65c_clear_da8c8_19 rfl hl (by decide) rfl (fun ls hl => ?_)
    refine lv_aload_n hx hb dJx4a65c_clear_da8c8_20 rfl (lv_at hl 2 rfl) ?_
    refine lv_iconst (v := (0 : Int32)) hx hb dJx4a65c_clear_da8c8_21 (by decide) ?_
    refine lv_dup_x1 hx hb dJx4a65c_clear_da8c8_22 rfl rfl ?_
    refine pG_sz F hin (hts (.fieldLink RJx4a65c 48 "java/util/ArrayList" "size" "I") (mm 4 rfl)) hK hP hD hS dJx4a65c_clear_da8c8_23 (fun H locs hP hD hS => ?_)
    refine lv_istore_n (lv' := [(3, .int 0), (2, .int 0), (1, .ref (q 34)), (0, .ref (q 3))]) hx hb dJx4a65c_clear_da8c8_26 rfl hl (by decide) rfl (fun ls hl => ?_)
    refine lv_iload_n hx hb dJx4a65c_clear_da8c8_27 rfl (lv_at hl 0 rfl) ?_
    refine lv_iload_n hx hb dJx4a65c_clear_da8c8_28 rfl (lv_at hl 1 rfl) ?_
    refine lv_icmp_ge (tgt := 42) hx hb dJx4a65c_clear_da8c8_29 (by decide) (fun c1 => ?_) (fun c1 => absurd (by decide) c1)
    rw [wG_back0] at hP hD
    have e9 : clr S = (upd S.1 4 (S.1 4 + 1), S.2.1, S.2.2.1, [], none) := by unfold clr; rw [hm]
    rw [← e9] at hP hD
    exact hend _ _ _ _ _ h hP hD hS dJx4a65c_clear_da8c8_42
  · rename_i a hm
    obtain ⟨g1, h⟩ := gd h
    rw [wG_some hm] at hP hD
    have hL : ∀ (k i : Nat) (g : Nat → Option Nat), i + k = S.2.2.2.1.length → (∀ j, j < i → g j = none) → (∀ j, i ≤ j → g j = adr S.2.2.2.1 j) → ∀ (H : Heap) (locs : List Loc) (ls : Array Slot), va_P (dC, dI) vwCl (wG cq q S M o (S.1 4 + 1) a 0 ((a, .inl (cq 34, 10, .inr (.inr (.inr (.inr g))))) :: S.2.2.2.1.map wFc)) H → va_D A (wG cq q S M o (S.1 4 + 1) a 0 ((a, .inl (cq 34, 10, .inr (.inr (.inr (.inr g))))) :: S.2.2.2.1.map wFc)) → va_S A s.heap H locs → lv_has ls 4 [(0, .ref (q 3)), (1, .ref a), (2, .int (nI S.2.2.2.1.length)), (3, .int (nI i))] → W p l e rmJx4a65c_clear_da8c8 s m args below meth c H locs 0 0 Q (F0 m 27 ls []) := by
      intro k
      induction k with
      | zero =>
        intro i g hi hg1 hg2 H locs ls hP hD hS hl
        refine lv_iload_n hx hb dJx4a65c_clear_da8c8_27 rfl (lv_at hl 3 rfl) ?_
        refine lv_iload_n hx hb dJx4a65c_clear_da8c8_28 rfl (lv_at hl 2 rfl) ?_
        refine lv_icmp_ge (tgt := 42) hx hb dJx4a65c_clear_da8c8_29 (by decide) (fun c1 => ?_) (fun c1 => absurd (nI_le (by omega) (by omega)) c1)
        have hg : g = adr [] := by
          funext j
          rcases Nat.lt_or_ge j i with hj | hj
          · rw [hg1 j hj]; rfl
          · rw [hg2 j hj]
            unfold adr
            rw [List.getElem?_eq_none (by omega)]
            rfl
        rw [hg] at hP hD
        have hP := hP.sub (ws' := wG cq q S M o (S.1 4 + 1) a (nI ([] : List FT).length) ((a, .inl (cq 34, 10, .inr (.inr (.inr (.inr (adr [])))))) :: ([] : List FT).map wFc)) [0, 1, 2, 3, 4, 5, 6, 7, 8, 9, 10, 11, 12, 13, 14, 15, 16, 17, 18, 19, 20, 21, 22, 23, 24, 25, 26, 27, 28, 29, 30, 31, 32, 33, 34] rfl
        have hD := hD.sub (ws' := wG cq q S M o (S.1 4 + 1) a (nI ([] : List FT).length) ((a, .inl (cq 34, 10, .inr (.inr (.inr (.inr (adr [])))))) :: ([] : List FT).map wFc)) [0, 1, 2, 3, 4, 5, 6, 7, 8, 9, 10, 11, 12, 13, 14, 15, 16, 17, 18, 19, 20, 21, 22, 23, 24, 25, 26, 27, 28, 29, 30, 31, 32, 33, 34] (by decide) rfl
        rw [wG_back] at hP hD
        have e9 : clr S = (upd S.1 4 (S.1 4 + 1), S.2.1, S.2.2.1, [], some a) := by unfold clr; rw [hm]
        rw [← e9] at hP hD
        exact hend _ _ _ _ _ h hP hD hS dJx4a65c_clear_da8c8_42
      | succ k ih =>
        intro i g hi hg1 hg2 H locs ls hP hD hS hl
        refine lv_iload_n hx hb dJx4a65c_clear_da8c8_27 rfl (lv_at hl 3 rfl) ?_
        refine lv_iload_n hx hb dJx4a65c_clear_da8c8_28 rfl (lv_at hl 2 rfl) ?_
        refine lv_icmp_ge (tgt := 42) hx hb dJx4a65c_clear_da8c8_29 (by decide) (fun c1 => absurd c1 (nI_ge (by omega) (by omega))) (fun c1 => ?_)
        refine lv_aload_n hx hb dJx4a65c_clear_da8c8_32 rfl (lv_at hl 1 rfl) ?_
        refine lv_iload_n hx hb dJx4a65c_clear_da8c8_33 rfl (lv_at hl 3 rfl) ?_
        refine lv_null hx hb dJx4a65c_clear_da8c8_34 ?_
        refine va_astqN (D := (dC, dI)) hx hb hK hP hD hS 34 24 rfl rfl (vp_in_nI (show i < 10 by omega) (by decide)) dJx4a65c_clear_da8c8_35 (fun H locs hP hD hS => ?_)
        refine lv_iinc (v := nI (i + 1)) (lv' := [(3, .int (nI (i + 1))), (0, .ref (q 3)), (1, .ref a), (2, .int (nI S.2.2.2.1.length))]) hx hb dJx4a65c_clear_da8c8_36 hl (k := 3) rfl (nI_1 i) (by decide) rfl (fun ls hl => ?_)
        refine lv_goto (tgt := 27) hx hb dJx4a65c_clear_da8c8_39 (by decide) ?_
        rw [nI_clamp (by omega)] at hP hD
        refine ih (i + 1) (va_up g i none) (by omega) (fun j hj => ?_) (fun j hj => ?_) _ _ _ hP hD hS (lv_sub hl [1, 2, 3, 0] rfl)
        · rcases Nat.lt_or_ge j i with h1 | h1
          · rw [va_up_ne _ _ (by omega)]; exact hg1 j h1
          · have : j = i := by omega
            subst this
            exact va_up_self _ _ _
        · rw [va_up_ne _ _ (by omega)]; exact hg2 j (by omega)
    refine lv_aload_n hx hb dJx4a65c_clear_da8c8_0 rfl (lv_at hl 0 rfl) ?_
    refine lv_dup hx hb dJx4a65c_clear_da8c8_1 rfl ?_
    refine va_get (D := (dC, dI)) (ci := 0) (v := .int (S.1 4)) (C := RJx4a65c) (T := TJx4a65c) (N := 3) hx hb hts hin hown hK hP 3 rfl rfl 0 (by decide) (hts (.fieldLink RJx4a65c 63 "java/util/ArrayList" "modCount" "I") (mm 1 rfl)) (u_same (hts (.sameField "java/util/ArrayList" "java/util/AbstractList" "modCount" "I") (mm 2 rfl))) rfl dJx4a65c_clear_da8c8_2 ?_
    refine lv_iconst (v := (1 : Int32)) hx hb dJx4a65c_clear_da8c8_5 (by decide) ?_
    refine lv_iadd hx hb dJx4a65c_clear_da8c8_6 ?_
    refine pG_mc F hin (hts (.fieldLink RJx4a65c 63 "java/util/ArrayList" "modCount" "I") (mm 1 rfl)) (hts (.sameField "java/util/ArrayList" "java/util/AbstractList" "modCount" "I") (mm 2 rfl)) hK hP hD hS dJx4a65c_clear_da8c8_7 (fun H locs hP hD hS => ?_)
    refine lv_aload_n hx hb dJx4a65c_clear_da8c8_10 rfl (lv_at hl 0 rfl) ?_
    refine va_get (D := (dC, dI)) (ci := 0) (v := .ref a) (C := RJx4a65c) (T := TJx4a65c) (N := 3) hx hb hts hin hown hK hP 3 rfl rfl 1 (by decide) (hts (.fieldLink RJx4a65c 9 "java/util/ArrayList" "elementData" "[Ljava/lang/Object;") (mm 3 rfl)) (fun _ h9 => h9) rfl dJx4a65c_clear_da8c8_11 ?_
    refine lv_astore_n (lv' := [(1, .ref a), (0, .ref (q 3))]) hx hb dJx4a65c_clear_da8c8_14 rfl hl (by decide) rfl (fun ls hl => ?_)
    refine lv_aload_n hx hb dJx4a65c_clear_da8c8_15 rfl (lv_at hl 1 rfl) ?_
    refine va_get (D := (dC, dI)) (ci := 0) (v := .int (nI S.2.2.2.1.length)) (C := RJx4a65c) (T := TJx4a65c) (N := 3) hx hb hts hin hown hK hP 3 rfl rfl 2 (by decide) (hts (.fieldLink RJx4a65c 48 "java/util/ArrayList" "size" "I") (mm 4 rfl)) (fun _ h9 => h9) rfl dJx4a65c_clear_da8c8_16 ?_
    refine lv_istore_n (lv' := [(2, .int (nI S.2.2.2.1.length)), (1, .ref a), (0, .ref (q 3))]) hx hb dJx4a65c_clear_da8c8_19 rfl hl (by decide) rfl (fun ls hl => ?_)
    refine lv_aload_n hx hb dJx4a65c_clear_da8c8_20 rfl (lv_at hl 2 rfl) ?_
    refine lv_iconst (v := (0 : Int32)) hx hb dJx4a65c_clear_da8c8_21 (by decide) ?_
    refine lv_dup_x1 hx hb dJx4a65c_clear_da8c8_22 rfl rfl ?_
    refine pG_sz F hin (hts (.fieldLink RJx4a65c 48 "java/util/ArrayList" "size" "I") (mm 4 rfl)) hK hP hD hS dJx4a65c_clear_da8c8_23 (fun H locs hP hD hS => ?_)
    refine lv_istore_n (lv' := [(3, .int 0), (2, .int (nI S.2.2.2.1.length)), (1, .ref a), (0, .ref (q 3))]) hx hb dJx4a65c_clear_da8c8_26 rfl hl (by decide) rfl (fun ls hl => ?_)
    exact hL S.2.2.2.1.length 0 (adr S.2.2.2.1) (by omega) (fun j hj => absurd hj (by omega)) (fun j _ => rfl) _ _ _ hP hD hS (lv_sub hl [3, 2, 1, 0] rfl)
