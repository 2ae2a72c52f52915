theorem hdJx4a65c_fastRemove_b59b0 : yJx4a65c_fastRemove_b59b0.cls = RJx4a65c ∧ yJx4a65c_fastRemove_b59b0.cls ≠ "java/lang/invoke/MethodHandle" ∧ yJx4a65c_fastRemove_b59b0.cls ≠ "java/lang/invoke/VarHandle" ∧ (parseMethodDescriptor yJx4a65c_fastRemove_b59b0.desc).map (fun d => d.parameters.length) = some 2 := by decide +kernel
theorem er_map {α β : Type} (f : α → β) : ∀ (l : List α) (i : Nat), (l.map f).eraseIdx i = (l.eraseIdx i).map f
  | [], _ => rfl
  | _ :: _, 0 => rfl
  | x :: l, i + 1 => by
    show f x :: (l.map f).eraseIdx i = f x :: (l.eraseIdx i).map f
    rw [er_map f l i]
def remF (S : CS) (i a : Nat) : CS := (upd S.1 4 (S.1 4 + 1), S.2.1, S.2.2.1, S.2.2.2.1.eraseIdx i, some a)
theorem er_at {α : Type} {X Y : List α} {i k : Nat} {z : α} (h : (X ++ Y.eraseIdx i)[k]? = some z) : (X ++ Y)[if k < X.length + i then k else k + 1]? = some z := by
  rcases Nat.lt_or_ge k X.length with h1 | h1
  · rw [if_pos (by omega), List.getElem?_append_left h1]
    rw [List.getElem?_append_left h1] at h
    exact h
  · rw [List.getElem?_append_right h1, List.getElem?_eraseIdx] at h
    by_cases h2 : k < X.length + i
    · rw [if_pos h2, List.getElem?_append_right h1]
      rw [if_pos (by omega)] at h
      exact h
    · rw [if_neg h2, List.getElem?_append_right (by omega)]
      rw [if_neg (by omega)] at h
      rw [show k + 1 - X.length = k - X.length + 1 by omega]
      exact h
theorem er_inj {n i : Nat} {x y : Nat} (h : (if x < n + i then x else x + 1) = (if y < n + i then y else y + 1)) : x = y := by
  by_cases h1 : x < n + i <;> by_cases h2 : y < n + i <;> simp only [h1, h2, if_true, if_false] at h <;> omega
theorem adr_rem (fl : List FT) (i : Nat) (hi : i < fl.length) (g : Nat → Option Nat) (hg : ∀ j, j ≠ fl.length - 1 → g j = if i ≤ j ∧ j < fl.length - 1 then adr fl (j + 1) else adr fl j) : va_up g (fl.length - 1) none = adr (fl.eraseIdx i) := by
  funext j
  by_cases h : j = fl.length - 1
  · subst h
    rw [va_up_self]
    unfold adr
    rw [List.getElem?_eq_none (by rw [List.length_eraseIdx_of_lt hi]; omega)]
    rfl
  · rw [va_up_ne _ _ h, hg j h]
    unfold adr
    rw [List.getElem?_eraseIdx]
    by_cases h1 : j < i
    · rw [if_neg (by omega), if_pos h1]
    · rw [if_neg h1]
      by_cases h2 : j < fl.length - 1
      · rw [if_pos (by omega)]
      · rw [if_neg (by omega), List.getElem?_eq_none (by omega), List.getElem?_eq_none (by omega)]
theorem wG_flt {cq : Nat → ClassId} {q : Nat → Nat} {S : CS} {M : MS} {o : Nat → Int64} {mc : Int32} {a : Nat} {z : Int32} {e : Nat × va_E} {fl : List FT} {w : FT} {j : Nat} (h : fl[j]? = some w) : (wG cq q S M o mc a z (e :: fl.map wFc))[35 + j]? = some (w.1, .inr (3, [.int (w.2 0), .int (w.2 1), .int (w.2 2), .int (w.2 3), .int (w.2 4)])) := by
  have h1 : (wG cq q S M o mc a z (e :: fl.map wFc))[35 + j]? = (fl.map wFc)[j]? := by
    unfold wG
    rw [Nat.add_comm 35 _]
    rfl
  rw [h1, List.getElem?_map, h]
  rfl
abbrev rmJx4a65c_fastRemove_b59b0 : Room := { frames := 1, cells := 0, slots := 0, locals := 120 }
set_option maxRecDepth 100000 in
set_option maxHeartbeats 8000000 in
theorem ctJx4a65c_fastRemove_b59b0 (l : Launch) (dC : Nat → ClassId) (dI : Nat → Nat → Nat) (cq : Nat → ClassId) (q : Nat → Nat) (S : CS) (M : MS) (o : Nat → Int64) (sz h0 : Nat) (a i : Nat) (hm : S.2.2.2.2 = some a) (hi : i < S.2.2.2.1.length) (hn : S.2.2.2.1.length ≤ 10) : CtC_v l yJx4a65c_fastRemove_b59b0 wsJx4a65c_fastRemove_b59b0 rmJx4a65c_fastRemove_b59b0 (fun a => h0 ≤ a) (EV h0 q) dC dI cq q S M o sz [.ref (q 3), .ref a, .int (nI i)] (remF S i a) := by
  refine enC_v (cc := cJx4a65c_fastRemove_b59b0) (maxL := 4) (by decide) rfl (Nat.le_of_ble_eq_true rfl) (fun p e s m args below meth c A Q ls F hA hP hK hD hDm hX hS hl hend => ?_)
  obtain ⟨hx, hb, hml, hown, hts⟩ := id F
  have hown : s.vm.findClass RJx4a65c = some m.cls := hown
  have F : CallFix p m c cJx4a65c_fastRemove_b59b0 4 s args wsJx4a65c_fastRemove_b59b0 RJx4a65c := F
  have hl : lv_has ls 4 [(0, .ref (q 3)), (1, .ref a), (2, .int (nI i))] := hl
  have hin : ∀ w ∈ u_ws RJx4a65c TJx4a65c 3, w ∈ wsJx4a65c_fastRemove_b59b0 := fun w h => List.mem_cons_of_mem _ (List.mem_append_right _ h)
  rw [wG_some hm] at hP hD
  have hnp : nI S.2.2.2.1.length - 1 = nI (S.2.2.2.1.length - 1) := pk_sub (b := 1) (by omega)
  have hj : ∀ (g : Nat → Option Nat), (∀ j, j ≠ S.2.2.2.1.length - 1 → g j = if i ≤ j ∧ j < S.2.2.2.1.length - 1 then adr S.2.2.2.1 (j + 1) else adr S.2.2.2.1 j) → ∀ (H : Heap) (locs : List Loc) (ls : Array Slot), va_P (dC, dI) vwCl (wG cq q S M o (S.1 4 + 1) a (nI S.2.2.2.1.length) ((a, .inl (cq 34, 10, .inr (.inr (.inr (.inr g))))) :: S.2.2.2.1.map wFc)) H → va_D A (wG cq q S M o (S.1 4 + 1) a (nI S.2.2.2.1.length) ((a, .inl (cq 34, 10, .inr (.inr (.inr (.inr g))))) :: S.2.2.2.1.map wFc)) → va_S A s.heap H locs → lv_has ls 4 [(0, .ref (q 3)), (1, .ref a), (2, .int (nI i)), (3, .int (nI (S.2.2.2.1.length - 1)))] → W p l e rmJx4a65c_fastRemove_b59b0 s m args below meth c H locs 0 0 Q (F0 m 34 ls []) := by
    intro g hg H locs ls hP hD hS hl
    refine lv_aload_n hx hb dJx4a65c_fastRemove_b59b0_34 rfl (lv_at hl 1 rfl) ?_
    refine lv_aload_n hx hb dJx4a65c_fastRemove_b59b0_35 rfl (lv_at hl 0 rfl) ?_
    refine lv_iload_n hx hb dJx4a65c_fastRemove_b59b0_36 rfl (lv_at hl 3 rfl) ?_
    refine lv_dup_x1 hx hb dJx4a65c_fastRemove_b59b0_37 rfl rfl ?_
    refine pG_sz F hin (hts (.fieldLink RJx4a65c 48 "java/util/ArrayList" "size" "I") (mm 3 rfl)) hK hP hD hS dJx4a65c_fastRemove_b59b0_38 (fun H locs hP hD hS => ?_)
    refine lv_null hx hb dJx4a65c_fastRemove_b59b0_41 ?_
    refine va_astqN (D := (dC, dI)) hx hb hK hP hD hS 34 24 rfl rfl (vp_in_nI (show S.2.2.2.1.length - 1 < 10 by omega) (by decide)) dJx4a65c_fastRemove_b59b0_42 (fun H locs hP hD hS => ?_)
    rw [nI_clamp (by omega), adr_rem _ i hi g hg] at hP hD
    have hP : va_P (dC, dI) vwCl (wG cq q S M o (S.1 4 + 1) a (nI (S.2.2.2.1.length - 1)) [(a, .inl (cq 34, 10, .inr (.inr (.inr (.inr (adr (S.2.2.2.1.eraseIdx i)))))))] ++ S.2.2.2.1.map wFc) H := hP
    have hD : va_D A (wG cq q S M o (S.1 4 + 1) a (nI (S.2.2.2.1.length - 1)) [(a, .inl (cq 34, 10, .inr (.inr (.inr (.inr (adr (S.2.2.2.1.eraseIdx i)))))))] ++ S.2.2.2.1.map wFc) := hD
    have hP := hP.by (ws' := wG cq q S M o (S.1 4 + 1) a (nI (S.2.2.2.1.length - 1)) [(a, .inl (cq 34, 10, .inr (.inr (.inr (.inr (adr (S.2.2.2.1.eraseIdx i)))))))] ++ (S.2.2.2.1.map wFc).eraseIdx i) _ (fun k q9 h9 => er_at h9)
    have hD := hD.by (ws' := wG cq q S M o (S.1 4 + 1) a (nI (S.2.2.2.1.length - 1)) [(a, .inl (cq 34, 10, .inr (.inr (.inr (.inr (adr (S.2.2.2.1.eraseIdx i)))))))] ++ (S.2.2.2.1.map wFc).eraseIdx i) _ (fun k q9 h9 => er_at h9) (fun x y _ _ h9 => er_inj h9)
    rw [er_map, show S.2.2.2.1.length - 1 = (S.2.2.2.1.eraseIdx i).length from (List.length_eraseIdx_of_lt hi).symm] at hP hD
    exact hend _ _ _ _ _ rfl hP hD hS dJx4a65c_fastRemove_b59b0_43
  refine lv_aload_n hx hb dJx4a65c_fastRemove_b59b0_0 rfl (lv_at hl 0 rfl) ?_
  refine lv_dup hx hb dJx4a65c_fastRemove_b59b0_1 rfl ?_
  refine va_get (D := (dC, dI)) (ci := 0) (v := .int (S.1 4)) (C := RJx4a65c) (T := TJx4a65c) (N := 3) hx hb hts hin hown hK hP 3 rfl rfl 0 (by decide) (hts (.fieldLink RJx4a65c 63 "java/util/ArrayList" "modCount" "I") (mm 1 rfl)) (u_same (hts (.sameField "java/util/ArrayList" "java/util/AbstractList" "modCount" "I") (mm 2 rfl))) rfl dJx4a65c_fastRemove_b59b0_2 ?_
  refine lv_iconst (v := (1 : Int32)) hx hb dJx4a65c_fastRemove_b59b0_5 (by decide) ?_
  refine lv_iadd hx hb dJx4a65c_fastRemove_b59b0_6 ?_
  refine pG_mc F hin (hts (.fieldLink RJx4a65c 63 "java/util/ArrayList" "modCount" "I") (mm 1 rfl)) (hts (.sameField "java/util/ArrayList" "java/util/AbstractList" "modCount" "I") (mm 2 rfl)) hK hP hD hS dJx4a65c_fastRemove_b59b0_7 (fun H locs hP hD hS => ?_)
  refine lv_aload_n hx hb dJx4a65c_fastRemove_b59b0_10 rfl (lv_at hl 0 rfl) ?_
  refine va_get (D := (dC, dI)) (ci := 0) (v := .int (nI S.2.2.2.1.length)) (C := RJx4a65c) (T := TJx4a65c) (N := 3) hx hb hts hin hown hK hP 3 rfl rfl 2 (by decide) (hts (.fieldLink RJx4a65c 48 "java/util/ArrayList" "size" "I") (mm 3 rfl)) (fun _ h9 => h9) rfl dJx4a65c_fastRemove_b59b0_11 ?_
  refine lv_iconst (v := (1 : Int32)) hx hb dJx4a65c_fastRemove_b59b0_14 (by decide) ?_
  refine lv_isub hx hb dJx4a65c_fastRemove_b59b0_15 ?_
  rw [hnp]
  refine lv_dup hx hb dJx4a65c_fastRemove_b59b0_16 rfl ?_
  refine lv_istore_n (lv' := [(3, .int (nI (S.2.2.2.1.length - 1))), (0, .ref (q 3)), (1, .ref a), (2, .int (nI i))]) hx hb dJx4a65c_fastRemove_b59b0_17 rfl hl (by decide) rfl (fun ls hl => ?_)
  refine lv_iload_n hx hb dJx4a65c_fastRemove_b59b0_18 rfl (lv_at hl 3 rfl) ?_
  refine lv_icmp_le (tgt := 34) hx hb dJx4a65c_fastRemove_b59b0_19 (by decide) (fun c1 => ?_) (fun c1 => ?_)
  · refine hj (adr S.2.2.2.1) (fun j hj9 => ?_) _ _ _ hP hD hS (lv_sub hl [1, 2, 3, 0] rfl)
    have h9 : S.2.2.2.1.length - 1 ≤ i := (nI_leI (by omega) (by omega)).mp c1
    rw [if_neg (by omega)]
  · have h9 : i < S.2.2.2.1.length - 1 := by
      rcases Nat.lt_or_ge i (S.2.2.2.1.length - 1) with h | h
      · exact h
      · exact absurd ((nI_leI (by omega) (by omega)).mpr h) c1
    refine lv_aload_n hx hb dJx4a65c_fastRemove_b59b0_22 rfl (lv_at hl 2 rfl) ?_
    refine lv_iload_n hx hb dJx4a65c_fastRemove_b59b0_23 rfl (lv_at hl 3 rfl) ?_
    refine lv_iconst (v := (1 : Int32)) hx hb dJx4a65c_fastRemove_b59b0_24 (by decide) ?_
    refine lv_iadd hx hb dJx4a65c_fastRemove_b59b0_25 ?_
    rw [nI_1]
    refine lv_aload_n hx hb dJx4a65c_fastRemove_b59b0_26 rfl (lv_at hl 2 rfl) ?_
    refine lv_iload_n hx hb dJx4a65c_fastRemove_b59b0_27 rfl (lv_at hl 3 rfl) ?_
    refine lv_iload_n hx hb dJx4a65c_fastRemove_b59b0_28 rfl (lv_at hl 0 rfl) ?_
    refine lv_iload_n hx hb dJx4a65c_fastRemove_b59b0_29 rfl (lv_at hl 3 rfl) ?_
    refine lv_isub hx hb dJx4a65c_fastRemove_b59b0_30 ?_
    rw [pk_sub (show i ≤ S.2.2.2.1.length - 1 by omega)]
    refine va_copyq (D := (dC, dI)) (C := RX2) hx hb (hml.trans hl.1.symm) hown (hts (.methodLink RJx4a65c 112 arraycopyName) (mm 4 rfl)) (hts (.native arraycopyName) (mm 5 rfl)) (hts (.static arraycopyName) (mm 6 rfl)) (hts (.initialized "java/lang/System") (mm 7 rfl)) hK hP hD hS 34 34 24 24 rfl rfl rfl rfl (nI_pos (by omega)) (nI_pos (by omega)) (nI_pos (by omega)) (by rw [nI_clamp (by omega), nI_clamp (by omega)]; omega) (by rw [nI_clamp (by omega), nI_clamp (by omega)]; omega) (fun j hj9 y hy => ?_) (fun comp c0 h1 h2 => ?_) (Nat.le_of_ble_eq_true rfl) (Nat.le_trans nfw (by decide)) dJx4a65c_fastRemove_b59b0_31 (fun H locs hP hD hS => ?_)
    · unfold adr at hy
      cases hf : S.2.2.2.1[(nI (i + 1)).toNatClampNeg + j]? with
      | none => rw [hf] at hy; cases hy
      | some w9 =>
        rw [hf] at hy
        cases hy
        exact va_recv hK hP (ci := 3) rfl (wG_flt hf)
    · obtain ⟨c3, c4, hc3, hc4, hasg⟩ := Cond.castable_spec (va_Nw.use (A := args) rfl hX.1.2.2.2.2.2.2.2.2.2.2.2.2.2.2.2.2.2.2.2.2.1)
      cases Option.some.inj (hc3.symm.trans h2)
      cases Option.some.inj (hc4.symm.trans h1)
      exact hasg
    · rw [nI_clamp (by omega), nI_clamp (by omega), nI_clamp (by omega)] at hP hD
      refine hj (va_cpy (adr S.2.2.2.1) (adr S.2.2.2.1) (i + 1) i (S.2.2.2.1.length - 1 - i)) (fun j hj9 => ?_) _ _ _ hP hD hS (lv_sub hl [1, 2, 3, 0] rfl)
      by_cases h8 : i ≤ j ∧ j < S.2.2.2.1.length - 1
      · rw [if_pos h8, pk_cpy_in h8.1 (by omega), show i + 1 + (j - i) = j + 1 by omega]
      · rw [if_neg h8, pk_cpy_out (by omega)]
theorem hdJx4a65c_remove_915e3 : yJx4a65c_remove_915e3.cls = RJx4a65c ∧ yJx4a65c_remove_915e3.cls ≠ "java/lang/invoke/MethodHandle" ∧ yJx4a65c_remove_915e3.cls ≠ "java/lang/invoke/VarHandle" ∧ (parseMethodDescriptor yJx4a65c_remove_915e3.desc).map (fun d => d.parameters.length) = some 1 := by decide +kernel
theorem ci_ok {i n : Nat} (h : i < n) (hn : n < 2 ^ 31) : mJ15_checkIndex_7cf53 (nI i) (nI n) = some (nI i) := by
  unfold mJ15_checkIndex_7cf53 mJ3_checkIndex_8e157
  rw [if_neg (nI_pos (by omega)), if_pos (nI_lt h hn)]
  rfl
abbrev rmJx4a65c_remove_915e3 : Room := { frames := 3, cells := 0, slots := 0, locals := 160 }
set_option maxRecDepth 100000 in
set_option maxHeartbeats 8000000 in
theorem ctJx4a65c_remove_915e3 (l : Launch) (dC : Nat → ClassId) (dI : Nat → Nat → Nat) (cq : Nat → ClassId) (q : Nat → Nat) (S : CS) (M : MS) (o : Nat → Int64) (sz h0 : Nat) (a i : Nat) (hm : S.2.2.2.2 = some a) (hi : i < S.2.2.2.1.length) (hn : S.2.2.2.1.length ≤ 10) : Met l yJx4a65c_remove_915e3 wsJx4a65c_remove_915e3 rmJx4a65c_remove_915e3 (PreW (fun a => h0 ≤ a) (EV h0 q) dC dI cq (wA cq q S M o) sz [.ref (q 3), .int (nI i)]) (va_Qr (fun _ : Nat => True) (fun u a9 t => a9 = id u ∧ BkW dC dI cq (va_A (wA cq q S M o) sz) (wA cq q (remF S i a) M o) t) (va_A (wA cq q S M o) sz)) 0 0 (va_A (wA cq q S M o) sz) := by
  refine entW_r (wf := fun _ => wA cq q (remF S i a) M o) (ra := id) (cc := cJx4a65c_remove_915e3) (maxL := 4) (Or.inl ⟨_, rfl⟩) (by decide) rfl (Nat.le_of_ble_eq_true rfl) (fun p e s m args below meth c A Q ls F hA hP hK hD hDm hX hS hl hend => ?_)
  obtain ⟨hx, hb, hml, hown, hts⟩ := id F
  have hown : s.vm.findClass RJx4a65c = some m.cls := hown
  have F : CallFix p m c cJx4a65c_remove_915e3 4 s args wsJx4a65c_remove_915e3 RJx4a65c := F
  have hl : lv_has ls 4 [(0, .ref (q 3)), (1, .int (nI i))] := hl
  have hin : ∀ w ∈ u_ws RJx4a65c TJx4a65c 3, w ∈ wsJx4a65c_remove_915e3 := fun w h => List.mem_cons_of_mem _ (List.mem_append_right _ h)
  have he : edA q S = a := by unfold edA; rw [hm]
  obtain ⟨w9, hw9⟩ : ∃ w9, S.2.2.2.1[i]? = some w9 := ⟨_, List.getElem?_eq_getElem hi⟩
  refine lv_iload_n hx hb dJx4a65c_remove_915e3_0 rfl (lv_at hl 1 rfl) ?_
  refine lv_aload_n hx hb dJx4a65c_remove_915e3_1 rfl (lv_at hl 0 rfl) ?_
  refine va_get (D := (dC, dI)) (ci := 0) (v := .int (nI S.2.2.2.1.length)) (C := RJx4a65c) (T := TJx4a65c) (N := 3) hx hb hts hin hown hK hP 3 rfl rfl 2 (by decide) (hts (.fieldLink RJx4a65c 48 "java/util/ArrayList" "size" "I") (mm 1 rfl)) (fun _ h9 => h9) rfl dJx4a65c_remove_915e3_2 ?_
  refine caSR_i (As := [.int (nI i), .int (nI S.2.2.2.1.length)]) (rest := []) (ctJ15_checkIndex_7cf53 l dC dI cq q S M o _ _ _ _ (nI i) (ci_ok hi (by omega))) F (va_cwS 2 hts gJx4a65c_remove_915e3_J15_checkIndex_7cf53 rfl rfl rfl hdJ15_checkIndex_7cf53 ⟨Nat.le_of_ble_eq_true rfl, Nat.le_of_ble_eq_true rfl⟩) hK hP hD hDm hS hA EV.blind (fun U hU hW => EV.call hX hS hDm hU hW) rfl hl.1 rfl (Nat.le_of_ble_eq_true rfl) dJx4a65c_remove_915e3_5 ⟨Nat.le_of_ble_eq_true rfl, Nat.le_of_ble_eq_true rfl⟩ (fun H locs hP hD hS => ?_)
  refine lv_pop hx hb dJx4a65c_remove_915e3_8 rfl ?_
  refine lv_aload_n hx hb dJx4a65c_remove_915e3_9 rfl (lv_at hl 0 rfl) ?_
  refine va_get (D := (dC, dI)) (ci := 0) (v := .ref (edA q S)) (C := RJx4a65c) (T := TJx4a65c) (N := 3) hx hb hts hin hown hK hP 3 rfl rfl 1 (by decide) (hts (.fieldLink RJx4a65c 9 "java/util/ArrayList" "elementData" "[Ljava/lang/Object;") (mm 2 rfl)) (fun _ h9 => h9) rfl dJx4a65c_remove_915e3_10 ?_
  rw [he]
  refine lv_astore_n (lv' := [(2, .ref a), (0, .ref (q 3)), (1, .int (nI i))]) hx hb dJx4a65c_remove_915e3_13 rfl hl (by decide) rfl (fun ls hl => ?_)
  refine lv_aload_n hx hb dJx4a65c_remove_915e3_14 rfl (lv_at hl 0 rfl) ?_
  refine lv_iload_n hx hb dJx4a65c_remove_915e3_15 rfl (lv_at hl 2 rfl) ?_
  refine va_aldq (D := (dC, dI)) hx hb hK hP 34 24 (wA_ed hm) rfl (vp_in_nI (show i < 10 by omega) (by decide)) dJx4a65c_remove_915e3_16 ?_
  rw [nI_clamp (by omega), hw9]
  refine lv_astore_n (x := w9.1) (lv' := [(3, .ref w9.1), (2, .ref a), (0, .ref (q 3)), (1, .int (nI i))]) hx hb dJx4a65c_remove_915e3_17 rfl hl (by decide) rfl (fun ls hl => ?_)
  refine lv_aload_n hx hb dJx4a65c_remove_915e3_18 rfl (lv_at hl 2 rfl) ?_
  refine lv_aload_n hx hb dJx4a65c_remove_915e3_19 rfl (lv_at hl 1 rfl) ?_
  refine lv_iload_n hx hb dJx4a65c_remove_915e3_20 rfl (lv_at hl 3 rfl) ?_
  refine caVC_v (As := [.ref a, .int (nI i)]) (rest := []) (ctJx4a65c_fastRemove_b59b0 l dC dI cq q S M o _ _ a i hm hi hn) F (cwV 2 hts gJx4a65c_remove_915e3_Jx4a65c_fastRemove_b59b0 rfl rfl rfl hdJx4a65c_fastRemove_b59b0 ⟨Nat.le_of_ble_eq_true rfl, Nat.le_of_ble_eq_true rfl⟩) hK hP hD hDm hS hA EV.blind (fun U hU hW => EV.call hX hS hDm hU hW) (va_recv hK hP (ci := 0) (q0 := 3) rfl rfl) rfl hl.1 rfl (Nat.le_of_ble_eq_true rfl) dJx4a65c_remove_915e3_21 ⟨Nat.le_of_ble_eq_true rfl, Nat.le_of_ble_eq_true rfl⟩ (fun H locs hP hD hS => ?_)
  refine lv_aload_n hx hb dJx4a65c_remove_915e3_24 rfl (lv_at hl 0 rfl) ?_
  exact hend _ _ w9.1 _ _ trivial hP hD hS dJx4a65c_remove_915e3_25
