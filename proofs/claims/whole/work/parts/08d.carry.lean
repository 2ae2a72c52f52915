/-- what a run with made addresses comes to, whatever they are -/
def Ok {α : Type} (f : (Nat → Nat × Nat) → Option α) (P : α → Prop) : Prop := ∀ or, ∃ r, f or = some r ∧ P r
theorem OkE {α : Type} {r : α} {P : α → Prop} (h : Ok (fun _ => some r) P) : P r := by
  obtain ⟨r9, h1, h2⟩ := h (fun _ => (0, 0))
  cases h1
  exact h2
theorem itA {α : Type} {c : Prop} {inst : Decidable c} {a b : (Nat → Nat × Nat) → Option α} {P : α → Prop} (hc : c) (h : Ok (fun or => @ite _ c inst (a or) (b or)) P) : Ok a P := fun or => by
  obtain ⟨r, h1, h2⟩ := h or
  exact ⟨r, it hc h1, h2⟩
theorem ieA {α : Type} {c : Prop} {inst : Decidable c} {a b : (Nat → Nat × Nat) → Option α} {P : α → Prop} (hc : ¬ c) (h : Ok (fun or => @ite _ c inst (a or) (b or)) P) : Ok b P := fun or => by
  obtain ⟨r, h1, h2⟩ := h or
  exact ⟨r, ie hc h1, h2⟩
theorem gdA {α : Type} {c : Prop} {inst : Decidable c} {a : (Nat → Nat × Nat) → Option α} {P : α → Prop} (h : Ok (fun or => @ite _ c inst (a or) none) P) : c ∧ Ok a P := by
  have hc : c := by
    obtain ⟨r, h1, h2⟩ := h (fun _ => (0, 0))
    exact (gd h1).1
  exact ⟨hc, itA (b := fun _ => none) hc h⟩
theorem boA {α β : Type} {x : Option α} {f : (Nat → Nat × Nat) → α → Option β} {P : β → Prop} (h : Ok (fun or => bn x (f or)) P) : ∃ a, x = some a ∧ Ok (fun or => f or a) P := by
  cases x with
  | none => obtain ⟨r, h1, h2⟩ := h (fun _ => (0, 0)); cases h1
  | some a => exact ⟨a, rfl, h⟩
theorem bpA {α β γ : Type} {x : Option (α × β)} {f : (Nat → Nat × Nat) → α → β → Option γ} {P : γ → Prop} (h : Ok (fun or => bm x (f or)) P) : ∃ a b, x = some (a, b) ∧ Ok (fun or => f or a b) P := by
  cases x with
  | none => obtain ⟨r, h1, h2⟩ := h (fun _ => (0, 0)); cases h1
  | some a => exact ⟨a.1, a.2, rfl, h⟩
/-- an address more -/
def oc (a : Nat × Nat) (or : Nat → Nat × Nat) : Nat → Nat × Nat := fun n => match n with
  | 0 => a
  | n + 1 => or n
def okAdd (S : CS) : Bool := decide (S.2.2.2.1.length < 10) && (S.2.2.2.2.isSome || S.2.2.2.1.isEmpty)
theorem okAdd_ok {S : CS} (h : okAdd S = true) : S.2.2.2.1.length < 10 ∧ (S.2.2.2.2 = none → S.2.2.2.1 = []) := by
  unfold okAdd at h
  rw [Bool.and_eq_true, Bool.or_eq_true] at h
  refine ⟨of_decide_eq_true h.1, fun hm => ?_⟩
  rcases h.2 with h | h
  · rw [hm] at h; cases h
  · exact List.isEmpty_iff.mp h
def mX7_carryOutText_11 (n : Nat) : Nat → (Nat → Nat × Nat) → CS → Int32 → Int32 → Option (Int32 × CS)
  | 0, _, _, _, _ => none
  | k + 1, or, S, x1, x2 => (if (50 : Int32) ≤ x2 then (some (x1, S)) else (bm (mX6_readItem n S) fun r1 S1 => (if r1 = (0 : Int32) then (some (x1, S1)) else (bn (mX6_itemIsFault S1) fun r2 => (if r2 = (0 : Int32) then (if (S1.1 13) = (110 : Int32) then (bn (mX0_swapWires S1 (0 : Int32) (S1.1 14) (S1.1 15)) fun S2 => (mX7_carryOutText_11 n k or S2 (x1 + (1 : Int32)) (x2 + (1 : Int32)))) else (bn (mX0_swapWires S1 (1 : Int32) (S1.1 14) (S1.1 15)) fun S2 => (mX7_carryOutText_11 n k or S2 (x1 + (1 : Int32)) (x2 + (1 : Int32))))) else (if okAdd S1 then (mX7_carryOutText_11 n k (fun j => or (j + 1)) (addF S1 ((or 0).1, fld5 (S1.1 14) (S1.1 15) (S1.1 16) (S1.1 17) (S1.1 18)) (or 0).2) (x1 + (1 : Int32)) (x2 + (1 : Int32))) else none))))))
def mX7_carryOutText (n : Nat) (or : Nat → Nat × Nat) (S : CS) : Option (Int32 × CS) :=
  (bn (mX6_rewind S) fun S1 => (mX7_carryOutText_11 n n or S1 (0 : Int32) (0 : Int32)))
abbrev rmX7_carryOutText (n : Nat) : Room := { frames := 7, cells := 2 * n, slots := 15 * n, locals := 211 }
theorem hdX7_carryOutText : yX7_carryOutText.cls = RX7 ∧ yX7_carryOutText.cls ≠ "java/lang/invoke/MethodHandle" ∧ yX7_carryOutText.cls ≠ "java/lang/invoke/VarHandle" ∧ (parseMethodDescriptor yX7_carryOutText.desc).map (fun d => d.parameters.length) = some 0 := by decide +kernel
set_option maxRecDepth 100000 in
set_option maxHeartbeats 8000000 in
theorem ctX7_carryOutText (l : Launch) (dC : Nat → ClassId) (dI : Nat → Nat → Nat) (cq : Nat → ClassId) (q : Nat → Nat) (S : CS) (M : MS) (o : Nat → Int64) (sz h0 n : Nat) (P : Int32 × CS → Prop) (h : Ok (fun or => mX7_carryOutText n or S) P) : Met l yX7_carryOutText wsX7_carryOutText (rmX7_carryOutText n) (PreW (fun a => h0 ≤ a) (EV h0 q) dC dI cq (wA cq q S M o) sz [.ref (q 0)]) (va_Qi (fun (r : Int32) (u : CS) => P (r, u)) (fun u t => BkW dC dI cq (va_A (wA cq q S M o) sz) (wA cq q u M o) t) (va_A (wA cq q S M o) sz)) (2 * n) (15 * n) (va_A (wA cq q S M o) sz) := by
  refine entW_i (ty := .int) (wf := fun S => wA cq q S M o) (cc := cX7_carryOutText) (maxL := 3) (by decide) rfl (Nat.le_of_ble_eq_true rfl) (fun p e s m args below meth c A Q ls F hA hP hK hD hDm hX hS hl hend => ?_)
  obtain ⟨hx, hb, hml, hown, hts⟩ := id F
  have hown : s.vm.findClass RX7 = some m.cls := hown
  have F : CallFix p m c cX7_carryOutText 3 s args wsX7_carryOutText RX7 := F
  have hl : lv_has ls 3 [(0, .ref (q 0))] := hl
  have hinX0 : ∀ w ∈ u_ws RX0 TX0 7, w ∈ wsX7_carryOutText := fun w h => List.mem_cons_of_mem _ (List.mem_append_left _ (List.mem_append_right _ h))
  have hinX2 : ∀ w ∈ u_ws RX2 TX2 5, w ∈ wsX7_carryOutText := fun w h => List.mem_cons_of_mem _ (List.mem_append_left _ (List.mem_append_left _ (List.mem_append_left _ (List.mem_append_right _ h))))
  have hinX6 : ∀ w ∈ u_ws RX6 TX6 10, w ∈ wsX7_carryOutText := fun w h => List.mem_cons_of_mem _ (List.mem_append_left _ (List.mem_append_left _ (List.mem_append_right _ h)))
  have hinX7 : ∀ w ∈ u_ws RX7 TX7 5, w ∈ wsX7_carryOutText := fun w h => List.mem_cons_of_mem _ (List.mem_append_left _ (List.mem_append_left _ (List.mem_append_left _ (List.mem_append_left _ (List.mem_append_right _ h)))))
  have hL : ∀ (k : Nat) (S : CS) (x1 x2 : Int32) (c9 d9 : Nat), c9 + 2 * k ≤ 2 * n → d9 + 15 * k ≤ 15 * n → ∀ (H : Heap) (locs : List Loc) (ls : Array Slot), va_P (dC, dI) vwCl (wA cq q S M o) H → va_D A (wA cq q S M o) → va_S A s.heap H locs → lv_has ls 3 [(0, .ref (q 0)), (1, .int x1), (2, .int x2)] → Ok (fun or => mX7_carryOutText_11 n k or S x1 x2) P → W p l e (rmX7_carryOutText n) s m args below meth c H locs c9 d9 Q (F0 m 11 ls []) := by
    intro k
    induction k with
    | zero =>
      intro S x1 x2 c9 d9 h1 h2 H locs ls hP hD hS hl h
      obtain ⟨r, h3, -⟩ := h (fun _ => (0, 0))
      have h3 : mX7_carryOutText_11 n 0 (fun _ => (0, 0)) S x1 x2 = some r := h3
      rw [mX7_carryOutText_11] at h3
      cases h3
    | succ k ih =>
      intro S x1 x2 c9 d9 h1 h2 H locs ls hP hD hS hl h
      have h : Ok (fun or => (if (50 : Int32) ≤ x2 then (some (x1, S)) else (bm (mX6_readItem n S) fun r1 S1 => (if r1 = (0 : Int32) then (some (x1, S1)) else (bn (mX6_itemIsFault S1) fun r2 => (if r2 = (0 : Int32) then (if (S1.1 13) = (110 : Int32) then (bn (mX0_swapWires S1 (0 : Int32) (S1.1 14) (S1.1 15)) fun S2 => (mX7_carryOutText_11 n k or S2 (x1 + (1 : Int32)) (x2 + (1 : Int32)))) else (bn (mX0_swapWires S1 (1 : Int32) (S1.1 14) (S1.1 15)) fun S2 => (mX7_carryOutText_11 n k or S2 (x1 + (1 : Int32)) (x2 + (1 : Int32))))) else (if okAdd S1 then (mX7_carryOutText_11 n k (fun j => or (j + 1)) (addF S1 ((or 0).1, fld5 (S1.1 14) (S1.1 15) (S1.1 16) (S1.1 17) (S1.1 18)) (or 0).2) (x1 + (1 : Int32)) (x2 + (1 : Int32))) else none))))))) P := h
      refine lv_iload_n hx hb dX7_carryOutText_11 rfl (lv_at hl 2 rfl) ?_
      refine lv_bipush (v := (50 : Int32)) hx hb dX7_carryOutText_12 (by decide) ?_
      refine lv_icmp_ge (tgt := 137) hx hb dX7_carryOutText_14 (by decide) (fun c1 => ?_) (fun c1 => ?_)
      · replace h := itA c1 h
        refine lv_iload_n hx hb dX7_carryOutText_137 rfl (lv_at hl 1 rfl) ?_
        refine W.widen (k := 2 * n) (n := 15 * n) (by omega) (by omega) ?_
        exact hend _ _ _ _ _ _ (OkE h) hP hD hS dX7_carryOutText_138 rfl
      replace h := ieA c1 h
      refine lv_aload_n hx hb dX7_carryOutText_17 rfl (lv_at hl 0 rfl) ?_
      refine va_get (D := (dC, dI)) (ci := 8) (v := .ref (q 20)) (C := RX7) (T := TX7) (N := 5) hx hb hts hinX7 hown hK hP 0 rfl rfl 4 (by decide) (hts (.fieldLink RX7 40 "CableTester" "text" "LCableTester$Text;") (mm 1 rfl)) (fun _ h9 => h9) rfl dX7_carryOutText_18 ?_
      obtain ⟨r1, S3, e2, h⟩ := bpA h
      refine caVC_i (As := []) (rest := []) (ctX6_readItem l dC dI cq q S M o _ _ _ _ _ e2) F (cwV 0 hts gX7_carryOutText_X6_readItem rfl rfl rfl hdX6_readItem ⟨Nat.le_of_ble_eq_true rfl, Nat.le_of_ble_eq_true rfl⟩) hK hP hD hDm hS hA EV.blind (fun U hU hW => EV.call hX hS hDm hU hW) (va_recv hK hP (ci := 7) (q0 := 20) rfl rfl) rfl hl.1 rfl (Nat.le_of_ble_eq_true rfl) dX7_carryOutText_21 ⟨by show c9 + 0 ≤ 2 * n; omega, by show d9 + 0 ≤ 15 * n; omega⟩ (fun H locs hP hD hS => ?_)
      refine lv_if_eq (tgt := 137) hx hb dX7_carryOutText_24 (by decide) (fun c2 => ?_) (fun c2 => ?_)
      · replace h := itA c2 h
        refine lv_iload_n hx hb dX7_carryOutText_137 rfl (lv_at hl 1 rfl) ?_
        refine W.widen (k := 2 * n) (n := 15 * n) (by omega) (by omega) ?_
        exact hend _ _ _ _ _ _ (OkE h) hP hD hS dX7_carryOutText_138 rfl
      replace h := ieA c2 h
      refine lv_iinc (v := (x1 + (1 : Int32))) (lv' := [(1, .int (x1 + (1 : Int32))), (0, .ref (q 0)), (2, .int x2)]) hx hb dX7_carryOutText_27 hl (k := 1) rfl rfl (by decide) rfl (fun ls hl => ?_)
      refine lv_aload_n hx hb dX7_carryOutText_30 rfl (lv_at hl 1 rfl) ?_
      refine va_get (D := (dC, dI)) (ci := 8) (v := .ref (q 20)) (C := RX7) (T := TX7) (N := 5) hx hb hts hinX7 hown hK hP 0 rfl rfl 4 (by decide) (hts (.fieldLink RX7 40 "CableTester" "text" "LCableTester$Text;") (mm 1 rfl)) (fun _ h9 => h9) rfl dX7_carryOutText_31 ?_
      obtain ⟨r4, e5, h⟩ := boA h
      refine caVR_i (As := []) (rest := []) (ctX6_itemIsFault l dC dI cq q S3 M o _ _ _ e5) F (cwV 0 hts gX7_carryOutText_X6_itemIsFault rfl rfl rfl hdX6_itemIsFault ⟨Nat.le_of_ble_eq_true rfl, Nat.le_of_ble_eq_true rfl⟩) hK hP hD hDm hS hA EV.blind (fun U hU hW => EV.call hX hS hDm hU hW) (va_recv hK hP (ci := 7) (q0 := 20) rfl rfl) rfl hl.1 rfl (Nat.le_of_ble_eq_true rfl) dX7_carryOutText_34 ⟨by show c9 + 0 ≤ 2 * n; omega, by show d9 + 0 ≤ 15 * n; omega⟩ (fun H locs hP hD hS => ?_)
      refine lv_if_eq (tgt := 93) hx hb dX7_carryOutText_37 (by decide) (fun c3 => ?_) (fun c3 => ?_)
      · replace h := itA c3 h
        refine lv_aload_n hx hb dX7_carryOutText_93 rfl (lv_at hl 1 rfl) ?_
        refine va_get (D := (dC, dI)) (ci := 8) (v := .ref (q 1)) (C := RX7) (T := TX7) (N := 5) hx hb hts hinX7 hown hK hP 0 rfl rfl 0 (by decide) (hts (.fieldLink RX7 10 "CableTester" "cable" "LCableTester$Cable;") (mm 2 rfl)) (fun _ h9 => h9) rfl dX7_carryOutText_94 ?_
        refine lv_aload_n hx hb dX7_carryOutText_97 rfl (lv_at hl 1 rfl) ?_
        refine va_get (D := (dC, dI)) (ci := 8) (v := .ref (q 20)) (C := RX7) (T := TX7) (N := 5) hx hb hts hinX7 hown hK hP 0 rfl rfl 4 (by decide) (hts (.fieldLink RX7 40 "CableTester" "text" "LCableTester$Text;") (mm 1 rfl)) (fun _ h9 => h9) rfl dX7_carryOutText_98 ?_
        refine va_getN (D := (dC, dI)) (ci := 7) (v := .int (S3.1 13)) (C := RX6) (T := TX6) (N := 10) hx hb hts hinX6 hown hK hP 20 rfl rfl 4 (by decide) (va_Nw.use rfl hX.1.2.2.2.2.2.2.2.2.2.2.1) (fun _ h9 => h9) rfl dX7_carryOutText_101 ?_
        refine lv_bipush (v := (110 : Int32)) hx hb dX7_carryOutText_104 (by decide) ?_
        refine lv_icmp_ne (tgt := 113) hx hb dX7_carryOutText_106 (by decide) (fun c4 => ?_) (fun c4 => ?_)
        · replace h := ieA c4 h
          refine lv_iconst (v := (1 : Int32)) hx hb dX7_carryOutText_113 (by decide) ?_
          refine lv_aload_n hx hb dX7_carryOutText_114 rfl (lv_at hl 1 rfl) ?_
          refine va_get (D := (dC, dI)) (ci := 8) (v := .ref (q 20)) (C := RX7) (T := TX7) (N := 5) hx hb hts hinX7 hown hK hP 0 rfl rfl 4 (by decide) (hts (.fieldLink RX7 40 "CableTester" "text" "LCableTester$Text;") (mm 1 rfl)) (fun _ h9 => h9) rfl dX7_carryOutText_115 ?_
          refine va_getN (D := (dC, dI)) (ci := 7) (v := .int (S3.1 14)) (C := RX6) (T := TX6) (N := 10) hx hb hts hinX6 hown hK hP 20 rfl rfl 5 (by decide) (va_Nw.use rfl hX.1.2.2.2.2.2.2.2.2.2.2.2.1) (fun _ h9 => h9) rfl dX7_carryOutText_118 ?_
          refine lv_aload_n hx hb dX7_carryOutText_121 rfl (lv_at hl 1 rfl) ?_
          refine va_get (D := (dC, dI)) (ci := 8) (v := .ref (q 20)) (C := RX7) (T := TX7) (N := 5) hx hb hts hinX7 hown hK hP 0 rfl rfl 4 (by decide) (hts (.fieldLink RX7 40 "CableTester" "text" "LCableTester$Text;") (mm 1 rfl)) (fun _ h9 => h9) rfl dX7_carryOutText_122 ?_
          refine va_getN (D := (dC, dI)) (ci := 7) (v := .int (S3.1 15)) (C := RX6) (T := TX6) (N := 10) hx hb hts hinX6 hown hK hP 20 rfl rfl 6 (by decide) (va_Nw.use rfl hX.1.2.2.2.2.2.2.2.2.2.2.2.2.1) (fun _ h9 => h9) rfl dX7_carryOutText_125 ?_
          obtain ⟨S8, e7, h⟩ := boA h
          refine caVC_v (As := [.int (1 : Int32), .int (S3.1 14), .int (S3.1 15)]) (rest := []) (ctX0_swapWires l dC dI cq q S3 M o _ _ _ _ _ _ e7) F (cwV 3 hts gX7_carryOutText_X0_swapWires rfl rfl rfl hdX0_swapWires ⟨Nat.le_of_ble_eq_true rfl, Nat.le_of_ble_eq_true rfl⟩) hK hP hD hDm hS hA EV.blind (fun U hU hW => EV.call hX hS hDm hU hW) (va_recv hK hP (ci := 1) (q0 := 1) rfl rfl) rfl hl.1 rfl (Nat.le_of_ble_eq_true rfl) dX7_carryOutText_128 ⟨by show c9 + 0 ≤ 2 * n; omega, by show d9 + 0 ≤ 15 * n; omega⟩ (fun H locs hP hD hS => ?_)
          refine lv_iinc (v := (x2 + (1 : Int32))) (lv' := [(2, .int (x2 + (1 : Int32))), (1, .int (x1 + (1 : Int32))), (0, .ref (q 0))]) hx hb dX7_carryOutText_131 hl (k := 2) rfl rfl (by decide) rfl (fun ls hl => ?_)
          refine lv_goto (tgt := 11) hx hb dX7_carryOutText_134 (by decide) ?_
          exact ih _ _ _ _ _ (by omega) (by omega) _ _ _ hP hD hS (lv_sub hl [2, 1, 0] rfl) h
        · replace h := itA c4 h
          refine lv_iconst (v := (0 : Int32)) hx hb dX7_carryOutText_109 (by decide) ?_
          refine lv_goto (tgt := 114) hx hb dX7_carryOutText_110 (by decide) ?_
          refine lv_aload_n hx hb dX7_carryOutText_114 rfl (lv_at hl 1 rfl) ?_
          refine va_get (D := (dC, dI)) (ci := 8) (v := .ref (q 20)) (C := RX7) (T := TX7) (N := 5) hx hb hts hinX7 hown hK hP 0 rfl rfl 4 (by decide) (hts (.fieldLink RX7 40 "CableTester" "text" "LCableTester$Text;") (mm 1 rfl)) (fun _ h9 => h9) rfl dX7_carryOutText_115 ?_
          refine va_getN (D := (dC, dI)) (ci := 7) (v := .int (S3.1 14)) (C := RX6) (T := TX6) (N := 10) hx hb hts hinX6 hown hK hP 20 rfl rfl 5 (by decide) (va_Nw.use rfl hX.1.2.2.2.2.2.2.2.2.2.2.2.1) (fun _ h9 => h9) rfl dX7_carryOutText_118 ?_
          refine lv_aload_n hx hb dX7_carryOutText_121 rfl (lv_at hl 1 rfl) ?_
          refine va_get (D := (dC, dI)) (ci := 8) (v := .ref (q 20)) (C := RX7) (T := TX7) (N := 5) hx hb hts hinX7 hown hK hP 0 rfl rfl 4 (by decide) (hts (.fieldLink RX7 40 "CableTester" "text" "LCableTester$Text;") (mm 1 rfl)) (fun _ h9 => h9) rfl dX7_carryOutText_122 ?_
          refine va_getN (D := (dC, dI)) (ci := 7) (v := .int (S3.1 15)) (C := RX6) (T := TX6) (N := 10) hx hb hts hinX6 hown hK hP 20 rfl rfl 6 (by decide) (va_Nw.use rfl hX.1.2.2.2.2.2.2.2.2.2.2.2.2.1) (fun _ h9 => h9) rfl dX7_carryOutText_125 ?_
          obtain ⟨S11, e10, h⟩ := boA h
          refine caVC_v (As := [.int (0 : Int32), .int (S3.1 14), .int (S3.1 15)]) (rest := []) (ctX0_swapWires l dC dI cq q S3 M o _ _ _ _ _ _ e10) F (cwV 3 hts gX7_carryOutText_X0_swapWires rfl rfl rfl hdX0_swapWires ⟨Nat.le_of_ble_eq_true rfl, Nat.le_of_ble_eq_true rfl⟩) hK hP hD hDm hS hA EV.blind (fun U hU hW => EV.call hX hS hDm hU hW) (va_recv hK hP (ci := 1) (q0 := 1) rfl rfl) rfl hl.1 rfl (Nat.le_of_ble_eq_true rfl) dX7_carryOutText_128 ⟨by show c9 + 0 ≤ 2 * n; omega, by show d9 + 0 ≤ 15 * n; omega⟩ (fun H locs hP hD hS => ?_)
          refine lv_iinc (v := (x2 + (1 : Int32))) (lv' := [(2, .int (x2 + (1 : Int32))), (1, .int (x1 + (1 : Int32))), (0, .ref (q 0))]) hx hb dX7_carryOutText_131 hl (k := 2) rfl rfl (by decide) rfl (fun ls hl => ?_)
          refine lv_goto (tgt := 11) hx hb dX7_carryOutText_134 (by decide) ?_
          exact ih _ _ _ _ _ (by omega) (by omega) _ _ _ hP hD hS (lv_sub hl [2, 1, 0] rfl) h
      replace h := ieA c3 h
      obtain ⟨g4, h⟩ := gdA h
      obtain ⟨hlt, hmo⟩ := okAdd_ok g4
      refine lv_aload_n hx hb dX7_carryOutText_40 rfl (lv_at hl 1 rfl) ?_
      refine va_get (D := (dC, dI)) (ci := 8) (v := .ref (q 1)) (C := RX7) (T := TX7) (N := 5) hx hb hts hinX7 hown hK hP 0 rfl rfl 0 (by decide) (hts (.fieldLink RX7 10 "CableTester" "cable" "LCableTester$Cable;") (mm 2 rfl)) (fun _ h9 => h9) rfl dX7_carryOutText_41 ?_
      refine va_new (ci := 3) (fs := [.int 0, .int 0, .int 0, .int 0, .int 0]) (C := RX2) (T := TX2) (N := 5) hx hb hts hinX2 tyX2 tyX2_ok hown (hts (.classLink RX7 82 RX2) (mm 3 rfl)) (hts (.instantiable RX2 5) (mm 4 rfl)) (hts (.initialized RX2) (mm 5 rfl)) hK hP hD hS hA rfl (fun j hj => by rcases (show j = 0 ∨ j = 1 ∨ j = 2 ∨ j = 3 ∨ j = 4 by omega) with rfl | rfl | rfl | rfl | rfl <;> rfl) (by show c9 + 1 ≤ 2 * n; omega) (by show d9 + 5 ≤ 15 * n; omega) dX7_carryOutText_44 (fun a9 H hP hD hS => ?_)
      have hP0 := hP
      have hD0 := hD
      have hP : va_P (dC, dI) vwCl ((a9, .inr (3, [.int 0, .int 0, .int 0, .int 0, .int 0])) :: wA cq q S3 M o) H := va_P.swap (a := []) (b := wA cq q S3 M o) (c := [(a9, .inr (3, [.int 0, .int 0, .int 0, .int 0, .int 0]))]) hP
      have hD : va_D A ((a9, .inr (3, [.int 0, .int 0, .int 0, .int 0, .int 0])) :: wA cq q S3 M o) := va_D.swap (a := []) (b := wA cq q S3 M o) (c := [(a9, .inr (3, [.int 0, .int 0, .int 0, .int 0, .int 0]))]) hD
      refine lv_dup hx hb dX7_carryOutText_47 rfl ?_
      refine lv_aload_n hx hb dX7_carryOutText_48 rfl (lv_at hl 1 rfl) ?_
      refine va_get (D := (dC, dI)) (ci := 8) (v := .ref (q 20)) (C := RX7) (T := TX7) (N := 5) hx hb hts hinX7 hown hK hP 1 rfl rfl 4 (by decide) (hts (.fieldLink RX7 40 "CableTester" "text" "LCableTester$Text;") (mm 1 rfl)) (fun _ h9 => h9) rfl dX7_carryOutText_49 ?_
      refine va_getN (D := (dC, dI)) (ci := 7) (v := .int (S3.1 14)) (C := RX6) (T := TX6) (N := 10) hx hb hts hinX6 hown hK hP 21 rfl rfl 5 (by decide) (va_Nw.use rfl hX.1.2.2.2.2.2.2.2.2.2.2.2.1) (fun _ h9 => h9) rfl dX7_carryOutText_52 ?_
      refine lv_aload_n hx hb dX7_carryOutText_55 rfl (lv_at hl 1 rfl) ?_
      refine va_get (D := (dC, dI)) (ci := 8) (v := .ref (q 20)) (C := RX7) (T := TX7) (N := 5) hx hb hts hinX7 hown hK hP 1 rfl rfl 4 (by decide) (hts (.fieldLink RX7 40 "CableTester" "text" "LCableTester$Text;") (mm 1 rfl)) (fun _ h9 => h9) rfl dX7_carryOutText_56 ?_
      refine va_getN (D := (dC, dI)) (ci := 7) (v := .int (S3.1 15)) (C := RX6) (T := TX6) (N := 10) hx hb hts hinX6 hown hK hP 21 rfl rfl 6 (by decide) (va_Nw.use rfl hX.1.2.2.2.2.2.2.2.2.2.2.2.2.1) (fun _ h9 => h9) rfl dX7_carryOutText_59 ?_
      refine lv_aload_n hx hb dX7_carryOutText_62 rfl (lv_at hl 1 rfl) ?_
      refine va_get (D := (dC, dI)) (ci := 8) (v := .ref (q 20)) (C := RX7) (T := TX7) (N := 5) hx hb hts hinX7 hown hK hP 1 rfl rfl 4 (by decide) (hts (.fieldLink RX7 40 "CableTester" "text" "LCableTester$Text;") (mm 1 rfl)) (fun _ h9 => h9) rfl dX7_carryOutText_63 ?_
      refine va_getN (D := (dC, dI)) (ci := 7) (v := .int (S3.1 16)) (C := RX6) (T := TX6) (N := 10) hx hb hts hinX6 hown hK hP 21 rfl rfl 7 (by decide) (va_Nw.use rfl hX.1.2.2.2.2.2.2.2.2.2.2.2.2.2.1) (fun _ h9 => h9) rfl dX7_carryOutText_66 ?_
      refine lv_aload_n hx hb dX7_carryOutText_69 rfl (lv_at hl 1 rfl) ?_
      refine va_get (D := (dC, dI)) (ci := 8) (v := .ref (q 20)) (C := RX7) (T := TX7) (N := 5) hx hb hts hinX7 hown hK hP 1 rfl rfl 4 (by decide) (hts (.fieldLink RX7 40 "CableTester" "text" "LCableTester$Text;") (mm 1 rfl)) (fun _ h9 => h9) rfl dX7_carryOutText_70 ?_
      refine va_getN (D := (dC, dI)) (ci := 7) (v := .int (S3.1 17)) (C := RX6) (T := TX6) (N := 10) hx hb hts hinX6 hown hK hP 21 rfl rfl 8 (by decide) (va_Nw.use rfl hX.1.2.2.2.2.2.2.2.2.2.2.2.2.2.2.1) (fun _ h9 => h9) rfl dX7_carryOutText_73 ?_
      refine lv_aload_n hx hb dX7_carryOutText_76 rfl (lv_at hl 1 rfl) ?_
      refine va_get (D := (dC, dI)) (ci := 8) (v := .ref (q 20)) (C := RX7) (T := TX7) (N := 5) hx hb hts hinX7 hown hK hP 1 rfl rfl 4 (by decide) (hts (.fieldLink RX7 40 "CableTester" "text" "LCableTester$Text;") (mm 1 rfl)) (fun _ h9 => h9) rfl dX7_carryOutText_77 ?_
      refine va_getN (D := (dC, dI)) (ci := 7) (v := .int (S3.1 18)) (C := RX6) (T := TX6) (N := 10) hx hb hts hinX6 hown hK hP 21 rfl rfl 9 (by decide) (va_Nw.use rfl hX.1.2.2.2.2.2.2.2.2.2.2.2.2.2.2.2.1) (fun _ h9 => h9) rfl dX7_carryOutText_80 ?_
      refine caWI_v (wf := fun _ => (a9, .inr (3, [.int (S3.1 14), .int (S3.1 15), .int (S3.1 16), .int (S3.1 17), .int (S3.1 18)])) :: wA cq q S3 M o) (As := [.int (S3.1 14), .int (S3.1 15), .int (S3.1 16), .int (S3.1 17), .int (S3.1 18)]) (rest := [.ref a9, .ref (q 1)]) (ctX2_init l dC dI cq q _ h0 a9 (wA cq q S3 M o) (S3.1 14) (S3.1 15) (S3.1 16) (S3.1 17) (S3.1 18)) F (cwI 5 hts gX7_carryOutText_X2_init rfl rfl rfl (hts (.initialized RX2) (mm 5 rfl)) (hts (.methodLink RX7 84 yX2_init) (mm 73 rfl)) (hts (.instanceMethod yX2_init) (mm 74 rfl)) rfl hdX2_init ⟨Nat.le_of_ble_eq_true rfl, Nat.le_of_ble_eq_true rfl⟩) hK hP hD hDm hS hA EV.blind (fun U hU hW => EV.call hX hS hDm hU hW) rfl hl.1 rfl (Nat.le_of_ble_eq_true rfl) dX7_carryOutText_83 ⟨by show c9 + 1 + 0 ≤ 2 * n; omega, by show d9 + 5 + 0 ≤ 15 * n; omega⟩ (fun H locs u9 _ hP hD hS => ?_)
      have hP : va_P (dC, dI) vwCl (wA cq q S3 M o ++ [wFc (a9, fld5 (S3.1 14) (S3.1 15) (S3.1 16) (S3.1 17) (S3.1 18))]) H := va_P.swap (a := []) (b := [wFc (a9, fld5 (S3.1 14) (S3.1 15) (S3.1 16) (S3.1 17) (S3.1 18))]) (c := wA cq q S3 M o) hP
      have hD : va_D A (wA cq q S3 M o ++ [wFc (a9, fld5 (S3.1 14) (S3.1 15) (S3.1 16) (S3.1 17) (S3.1 18))]) := va_D.swap (a := []) (b := [wFc (a9, fld5 (S3.1 14) (S3.1 15) (S3.1 16) (S3.1 17) (S3.1 18))]) (c := wA cq q S3 M o) hD
      rw [wA_N] at hP hD
      refine caWV_i (As := [.ref a9]) (rest := []) (ctX0_addFault l dC dI cq q S3 M o _ _ (a9, fld5 (S3.1 14) (S3.1 15) (S3.1 16) (S3.1 17) (S3.1 18)) hlt hmo) F (cwV 1 hts gX7_carryOutText_X0_addFault rfl rfl rfl hdX0_addFault ⟨Nat.le_of_ble_eq_true rfl, Nat.le_of_ble_eq_true rfl⟩) hK hP hD hDm hS hA EV.blind (fun U hU hW => EV.call hX hS hDm hU hW) (va_recv hK hP (ci := 1) (q0 := 1) rfl rfl) rfl hl.1 rfl (Nat.le_of_ble_eq_true rfl) dX7_carryOutText_86 ⟨by show c9 + 1 + 0 + 1 ≤ 2 * n; omega, by show d9 + 5 + 0 + 10 ≤ 15 * n; omega⟩ (fun H locs r9 u9 hr hP hD hS => ?_)
      refine lv_pop hx hb dX7_carryOutText_89 rfl ?_
      refine lv_goto (tgt := 131) hx hb dX7_carryOutText_90 (by decide) ?_
      refine lv_iinc (v := (x2 + (1 : Int32))) (lv' := [(2, .int (x2 + (1 : Int32))), (1, .int (x1 + (1 : Int32))), (0, .ref (q 0))]) hx hb dX7_carryOutText_131 hl (k := 2) rfl rfl (by decide) rfl (fun ls hl => ?_)
      refine lv_goto (tgt := 11) hx hb dX7_carryOutText_134 (by decide) ?_
      exact ih _ _ _ _ _ (by omega) (by omega) _ _ _ hP hD hS (lv_sub hl [2, 1, 0] rfl) (fun or => h (oc (a9, u9) or))
  have h : Ok (fun or => (bn (mX6_rewind S) fun S1 => (mX7_carryOutText_11 n n or S1 (0 : Int32) (0 : Int32)))) P := h
  refine lv_iconst (v := (0 : Int32)) hx hb dX7_carryOutText_0 (by decide) ?_
  refine lv_istore_n (lv' := [(1, .int (0 : Int32)), (0, .ref (q 0))]) hx hb dX7_carryOutText_1 rfl hl (by decide) rfl (fun ls hl => ?_)
  refine lv_aload_n hx hb dX7_carryOutText_2 rfl (lv_at hl 1 rfl) ?_
  refine va_get (D := (dC, dI)) (ci := 8) (v := .ref (q 20)) (C := RX7) (T := TX7) (N := 5) hx hb hts hinX7 hown hK hP 0 rfl rfl 4 (by decide) (hts (.fieldLink RX7 40 "CableTester" "text" "LCableTester$Text;") (mm 1 rfl)) (fun _ h9 => h9) rfl dX7_carryOutText_3 ?_
  obtain ⟨S14, e13, h⟩ := boA h
  refine caVC_v (As := []) (rest := []) (ctX6_rewind l dC dI cq q S M o _ _ _ e13) F (cwV 0 hts gX7_carryOutText_X6_rewind rfl rfl rfl hdX6_rewind ⟨Nat.le_of_ble_eq_true rfl, Nat.le_of_ble_eq_true rfl⟩) hK hP hD hDm hS hA EV.blind (fun U hU hW => EV.call hX hS hDm hU hW) (va_recv hK hP (ci := 7) (q0 := 20) rfl rfl) rfl hl.1 rfl (Nat.le_of_ble_eq_true rfl) dX7_carryOutText_6 ⟨by show 0 + 0 ≤ 2 * n; omega, by show 0 + 0 ≤ 15 * n; omega⟩ (fun H locs hP hD hS => ?_)
  refine lv_iconst (v := (0 : Int32)) hx hb dX7_carryOutText_9 (by decide) ?_
  refine lv_istore_n (lv' := [(2, .int (0 : Int32)), (1, .int (0 : Int32)), (0, .ref (q 0))]) hx hb dX7_carryOutText_10 rfl hl (by decide) rfl (fun ls hl => ?_)
  exact hL n _ _ _ 0 0 (by omega) (by omega) _ _ _ hP hD hS (lv_sub hl [2, 1, 0] rfl) h
theorem bmO {α β γ : Type} {f : (Nat → Nat × Nat) → Option (α × β)} {g : α → β → Option γ} {P : γ → Prop} (h : Ok (fun or => bm (f or) g) P) : Ok f (fun ab => ∃ r, g ab.1 ab.2 = some r ∧ P r) := fun or => by
  obtain ⟨r, h1, h2⟩ := h or
  obtain ⟨a, b, h3, h4⟩ := bp h1
  exact ⟨(a, b), h3, r, h4, h2⟩
def mX7_load (n : Nat) (or : Nat → Nat × Nat) (S : CS) : Option (Except Nat Int32 × CS) :=
  (bm (mX6_isComplete n S) fun r1 S1 => (if r1 = (0 : Int32) then (some (.error 1, S1)) else (bm (mX7_textFitsCable n S1) fun r2 S2 => (if r2 = (0 : Int32) then (some (.error 3, S2)) else (bm (mX7_carryOutText n or S2) fun r3 S3 => (some (.ok r3, (sF S3 10 (0 : Int32)))))))))
abbrev rmX7_load (n : Nat) : Room := { frames := 8, cells := 2 * n + 1, slots := 15 * n + 6, locals := 233 }
theorem hdX7_load : yX7_load.cls = RX7 ∧ yX7_load.cls ≠ "java/lang/invoke/MethodHandle" ∧ yX7_load.cls ≠ "java/lang/invoke/VarHandle" ∧ (parseMethodDescriptor yX7_load.desc).map (fun d => d.parameters.length) = some 0 := by decide +kernel
set_option maxRecDepth 100000 in
set_option maxHeartbeats 8000000 in
theorem ctX7_load (l : Launch) (dC : Nat → ClassId) (dI : Nat → Nat → Nat) (cq : Nat → ClassId) (q : Nat → Nat) (S : CS) (M : MS) (o : Nat → Int64) (sz h0 : Nat) (hfl : l.stackTraces = false) (n : Nat) (P : Except Nat Int32 × CS → Prop) (h : Ok (fun or => mX7_load n or S) P) : CtX_i l yX7_load wsX7_load (rmX7_load n) (fun a => h0 ≤ a) (EV h0 q) dC dI cq (wA cq q S M o) sz [.ref (q 0)] (fun S => wA cq q S M o) (fun (r : Int32) (u : CS) => P (.ok r, u)) (fun k u => P (.error k, u)) (2 * n + 1) (15 * n + 6) := by
  refine enX_i (wf := fun S => wA cq q S M o) (cc := cX7_load) (maxL := 2) (by decide) rfl (Nat.le_of_ble_eq_true rfl) (fun p e s m args below meth c A Q ls hQ htab hlocks F hA hP hK hD hDm hX hS hl hend hthr => ?_)
  obtain ⟨hx, hb, hml, hown, hts⟩ := id F
  have hown : s.vm.findClass RX7 = some m.cls := hown
  have F : CallFix p m c cX7_load 2 s args wsX7_load RX7 := F
  have hl : lv_has ls 2 [(0, .ref (q 0))] := hl
  have hinX6 : ∀ w ∈ u_ws RX6 TX6 10, w ∈ wsX7_load := fun w h => List.mem_cons_of_mem _ (List.mem_append_left _ (List.mem_append_left _ (List.mem_append_left _ (List.mem_append_left _ (List.mem_append_left _ (List.mem_append_right _ h))))))
  have hinX7 : ∀ w ∈ u_ws RX7 TX7 5, w ∈ wsX7_load := fun w h => List.mem_cons_of_mem _ (List.mem_append_left _ (List.mem_append_left _ (List.mem_append_left _ (List.mem_append_left _ (List.mem_append_left _ (List.mem_append_left _ (List.mem_append_right _ h)))))))
  have h : Ok (fun or => (bm (mX6_isComplete n S) fun r1 S1 => (if r1 = (0 : Int32) then (some (.error 1, S1)) else (bm (mX7_textFitsCable n S1) fun r2 S2 => (if r2 = (0 : Int32) then (some (.error 3, S2)) else (bm (mX7_carryOutText n or S2) fun r3 S3 => (some (.ok r3, (sF S3 10 (0 : Int32)))))))))) P := h
  refine lv_aload_n hx hb dX7_load_0 rfl (lv_at hl 0 rfl) ?_
  refine va_get (D := (dC, dI)) (ci := 8) (v := .ref (q 20)) (C := RX7) (T := TX7) (N := 5) hx hb hts hinX7 hown hK hP 0 rfl rfl 4 (by decide) (hts (.fieldLink RX7 40 "CableTester" "text" "LCableTester$Text;") (mm 5 rfl)) (fun _ h9 => h9) rfl dX7_load_1 ?_
  obtain ⟨r1, S3, e2, h⟩ := bpA h
  refine caVC_i (As := []) (rest := []) (ctX6_isComplete l dC dI cq q S M o _ _ _ _ _ e2) F (cwV 0 hts gX7_load_X6_isComplete rfl rfl rfl hdX6_isComplete ⟨Nat.le_of_ble_eq_true rfl, Nat.le_of_ble_eq_true rfl⟩) hK hP hD hDm hS hA EV.blind (fun U hU hW => EV.call hX hS hDm hU hW) (va_recv hK hP (ci := 7) (q0 := 20) rfl rfl) rfl hl.1 rfl (Nat.le_of_ble_eq_true rfl) dX7_load_4 ⟨by show 0 + 0 ≤ 2 * n + 1; omega, by show 0 + 0 ≤ 15 * n + 6; omega⟩ (fun H locs hP hD hS => ?_)
  refine lv_if_ne (tgt := 20) hx hb dX7_load_7 (by decide) (fun c1 => ?_) (fun c1 => ?_)
  rotate_left
  · replace h := itA c1 h
    rw [hQ]
    exact thrN (wf := fun S => wA cq q S M o) hfl F hX hDm hK 1 _ hP hD hS (OkE h) rfl (by decide) (hts (.classLink RX7 144 "java/lang/IllegalArgumentException") (mm 1 rfl)) (hts (.initialized "java/lang/IllegalArgumentException") (mm 2 rfl)) hX.2.2.2.2.2.2.2.2.2.2.2.2.1 (vx_hat (fun w h => hts w ((fun w h => List.mem_cons_of_mem _ (List.mem_append_left _ (List.mem_append_right _ h))) w h)) atS_1 (vx_c (va_Nw.use rfl hX.1.2.2.2.2.2.2.2.2.2.2.2.2.2.2.2.2.2.2.2.2.2.1) (vx_c (va_Nw.use rfl hX.1.2.2.2.2.2.2.2.2.2.2.2.2.2.2.2.2.2.2.2.2.2.2.2.2.1) (vx_c (va_Nw.use rfl hX.1.2.2.2.2.2.2.2.2.2.2.2.2.2.2.2.2.2.2.2.2.2.2.2.2.2.1) (vx_c (va_Nw.use rfl hX.1.2.2.2.2.2.2.2.2.2.2.2.2.2.2.2.2.2.2.2.2.2.2.2.2.2.2) vx_n))))) gdS_1 hl.1 dX7_load_10 dX7_load_13 dX7_load_14 dX7_load_16 dX7_load_19 htab (Nat.le_of_ble_eq_true rfl) (Nat.le_of_ble_eq_true rfl) (by show 0 + 1 ≤ 2 * n + 1; omega) (by show 0 + 6 ≤ 15 * n + 6; omega) hlocks (by omega) (by omega)
  replace h := ieA c1 h
  refine lv_aload_n hx hb dX7_load_20 rfl (lv_at hl 0 rfl) ?_
  obtain ⟨r4, S6, e5, h⟩ := bpA h
  refine caVC_i (As := []) (rest := []) (ctX7_textFitsCable l dC dI cq q S3 M o _ _ _ _ _ e5) F (cwV 0 hts gX7_load_X7_textFitsCable rfl rfl rfl hdX7_textFitsCable ⟨Nat.le_of_ble_eq_true rfl, Nat.le_of_ble_eq_true rfl⟩) hK hP hD hDm hS hA EV.blind (fun U hU hW => EV.call hX hS hDm hU hW) (va_recv hK hP (ci := 8) (q0 := 0) rfl rfl) rfl hl.1 rfl (Nat.le_of_ble_eq_true rfl) dX7_load_21 ⟨by show 0 + 0 ≤ 2 * n + 1; omega, by show 0 + 0 ≤ 15 * n + 6; omega⟩ (fun H locs hP hD hS => ?_)
  refine lv_if_ne (tgt := 37) hx hb dX7_load_24 (by decide) (fun c2 => ?_) (fun c2 => ?_)
  rotate_left
  · replace h := itA c2 h
    rw [hQ]
    exact thrN (wf := fun S => wA cq q S M o) hfl F hX hDm hK 3 _ hP hD hS (OkE h) rfl (by decide) (hts (.classLink RX7 112 "java/lang/IllegalStateException") (mm 3 rfl)) (hts (.initialized "java/lang/IllegalStateException") (mm 4 rfl)) hX.2.2.2.2.2.2.2.2.2.2.2.2.2.1 (vx_hat (fun w h => hts w ((fun w h => List.mem_cons_of_mem _ (List.mem_append_right _ h)) w h)) atS_3 (vx_c (va_Nw.use rfl hX.1.2.2.2.2.2.2.2.2.2.2.2.2.2.2.2.2.2.2.2.2.2.2.2.1) (vx_c (va_Nw.use rfl hX.1.2.2.2.2.2.2.2.2.2.2.2.2.2.2.2.2.2.2.2.2.2.2.2.2.1) (vx_c (va_Nw.use rfl hX.1.2.2.2.2.2.2.2.2.2.2.2.2.2.2.2.2.2.2.2.2.2.2.2.2.2.1) (vx_c (va_Nw.use rfl hX.1.2.2.2.2.2.2.2.2.2.2.2.2.2.2.2.2.2.2.2.2.2.2.2.2.2.2) vx_n))))) gdS_3 hl.1 dX7_load_27 dX7_load_30 dX7_load_31 dX7_load_33 dX7_load_36 htab (Nat.le_of_ble_eq_true rfl) (Nat.le_of_ble_eq_true rfl) (by show 0 + 1 ≤ 2 * n + 1; omega) (by show 0 + 6 ≤ 15 * n + 6; omega) hlocks (by omega) (by omega)
  replace h := ieA c2 h
  refine lv_aload_n hx hb dX7_load_37 rfl (lv_at hl 0 rfl) ?_
  refine caWV_i (As := []) (rest := []) (ctX7_carryOutText l dC dI cq q S6 M o _ _ n _ (bmO h)) F (cwV 0 hts gX7_load_X7_carryOutText rfl rfl rfl hdX7_carryOutText ⟨Nat.le_of_ble_eq_true rfl, Nat.le_of_ble_eq_true rfl⟩) hK hP hD hDm hS hA EV.blind (fun U hU hW => EV.call hX hS hDm hU hW) (va_recv hK hP (ci := 8) (q0 := 0) rfl rfl) rfl hl.1 rfl (Nat.le_of_ble_eq_true rfl) dX7_load_38 ⟨by show 0 + 2 * n ≤ 2 * n + 1; omega, by show 0 + 15 * n ≤ 15 * n + 6; omega⟩ (fun H locs r9 S9 hr hP hD hS => ?_)
  obtain ⟨r8, hr1, hr2⟩ := hr
  cases hr1
  refine lv_istore_n (lv' := [(1, .int r9), (0, .ref (q 0))]) hx hb dX7_load_41 rfl hl (by decide) rfl (fun ls hl => ?_)
  refine lv_aload_n hx hb dX7_load_42 rfl (lv_at hl 1 rfl) ?_
  refine va_get (D := (dC, dI)) (ci := 8) (v := .ref (q 20)) (C := RX7) (T := TX7) (N := 5) hx hb hts hinX7 hown hK hP 0 rfl rfl 4 (by decide) (hts (.fieldLink RX7 40 "CableTester" "text" "LCableTester$Text;") (mm 5 rfl)) (fun _ h9 => h9) rfl dX7_load_43 ?_
  refine lv_iconst (v := (0 : Int32)) hx hb dX7_load_46 (by decide) ?_
  refine ptN_20_1 F hinX6 (va_Nw.use rfl hX.1.2.2.2.2.2.2.2.2.2.1) hK hP hD hS dX7_load_47 (fun H locs hP hD hS => ?_)
  refine lv_iload_n hx hb dX7_load_50 rfl (lv_at hl 0 rfl) ?_
  exact hend _ _ _ _ _ _ _ _ hr2 hP hD hS dX7_load_51 rfl (by omega) (by omega)
