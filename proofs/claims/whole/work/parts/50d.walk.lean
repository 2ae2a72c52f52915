set_option maxRecDepth 100000 in
set_option maxHeartbeats 8000000 in
theorem st_echo {p : Program} {l : Launch} {e : Env} {s : State} {m : MethodId} {below : List Frame} {meth : Method} {c : Code} {b L : Nat} {xs : Nat → Int32} {dC : Nat → ClassId} {dI : Nat → Nat → Nat} {cq : Nat → ClassId} {q : Nat → Nat} {Q : State → Prop} (hfl : l.stackTraces = false) (C : LC p s m c b L xs dC dI cq q) {n : Nat} (hn : 40000000 < n) {S : CS} {M : MS} {o : Nat → Int64} (hR : Rel S M) {i : Int32} (hin : ∀ t : Nat, 1 ≤ t → t ≤ 5 → vp_in (i + nI t) L) {H : Heap} {locs : List Loc} {cells slots : Nat} (hcl : cells + 121 ≤ 601024) (hsl : slots + 906 ≤ 7293034) (hP : va_P (dC, dI) vwCl (wA cq q S M o) H) (hD : va_D (fun a => s.heap.size ≤ a) (wA cq q S M o)) (hS : va_S (fun a => s.heap.size ≤ a) s.heap H locs) {ls : Array Slot} (hl : lv_has ls 9 [(4, .int i), (3, .ref (q 33)), (2, .ref (q 22)), (1, .ref (q 0)), (0, .ref b)])
    (kk : ∀ (S' : CS) (M' : MS) (o' : Nat → Int64) (H' : Heap) (locs' : List Loc) (ls' : Array Slot), Rel S' M' → va_P (dC, dI) vwCl (wA cq q S' M' o') H' → va_D (fun a => s.heap.size ≤ a) (wA cq q S' M' o') → va_S (fun a => s.heap.size ≤ a) s.heap H' locs' → lv_has ls' 9 [(4, .int i), (3, .ref (q 33)), (2, .ref (q 22)), (1, .ref (q 0)), (0, .ref b)] → W p l e room_1 s m #[Value.ref b] below meth c H' locs' (cells + 121) (slots + 906) Q (F0 m 1536 ls' [])) :
    W p l e room_1 s m #[Value.ref b] below meth c H locs cells slots Q (F0 m 934 ls []) := by
  obtain ⟨hx, hb, hml, hown, hts, hX, hbl, hK, hEV⟩ := id C
  have F : CallFix p m c cL_law 9 s #[Value.ref b] wsL_law RL := ⟨hx, hb, hml, hown, hts⟩
  have hA : ∀ a : Nat, s.heap.size ≤ a → (fun a => s.heap.size ≤ a) a := fun _ h => h
  have hDm : ∀ a : Nat, (fun a => s.heap.size ≤ a) a → s.heap.size ≤ a := fun _ h => h
  have hbA : ¬ (fun a : Nat => s.heap.size ≤ a) b := Nat.not_le.mpr hbl
  obtain ⟨rs, ⟨b1, M1⟩, e7, e8, hst⟩ := sq_echo hR (n := n) (by omega) (xs (i + (1 : Int32)).toNatClampNeg) (xs (i + (2 : Int32)).toNatClampNeg)
  refine lv_aload_n hx hb dL_law_934 rfl (lv_at hl 3 rfl) ?_
  refine lv_aload_n hx hb dL_law_935 rfl (lv_at hl 4 rfl) ?_
  refine lv_iload hx hb dL_law_936 (lv_at hl 0 rfl) ?_
  refine lv_iconst (v := (1 : Int32)) hx hb dL_law_938 (by decide) ?_
  refine lv_iadd hx hb dL_law_939 ?_
  refine va_sld hx hb hX hbl hbA hS (hin 1 (by decide) (by decide)) dL_law_940 ?_
  refine lv_aload_n hx hb dL_law_941 rfl (lv_at hl 4 rfl) ?_
  refine lv_iload hx hb dL_law_942 (lv_at hl 0 rfl) ?_
  refine lv_iconst (v := (2 : Int32)) hx hb dL_law_944 (by decide) ?_
  refine lv_iadd hx hb dL_law_945 ?_
  refine va_sld hx hb hX hbl hbA hS (hin 2 (by decide) (by decide)) dL_law_946 ?_
  refine lv_aload_n hx hb dL_law_947 rfl (lv_at hl 1 rfl) ?_
  refine caWS_i (As := [.ref (q 0), .int (xs (i + (1 : Int32)).toNatClampNeg), .int (xs (i + (2 : Int32)).toNatClampNeg), .ref (q 33)]) (rest := []) (ctL_echo l dC dI cq q S M o _ s.heap.size (xs (i + (1 : Int32)).toNatClampNeg) (xs (i + (2 : Int32)).toNatClampNeg) (fun (r : Int32) (u : CS) => rs = (.ok r, u)) (fun k u => rs = (.error k, u)) (fun sz => ctX7_echo l dC dI cq q S M o sz s.heap.size hfl n (xs (i + (1 : Int32)).toNatClampNeg) (xs (i + (2 : Int32)).toNatClampNeg) rs e7) (fun e u h => by rw [h] at hst; exact hst.1)) F (vx_cwSW 4 hts gL_law_L_echo rfl rfl rfl hdL_echo ⟨Nat.le_of_ble_eq_true rfl, Nat.le_of_ble_eq_true rfl⟩) hK hP hD hDm hS hA EV.blind (fun U hU hW => EV.call hEV hS hDm hU hW) rfl hl.1 rfl (Nat.le_of_ble_eq_true rfl) dL_law_948 ⟨by show cells + 2 ≤ 601024; omega, by show slots + 12 ≤ 7293034; omega⟩ (fun H locs r9 u9 h9 hP hD hS => ?_)
  obtain ⟨S1, o1⟩ := u9
  have hk := lw_fin (cd := cdL_echo) (ok := (fun e => e = 1 ∨ e = 2)) (z := (b1, M1)) (o := o) (h9.imp (fun ⟨hr, v, hv, ho⟩ => ⟨hr, v, by rw [← hv]; exact hst, ho⟩) (fun ⟨k, hk, hr, ho⟩ => ⟨k, by rw [← hk]; exact hst, hr, ho⟩))
  refine W.widen (k := cells + 121) (n := slots + 906) (by omega) (by omega) ?_
  refine lv_istore (lv' := [(5, .int r9), (4, .int i), (3, .ref (q 33)), (2, .ref (q 22)), (1, .ref (q 0)), (0, .ref b)]) hx hb dL_law_951 hl (by decide) rfl (fun ls hl => ?_)
  refine lv_aload_n hx hb dL_law_953 rfl (lv_at hl 3 rfl) ?_
  refine lv_aload_n hx hb dL_law_954 rfl (lv_at hl 5 rfl) ?_
  refine lv_iload hx hb dL_law_955 (lv_at hl 1 rfl) ?_
  refine lv_iconst (v := (1 : Int32)) hx hb dL_law_957 (by decide) ?_
  refine lv_iadd hx hb dL_law_958 ?_
  refine va_sld hx hb hX hbl hbA hS (hin 1 (by decide) (by decide)) dL_law_959 ?_
  refine lv_aload_n hx hb dL_law_960 rfl (lv_at hl 5 rfl) ?_
  refine lv_iload hx hb dL_law_961 (lv_at hl 1 rfl) ?_
  refine lv_iconst (v := (2 : Int32)) hx hb dL_law_963 (by decide) ?_
  refine lv_iadd hx hb dL_law_964 ?_
  refine va_sld hx hb hX hbl hbA hS (hin 2 (by decide) (by decide)) dL_law_965 ?_
  refine caVM_i (As := [.int (xs (i + (1 : Int32)).toNatClampNeg), .int (xs (i + (2 : Int32)).toNatClampNeg)]) (rest := []) (ctX8_echo l dC dI cq q S1 M o1 _ n (xs (i + (1 : Int32)).toNatClampNeg) (xs (i + (2 : Int32)).toNatClampNeg) b1 M1 e8) F (cwV 2 hts gL_law_X8_echo rfl rfl rfl hdX8_echo ⟨Nat.le_of_ble_eq_true rfl, Nat.le_of_ble_eq_true rfl⟩) hK hP hD (fun _ _ => trivial) hS hA (fun _ _ _ _ _ => trivial) (fun _ _ _ => trivial) (va_recv hK hP (ci := 9) (q0 := 22) rfl rfl) rfl hl.1 rfl (Nat.le_of_ble_eq_true rfl) dL_law_966 ⟨by show cells + 121 + 0 ≤ 601024; omega, by show slots + 906 + 0 ≤ 7293034; omega⟩ (fun H locs hP hD hS => ?_)
  refine lv_istore (lv' := [(6, .int b1), (5, .int r9), (4, .int i), (3, .ref (q 33)), (2, .ref (q 22)), (1, .ref (q 0)), (0, .ref b)]) hx hb dL_law_969 hl (by decide) rfl (fun ls hl => ?_)
  refine lv_aload_n hx hb dL_law_971 rfl (lv_at hl 4 rfl) ?_
  refine caVR_i (As := []) (rest := []) (ctX8_thrown l dC dI cq q S1 M1 o1 _ (M1.1 0) rfl) F (cwV 0 hts gL_law_X8_thrown rfl rfl rfl hdX8_thrown ⟨Nat.le_of_ble_eq_true rfl, Nat.le_of_ble_eq_true rfl⟩) hK hP hD (fun _ _ => trivial) hS hA (fun _ _ _ _ _ => trivial) (fun _ _ _ => trivial) (va_recv hK hP (ci := 9) (q0 := 22) rfl rfl) rfl hl.1 rfl (Nat.le_of_ble_eq_true rfl) dL_law_972 ⟨by show cells + 121 + 0 ≤ 601024; omega, by show slots + 906 + 0 ≤ 7293034; omega⟩ (fun H locs hP hD hS => ?_)
  refine lv_iload hx hb dL_law_975 (lv_at hl 1 rfl) ?_
  refine lv_icmp_eq (tgt := 982) hx hb dL_law_977 (by decide) (fun _ => ?_) (fun c9 => absurd hk.1 c9)
  refine lv_iload hx hb dL_law_982 (lv_at hl 1 rfl) ?_
  have fin : W p l e room_1 s m #[Value.ref b] below meth c H locs (cells + 121) (slots + 906) Q (F0 m 999 ls []) := lv_goto (tgt := 1536) hx hb dL_law_999 (by decide) (kk _ _ _ _ _ _ hk.2.2 hP hD hS (lv_sub hl [2, 3, 4, 5, 6] rfl))
  refine lv_if_ne (tgt := 999) hx hb dL_law_984 (by decide) (fun _ => fin) (fun c8 => ?_)
  refine lv_aload_n hx hb dL_law_987 rfl (lv_at hl 3 rfl) ?_
  refine lv_iconst (v := (0 : Int32)) hx hb dL_law_988 (by decide) ?_
  refine va_lald (D := (dC, dI)) hx hb hK hP 33 23 rfl rfl (inb_ok (i := 0) (n := 1) (by decide)) dL_law_989 ?_
  refine lv_iload hx hb dL_law_990 (lv_at hl 0 rfl) ?_
  refine lv_i2l hx hb dL_law_992 rfl ?_
  refine W.lcmp hx hb dL_law_993 ?_
  exact lv_if_eq (tgt := 999) hx hb dL_law_994 (by decide) (fun _ => fin) (fun c7 => absurd ((lg_cmp_eq _ _).mpr (hk.2.1 c8)) c7)
set_option maxRecDepth 100000 in
set_option maxHeartbeats 8000000 in
theorem st_crosstalk {p : Program} {l : Launch} {e : Env} {s : State} {m : MethodId} {below : List Frame} {meth : Method} {c : Code} {b L : Nat} {xs : Nat → Int32} {dC : Nat → ClassId} {dI : Nat → Nat → Nat} {cq : Nat → ClassId} {q : Nat → Nat} {Q : State → Prop} (hfl : l.stackTraces = false) (C : LC p s m c b L xs dC dI cq q) {n : Nat} (hn : 40000000 < n) {S : CS} {M : MS} {o : Nat → Int64} (hR : Rel S M) {i : Int32} (hin : ∀ t : Nat, 1 ≤ t → t ≤ 5 → vp_in (i + nI t) L) {H : Heap} {locs : List Loc} {cells slots : Nat} (hcl : cells + 121 ≤ 601024) (hsl : slots + 906 ≤ 7293034) (hP : va_P (dC, dI) vwCl (wA cq q S M o) H) (hD : va_D (fun a => s.heap.size ≤ a) (wA cq q S M o)) (hS : va_S (fun a => s.heap.size ≤ a) s.heap H locs) {ls : Array Slot} (hl : lv_has ls 9 [(4, .int i), (3, .ref (q 33)), (2, .ref (q 22)), (1, .ref (q 0)), (0, .ref b)])
    (kk : ∀ (S' : CS) (M' : MS) (o' : Nat → Int64) (H' : Heap) (locs' : List Loc) (ls' : Array Slot), Rel S' M' → va_P (dC, dI) vwCl (wA cq q S' M' o') H' → va_D (fun a => s.heap.size ≤ a) (wA cq q S' M' o') → va_S (fun a => s.heap.size ≤ a) s.heap H' locs' → lv_has ls' 9 [(4, .int i), (3, .ref (q 33)), (2, .ref (q 22)), (1, .ref (q 0)), (0, .ref b)] → W p l e room_1 s m #[Value.ref b] below meth c H' locs' (cells + 121) (slots + 906) Q (F0 m 1536 ls' [])) :
    W p l e room_1 s m #[Value.ref b] below meth c H locs cells slots Q (F0 m 1002 ls []) := by
  obtain ⟨hx, hb, hml, hown, hts, hX, hbl, hK, hEV⟩ := id C
  have F : CallFix p m c cL_law 9 s #[Value.ref b] wsL_law RL := ⟨hx, hb, hml, hown, hts⟩
  have hA : ∀ a : Nat, s.heap.size ≤ a → (fun a => s.heap.size ≤ a) a := fun _ h => h
  have hDm : ∀ a : Nat, (fun a => s.heap.size ≤ a) a → s.heap.size ≤ a := fun _ h => h
  have hbA : ¬ (fun a : Nat => s.heap.size ≤ a) b := Nat.not_le.mpr hbl
  obtain ⟨rs, ⟨b1, M1⟩, e7, e8, hst⟩ := sq_crosstalk hR (n := n) (by omega) (xs (i + (1 : Int32)).toNatClampNeg) (xs (i + (2 : Int32)).toNatClampNeg)
  refine lv_aload_n hx hb dL_law_1002 rfl (lv_at hl 3 rfl) ?_
  refine lv_aload_n hx hb dL_law_1003 rfl (lv_at hl 4 rfl) ?_
  refine lv_iload hx hb dL_law_1004 (lv_at hl 0 rfl) ?_
  refine lv_iconst (v := (1 : Int32)) hx hb dL_law_1006 (by decide) ?_
  refine lv_iadd hx hb dL_law_1007 ?_
  refine va_sld hx hb hX hbl hbA hS (hin 1 (by decide) (by decide)) dL_law_1008 ?_
  refine lv_aload_n hx hb dL_law_1009 rfl (lv_at hl 4 rfl) ?_
  refine lv_iload hx hb dL_law_1010 (lv_at hl 0 rfl) ?_
  refine lv_iconst (v := (2 : Int32)) hx hb dL_law_1012 (by decide) ?_
  refine lv_iadd hx hb dL_law_1013 ?_
  refine va_sld hx hb hX hbl hbA hS (hin 2 (by decide) (by decide)) dL_law_1014 ?_
  refine lv_aload_n hx hb dL_law_1015 rfl (lv_at hl 1 rfl) ?_
  refine caWS_i (As := [.ref (q 0), .int (xs (i + (1 : Int32)).toNatClampNeg), .int (xs (i + (2 : Int32)).toNatClampNeg), .ref (q 33)]) (rest := []) (ctL_crosstalk l dC dI cq q S M o _ s.heap.size (xs (i + (1 : Int32)).toNatClampNeg) (xs (i + (2 : Int32)).toNatClampNeg) (fun (r : Int32) (u : CS) => rs = (.ok r, u)) (fun k u => rs = (.error k, u)) (fun sz => ctX7_crosstalk l dC dI cq q S M o sz s.heap.size hfl n (xs (i + (1 : Int32)).toNatClampNeg) (xs (i + (2 : Int32)).toNatClampNeg) rs e7) (fun e u h => by rw [h] at hst; exact hst.1)) F (vx_cwSW 4 hts gL_law_L_crosstalk rfl rfl rfl hdL_crosstalk ⟨Nat.le_of_ble_eq_true rfl, Nat.le_of_ble_eq_true rfl⟩) hK hP hD hDm hS hA EV.blind (fun U hU hW => EV.call hEV hS hDm hU hW) rfl hl.1 rfl (Nat.le_of_ble_eq_true rfl) dL_law_1016 ⟨by show cells + 2 ≤ 601024; omega, by show slots + 12 ≤ 7293034; omega⟩ (fun H locs r9 u9 h9 hP hD hS => ?_)
  obtain ⟨S1, o1⟩ := u9
  have hk := lw_fin (cd := cdL_crosstalk) (ok := (fun e => e = 2)) (z := (b1, M1)) (o := o) (h9.imp (fun ⟨hr, v, hv, ho⟩ => ⟨hr, v, by rw [← hv]; exact hst, ho⟩) (fun ⟨k, hk, hr, ho⟩ => ⟨k, by rw [← hk]; exact hst, hr, ho⟩))
  refine W.widen (k := cells + 121) (n := slots + 906) (by omega) (by omega) ?_
  refine lv_istore (lv' := [(5, .int r9), (4, .int i), (3, .ref (q 33)), (2, .ref (q 22)), (1, .ref (q 0)), (0, .ref b)]) hx hb dL_law_1019 hl (by decide) rfl (fun ls hl => ?_)
  refine lv_aload_n hx hb dL_law_1021 rfl (lv_at hl 3 rfl) ?_
  refine lv_aload_n hx hb dL_law_1022 rfl (lv_at hl 5 rfl) ?_
  refine lv_iload hx hb dL_law_1023 (lv_at hl 1 rfl) ?_
  refine lv_iconst (v := (1 : Int32)) hx hb dL_law_1025 (by decide) ?_
  refine lv_iadd hx hb dL_law_1026 ?_
  refine va_sld hx hb hX hbl hbA hS (hin 1 (by decide) (by decide)) dL_law_1027 ?_
  refine lv_aload_n hx hb dL_law_1028 rfl (lv_at hl 5 rfl) ?_
  refine lv_iload hx hb dL_law_1029 (lv_at hl 1 rfl) ?_
  refine lv_iconst (v := (2 : Int32)) hx hb dL_law_1031 (by decide) ?_
  refine lv_iadd hx hb dL_law_1032 ?_
  refine va_sld hx hb hX hbl hbA hS (hin 2 (by decide) (by decide)) dL_law_1033 ?_
  refine caVM_i (As := [.int (xs (i + (1 : Int32)).toNatClampNeg), .int (xs (i + (2 : Int32)).toNatClampNeg)]) (rest := []) (ctX8_crosstalk l dC dI cq q S1 M o1 _ n (xs (i + (1 : Int32)).toNatClampNeg) (xs (i + (2 : Int32)).toNatClampNeg) b1 M1 e8) F (cwV 2 hts gL_law_X8_crosstalk rfl rfl rfl hdX8_crosstalk ⟨Nat.le_of_ble_eq_true rfl, Nat.le_of_ble_eq_true rfl⟩) hK hP hD (fun _ _ => trivial) hS hA (fun _ _ _ _ _ => trivial) (fun _ _ _ => trivial) (va_recv hK hP (ci := 9) (q0 := 22) rfl rfl) rfl hl.1 rfl (Nat.le_of_ble_eq_true rfl) dL_law_1034 ⟨by show cells + 121 + 0 ≤ 601024; omega, by show slots + 906 + 0 ≤ 7293034; omega⟩ (fun H locs hP hD hS => ?_)
  refine lv_istore (lv' := [(6, .int b1), (5, .int r9), (4, .int i), (3, .ref (q 33)), (2, .ref (q 22)), (1, .ref (q 0)), (0, .ref b)]) hx hb dL_law_1037 hl (by decide) rfl (fun ls hl => ?_)
  refine lv_aload_n hx hb dL_law_1039 rfl (lv_at hl 4 rfl) ?_
  refine caVR_i (As := []) (rest := []) (ctX8_thrown l dC dI cq q S1 M1 o1 _ (M1.1 0) rfl) F (cwV 0 hts gL_law_X8_thrown rfl rfl rfl hdX8_thrown ⟨Nat.le_of_ble_eq_true rfl, Nat.le_of_ble_eq_true rfl⟩) hK hP hD (fun _ _ => trivial) hS hA (fun _ _ _ _ _ => trivial) (fun _ _ _ => trivial) (va_recv hK hP (ci := 9) (q0 := 22) rfl rfl) rfl hl.1 rfl (Nat.le_of_ble_eq_true rfl) dL_law_1040 ⟨by show cells + 121 + 0 ≤ 601024; omega, by show slots + 906 + 0 ≤ 7293034; omega⟩ (fun H locs hP hD hS => ?_)
  refine lv_iload hx hb dL_law_1043 (lv_at hl 1 rfl) ?_
  refine lv_icmp_eq (tgt := 1050) hx hb dL_law_1045 (by decide) (fun _ => ?_) (fun c9 => absurd hk.1 c9)
  refine lv_iload hx hb dL_law_1050 (lv_at hl 1 rfl) ?_
  have fin : W p l e room_1 s m #[Value.ref b] below meth c H locs (cells + 121) (slots + 906) Q (F0 m 1067 ls []) := lv_goto (tgt := 1536) hx hb dL_law_1067 (by decide) (kk _ _ _ _ _ _ hk.2.2 hP hD hS (lv_sub hl [2, 3, 4, 5, 6] rfl))
  refine lv_if_ne (tgt := 1067) hx hb dL_law_1052 (by decide) (fun _ => fin) (fun c8 => ?_)
  refine lv_aload_n hx hb dL_law_1055 rfl (lv_at hl 3 rfl) ?_
  refine lv_iconst (v := (0 : Int32)) hx hb dL_law_1056 (by decide) ?_
  refine va_lald (D := (dC, dI)) hx hb hK hP 33 23 rfl rfl (inb_ok (i := 0) (n := 1) (by decide)) dL_law_1057 ?_
  refine lv_iload hx hb dL_law_1058 (lv_at hl 0 rfl) ?_
  refine lv_i2l hx hb dL_law_1060 rfl ?_
  refine W.lcmp hx hb dL_law_1061 ?_
  exact lv_if_eq (tgt := 1067) hx hb dL_law_1062 (by decide) (fun _ => fin) (fun c7 => absurd ((lg_cmp_eq _ _).mpr (hk.2.1 c8)) c7)
set_option maxRecDepth 100000 in
set_option maxHeartbeats 8000000 in
theorem st_identify {p : Program} {l : Launch} {e : Env} {s : State} {m : MethodId} {below : List Frame} {meth : Method} {c : Code} {b L : Nat} {xs : Nat → Int32} {dC : Nat → ClassId} {dI : Nat → Nat → Nat} {cq : Nat → ClassId} {q : Nat → Nat} {Q : State → Prop} (hfl : l.stackTraces = false) (C : LC p s m c b L xs dC dI cq q) {n : Nat} (hn : 40000000 < n) {S : CS} {M : MS} {o : Nat → Int64} (hR : Rel S M) {i : Int32} (hin : ∀ t : Nat, 1 ≤ t → t ≤ 5 → vp_in (i + nI t) L) {H : Heap} {locs : List Loc} {cells slots : Nat} (hcl : cells + 121 ≤ 601024) (hsl : slots + 906 ≤ 7293034) (hP : va_P (dC, dI) vwCl (wA cq q S M o) H) (hD : va_D (fun a => s.heap.size ≤ a) (wA cq q S M o)) (hS : va_S (fun a => s.heap.size ≤ a) s.heap H locs) {ls : Array Slot} (hl : lv_has ls 9 [(4, .int i), (3, .ref (q 33)), (2, .ref (q 22)), (1, .ref (q 0)), (0, .ref b)])
    (kk : ∀ (S' : CS) (M' : MS) (o' : Nat → Int64) (H' : Heap) (locs' : List Loc) (ls' : Array Slot), Rel S' M' → va_P (dC, dI) vwCl (wA cq q S' M' o') H' → va_D (fun a => s.heap.size ≤ a) (wA cq q S' M' o') → va_S (fun a => s.heap.size ≤ a) s.heap H' locs' → lv_has ls' 9 [(4, .int i), (3, .ref (q 33)), (2, .ref (q 22)), (1, .ref (q 0)), (0, .ref b)] → W p l e room_1 s m #[Value.ref b] below meth c H' locs' (cells + 121) (slots + 906) Q (F0 m 1536 ls' [])) :
    W p l e room_1 s m #[Value.ref b] below meth c H locs cells slots Q (F0 m 1070 ls []) := by
  obtain ⟨hx, hb, hml, hown, hts, hX, hbl, hK, hEV⟩ := id C
  have F : CallFix p m c cL_law 9 s #[Value.ref b] wsL_law RL := ⟨hx, hb, hml, hown, hts⟩
  have hA : ∀ a : Nat, s.heap.size ≤ a → (fun a => s.heap.size ≤ a) a := fun _ h => h
  have hDm : ∀ a : Nat, (fun a => s.heap.size ≤ a) a → s.heap.size ≤ a := fun _ h => h
  have hbA : ¬ (fun a : Nat => s.heap.size ≤ a) b := Nat.not_le.mpr hbl
  obtain ⟨w, S1, M1, e7, e8, hrel⟩ := sq_identify hR (n := n) (by omega)
  refine lv_aload_n hx hb dL_law_1070 rfl (lv_at hl 3 rfl) ?_
  refine caVC_i (As := []) (rest := []) (ctX7_identify l dC dI cq q S M o _ s.heap.size n w S1 e7) F (cwV 0 hts gL_law_X7_identify rfl rfl rfl hdX7_identify ⟨Nat.le_of_ble_eq_true rfl, Nat.le_of_ble_eq_true rfl⟩) hK hP hD hDm hS hA EV.blind (fun U hU hW => EV.call hEV hS hDm hU hW) (va_recv hK hP (ci := 8) (q0 := 0) rfl rfl) rfl hl.1 rfl (Nat.le_of_ble_eq_true rfl) dL_law_1071 ⟨by show cells + 0 ≤ 601024; omega, by show slots + 0 ≤ 7293034; omega⟩ (fun H locs hP hD hS => ?_)
  refine lv_aload_n hx hb dL_law_1074 rfl (lv_at hl 2 rfl) ?_
  refine caVM_i (As := []) (rest := [.int w]) (ctX8_identify l dC dI cq q S1 M o _ n w M1 e8) F (cwV 0 hts gL_law_X8_identify rfl rfl rfl hdX8_identify ⟨Nat.le_of_ble_eq_true rfl, Nat.le_of_ble_eq_true rfl⟩) hK hP hD (fun _ _ => trivial) hS hA (fun _ _ _ _ _ => trivial) (fun _ _ _ => trivial) (va_recv hK hP (ci := 9) (q0 := 22) rfl rfl) rfl hl.1 rfl (Nat.le_of_ble_eq_true rfl) dL_law_1075 ⟨by show cells + 0 ≤ 601024; omega, by show slots + 0 ≤ 7293034; omega⟩ (fun H locs hP hD hS => ?_)
  refine W.widen (k := cells + 121) (n := slots + 906) (by omega) (by omega) ?_
  exact lv_icmp_eq (tgt := 1536) hx hb dL_law_1078 (by decide) (fun _ => kk _ _ _ _ _ _ hrel hP hD hS hl) (fun c9 => absurd rfl c9)
set_option maxRecDepth 100000 in
set_option maxHeartbeats 8000000 in
theorem st_records {p : Program} {l : Launch} {e : Env} {s : State} {m : MethodId} {below : List Frame} {meth : Method} {c : Code} {b L : Nat} {xs : Nat → Int32} {dC : Nat → ClassId} {dI : Nat → Nat → Nat} {cq : Nat → ClassId} {q : Nat → Nat} {Q : State → Prop} (hfl : l.stackTraces = false) (C : LC p s m c b L xs dC dI cq q) {n : Nat} (hn : 40000000 < n) {S : CS} {M : MS} {o : Nat → Int64} (hR : Rel S M) {i : Int32} (hin : ∀ t : Nat, 1 ≤ t → t ≤ 5 → vp_in (i + nI t) L) {H : Heap} {locs : List Loc} {cells slots : Nat} (hcl : cells + 121 ≤ 601024) (hsl : slots + 906 ≤ 7293034) (hP : va_P (dC, dI) vwCl (wA cq q S M o) H) (hD : va_D (fun a => s.heap.size ≤ a) (wA cq q S M o)) (hS : va_S (fun a => s.heap.size ≤ a) s.heap H locs) {ls : Array Slot} (hl : lv_has ls 9 [(4, .int i), (3, .ref (q 33)), (2, .ref (q 22)), (1, .ref (q 0)), (0, .ref b)])
    (kk : ∀ (S' : CS) (M' : MS) (o' : Nat → Int64) (H' : Heap) (locs' : List Loc) (ls' : Array Slot), Rel S' M' → va_P (dC, dI) vwCl (wA cq q S' M' o') H' → va_D (fun a => s.heap.size ≤ a) (wA cq q S' M' o') → va_S (fun a => s.heap.size ≤ a) s.heap H' locs' → lv_has ls' 9 [(4, .int i), (3, .ref (q 33)), (2, .ref (q 22)), (1, .ref (q 0)), (0, .ref b)] → W p l e room_1 s m #[Value.ref b] below meth c H' locs' (cells + 121) (slots + 906) Q (F0 m 1536 ls' [])) :
    W p l e room_1 s m #[Value.ref b] below meth c H locs cells slots Q (F0 m 1083 ls []) := by
  obtain ⟨hx, hb, hml, hown, hts, hX, hbl, hK, hEV⟩ := id C
  have F : CallFix p m c cL_law 9 s #[Value.ref b] wsL_law RL := ⟨hx, hb, hml, hown, hts⟩
  have hA : ∀ a : Nat, s.heap.size ≤ a → (fun a => s.heap.size ≤ a) a := fun _ h => h
  have hDm : ∀ a : Nat, (fun a => s.heap.size ≤ a) a → s.heap.size ≤ a := fun _ h => h
  have hbA : ¬ (fun a : Nat => s.heap.size ≤ a) b := Nat.not_le.mpr hbl
  obtain ⟨rs, ⟨b1, M1⟩, e7, e8, hst⟩ := sq_records hR (n := n) (by omega) (xs (i + (1 : Int32)).toNatClampNeg) (xs (i + (2 : Int32)).toNatClampNeg)
  refine lv_aload_n hx hb dL_law_1083 rfl (lv_at hl 3 rfl) ?_
  refine lv_aload_n hx hb dL_law_1084 rfl (lv_at hl 4 rfl) ?_
  refine lv_iload hx hb dL_law_1085 (lv_at hl 0 rfl) ?_
  refine lv_iconst (v := (1 : Int32)) hx hb dL_law_1087 (by decide) ?_
  refine lv_iadd hx hb dL_law_1088 ?_
  refine va_sld hx hb hX hbl hbA hS (hin 1 (by decide) (by decide)) dL_law_1089 ?_
  refine lv_aload_n hx hb dL_law_1090 rfl (lv_at hl 4 rfl) ?_
  refine lv_iload hx hb dL_law_1091 (lv_at hl 0 rfl) ?_
  refine lv_iconst (v := (2 : Int32)) hx hb dL_law_1093 (by decide) ?_
  refine lv_iadd hx hb dL_law_1094 ?_
  refine va_sld hx hb hX hbl hbA hS (hin 2 (by decide) (by decide)) dL_law_1095 ?_
  refine lv_aload_n hx hb dL_law_1096 rfl (lv_at hl 1 rfl) ?_
  refine caWS_i (As := [.ref (q 0), .int (xs (i + (1 : Int32)).toNatClampNeg), .int (xs (i + (2 : Int32)).toNatClampNeg), .ref (q 33)]) (rest := []) (ctL_records l dC dI cq q S M o _ s.heap.size (xs (i + (1 : Int32)).toNatClampNeg) (xs (i + (2 : Int32)).toNatClampNeg) (fun (r : Int32) (u : CS) => rs = (.ok r, u)) (fun k u => rs = (.error k, u)) (fun sz => ctX7_records l dC dI cq q S M o sz s.heap.size hfl n (xs (i + (1 : Int32)).toNatClampNeg) (xs (i + (2 : Int32)).toNatClampNeg) rs e7) (fun e u h => by rw [h] at hst; exact hst.1)) F (vx_cwSW 4 hts gL_law_L_records rfl rfl rfl hdL_records ⟨Nat.le_of_ble_eq_true rfl, Nat.le_of_ble_eq_true rfl⟩) hK hP hD hDm hS hA EV.blind (fun U hU hW => EV.call hEV hS hDm hU hW) rfl hl.1 rfl (Nat.le_of_ble_eq_true rfl) dL_law_1097 ⟨by show cells + 2 ≤ 601024; omega, by show slots + 12 ≤ 7293034; omega⟩ (fun H locs r9 u9 h9 hP hD hS => ?_)
  obtain ⟨S1, o1⟩ := u9
  have hk := lw_fin (cd := cdL_records) (ok := (fun e => e = 1 ∨ e = 2)) (z := (b1, M1)) (o := o) (h9.imp (fun ⟨hr, v, hv, ho⟩ => ⟨hr, v, by rw [← hv]; exact hst, ho⟩) (fun ⟨k, hk, hr, ho⟩ => ⟨k, by rw [← hk]; exact hst, hr, ho⟩))
  refine W.widen (k := cells + 121) (n := slots + 906) (by omega) (by omega) ?_
  refine lv_istore (lv' := [(5, .int r9), (4, .int i), (3, .ref (q 33)), (2, .ref (q 22)), (1, .ref (q 0)), (0, .ref b)]) hx hb dL_law_1100 hl (by decide) rfl (fun ls hl => ?_)
  refine lv_aload_n hx hb dL_law_1102 rfl (lv_at hl 3 rfl) ?_
  refine lv_aload_n hx hb dL_law_1103 rfl (lv_at hl 5 rfl) ?_
  refine lv_iload hx hb dL_law_1104 (lv_at hl 1 rfl) ?_
  refine lv_iconst (v := (1 : Int32)) hx hb dL_law_1106 (by decide) ?_
  refine lv_iadd hx hb dL_law_1107 ?_
  refine va_sld hx hb hX hbl hbA hS (hin 1 (by decide) (by decide)) dL_law_1108 ?_
  refine lv_aload_n hx hb dL_law_1109 rfl (lv_at hl 5 rfl) ?_
  refine lv_iload hx hb dL_law_1110 (lv_at hl 1 rfl) ?_
  refine lv_iconst (v := (2 : Int32)) hx hb dL_law_1112 (by decide) ?_
  refine lv_iadd hx hb dL_law_1113 ?_
  refine va_sld hx hb hX hbl hbA hS (hin 2 (by decide) (by decide)) dL_law_1114 ?_
  refine caVM_i (As := [.int (xs (i + (1 : Int32)).toNatClampNeg), .int (xs (i + (2 : Int32)).toNatClampNeg)]) (rest := []) (ctX8_records l dC dI cq q S1 M o1 _ n (xs (i + (1 : Int32)).toNatClampNeg) (xs (i + (2 : Int32)).toNatClampNeg) b1 M1 e8) F (cwV 2 hts gL_law_X8_records rfl rfl rfl hdX8_records ⟨Nat.le_of_ble_eq_true rfl, Nat.le_of_ble_eq_true rfl⟩) hK hP hD (fun _ _ => trivial) hS hA (fun _ _ _ _ _ => trivial) (fun _ _ _ => trivial) (va_recv hK hP (ci := 9) (q0 := 22) rfl rfl) rfl hl.1 rfl (Nat.le_of_ble_eq_true rfl) dL_law_1115 ⟨by show cells + 121 + 0 ≤ 601024; omega, by show slots + 906 + 0 ≤ 7293034; omega⟩ (fun H locs hP hD hS => ?_)
  refine lv_istore (lv' := [(6, .int b1), (5, .int r9), (4, .int i), (3, .ref (q 33)), (2, .ref (q 22)), (1, .ref (q 0)), (0, .ref b)]) hx hb dL_law_1118 hl (by decide) rfl (fun ls hl => ?_)
  refine lv_aload_n hx hb dL_law_1120 rfl (lv_at hl 4 rfl) ?_
  refine caVR_i (As := []) (rest := []) (ctX8_thrown l dC dI cq q S1 M1 o1 _ (M1.1 0) rfl) F (cwV 0 hts gL_law_X8_thrown rfl rfl rfl hdX8_thrown ⟨Nat.le_of_ble_eq_true rfl, Nat.le_of_ble_eq_true rfl⟩) hK hP hD (fun _ _ => trivial) hS hA (fun _ _ _ _ _ => trivial) (fun _ _ _ => trivial) (va_recv hK hP (ci := 9) (q0 := 22) rfl rfl) rfl hl.1 rfl (Nat.le_of_ble_eq_true rfl) dL_law_1121 ⟨by show cells + 121 + 0 ≤ 601024; omega, by show slots + 906 + 0 ≤ 7293034; omega⟩ (fun H locs hP hD hS => ?_)
  refine lv_iload hx hb dL_law_1124 (lv_at hl 1 rfl) ?_
  refine lv_icmp_eq (tgt := 1131) hx hb dL_law_1126 (by decide) (fun _ => ?_) (fun c9 => absurd hk.1 c9)
  refine lv_iload hx hb dL_law_1131 (lv_at hl 1 rfl) ?_
  have fin : W p l e room_1 s m #[Value.ref b] below meth c H locs (cells + 121) (slots + 906) Q (F0 m 1148 ls []) := lv_goto (tgt := 1536) hx hb dL_law_1148 (by decide) (kk _ _ _ _ _ _ hk.2.2 hP hD hS (lv_sub hl [2, 3, 4, 5, 6] rfl))
  refine lv_if_ne (tgt := 1148) hx hb dL_law_1133 (by decide) (fun _ => fin) (fun c8 => ?_)
  refine lv_aload_n hx hb dL_law_1136 rfl (lv_at hl 3 rfl) ?_
  refine lv_iconst (v := (0 : Int32)) hx hb dL_law_1137 (by decide) ?_
  refine va_lald (D := (dC, dI)) hx hb hK hP 33 23 rfl rfl (inb_ok (i := 0) (n := 1) (by decide)) dL_law_1138 ?_
  refine lv_iload hx hb dL_law_1139 (lv_at hl 0 rfl) ?_
  refine lv_i2l hx hb dL_law_1141 rfl ?_
  refine W.lcmp hx hb dL_law_1142 ?_
  exact lv_if_eq (tgt := 1148) hx hb dL_law_1143 (by decide) (fun _ => fin) (fun c7 => absurd ((lg_cmp_eq _ _).mpr (hk.2.1 c8)) c7)
set_option maxRecDepth 100000 in
set_option maxHeartbeats 8000000 in
theorem st_suspect {p : Program} {l : Launch} {e : Env} {s : State} {m : MethodId} {below : List Frame} {meth : Method} {c : Code} {b L : Nat} {xs : Nat → Int32} {dC : Nat → ClassId} {dI : Nat → Nat → Nat} {cq : Nat → ClassId} {q : Nat → Nat} {Q : State → Prop} (hfl : l.stackTraces = false) (C : LC p s m c b L xs dC dI cq q) {n : Nat} (hn : 40000000 < n) {S : CS} {M : MS} {o : Nat → Int64} (hR : Rel S M) {i : Int32} (hin : ∀ t : Nat, 1 ≤ t → t ≤ 5 → vp_in (i + nI t) L) {H : Heap} {locs : List Loc} {cells slots : Nat} (hcl : cells + 121 ≤ 601024) (hsl : slots + 906 ≤ 7293034) (hP : va_P (dC, dI) vwCl (wA cq q S M o) H) (hD : va_D (fun a => s.heap.size ≤ a) (wA cq q S M o)) (hS : va_S (fun a => s.heap.size ≤ a) s.heap H locs) {ls : Array Slot} (hl : lv_has ls 9 [(4, .int i), (3, .ref (q 33)), (2, .ref (q 22)), (1, .ref (q 0)), (0, .ref b)])
    (kk : ∀ (S' : CS) (M' : MS) (o' : Nat → Int64) (H' : Heap) (locs' : List Loc) (ls' : Array Slot), Rel S' M' → va_P (dC, dI) vwCl (wA cq q S' M' o') H' → va_D (fun a => s.heap.size ≤ a) (wA cq q S' M' o') → va_S (fun a => s.heap.size ≤ a) s.heap H' locs' → lv_has ls' 9 [(4, .int i), (3, .ref (q 33)), (2, .ref (q 22)), (1, .ref (q 0)), (0, .ref b)] → W p l e room_1 s m #[Value.ref b] below meth c H' locs' (cells + 121) (slots + 906) Q (F0 m 1536 ls' [])) :
    W p l e room_1 s m #[Value.ref b] below meth c H locs cells slots Q (F0 m 1151 ls []) := by
  obtain ⟨hx, hb, hml, hown, hts, hX, hbl, hK, hEV⟩ := id C
  have F : CallFix p m c cL_law 9 s #[Value.ref b] wsL_law RL := ⟨hx, hb, hml, hown, hts⟩
  have hA : ∀ a : Nat, s.heap.size ≤ a → (fun a => s.heap.size ≤ a) a := fun _ h => h
  have hDm : ∀ a : Nat, (fun a => s.heap.size ≤ a) a → s.heap.size ≤ a := fun _ h => h
  have hbA : ¬ (fun a : Nat => s.heap.size ≤ a) b := Nat.not_le.mpr hbl
  obtain ⟨w, M1, e7, e8, hrel⟩ := sq_suspect hR (n := n) (by omega)
  obtain ⟨S1, hS1⟩ : ∃ S1, S1 = S := ⟨S, rfl⟩
  refine lv_aload_n hx hb dL_law_1151 rfl (lv_at hl 3 rfl) ?_
  refine caVR_i (As := []) (rest := []) (ctX7_suspect l dC dI cq q S M o _ s.heap.size n w e7) F (cwV 0 hts gL_law_X7_suspect rfl rfl rfl hdX7_suspect ⟨Nat.le_of_ble_eq_true rfl, Nat.le_of_ble_eq_true rfl⟩) hK hP hD hDm hS hA EV.blind (fun U hU hW => EV.call hEV hS hDm hU hW) (va_recv hK hP (ci := 8) (q0 := 0) rfl rfl) rfl hl.1 rfl (Nat.le_of_ble_eq_true rfl) dL_law_1152 ⟨by show cells + 0 ≤ 601024; omega, by show slots + 0 ≤ 7293034; omega⟩ (fun H locs hP hD hS => ?_)
  refine lv_aload_n hx hb dL_law_1155 rfl (lv_at hl 2 rfl) ?_
  refine caVM_i (As := []) (rest := [.int w]) (ctX8_suspect l dC dI cq q S M o _ n w M1 e8) F (cwV 0 hts gL_law_X8_suspect rfl rfl rfl hdX8_suspect ⟨Nat.le_of_ble_eq_true rfl, Nat.le_of_ble_eq_true rfl⟩) hK hP hD (fun _ _ => trivial) hS hA (fun _ _ _ _ _ => trivial) (fun _ _ _ => trivial) (va_recv hK hP (ci := 9) (q0 := 22) rfl rfl) rfl hl.1 rfl (Nat.le_of_ble_eq_true rfl) dL_law_1156 ⟨by show cells + 0 ≤ 601024; omega, by show slots + 0 ≤ 7293034; omega⟩ (fun H locs hP hD hS => ?_)
  refine W.widen (k := cells + 121) (n := slots + 906) (by omega) (by omega) ?_
  exact lv_icmp_eq (tgt := 1536) hx hb dL_law_1159 (by decide) (fun _ => kk _ _ _ _ _ _ hrel hP hD hS hl) (fun c9 => absurd rfl c9)
set_option maxRecDepth 100000 in
set_option maxHeartbeats 8000000 in
theorem st_nextChange {p : Program} {l : Launch} {e : Env} {s : State} {m : MethodId} {below : List Frame} {meth : Method} {c : Code} {b L : Nat} {xs : Nat → Int32} {dC : Nat → ClassId} {dI : Nat → Nat → Nat} {cq : Nat → ClassId} {q : Nat → Nat} {Q : State → Prop} (hfl : l.stackTraces = false) (C : LC p s m c b L xs dC dI cq q) {n : Nat} (hn : 40000000 < n) {S : CS} {M : MS} {o : Nat → Int64} (hR : Rel S M) {i : Int32} (hin : ∀ t : Nat, 1 ≤ t → t ≤ 5 → vp_in (i + nI t) L) {H : Heap} {locs : List Loc} {cells slots : Nat} (hcl : cells + 121 ≤ 601024) (hsl : slots + 906 ≤ 7293034) (hP : va_P (dC, dI) vwCl (wA cq q S M o) H) (hD : va_D (fun a => s.heap.size ≤ a) (wA cq q S M o)) (hS : va_S (fun a => s.heap.size ≤ a) s.heap H locs) {ls : Array Slot} (hl : lv_has ls 9 [(4, .int i), (3, .ref (q 33)), (2, .ref (q 22)), (1, .ref (q 0)), (0, .ref b)])
    (kk : ∀ (S' : CS) (M' : MS) (o' : Nat → Int64) (H' : Heap) (locs' : List Loc) (ls' : Array Slot), Rel S' M' → va_P (dC, dI) vwCl (wA cq q S' M' o') H' → va_D (fun a => s.heap.size ≤ a) (wA cq q S' M' o') → va_S (fun a => s.heap.size ≤ a) s.heap H' locs' → lv_has ls' 9 [(4, .int i), (3, .ref (q 33)), (2, .ref (q 22)), (1, .ref (q 0)), (0, .ref b)] → W p l e room_1 s m #[Value.ref b] below meth c H' locs' (cells + 121) (slots + 906) Q (F0 m 1536 ls' [])) :
    W p l e room_1 s m #[Value.ref b] below meth c H locs cells slots Q (F0 m 1164 ls []) := by
  obtain ⟨hx, hb, hml, hown, hts, hX, hbl, hK, hEV⟩ := id C
  have F : CallFix p m c cL_law 9 s #[Value.ref b] wsL_law RL := ⟨hx, hb, hml, hown, hts⟩
  have hA : ∀ a : Nat, s.heap.size ≤ a → (fun a => s.heap.size ≤ a) a := fun _ h => h
  have hDm : ∀ a : Nat, (fun a => s.heap.size ≤ a) a → s.heap.size ≤ a := fun _ h => h
  have hbA : ¬ (fun a : Nat => s.heap.size ≤ a) b := Nat.not_le.mpr hbl
  obtain ⟨w, S1, M1, e7, e8, hrel⟩ := sq_nextChange hR (n := n) (by omega)
  refine lv_aload_n hx hb dL_law_1164 rfl (lv_at hl 3 rfl) ?_
  refine caVC_i (As := []) (rest := []) (ctX7_nextChange l dC dI cq q S M o _ s.heap.size n w S1 e7) F (cwV 0 hts gL_law_X7_nextChange rfl rfl rfl hdX7_nextChange ⟨Nat.le_of_ble_eq_true rfl, Nat.le_of_ble_eq_true rfl⟩) hK hP hD hDm hS hA EV.blind (fun U hU hW => EV.call hEV hS hDm hU hW) (va_recv hK hP (ci := 8) (q0 := 0) rfl rfl) rfl hl.1 rfl (Nat.le_of_ble_eq_true rfl) dL_law_1165 ⟨by show cells + 0 ≤ 601024; omega, by show slots + 0 ≤ 7293034; omega⟩ (fun H locs hP hD hS => ?_)
  refine lv_aload_n hx hb dL_law_1168 rfl (lv_at hl 2 rfl) ?_
  refine caVM_i (As := []) (rest := [.int w]) (ctX8_nextChange l dC dI cq q S1 M o _ n w M1 e8) F (cwV 0 hts gL_law_X8_nextChange rfl rfl rfl hdX8_nextChange ⟨Nat.le_of_ble_eq_true rfl, Nat.le_of_ble_eq_true rfl⟩) hK hP hD (fun _ _ => trivial) hS hA (fun _ _ _ _ _ => trivial) (fun _ _ _ => trivial) (va_recv hK hP (ci := 9) (q0 := 22) rfl rfl) rfl hl.1 rfl (Nat.le_of_ble_eq_true rfl) dL_law_1169 ⟨by show cells + 0 ≤ 601024; omega, by show slots + 0 ≤ 7293034; omega⟩ (fun H locs hP hD hS => ?_)
  refine W.widen (k := cells + 121) (n := slots + 906) (by omega) (by omega) ?_
  exact lv_icmp_eq (tgt := 1536) hx hb dL_law_1172 (by decide) (fun _ => kk _ _ _ _ _ _ hrel hP hD hS hl) (fun c9 => absurd rfl c9)
set_option maxRecDepth 100000 in
set_option maxHeartbeats 8000000 in
theorem st_explain {p : Program} {l : Launch} {e : Env} {s : State} {m : MethodId} {below : List Frame} {meth : Method} {c : Code} {b L : Nat} {xs : Nat → Int32} {dC : Nat → ClassId} {dI : Nat → Nat → Nat} {cq : Nat → ClassId} {q : Nat → Nat} {Q : State → Prop} (hfl : l.stackTraces = false) (C : LC p s m c b L xs dC dI cq q) {n : Nat} (hn : 40000000 < n) {S : CS} {M : MS} {o : Nat → Int64} (hR : Rel S M) {i : Int32} (hin : ∀ t : Nat, 1 ≤ t → t ≤ 5 → vp_in (i + nI t) L) {H : Heap} {locs : List Loc} {cells slots : Nat} (hcl : cells + 121 ≤ 601024) (hsl : slots + 906 ≤ 7293034) (hP : va_P (dC, dI) vwCl (wA cq q S M o) H) (hD : va_D (fun a => s.heap.size ≤ a) (wA cq q S M o)) (hS : va_S (fun a => s.heap.size ≤ a) s.heap H locs) {ls : Array Slot} (hl : lv_has ls 9 [(4, .int i), (3, .ref (q 33)), (2, .ref (q 22)), (1, .ref (q 0)), (0, .ref b)])
    (kk : ∀ (S' : CS) (M' : MS) (o' : Nat → Int64) (H' : Heap) (locs' : List Loc) (ls' : Array Slot), Rel S' M' → va_P (dC, dI) vwCl (wA cq q S' M' o') H' → va_D (fun a => s.heap.size ≤ a) (wA cq q S' M' o') → va_S (fun a => s.heap.size ≤ a) s.heap H' locs' → lv_has ls' 9 [(4, .int i), (3, .ref (q 33)), (2, .ref (q 22)), (1, .ref (q 0)), (0, .ref b)] → W p l e room_1 s m #[Value.ref b] below meth c H' locs' (cells + 121) (slots + 906) Q (F0 m 1536 ls' [])) :
    W p l e room_1 s m #[Value.ref b] below meth c H locs cells slots Q (F0 m 1177 ls []) := by
  obtain ⟨hx, hb, hml, hown, hts, hX, hbl, hK, hEV⟩ := id C
  have F : CallFix p m c cL_law 9 s #[Value.ref b] wsL_law RL := ⟨hx, hb, hml, hown, hts⟩
  have hA : ∀ a : Nat, s.heap.size ≤ a → (fun a => s.heap.size ≤ a) a := fun _ h => h
  have hDm : ∀ a : Nat, (fun a => s.heap.size ≤ a) a → s.heap.size ≤ a := fun _ h => h
  have hbA : ¬ (fun a : Nat => s.heap.size ≤ a) b := Nat.not_le.mpr hbl
  obtain ⟨rs, ⟨b1, M1⟩, e7, e8, hst⟩ := sq_explain hR (n := n) (by omega) (xs (i + (1 : Int32)).toNatClampNeg)
  refine lv_aload_n hx hb dL_law_1177 rfl (lv_at hl 3 rfl) ?_
  refine lv_aload_n hx hb dL_law_1178 rfl (lv_at hl 4 rfl) ?_
  refine lv_iload hx hb dL_law_1179 (lv_at hl 0 rfl) ?_
  refine lv_iconst (v := (1 : Int32)) hx hb dL_law_1181 (by decide) ?_
  refine lv_iadd hx hb dL_law_1182 ?_
  refine va_sld hx hb hX hbl hbA hS (hin 1 (by decide) (by decide)) dL_law_1183 ?_
  refine lv_aload_n hx hb dL_law_1184 rfl (lv_at hl 1 rfl) ?_
  refine caWS_i (As := [.ref (q 0), .int (xs (i + (1 : Int32)).toNatClampNeg), .ref (q 33)]) (rest := []) (ctL_explain l dC dI cq q S M o _ s.heap.size (xs (i + (1 : Int32)).toNatClampNeg) (fun (r : Int32) (u : CS) => rs = (.ok r, u)) (fun k u => rs = (.error k, u)) (fun sz => ctX7_explain l dC dI cq q S M o sz s.heap.size hfl n (xs (i + (1 : Int32)).toNatClampNeg) rs e7) (fun e u h => by rw [h] at hst; exact hst.1)) F (vx_cwSW 3 hts gL_law_L_explain rfl rfl rfl hdL_explain ⟨Nat.le_of_ble_eq_true rfl, Nat.le_of_ble_eq_true rfl⟩) hK hP hD hDm hS hA EV.blind (fun U hU hW => EV.call hEV hS hDm hU hW) rfl hl.1 rfl (Nat.le_of_ble_eq_true rfl) dL_law_1185 ⟨by show cells + 1 ≤ 601024; omega, by show slots + 6 ≤ 7293034; omega⟩ (fun H locs r9 u9 h9 hP hD hS => ?_)
  obtain ⟨S1, o1⟩ := u9
  have hk := lw_fin (cd := cdL_explain) (ok := (fun e => e = 1)) (z := (b1, M1)) (o := o) (h9.imp (fun ⟨hr, v, hv, ho⟩ => ⟨hr, v, by rw [← hv]; exact hst, ho⟩) (fun ⟨k, hk, hr, ho⟩ => ⟨k, by rw [← hk]; exact hst, hr, ho⟩))
  refine W.widen (k := cells + 121) (n := slots + 906) (by omega) (by omega) ?_
  refine lv_istore (lv' := [(5, .int r9), (4, .int i), (3, .ref (q 33)), (2, .ref (q 22)), (1, .ref (q 0)), (0, .ref b)]) hx hb dL_law_1188 hl (by decide) rfl (fun ls hl => ?_)
  refine lv_aload_n hx hb dL_law_1190 rfl (lv_at hl 3 rfl) ?_
  refine lv_aload_n hx hb dL_law_1191 rfl (lv_at hl 5 rfl) ?_
  refine lv_iload hx hb dL_law_1192 (lv_at hl 1 rfl) ?_
  refine lv_iconst (v := (1 : Int32)) hx hb dL_law_1194 (by decide) ?_
  refine lv_iadd hx hb dL_law_1195 ?_
  refine va_sld hx hb hX hbl hbA hS (hin 1 (by decide) (by decide)) dL_law_1196 ?_
  refine caVM_i (As := [.int (xs (i + (1 : Int32)).toNatClampNeg)]) (rest := []) (ctX8_explain l dC dI cq q S1 M o1 _ n (xs (i + (1 : Int32)).toNatClampNeg) b1 M1 e8) F (cwV 1 hts gL_law_X8_explain rfl rfl rfl hdX8_explain ⟨Nat.le_of_ble_eq_true rfl, Nat.le_of_ble_eq_true rfl⟩) hK hP hD (fun _ _ => trivial) hS hA (fun _ _ _ _ _ => trivial) (fun _ _ _ => trivial) (va_recv hK hP (ci := 9) (q0 := 22) rfl rfl) rfl hl.1 rfl (Nat.le_of_ble_eq_true rfl) dL_law_1197 ⟨by show cells + 121 + 0 ≤ 601024; omega, by show slots + 906 + 0 ≤ 7293034; omega⟩ (fun H locs hP hD hS => ?_)
  refine lv_istore (lv' := [(6, .int b1), (5, .int r9), (4, .int i), (3, .ref (q 33)), (2, .ref (q 22)), (1, .ref (q 0)), (0, .ref b)]) hx hb dL_law_1200 hl (by decide) rfl (fun ls hl => ?_)
  refine lv_aload_n hx hb dL_law_1202 rfl (lv_at hl 4 rfl) ?_
  refine caVR_i (As := []) (rest := []) (ctX8_thrown l dC dI cq q S1 M1 o1 _ (M1.1 0) rfl) F (cwV 0 hts gL_law_X8_thrown rfl rfl rfl hdX8_thrown ⟨Nat.le_of_ble_eq_true rfl, Nat.le_of_ble_eq_true rfl⟩) hK hP hD (fun _ _ => trivial) hS hA (fun _ _ _ _ _ => trivial) (fun _ _ _ => trivial) (va_recv hK hP (ci := 9) (q0 := 22) rfl rfl) rfl hl.1 rfl (Nat.le_of_ble_eq_true rfl) dL_law_1203 ⟨by show cells + 121 + 0 ≤ 601024; omega, by show slots + 906 + 0 ≤ 7293034; omega⟩ (fun H locs hP hD hS => ?_)
  refine lv_iload hx hb dL_law_1206 (lv_at hl 1 rfl) ?_
  refine lv_icmp_eq (tgt := 1213) hx hb dL_law_1208 (by decide) (fun _ => ?_) (fun c9 => absurd hk.1 c9)
  refine lv_iload hx hb dL_law_1213 (lv_at hl 1 rfl) ?_
  have fin : W p l e room_1 s m #[Value.ref b] below meth c H locs (cells + 121) (slots + 906) Q (F0 m 1230 ls []) := lv_goto (tgt := 1536) hx hb dL_law_1230 (by decide) (kk _ _ _ _ _ _ hk.2.2 hP hD hS (lv_sub hl [2, 3, 4, 5, 6] rfl))
  refine lv_if_ne (tgt := 1230) hx hb dL_law_1215 (by decide) (fun _ => fin) (fun c8 => ?_)
  refine lv_aload_n hx hb dL_law_1218 rfl (lv_at hl 3 rfl) ?_
  refine lv_iconst (v := (0 : Int32)) hx hb dL_law_1219 (by decide) ?_
  refine va_lald (D := (dC, dI)) hx hb hK hP 33 23 rfl rfl (inb_ok (i := 0) (n := 1) (by decide)) dL_law_1220 ?_
  refine lv_iload hx hb dL_law_1221 (lv_at hl 0 rfl) ?_
  refine lv_i2l hx hb dL_law_1223 rfl ?_
  refine W.lcmp hx hb dL_law_1224 ?_
  exact lv_if_eq (tgt := 1230) hx hb dL_law_1225 (by decide) (fun _ => fin) (fun c7 => absurd ((lg_cmp_eq _ _).mpr (hk.2.1 c8)) c7)
