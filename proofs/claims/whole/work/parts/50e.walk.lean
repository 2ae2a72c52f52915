set_option maxRecDepth 100000 in
set_option maxHeartbeats 8000000 in
theorem st_explained {p : Program} {l : Launch} {e : Env} {s : State} {m : MethodId} {below : List Frame} {meth : Method} {c : Code} {b L : Nat} {xs : Nat → Int32} {dC : Nat → ClassId} {dI : Nat → Nat → Nat} {cq : Nat → ClassId} {q : Nat → Nat} {Q : State → Prop} (hfl : l.stackTraces = false) (C : LC p s m c b L xs dC dI cq q) {n : Nat} (hn : 40000000 < n) {S : CS} {M : MS} {o : Nat → Int64} (hR : Rel S M) {i : Int32} (hin : ∀ t : Nat, 1 ≤ t → t ≤ 5 → vp_in (i + nI t) L) {H : Heap} {locs : List Loc} {cells slots : Nat} (hcl : cells + 121 ≤ 601024) (hsl : slots + 906 ≤ 7293034) (hP : va_P (dC, dI) vwCl (wA cq q S M o) H) (hD : va_D (fun a => s.heap.size ≤ a) (wA cq q S M o)) (hS : va_S (fun a => s.heap.size ≤ a) s.heap H locs) {ls : Array Slot} (hl : lv_has ls 9 [(4, .int i), (3, .ref (q 33)), (2, .ref (q 22)), (1, .ref (q 0)), (0, .ref b)])
    (kk : ∀ (S' : CS) (M' : MS) (o' : Nat → Int64) (H' : Heap) (locs' : List Loc) (ls' : Array Slot), Rel S' M' → va_P (dC, dI) vwCl (wA cq q S' M' o') H' → va_D (fun a => s.heap.size ≤ a) (wA cq q S' M' o') → va_S (fun a => s.heap.size ≤ a) s.heap H' locs' → lv_has ls' 9 [(4, .int i), (3, .ref (q 33)), (2, .ref (q 22)), (1, .ref (q 0)), (0, .ref b)] → W p l e room_1 s m #[Value.ref b] below meth c H' locs' (cells + 121) (slots + 906) Q (F0 m 1536 ls' [])) :
    W p l e room_1 s m #[Value.ref b] below meth c H locs cells slots Q (F0 m 1233 ls []) := by
  obtain ⟨hx, hb, hml, hown, hts, hX, hbl, hK, hEV⟩ := id C
  have F : CallFix p m c cL_law 9 s #[Value.ref b] wsL_law RL := ⟨hx, hb, hml, hown, hts⟩
  have hA : ∀ a : Nat, s.heap.size ≤ a → (fun a => s.heap.size ≤ a) a := fun _ h => h
  have hDm : ∀ a : Nat, (fun a => s.heap.size ≤ a) a → s.heap.size ≤ a := fun _ h => h
  have hbA : ¬ (fun a : Nat => s.heap.size ≤ a) b := Nat.not_le.mpr hbl
  obtain ⟨rs, ⟨b1, M1⟩, e7, e8, hst⟩ := sq_explained hR (n := n) (by omega) (xs (i + (1 : Int32)).toNatClampNeg)
  refine lv_aload_n hx hb dL_law_1233 rfl (lv_at hl 3 rfl) ?_
  refine lv_aload_n hx hb dL_law_1234 rfl (lv_at hl 4 rfl) ?_
  refine lv_iload hx hb dL_law_1235 (lv_at hl 0 rfl) ?_
  refine lv_iconst (v := (1 : Int32)) hx hb dL_law_1237 (by decide) ?_
  refine lv_iadd hx hb dL_law_1238 ?_
  refine va_sld hx hb hX hbl hbA hS (hin 1 (by decide) (by decide)) dL_law_1239 ?_
  refine lv_aload_n hx hb dL_law_1240 rfl (lv_at hl 1 rfl) ?_
  refine caWS_i (As := [.ref (q 0), .int (xs (i + (1 : Int32)).toNatClampNeg), .ref (q 33)]) (rest := []) (ctL_explained l dC dI cq q S M o _ s.heap.size (xs (i + (1 : Int32)).toNatClampNeg) (fun (r : Int32) (u : CS) => rs = (.ok r, u)) (fun k u => rs = (.error k, u)) (fun sz => ctX7_explained l dC dI cq q S M o sz s.heap.size hfl n (xs (i + (1 : Int32)).toNatClampNeg) rs e7) (fun e u h => by rw [h] at hst; exact hst.1)) F (vx_cwSW 3 hts gL_law_L_explained rfl rfl rfl hdL_explained ⟨Nat.le_of_ble_eq_true rfl, Nat.le_of_ble_eq_true rfl⟩) hK hP hD hDm hS hA EV.blind (fun U hU hW => EV.call hEV hS hDm hU hW) rfl hl.1 rfl (Nat.le_of_ble_eq_true rfl) dL_law_1241 ⟨by show cells + 1 ≤ 601024; omega, by show slots + 6 ≤ 7293034; omega⟩ (fun H locs r9 u9 h9 hP hD hS => ?_)
  obtain ⟨S1, o1⟩ := u9
  have hk := lw_fin (cd := cdL_explained) (ok := (fun e => e = 2)) (z := (b1, M1)) (o := o) (h9.imp (fun ⟨hr, v, hv, ho⟩ => ⟨hr, v, by rw [← hv]; exact hst, ho⟩) (fun ⟨k, hk, hr, ho⟩ => ⟨k, by rw [← hk]; exact hst, hr, ho⟩))
  refine W.widen (k := cells + 121) (n := slots + 906) (by omega) (by omega) ?_
  refine lv_istore (lv' := [(5, .int r9), (4, .int i), (3, .ref (q 33)), (2, .ref (q 22)), (1, .ref (q 0)), (0, .ref b)]) hx hb dL_law_1244 hl (by decide) rfl (fun ls hl => ?_)
  refine lv_aload_n hx hb dL_law_1246 rfl (lv_at hl 3 rfl) ?_
  refine lv_aload_n hx hb dL_law_1247 rfl (lv_at hl 5 rfl) ?_
  refine lv_iload hx hb dL_law_1248 (lv_at hl 1 rfl) ?_
  refine lv_iconst (v := (1 : Int32)) hx hb dL_law_1250 (by decide) ?_
  refine lv_iadd hx hb dL_law_1251 ?_
  refine va_sld hx hb hX hbl hbA hS (hin 1 (by decide) (by decide)) dL_law_1252 ?_
  refine caVM_i (As := [.int (xs (i + (1 : Int32)).toNatClampNeg)]) (rest := []) (ctX8_explained l dC dI cq q S1 M o1 _ n (xs (i + (1 : Int32)).toNatClampNeg) b1 M1 e8) F (cwV 1 hts gL_law_X8_explained rfl rfl rfl hdX8_explained ⟨Nat.le_of_ble_eq_true rfl, Nat.le_of_ble_eq_true rfl⟩) hK hP hD (fun _ _ => trivial) hS hA (fun _ _ _ _ _ => trivial) (fun _ _ _ => trivial) (va_recv hK hP (ci := 9) (q0 := 22) rfl rfl) rfl hl.1 rfl (Nat.le_of_ble_eq_true rfl) dL_law_1253 ⟨by show cells + 121 + 0 ≤ 601024; omega, by show slots + 906 + 0 ≤ 7293034; omega⟩ (fun H locs hP hD hS => ?_)
  refine lv_istore (lv' := [(6, .int b1), (5, .int r9), (4, .int i), (3, .ref (q 33)), (2, .ref (q 22)), (1, .ref (q 0)), (0, .ref b)]) hx hb dL_law_1256 hl (by decide) rfl (fun ls hl => ?_)
  refine lv_aload_n hx hb dL_law_1258 rfl (lv_at hl 4 rfl) ?_
  refine caVR_i (As := []) (rest := []) (ctX8_thrown l dC dI cq q S1 M1 o1 _ (M1.1 0) rfl) F (cwV 0 hts gL_law_X8_thrown rfl rfl rfl hdX8_thrown ⟨Nat.le_of_ble_eq_true rfl, Nat.le_of_ble_eq_true rfl⟩) hK hP hD (fun _ _ => trivial) hS hA (fun _ _ _ _ _ => trivial) (fun _ _ _ => trivial) (va_recv hK hP (ci := 9) (q0 := 22) rfl rfl) rfl hl.1 rfl (Nat.le_of_ble_eq_true rfl) dL_law_1259 ⟨by show cells + 121 + 0 ≤ 601024; omega, by show slots + 906 + 0 ≤ 7293034; omega⟩ (fun H locs hP hD hS => ?_)
  refine lv_iload hx hb dL_law_1262 (lv_at hl 1 rfl) ?_
  refine lv_icmp_eq (tgt := 1269) hx hb dL_law_1264 (by decide) (fun _ => ?_) (fun c9 => absurd hk.1 c9)
  refine lv_iload hx hb dL_law_1269 (lv_at hl 1 rfl) ?_
  have fin : W p l e room_1 s m #[Value.ref b] below meth c H locs (cells + 121) (slots + 906) Q (F0 m 1286 ls []) := lv_goto (tgt := 1536) hx hb dL_law_1286 (by decide) (kk _ _ _ _ _ _ hk.2.2 hP hD hS (lv_sub hl [2, 3, 4, 5, 6] rfl))
  refine lv_if_ne (tgt := 1286) hx hb dL_law_1271 (by decide) (fun _ => fin) (fun c8 => ?_)
  refine lv_aload_n hx hb dL_law_1274 rfl (lv_at hl 3 rfl) ?_
  refine lv_iconst (v := (0 : Int32)) hx hb dL_law_1275 (by decide) ?_
  refine va_lald (D := (dC, dI)) hx hb hK hP 33 23 rfl rfl (inb_ok (i := 0) (n := 1) (by decide)) dL_law_1276 ?_
  refine lv_iload hx hb dL_law_1277 (lv_at hl 0 rfl) ?_
  refine lv_i2l hx hb dL_law_1279 rfl ?_
  refine W.lcmp hx hb dL_law_1280 ?_
  exact lv_if_eq (tgt := 1286) hx hb dL_law_1281 (by decide) (fun _ => fin) (fun c7 => absurd ((lg_cmp_eq _ _).mpr (hk.2.1 c8)) c7)
set_option maxRecDepth 100000 in
set_option maxHeartbeats 8000000 in
theorem st_count {p : Program} {l : Launch} {e : Env} {s : State} {m : MethodId} {below : List Frame} {meth : Method} {c : Code} {b L : Nat} {xs : Nat → Int32} {dC : Nat → ClassId} {dI : Nat → Nat → Nat} {cq : Nat → ClassId} {q : Nat → Nat} {Q : State → Prop} (hfl : l.stackTraces = false) (C : LC p s m c b L xs dC dI cq q) {n : Nat} (hn : 40000000 < n) {S : CS} {M : MS} {o : Nat → Int64} (hR : Rel S M) {i : Int32} (hin : ∀ t : Nat, 1 ≤ t → t ≤ 5 → vp_in (i + nI t) L) {H : Heap} {locs : List Loc} {cells slots : Nat} (hcl : cells + 121 ≤ 601024) (hsl : slots + 906 ≤ 7293034) (hP : va_P (dC, dI) vwCl (wA cq q S M o) H) (hD : va_D (fun a => s.heap.size ≤ a) (wA cq q S M o)) (hS : va_S (fun a => s.heap.size ≤ a) s.heap H locs) {ls : Array Slot} (hl : lv_has ls 9 [(4, .int i), (3, .ref (q 33)), (2, .ref (q 22)), (1, .ref (q 0)), (0, .ref b)])
    (kk : ∀ (S' : CS) (M' : MS) (o' : Nat → Int64) (H' : Heap) (locs' : List Loc) (ls' : Array Slot), Rel S' M' → va_P (dC, dI) vwCl (wA cq q S' M' o') H' → va_D (fun a => s.heap.size ≤ a) (wA cq q S' M' o') → va_S (fun a => s.heap.size ≤ a) s.heap H' locs' → lv_has ls' 9 [(4, .int i), (3, .ref (q 33)), (2, .ref (q 22)), (1, .ref (q 0)), (0, .ref b)] → W p l e room_1 s m #[Value.ref b] below meth c H' locs' (cells + 121) (slots + 906) Q (F0 m 1536 ls' [])) :
    W p l e room_1 s m #[Value.ref b] below meth c H locs cells slots Q (F0 m 1289 ls []) := by
  obtain ⟨hx, hb, hml, hown, hts, hX, hbl, hK, hEV⟩ := id C
  have F : CallFix p m c cL_law 9 s #[Value.ref b] wsL_law RL := ⟨hx, hb, hml, hown, hts⟩
  have hA : ∀ a : Nat, s.heap.size ≤ a → (fun a => s.heap.size ≤ a) a := fun _ h => h
  have hDm : ∀ a : Nat, (fun a => s.heap.size ≤ a) a → s.heap.size ≤ a := fun _ h => h
  have hbA : ¬ (fun a : Nat => s.heap.size ≤ a) b := Nat.not_le.mpr hbl
  obtain ⟨rs, ⟨b1, M1⟩, e7, e8, hst⟩ := sq_count hR (n := n) (by omega) (xs (i + (1 : Int32)).toNatClampNeg)
  refine lv_aload_n hx hb dL_law_1289 rfl (lv_at hl 3 rfl) ?_
  refine lv_aload_n hx hb dL_law_1290 rfl (lv_at hl 4 rfl) ?_
  refine lv_iload hx hb dL_law_1291 (lv_at hl 0 rfl) ?_
  refine lv_iconst (v := (1 : Int32)) hx hb dL_law_1293 (by decide) ?_
  refine lv_iadd hx hb dL_law_1294 ?_
  refine va_sld hx hb hX hbl hbA hS (hin 1 (by decide) (by decide)) dL_law_1295 ?_
  refine lv_aload_n hx hb dL_law_1296 rfl (lv_at hl 1 rfl) ?_
  refine caWS_i (As := [.ref (q 0), .int (xs (i + (1 : Int32)).toNatClampNeg), .ref (q 33)]) (rest := []) (ctL_count l dC dI cq q S M o _ s.heap.size (xs (i + (1 : Int32)).toNatClampNeg) (fun (r : Int32) (u : CS) => rs = (.ok r, u)) (fun k u => rs = (.error k, u)) (fun sz => ctX7_count l dC dI cq q S M o sz s.heap.size hfl n (xs (i + (1 : Int32)).toNatClampNeg) rs e7) (fun e u h => by rw [h] at hst; exact hst.1)) F (vx_cwSW 3 hts gL_law_L_count rfl rfl rfl hdL_count ⟨Nat.le_of_ble_eq_true rfl, Nat.le_of_ble_eq_true rfl⟩) hK hP hD hDm hS hA EV.blind (fun U hU hW => EV.call hEV hS hDm hU hW) rfl hl.1 rfl (Nat.le_of_ble_eq_true rfl) dL_law_1297 ⟨by show cells + 1 ≤ 601024; omega, by show slots + 6 ≤ 7293034; omega⟩ (fun H locs r9 u9 h9 hP hD hS => ?_)
  obtain ⟨S1, o1⟩ := u9
  have hk := lw_fin (cd := cdL_count) (ok := (fun e => e = 1)) (z := (b1, M1)) (o := o) (h9.imp (fun ⟨hr, v, hv, ho⟩ => ⟨hr, v, by rw [← hv]; exact hst, ho⟩) (fun ⟨k, hk, hr, ho⟩ => ⟨k, by rw [← hk]; exact hst, hr, ho⟩))
  refine W.widen (k := cells + 121) (n := slots + 906) (by omega) (by omega) ?_
  refine lv_istore (lv' := [(5, .int r9), (4, .int i), (3, .ref (q 33)), (2, .ref (q 22)), (1, .ref (q 0)), (0, .ref b)]) hx hb dL_law_1300 hl (by decide) rfl (fun ls hl => ?_)
  refine lv_aload_n hx hb dL_law_1302 rfl (lv_at hl 3 rfl) ?_
  refine lv_aload_n hx hb dL_law_1303 rfl (lv_at hl 5 rfl) ?_
  refine lv_iload hx hb dL_law_1304 (lv_at hl 1 rfl) ?_
  refine lv_iconst (v := (1 : Int32)) hx hb dL_law_1306 (by decide) ?_
  refine lv_iadd hx hb dL_law_1307 ?_
  refine va_sld hx hb hX hbl hbA hS (hin 1 (by decide) (by decide)) dL_law_1308 ?_
  refine caVM_i (As := [.int (xs (i + (1 : Int32)).toNatClampNeg)]) (rest := []) (ctX8_count l dC dI cq q S1 M o1 _ n (xs (i + (1 : Int32)).toNatClampNeg) b1 M1 e8) F (cwV 1 hts gL_law_X8_count rfl rfl rfl hdX8_count ⟨Nat.le_of_ble_eq_true rfl, Nat.le_of_ble_eq_true rfl⟩) hK hP hD (fun _ _ => trivial) hS hA (fun _ _ _ _ _ => trivial) (fun _ _ _ => trivial) (va_recv hK hP (ci := 9) (q0 := 22) rfl rfl) rfl hl.1 rfl (Nat.le_of_ble_eq_true rfl) dL_law_1309 ⟨by show cells + 121 + 0 ≤ 601024; omega, by show slots + 906 + 0 ≤ 7293034; omega⟩ (fun H locs hP hD hS => ?_)
  refine lv_istore (lv' := [(6, .int b1), (5, .int r9), (4, .int i), (3, .ref (q 33)), (2, .ref (q 22)), (1, .ref (q 0)), (0, .ref b)]) hx hb dL_law_1312 hl (by decide) rfl (fun ls hl => ?_)
  refine lv_aload_n hx hb dL_law_1314 rfl (lv_at hl 4 rfl) ?_
  refine caVR_i (As := []) (rest := []) (ctX8_thrown l dC dI cq q S1 M1 o1 _ (M1.1 0) rfl) F (cwV 0 hts gL_law_X8_thrown rfl rfl rfl hdX8_thrown ⟨Nat.le_of_ble_eq_true rfl, Nat.le_of_ble_eq_true rfl⟩) hK hP hD (fun _ _ => trivial) hS hA (fun _ _ _ _ _ => trivial) (fun _ _ _ => trivial) (va_recv hK hP (ci := 9) (q0 := 22) rfl rfl) rfl hl.1 rfl (Nat.le_of_ble_eq_true rfl) dL_law_1315 ⟨by show cells + 121 + 0 ≤ 601024; omega, by show slots + 906 + 0 ≤ 7293034; omega⟩ (fun H locs hP hD hS => ?_)
  refine lv_iload hx hb dL_law_1318 (lv_at hl 1 rfl) ?_
  refine lv_icmp_eq (tgt := 1325) hx hb dL_law_1320 (by decide) (fun _ => ?_) (fun c9 => absurd hk.1 c9)
  refine lv_iload hx hb dL_law_1325 (lv_at hl 1 rfl) ?_
  have fin : W p l e room_1 s m #[Value.ref b] below meth c H locs (cells + 121) (slots + 906) Q (F0 m 1342 ls []) := lv_goto (tgt := 1536) hx hb dL_law_1342 (by decide) (kk _ _ _ _ _ _ hk.2.2 hP hD hS (lv_sub hl [2, 3, 4, 5, 6] rfl))
  refine lv_if_ne (tgt := 1342) hx hb dL_law_1327 (by decide) (fun _ => fin) (fun c8 => ?_)
  refine lv_aload_n hx hb dL_law_1330 rfl (lv_at hl 3 rfl) ?_
  refine lv_iconst (v := (0 : Int32)) hx hb dL_law_1331 (by decide) ?_
  refine va_lald (D := (dC, dI)) hx hb hK hP 33 23 rfl rfl (inb_ok (i := 0) (n := 1) (by decide)) dL_law_1332 ?_
  refine lv_iload hx hb dL_law_1333 (lv_at hl 0 rfl) ?_
  refine lv_i2l hx hb dL_law_1335 rfl ?_
  refine W.lcmp hx hb dL_law_1336 ?_
  exact lv_if_eq (tgt := 1342) hx hb dL_law_1337 (by decide) (fun _ => fin) (fun c7 => absurd ((lg_cmp_eq _ _).mpr (hk.2.1 c8)) c7)
set_option maxRecDepth 100000 in
set_option maxHeartbeats 8000000 in
theorem st_fault {p : Program} {l : Launch} {e : Env} {s : State} {m : MethodId} {below : List Frame} {meth : Method} {c : Code} {b L : Nat} {xs : Nat → Int32} {dC : Nat → ClassId} {dI : Nat → Nat → Nat} {cq : Nat → ClassId} {q : Nat → Nat} {Q : State → Prop} (hfl : l.stackTraces = false) (C : LC p s m c b L xs dC dI cq q) {n : Nat} (hn : 40000000 < n) {S : CS} {M : MS} {o : Nat → Int64} (hR : Rel S M) {i : Int32} (hin : ∀ t : Nat, 1 ≤ t → t ≤ 5 → vp_in (i + nI t) L) {H : Heap} {locs : List Loc} {cells slots : Nat} (hcl : cells + 121 ≤ 601024) (hsl : slots + 906 ≤ 7293034) (hP : va_P (dC, dI) vwCl (wA cq q S M o) H) (hD : va_D (fun a => s.heap.size ≤ a) (wA cq q S M o)) (hS : va_S (fun a => s.heap.size ≤ a) s.heap H locs) {ls : Array Slot} (hl : lv_has ls 9 [(4, .int i), (3, .ref (q 33)), (2, .ref (q 22)), (1, .ref (q 0)), (0, .ref b)])
    (kk : ∀ (S' : CS) (M' : MS) (o' : Nat → Int64) (H' : Heap) (locs' : List Loc) (ls' : Array Slot), Rel S' M' → va_P (dC, dI) vwCl (wA cq q S' M' o') H' → va_D (fun a => s.heap.size ≤ a) (wA cq q S' M' o') → va_S (fun a => s.heap.size ≤ a) s.heap H' locs' → lv_has ls' 9 [(4, .int i), (3, .ref (q 33)), (2, .ref (q 22)), (1, .ref (q 0)), (0, .ref b)] → W p l e room_1 s m #[Value.ref b] below meth c H' locs' (cells + 121) (slots + 906) Q (F0 m 1536 ls' [])) :
    W p l e room_1 s m #[Value.ref b] below meth c H locs cells slots Q (F0 m 1345 ls []) := by
  obtain ⟨hx, hb, hml, hown, hts, hX, hbl, hK, hEV⟩ := id C
  have F : CallFix p m c cL_law 9 s #[Value.ref b] wsL_law RL := ⟨hx, hb, hml, hown, hts⟩
  have hA : ∀ a : Nat, s.heap.size ≤ a → (fun a => s.heap.size ≤ a) a := fun _ h => h
  have hDm : ∀ a : Nat, (fun a => s.heap.size ≤ a) a → s.heap.size ≤ a := fun _ h => h
  have hbA : ¬ (fun a : Nat => s.heap.size ≤ a) b := Nat.not_le.mpr hbl
  obtain ⟨rs, ⟨b1, M1⟩, e7, e8, hst⟩ := sq_fault hR (xs (i + (1 : Int32)).toNatClampNeg) (xs (i + (2 : Int32)).toNatClampNeg)
  refine lv_aload_n hx hb dL_law_1345 rfl (lv_at hl 3 rfl) ?_
  refine lv_aload_n hx hb dL_law_1346 rfl (lv_at hl 4 rfl) ?_
  refine lv_iload hx hb dL_law_1347 (lv_at hl 0 rfl) ?_
  refine lv_iconst (v := (1 : Int32)) hx hb dL_law_1349 (by decide) ?_
  refine lv_iadd hx hb dL_law_1350 ?_
  refine va_sld hx hb hX hbl hbA hS (hin 1 (by decide) (by decide)) dL_law_1351 ?_
  refine lv_aload_n hx hb dL_law_1352 rfl (lv_at hl 4 rfl) ?_
  refine lv_iload hx hb dL_law_1353 (lv_at hl 0 rfl) ?_
  refine lv_iconst (v := (2 : Int32)) hx hb dL_law_1355 (by decide) ?_
  refine lv_iadd hx hb dL_law_1356 ?_
  refine va_sld hx hb hX hbl hbA hS (hin 2 (by decide) (by decide)) dL_law_1357 ?_
  refine lv_aload_n hx hb dL_law_1358 rfl (lv_at hl 1 rfl) ?_
  refine caWS_i (As := [.ref (q 0), .int (xs (i + (1 : Int32)).toNatClampNeg), .int (xs (i + (2 : Int32)).toNatClampNeg), .ref (q 33)]) (rest := []) (ctL_fault l dC dI cq q S M o _ s.heap.size (xs (i + (1 : Int32)).toNatClampNeg) (xs (i + (2 : Int32)).toNatClampNeg) (fun (r : Int32) (u : CS) => rs = (.ok r, u)) (fun k u => rs = (.error k, u)) (fun sz => ctX7_fault l dC dI cq q S M o sz s.heap.size hfl (xs (i + (1 : Int32)).toNatClampNeg) (xs (i + (2 : Int32)).toNatClampNeg) rs e7) (fun e u h => by rw [h] at hst; exact hst.1)) F (vx_cwSW 4 hts gL_law_L_fault rfl rfl rfl hdL_fault ⟨Nat.le_of_ble_eq_true rfl, Nat.le_of_ble_eq_true rfl⟩) hK hP hD hDm hS hA EV.blind (fun U hU hW => EV.call hEV hS hDm hU hW) rfl hl.1 rfl (Nat.le_of_ble_eq_true rfl) dL_law_1359 ⟨by show cells + 2 ≤ 601024; omega, by show slots + 12 ≤ 7293034; omega⟩ (fun H locs r9 u9 h9 hP hD hS => ?_)
  obtain ⟨S1, o1⟩ := u9
  have hk := lw_fin (cd := cdL_fault) (ok := (fun e => e = 1 ∨ e = 2)) (z := (b1, M1)) (o := o) (h9.imp (fun ⟨hr, v, hv, ho⟩ => ⟨hr, v, by rw [← hv]; exact hst, ho⟩) (fun ⟨k, hk, hr, ho⟩ => ⟨k, by rw [← hk]; exact hst, hr, ho⟩))
  refine W.widen (k := cells + 121) (n := slots + 906) (by omega) (by omega) ?_
  refine lv_istore (lv' := [(5, .int r9), (4, .int i), (3, .ref (q 33)), (2, .ref (q 22)), (1, .ref (q 0)), (0, .ref b)]) hx hb dL_law_1362 hl (by decide) rfl (fun ls hl => ?_)
  refine lv_aload_n hx hb dL_law_1364 rfl (lv_at hl 3 rfl) ?_
  refine lv_aload_n hx hb dL_law_1365 rfl (lv_at hl 5 rfl) ?_
  refine lv_iload hx hb dL_law_1366 (lv_at hl 1 rfl) ?_
  refine lv_iconst (v := (1 : Int32)) hx hb dL_law_1368 (by decide) ?_
  refine lv_iadd hx hb dL_law_1369 ?_
  refine va_sld hx hb hX hbl hbA hS (hin 1 (by decide) (by decide)) dL_law_1370 ?_
  refine lv_aload_n hx hb dL_law_1371 rfl (lv_at hl 5 rfl) ?_
  refine lv_iload hx hb dL_law_1372 (lv_at hl 1 rfl) ?_
  refine lv_iconst (v := (2 : Int32)) hx hb dL_law_1374 (by decide) ?_
  refine lv_iadd hx hb dL_law_1375 ?_
  refine va_sld hx hb hX hbl hbA hS (hin 2 (by decide) (by decide)) dL_law_1376 ?_
  refine caVM_i (As := [.int (xs (i + (1 : Int32)).toNatClampNeg), .int (xs (i + (2 : Int32)).toNatClampNeg)]) (rest := []) (ctX8_fault l dC dI cq q S1 M o1 _ (xs (i + (1 : Int32)).toNatClampNeg) (xs (i + (2 : Int32)).toNatClampNeg) b1 M1 e8) F (cwV 2 hts gL_law_X8_fault rfl rfl rfl hdX8_fault ⟨Nat.le_of_ble_eq_true rfl, Nat.le_of_ble_eq_true rfl⟩) hK hP hD (fun _ _ => trivial) hS hA (fun _ _ _ _ _ => trivial) (fun _ _ _ => trivial) (va_recv hK hP (ci := 9) (q0 := 22) rfl rfl) rfl hl.1 rfl (Nat.le_of_ble_eq_true rfl) dL_law_1377 ⟨by show cells + 121 + 0 ≤ 601024; omega, by show slots + 906 + 0 ≤ 7293034; omega⟩ (fun H locs hP hD hS => ?_)
  refine lv_istore (lv' := [(6, .int b1), (5, .int r9), (4, .int i), (3, .ref (q 33)), (2, .ref (q 22)), (1, .ref (q 0)), (0, .ref b)]) hx hb dL_law_1380 hl (by decide) rfl (fun ls hl => ?_)
  refine lv_aload_n hx hb dL_law_1382 rfl (lv_at hl 4 rfl) ?_
  refine caVR_i (As := []) (rest := []) (ctX8_thrown l dC dI cq q S1 M1 o1 _ (M1.1 0) rfl) F (cwV 0 hts gL_law_X8_thrown rfl rfl rfl hdX8_thrown ⟨Nat.le_of_ble_eq_true rfl, Nat.le_of_ble_eq_true rfl⟩) hK hP hD (fun _ _ => trivial) hS hA (fun _ _ _ _ _ => trivial) (fun _ _ _ => trivial) (va_recv hK hP (ci := 9) (q0 := 22) rfl rfl) rfl hl.1 rfl (Nat.le_of_ble_eq_true rfl) dL_law_1383 ⟨by show cells + 121 + 0 ≤ 601024; omega, by show slots + 906 + 0 ≤ 7293034; omega⟩ (fun H locs hP hD hS => ?_)
  refine lv_iload hx hb dL_law_1386 (lv_at hl 1 rfl) ?_
  refine lv_icmp_eq (tgt := 1393) hx hb dL_law_1388 (by decide) (fun _ => ?_) (fun c9 => absurd hk.1 c9)
  refine lv_iload hx hb dL_law_1393 (lv_at hl 1 rfl) ?_
  have fin : W p l e room_1 s m #[Value.ref b] below meth c H locs (cells + 121) (slots + 906) Q (F0 m 1410 ls []) := lv_goto (tgt := 1536) hx hb dL_law_1410 (by decide) (kk _ _ _ _ _ _ hk.2.2 hP hD hS (lv_sub hl [2, 3, 4, 5, 6] rfl))
  refine lv_if_ne (tgt := 1410) hx hb dL_law_1395 (by decide) (fun _ => fin) (fun c8 => ?_)
  refine lv_aload_n hx hb dL_law_1398 rfl (lv_at hl 3 rfl) ?_
  refine lv_iconst (v := (0 : Int32)) hx hb dL_law_1399 (by decide) ?_
  refine va_lald (D := (dC, dI)) hx hb hK hP 33 23 rfl rfl (inb_ok (i := 0) (n := 1) (by decide)) dL_law_1400 ?_
  refine lv_iload hx hb dL_law_1401 (lv_at hl 0 rfl) ?_
  refine lv_i2l hx hb dL_law_1403 rfl ?_
  refine W.lcmp hx hb dL_law_1404 ?_
  exact lv_if_eq (tgt := 1410) hx hb dL_law_1405 (by decide) (fun _ => fin) (fun c7 => absurd ((lg_cmp_eq _ _).mpr (hk.2.1 c8)) c7)
set_option maxRecDepth 100000 in
set_option maxHeartbeats 8000000 in
theorem st_wire {p : Program} {l : Launch} {e : Env} {s : State} {m : MethodId} {below : List Frame} {meth : Method} {c : Code} {b L : Nat} {xs : Nat → Int32} {dC : Nat → ClassId} {dI : Nat → Nat → Nat} {cq : Nat → ClassId} {q : Nat → Nat} {Q : State → Prop} (hfl : l.stackTraces = false) (C : LC p s m c b L xs dC dI cq q) {n : Nat} (hn : 40000000 < n) {S : CS} {M : MS} {o : Nat → Int64} (hR : Rel S M) {i : Int32} (hin : ∀ t : Nat, 1 ≤ t → t ≤ 5 → vp_in (i + nI t) L) {H : Heap} {locs : List Loc} {cells slots : Nat} (hcl : cells + 121 ≤ 601024) (hsl : slots + 906 ≤ 7293034) (hP : va_P (dC, dI) vwCl (wA cq q S M o) H) (hD : va_D (fun a => s.heap.size ≤ a) (wA cq q S M o)) (hS : va_S (fun a => s.heap.size ≤ a) s.heap H locs) {ls : Array Slot} (hl : lv_has ls 9 [(4, .int i), (3, .ref (q 33)), (2, .ref (q 22)), (1, .ref (q 0)), (0, .ref b)])
    (kk : ∀ (S' : CS) (M' : MS) (o' : Nat → Int64) (H' : Heap) (locs' : List Loc) (ls' : Array Slot), Rel S' M' → va_P (dC, dI) vwCl (wA cq q S' M' o') H' → va_D (fun a => s.heap.size ≤ a) (wA cq q S' M' o') → va_S (fun a => s.heap.size ≤ a) s.heap H' locs' → lv_has ls' 9 [(4, .int i), (3, .ref (q 33)), (2, .ref (q 22)), (1, .ref (q 0)), (0, .ref b)] → W p l e room_1 s m #[Value.ref b] below meth c H' locs' (cells + 121) (slots + 906) Q (F0 m 1536 ls' [])) :
    W p l e room_1 s m #[Value.ref b] below meth c H locs cells slots Q (F0 m 1413 ls []) := by
  obtain ⟨hx, hb, hml, hown, hts, hX, hbl, hK, hEV⟩ := id C
  have F : CallFix p m c cL_law 9 s #[Value.ref b] wsL_law RL := ⟨hx, hb, hml, hown, hts⟩
  have hA : ∀ a : Nat, s.heap.size ≤ a → (fun a => s.heap.size ≤ a) a := fun _ h => h
  have hDm : ∀ a : Nat, (fun a => s.heap.size ≤ a) a → s.heap.size ≤ a := fun _ h => h
  have hbA : ¬ (fun a : Nat => s.heap.size ≤ a) b := Nat.not_le.mpr hbl
  obtain ⟨rs, ⟨b1, M1⟩, e7, e8, hst⟩ := sq_wire hR (xs (i + (1 : Int32)).toNatClampNeg) (xs (i + (2 : Int32)).toNatClampNeg)
  refine lv_aload_n hx hb dL_law_1413 rfl (lv_at hl 3 rfl) ?_
  refine lv_aload_n hx hb dL_law_1414 rfl (lv_at hl 4 rfl) ?_
  refine lv_iload hx hb dL_law_1415 (lv_at hl 0 rfl) ?_
  refine lv_iconst (v := (1 : Int32)) hx hb dL_law_1417 (by decide) ?_
  refine lv_iadd hx hb dL_law_1418 ?_
  refine va_sld hx hb hX hbl hbA hS (hin 1 (by decide) (by decide)) dL_law_1419 ?_
  refine lv_aload_n hx hb dL_law_1420 rfl (lv_at hl 4 rfl) ?_
  refine lv_iload hx hb dL_law_1421 (lv_at hl 0 rfl) ?_
  refine lv_iconst (v := (2 : Int32)) hx hb dL_law_1423 (by decide) ?_
  refine lv_iadd hx hb dL_law_1424 ?_
  refine va_sld hx hb hX hbl hbA hS (hin 2 (by decide) (by decide)) dL_law_1425 ?_
  refine lv_aload_n hx hb dL_law_1426 rfl (lv_at hl 1 rfl) ?_
  refine caWS_i (As := [.ref (q 0), .int (xs (i + (1 : Int32)).toNatClampNeg), .int (xs (i + (2 : Int32)).toNatClampNeg), .ref (q 33)]) (rest := []) (ctL_wire l dC dI cq q S M o _ s.heap.size (xs (i + (1 : Int32)).toNatClampNeg) (xs (i + (2 : Int32)).toNatClampNeg) (fun (r : Int32) (u : CS) => rs = (.ok r, u)) (fun k u => rs = (.error k, u)) (fun sz => ctX7_wire l dC dI cq q S M o sz s.heap.size hfl (xs (i + (1 : Int32)).toNatClampNeg) (xs (i + (2 : Int32)).toNatClampNeg) rs e7) (fun e u h => by rw [h] at hst; exact hst.1)) F (vx_cwSW 4 hts gL_law_L_wire rfl rfl rfl hdL_wire ⟨Nat.le_of_ble_eq_true rfl, Nat.le_of_ble_eq_true rfl⟩) hK hP hD hDm hS hA EV.blind (fun U hU hW => EV.call hEV hS hDm hU hW) rfl hl.1 rfl (Nat.le_of_ble_eq_true rfl) dL_law_1427 ⟨by show cells + 2 ≤ 601024; omega, by show slots + 12 ≤ 7293034; omega⟩ (fun H locs r9 u9 h9 hP hD hS => ?_)
  obtain ⟨S1, o1⟩ := u9
  have hk := lw_fin (cd := cdL_wire) (ok := (fun e => e = 1 ∨ e = 2)) (z := (b1, M1)) (o := o) (h9.imp (fun ⟨hr, v, hv, ho⟩ => ⟨hr, v, by rw [← hv]; exact hst, ho⟩) (fun ⟨k, hk, hr, ho⟩ => ⟨k, by rw [← hk]; exact hst, hr, ho⟩))
  refine W.widen (k := cells + 121) (n := slots + 906) (by omega) (by omega) ?_
  refine lv_istore (lv' := [(5, .int r9), (4, .int i), (3, .ref (q 33)), (2, .ref (q 22)), (1, .ref (q 0)), (0, .ref b)]) hx hb dL_law_1430 hl (by decide) rfl (fun ls hl => ?_)
  refine lv_aload_n hx hb dL_law_1432 rfl (lv_at hl 3 rfl) ?_
  refine lv_aload_n hx hb dL_law_1433 rfl (lv_at hl 5 rfl) ?_
  refine lv_iload hx hb dL_law_1434 (lv_at hl 1 rfl) ?_
  refine lv_iconst (v := (1 : Int32)) hx hb dL_law_1436 (by decide) ?_
  refine lv_iadd hx hb dL_law_1437 ?_
  refine va_sld hx hb hX hbl hbA hS (hin 1 (by decide) (by decide)) dL_law_1438 ?_
  refine lv_aload_n hx hb dL_law_1439 rfl (lv_at hl 5 rfl) ?_
  refine lv_iload hx hb dL_law_1440 (lv_at hl 1 rfl) ?_
  refine lv_iconst (v := (2 : Int32)) hx hb dL_law_1442 (by decide) ?_
  refine lv_iadd hx hb dL_law_1443 ?_
  refine va_sld hx hb hX hbl hbA hS (hin 2 (by decide) (by decide)) dL_law_1444 ?_
  refine caVM_i (As := [.int (xs (i + (1 : Int32)).toNatClampNeg), .int (xs (i + (2 : Int32)).toNatClampNeg)]) (rest := []) (ctX8_wire l dC dI cq q S1 M o1 _ (xs (i + (1 : Int32)).toNatClampNeg) (xs (i + (2 : Int32)).toNatClampNeg) b1 M1 e8) F (cwV 2 hts gL_law_X8_wire rfl rfl rfl hdX8_wire ⟨Nat.le_of_ble_eq_true rfl, Nat.le_of_ble_eq_true rfl⟩) hK hP hD (fun _ _ => trivial) hS hA (fun _ _ _ _ _ => trivial) (fun _ _ _ => trivial) (va_recv hK hP (ci := 9) (q0 := 22) rfl rfl) rfl hl.1 rfl (Nat.le_of_ble_eq_true rfl) dL_law_1445 ⟨by show cells + 121 + 0 ≤ 601024; omega, by show slots + 906 + 0 ≤ 7293034; omega⟩ (fun H locs hP hD hS => ?_)
  refine lv_istore (lv' := [(6, .int b1), (5, .int r9), (4, .int i), (3, .ref (q 33)), (2, .ref (q 22)), (1, .ref (q 0)), (0, .ref b)]) hx hb dL_law_1448 hl (by decide) rfl (fun ls hl => ?_)
  refine lv_aload_n hx hb dL_law_1450 rfl (lv_at hl 4 rfl) ?_
  refine caVR_i (As := []) (rest := []) (ctX8_thrown l dC dI cq q S1 M1 o1 _ (M1.1 0) rfl) F (cwV 0 hts gL_law_X8_thrown rfl rfl rfl hdX8_thrown ⟨Nat.le_of_ble_eq_true rfl, Nat.le_of_ble_eq_true rfl⟩) hK hP hD (fun _ _ => trivial) hS hA (fun _ _ _ _ _ => trivial) (fun _ _ _ => trivial) (va_recv hK hP (ci := 9) (q0 := 22) rfl rfl) rfl hl.1 rfl (Nat.le_of_ble_eq_true rfl) dL_law_1451 ⟨by show cells + 121 + 0 ≤ 601024; omega, by show slots + 906 + 0 ≤ 7293034; omega⟩ (fun H locs hP hD hS => ?_)
  refine lv_iload hx hb dL_law_1454 (lv_at hl 1 rfl) ?_
  refine lv_icmp_eq (tgt := 1461) hx hb dL_law_1456 (by decide) (fun _ => ?_) (fun c9 => absurd hk.1 c9)
  refine lv_iload hx hb dL_law_1461 (lv_at hl 1 rfl) ?_
  have fin : W p l e room_1 s m #[Value.ref b] below meth c H locs (cells + 121) (slots + 906) Q (F0 m 1478 ls []) := lv_goto (tgt := 1536) hx hb dL_law_1478 (by decide) (kk _ _ _ _ _ _ hk.2.2 hP hD hS (lv_sub hl [2, 3, 4, 5, 6] rfl))
  refine lv_if_ne (tgt := 1478) hx hb dL_law_1463 (by decide) (fun _ => fin) (fun c8 => ?_)
  refine lv_aload_n hx hb dL_law_1466 rfl (lv_at hl 3 rfl) ?_
  refine lv_iconst (v := (0 : Int32)) hx hb dL_law_1467 (by decide) ?_
  refine va_lald (D := (dC, dI)) hx hb hK hP 33 23 rfl rfl (inb_ok (i := 0) (n := 1) (by decide)) dL_law_1468 ?_
  refine lv_iload hx hb dL_law_1469 (lv_at hl 0 rfl) ?_
  refine lv_i2l hx hb dL_law_1471 rfl ?_
  refine W.lcmp hx hb dL_law_1472 ?_
  exact lv_if_eq (tgt := 1478) hx hb dL_law_1473 (by decide) (fun _ => fin) (fun c7 => absurd ((lg_cmp_eq _ _).mpr (hk.2.1 c8)) c7)
set_option maxRecDepth 100000 in
set_option maxHeartbeats 8000000 in
theorem st_digest {p : Program} {l : Launch} {e : Env} {s : State} {m : MethodId} {below : List Frame} {meth : Method} {c : Code} {b L : Nat} {xs : Nat → Int32} {dC : Nat → ClassId} {dI : Nat → Nat → Nat} {cq : Nat → ClassId} {q : Nat → Nat} {Q : State → Prop} (hfl : l.stackTraces = false) (C : LC p s m c b L xs dC dI cq q) {n : Nat} (hn : 40000000 < n) {S : CS} {M : MS} {o : Nat → Int64} (hR : Rel S M) {i : Int32} (hin : ∀ t : Nat, 1 ≤ t → t ≤ 5 → vp_in (i + nI t) L) {H : Heap} {locs : List Loc} {cells slots : Nat} (hcl : cells + 121 ≤ 601024) (hsl : slots + 906 ≤ 7293034) (hP : va_P (dC, dI) vwCl (wA cq q S M o) H) (hD : va_D (fun a => s.heap.size ≤ a) (wA cq q S M o)) (hS : va_S (fun a => s.heap.size ≤ a) s.heap H locs) {ls : Array Slot} (hl : lv_has ls 9 [(4, .int i), (3, .ref (q 33)), (2, .ref (q 22)), (1, .ref (q 0)), (0, .ref b)])
    (kk : ∀ (S' : CS) (M' : MS) (o' : Nat → Int64) (H' : Heap) (locs' : List Loc) (ls' : Array Slot), Rel S' M' → va_P (dC, dI) vwCl (wA cq q S' M' o') H' → va_D (fun a => s.heap.size ≤ a) (wA cq q S' M' o') → va_S (fun a => s.heap.size ≤ a) s.heap H' locs' → lv_has ls' 9 [(4, .int i), (3, .ref (q 33)), (2, .ref (q 22)), (1, .ref (q 0)), (0, .ref b)] → W p l e room_1 s m #[Value.ref b] below meth c H' locs' (cells + 121) (slots + 906) Q (F0 m 1536 ls' [])) :
    W p l e room_1 s m #[Value.ref b] below meth c H locs cells slots Q (F0 m 1522 ls []) := by
  obtain ⟨hx, hb, hml, hown, hts, hX, hbl, hK, hEV⟩ := id C
  have F : CallFix p m c cL_law 9 s #[Value.ref b] wsL_law RL := ⟨hx, hb, hml, hown, hts⟩
  have hA : ∀ a : Nat, s.heap.size ≤ a → (fun a => s.heap.size ≤ a) a := fun _ h => h
  have hDm : ∀ a : Nat, (fun a => s.heap.size ≤ a) a → s.heap.size ≤ a := fun _ h => h
  have hbA : ¬ (fun a : Nat => s.heap.size ≤ a) b := Nat.not_le.mpr hbl
  obtain ⟨w, S1, M1, e7, e8, hrel⟩ := sq_digest hR (n := n) (by omega)
  refine lv_aload_n hx hb dL_law_1522 rfl (lv_at hl 3 rfl) ?_
  refine caVC_l (As := []) (rest := []) (ctX7_digest l dC dI cq q S M o _ s.heap.size n w S1 e7) F (cwV 0 hts gL_law_X7_digest rfl rfl rfl hdX7_digest ⟨Nat.le_of_ble_eq_true rfl, Nat.le_of_ble_eq_true rfl⟩) hK hP hD hDm hS hA EV.blind (fun U hU hW => EV.call hEV hS hDm hU hW) (va_recv hK hP (ci := 8) (q0 := 0) rfl rfl) rfl hl.1 rfl (Nat.le_of_ble_eq_true rfl) dL_law_1523 ⟨by show cells + 0 ≤ 601024; omega, by show slots + 0 ≤ 7293034; omega⟩ (fun H locs hP hD hS => ?_)
  refine lv_aload_n hx hb dL_law_1526 rfl (lv_at hl 2 rfl) ?_
  refine caVM_l (As := []) (rest := [.long w]) (ctX8_digest l dC dI cq q S1 M o _ n w M1 e8) F (cwV 0 hts gL_law_X8_digest rfl rfl rfl hdX8_digest ⟨Nat.le_of_ble_eq_true rfl, Nat.le_of_ble_eq_true rfl⟩) hK hP hD (fun _ _ => trivial) hS hA (fun _ _ _ _ _ => trivial) (fun _ _ _ => trivial) (va_recv hK hP (ci := 9) (q0 := 22) rfl rfl) rfl hl.1 rfl (Nat.le_of_ble_eq_true rfl) dL_law_1527 ⟨by show cells + 0 ≤ 601024; omega, by show slots + 0 ≤ 7293034; omega⟩ (fun H locs hP hD hS => ?_)
  refine W.widen (k := cells + 121) (n := slots + 906) (by omega) (by omega) ?_
  refine W.lcmp hx hb dL_law_1530 ?_
  exact lv_if_eq (tgt := 1536) hx hb dL_law_1531 (by decide) (fun _ => kk _ _ _ _ _ _ hrel hP hD hS hl) (fun c7 => absurd ((lg_cmp_eq _ _).mpr rfl) c7)
