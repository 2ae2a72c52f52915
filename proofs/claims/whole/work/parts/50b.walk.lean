set_option maxRecDepth 100000 in
set_option maxHeartbeats 8000000 in
theorem st_begin {p : Program} {l : Launch} {e : Env} {s : State} {m : MethodId} {below : List Frame} {meth : Method} {c : Code} {b L : Nat} {xs : Nat → Int32} {dC : Nat → ClassId} {dI : Nat → Nat → Nat} {cq : Nat → ClassId} {q : Nat → Nat} {Q : State → Prop} (hfl : l.stackTraces = false) (C : LC p s m c b L xs dC dI cq q) {n : Nat} (hn : 40000000 < n) {S : CS} {M : MS} {o : Nat → Int64} (hR : Rel S M) {i : Int32} (hin : ∀ t : Nat, 1 ≤ t → t ≤ 5 → vp_in (i + nI t) L) {H : Heap} {locs : List Loc} {cells slots : Nat} (hcl : cells + 121 ≤ 601024) (hsl : slots + 906 ≤ 7293034) (hP : va_P (dC, dI) vwCl (wA cq q S M o) H) (hD : va_D (fun a => s.heap.size ≤ a) (wA cq q S M o)) (hS : va_S (fun a => s.heap.size ≤ a) s.heap H locs) {ls : Array Slot} (hl : lv_has ls 9 [(4, .int i), (3, .ref (q 33)), (2, .ref (q 22)), (1, .ref (q 0)), (0, .ref b)])
    (kk : ∀ (S' : CS) (M' : MS) (o' : Nat → Int64) (H' : Heap) (locs' : List Loc) (ls' : Array Slot), Rel S' M' → va_P (dC, dI) vwCl (wA cq q S' M' o') H' → va_D (fun a => s.heap.size ≤ a) (wA cq q S' M' o') → va_S (fun a => s.heap.size ≤ a) s.heap H' locs' → lv_has ls' 9 [(4, .int i), (3, .ref (q 33)), (2, .ref (q 22)), (1, .ref (q 0)), (0, .ref b)] → W p l e room_1 s m #[Value.ref b] below meth c H' locs' (cells + 121) (slots + 906) Q (F0 m 1536 ls' [])) :
    W p l e room_1 s m #[Value.ref b] below meth c H locs cells slots Q (F0 m 160 ls []) := by
  obtain ⟨hx, hb, hml, hown, hts, hX, hbl, hK, hEV⟩ := id C
  have F : CallFix p m c cL_law 9 s #[Value.ref b] wsL_law RL := ⟨hx, hb, hml, hown, hts⟩
  have hA : ∀ a : Nat, s.heap.size ≤ a → (fun a => s.heap.size ≤ a) a := fun _ h => h
  have hDm : ∀ a : Nat, (fun a => s.heap.size ≤ a) a → s.heap.size ≤ a := fun _ h => h
  have hbA : ¬ (fun a : Nat => s.heap.size ≤ a) b := Nat.not_le.mpr hbl
  obtain ⟨rs, ⟨b1, M1⟩, e7, e8, hst⟩ := sq_begin hR (n := n) (by omega) (xs (i + (1 : Int32)).toNatClampNeg) (xs (i + (2 : Int32)).toNatClampNeg)
  refine lv_aload_n hx hb dL_law_160 rfl (lv_at hl 3 rfl) ?_
  refine lv_aload_n hx hb dL_law_161 rfl (lv_at hl 4 rfl) ?_
  refine lv_iload hx hb dL_law_162 (lv_at hl 0 rfl) ?_
  refine lv_iconst (v := (1 : Int32)) hx hb dL_law_164 (by decide) ?_
  refine lv_iadd hx hb dL_law_165 ?_
  refine va_sld hx hb hX hbl hbA hS (hin 1 (by decide) (by decide)) dL_law_166 ?_
  refine lv_aload_n hx hb dL_law_167 rfl (lv_at hl 4 rfl) ?_
  refine lv_iload hx hb dL_law_168 (lv_at hl 0 rfl) ?_
  refine lv_iconst (v := (2 : Int32)) hx hb dL_law_170 (by decide) ?_
  refine lv_iadd hx hb dL_law_171 ?_
  refine va_sld hx hb hX hbl hbA hS (hin 2 (by decide) (by decide)) dL_law_172 ?_
  refine lv_aload_n hx hb dL_law_173 rfl (lv_at hl 1 rfl) ?_
  refine caWS_i (As := [.ref (q 0), .int (xs (i + (1 : Int32)).toNatClampNeg), .int (xs (i + (2 : Int32)).toNatClampNeg), .ref (q 33)]) (rest := []) (ctL_begin l dC dI cq q S M o _ s.heap.size (xs (i + (1 : Int32)).toNatClampNeg) (xs (i + (2 : Int32)).toNatClampNeg) (fun (r : Int32) (u : CS) => rs = (.ok r, u)) (fun k u => rs = (.error k, u)) (fun sz => ctX7_begin l dC dI cq q S M o sz s.heap.size hfl n (xs (i + (1 : Int32)).toNatClampNeg) (xs (i + (2 : Int32)).toNatClampNeg) rs e7) (fun e u h => by rw [h] at hst; exact hst.1)) F (vx_cwSW 4 hts gL_law_L_begin rfl rfl rfl hdL_begin ⟨Nat.le_of_ble_eq_true rfl, Nat.le_of_ble_eq_true rfl⟩) hK hP hD hDm hS hA EV.blind (fun U hU hW => EV.call hEV hS hDm hU hW) rfl hl.1 rfl (Nat.le_of_ble_eq_true rfl) dL_law_174 ⟨by show cells + 2 ≤ 601024; omega, by show slots + 12 ≤ 7293034; omega⟩ (fun H locs r9 u9 h9 hP hD hS => ?_)
  obtain ⟨S1, o1⟩ := u9
  have hk := lw_fin (cd := cdL_begin) (ok := (fun e => e = 1)) (z := (b1, M1)) (o := o) (h9.imp (fun ⟨hr, v, hv, ho⟩ => ⟨hr, v, by rw [← hv]; exact hst, ho⟩) (fun ⟨k, hk, hr, ho⟩ => ⟨k, by rw [← hk]; exact hst, hr, ho⟩))
  refine W.widen (k := cells + 121) (n := slots + 906) (by omega) (by omega) ?_
  refine lv_istore (lv' := [(5, .int r9), (4, .int i), (3, .ref (q 33)), (2, .ref (q 22)), (1, .ref (q 0)), (0, .ref b)]) hx hb dL_law_177 hl (by decide) rfl (fun ls hl => ?_)
  refine lv_aload_n hx hb dL_law_179 rfl (lv_at hl 3 rfl) ?_
  refine lv_aload_n hx hb dL_law_180 rfl (lv_at hl 5 rfl) ?_
  refine lv_iload hx hb dL_law_181 (lv_at hl 1 rfl) ?_
  refine lv_iconst (v := (1 : Int32)) hx hb dL_law_183 (by decide) ?_
  refine lv_iadd hx hb dL_law_184 ?_
  refine va_sld hx hb hX hbl hbA hS (hin 1 (by decide) (by decide)) dL_law_185 ?_
  refine lv_aload_n hx hb dL_law_186 rfl (lv_at hl 5 rfl) ?_
  refine lv_iload hx hb dL_law_187 (lv_at hl 1 rfl) ?_
  refine lv_iconst (v := (2 : Int32)) hx hb dL_law_189 (by decide) ?_
  refine lv_iadd hx hb dL_law_190 ?_
  refine va_sld hx hb hX hbl hbA hS (hin 2 (by decide) (by decide)) dL_law_191 ?_
  refine caVM_i (As := [.int (xs (i + (1 : Int32)).toNatClampNeg), .int (xs (i + (2 : Int32)).toNatClampNeg)]) (rest := []) (ctX8_begin l dC dI cq q S1 M o1 _ n (xs (i + (1 : Int32)).toNatClampNeg) (xs (i + (2 : Int32)).toNatClampNeg) b1 M1 e8) F (cwV 2 hts gL_law_X8_begin rfl rfl rfl hdX8_begin ⟨Nat.le_of_ble_eq_true rfl, Nat.le_of_ble_eq_true rfl⟩) hK hP hD (fun _ _ => trivial) hS hA (fun _ _ _ _ _ => trivial) (fun _ _ _ => trivial) (va_recv hK hP (ci := 9) (q0 := 22) rfl rfl) rfl hl.1 rfl (Nat.le_of_ble_eq_true rfl) dL_law_192 ⟨by show cells + 121 + 0 ≤ 601024; omega, by show slots + 906 + 0 ≤ 7293034; omega⟩ (fun H locs hP hD hS => ?_)
  refine lv_istore (lv' := [(6, .int b1), (5, .int r9), (4, .int i), (3, .ref (q 33)), (2, .ref (q 22)), (1, .ref (q 0)), (0, .ref b)]) hx hb dL_law_195 hl (by decide) rfl (fun ls hl => ?_)
  refine lv_aload_n hx hb dL_law_197 rfl (lv_at hl 4 rfl) ?_
  refine caVR_i (As := []) (rest := []) (ctX8_thrown l dC dI cq q S1 M1 o1 _ (M1.1 0) rfl) F (cwV 0 hts gL_law_X8_thrown rfl rfl rfl hdX8_thrown ⟨Nat.le_of_ble_eq_true rfl, Nat.le_of_ble_eq_true rfl⟩) hK hP hD (fun _ _ => trivial) hS hA (fun _ _ _ _ _ => trivial) (fun _ _ _ => trivial) (va_recv hK hP (ci := 9) (q0 := 22) rfl rfl) rfl hl.1 rfl (Nat.le_of_ble_eq_true rfl) dL_law_198 ⟨by show cells + 121 + 0 ≤ 601024; omega, by show slots + 906 + 0 ≤ 7293034; omega⟩ (fun H locs hP hD hS => ?_)
  refine lv_iload hx hb dL_law_201 (lv_at hl 1 rfl) ?_
  refine lv_icmp_eq (tgt := 208) hx hb dL_law_203 (by decide) (fun _ => ?_) (fun c9 => absurd hk.1 c9)
  refine lv_iload hx hb dL_law_208 (lv_at hl 1 rfl) ?_
  have fin : W p l e room_1 s m #[Value.ref b] below meth c H locs (cells + 121) (slots + 906) Q (F0 m 225 ls []) := lv_goto (tgt := 1536) hx hb dL_law_225 (by decide) (kk _ _ _ _ _ _ hk.2.2 hP hD hS (lv_sub hl [2, 3, 4, 5, 6] rfl))
  refine lv_if_ne (tgt := 225) hx hb dL_law_210 (by decide) (fun _ => fin) (fun c8 => ?_)
  refine lv_aload_n hx hb dL_law_213 rfl (lv_at hl 3 rfl) ?_
  refine lv_iconst (v := (0 : Int32)) hx hb dL_law_214 (by decide) ?_
  refine va_lald (D := (dC, dI)) hx hb hK hP 33 23 rfl rfl (inb_ok (i := 0) (n := 1) (by decide)) dL_law_215 ?_
  refine lv_iload hx hb dL_law_216 (lv_at hl 0 rfl) ?_
  refine lv_i2l hx hb dL_law_218 rfl ?_
  refine W.lcmp hx hb dL_law_219 ?_
  exact lv_if_eq (tgt := 225) hx hb dL_law_220 (by decide) (fun _ => fin) (fun c7 => absurd ((lg_cmp_eq _ _).mpr (hk.2.1 c8)) c7)
set_option maxRecDepth 100000 in
set_option maxHeartbeats 8000000 in
theorem st_exchange {p : Program} {l : Launch} {e : Env} {s : State} {m : MethodId} {below : List Frame} {meth : Method} {c : Code} {b L : Nat} {xs : Nat → Int32} {dC : Nat → ClassId} {dI : Nat → Nat → Nat} {cq : Nat → ClassId} {q : Nat → Nat} {Q : State → Prop} (hfl : l.stackTraces = false) (C : LC p s m c b L xs dC dI cq q) {n : Nat} (hn : 40000000 < n) {S : CS} {M : MS} {o : Nat → Int64} (hR : Rel S M) {i : Int32} (hin : ∀ t : Nat, 1 ≤ t → t ≤ 5 → vp_in (i + nI t) L) {H : Heap} {locs : List Loc} {cells slots : Nat} (hcl : cells + 121 ≤ 601024) (hsl : slots + 906 ≤ 7293034) (hP : va_P (dC, dI) vwCl (wA cq q S M o) H) (hD : va_D (fun a => s.heap.size ≤ a) (wA cq q S M o)) (hS : va_S (fun a => s.heap.size ≤ a) s.heap H locs) {ls : Array Slot} (hl : lv_has ls 9 [(4, .int i), (3, .ref (q 33)), (2, .ref (q 22)), (1, .ref (q 0)), (0, .ref b)])
    (kk : ∀ (S' : CS) (M' : MS) (o' : Nat → Int64) (H' : Heap) (locs' : List Loc) (ls' : Array Slot), Rel S' M' → va_P (dC, dI) vwCl (wA cq q S' M' o') H' → va_D (fun a => s.heap.size ≤ a) (wA cq q S' M' o') → va_S (fun a => s.heap.size ≤ a) s.heap H' locs' → lv_has ls' 9 [(4, .int i), (3, .ref (q 33)), (2, .ref (q 22)), (1, .ref (q 0)), (0, .ref b)] → W p l e room_1 s m #[Value.ref b] below meth c H' locs' (cells + 121) (slots + 906) Q (F0 m 1536 ls' [])) :
    W p l e room_1 s m #[Value.ref b] below meth c H locs cells slots Q (F0 m 228 ls []) := by
  obtain ⟨hx, hb, hml, hown, hts, hX, hbl, hK, hEV⟩ := id C
  have F : CallFix p m c cL_law 9 s #[Value.ref b] wsL_law RL := ⟨hx, hb, hml, hown, hts⟩
  have hA : ∀ a : Nat, s.heap.size ≤ a → (fun a => s.heap.size ≤ a) a := fun _ h => h
  have hDm : ∀ a : Nat, (fun a => s.heap.size ≤ a) a → s.heap.size ≤ a := fun _ h => h
  have hbA : ¬ (fun a : Nat => s.heap.size ≤ a) b := Nat.not_le.mpr hbl
  obtain ⟨rs, ⟨b1, M1⟩, e7, e8, hst⟩ := sq_exchange hR (xs (i + (1 : Int32)).toNatClampNeg) (xs (i + (2 : Int32)).toNatClampNeg) (xs (i + (3 : Int32)).toNatClampNeg)
  refine lv_aload_n hx hb dL_law_228 rfl (lv_at hl 3 rfl) ?_
  refine lv_aload_n hx hb dL_law_229 rfl (lv_at hl 4 rfl) ?_
  refine lv_iload hx hb dL_law_230 (lv_at hl 0 rfl) ?_
  refine lv_iconst (v := (1 : Int32)) hx hb dL_law_232 (by decide) ?_
  refine lv_iadd hx hb dL_law_233 ?_
  refine va_sld hx hb hX hbl hbA hS (hin 1 (by decide) (by decide)) dL_law_234 ?_
  refine lv_aload_n hx hb dL_law_235 rfl (lv_at hl 4 rfl) ?_
  refine lv_iload hx hb dL_law_236 (lv_at hl 0 rfl) ?_
  refine lv_iconst (v := (2 : Int32)) hx hb dL_law_238 (by decide) ?_
  refine lv_iadd hx hb dL_law_239 ?_
  refine va_sld hx hb hX hbl hbA hS (hin 2 (by decide) (by decide)) dL_law_240 ?_
  refine lv_aload_n hx hb dL_law_241 rfl (lv_at hl 4 rfl) ?_
  refine lv_iload hx hb dL_law_242 (lv_at hl 0 rfl) ?_
  refine lv_iconst (v := (3 : Int32)) hx hb dL_law_244 (by decide) ?_
  refine lv_iadd hx hb dL_law_245 ?_
  refine va_sld hx hb hX hbl hbA hS (hin 3 (by decide) (by decide)) dL_law_246 ?_
  refine lv_aload_n hx hb dL_law_247 rfl (lv_at hl 1 rfl) ?_
  refine caWS_i (As := [.ref (q 0), .int (xs (i + (1 : Int32)).toNatClampNeg), .int (xs (i + (2 : Int32)).toNatClampNeg), .int (xs (i + (3 : Int32)).toNatClampNeg), .ref (q 33)]) (rest := []) (ctL_exchange l dC dI cq q S M o _ s.heap.size (xs (i + (1 : Int32)).toNatClampNeg) (xs (i + (2 : Int32)).toNatClampNeg) (xs (i + (3 : Int32)).toNatClampNeg) (fun (r : Int32) (u : CS) => rs = (.ok r, u)) (fun k u => rs = (.error k, u)) (fun sz => ctX7_exchange l dC dI cq q S M o sz s.heap.size hfl (xs (i + (1 : Int32)).toNatClampNeg) (xs (i + (2 : Int32)).toNatClampNeg) (xs (i + (3 : Int32)).toNatClampNeg) rs e7) (fun e u h => by rw [h] at hst; exact hst.1)) F (vx_cwSW 5 hts gL_law_L_exchange rfl rfl rfl hdL_exchange ⟨Nat.le_of_ble_eq_true rfl, Nat.le_of_ble_eq_true rfl⟩) hK hP hD hDm hS hA EV.blind (fun U hU hW => EV.call hEV hS hDm hU hW) rfl hl.1 rfl (Nat.le_of_ble_eq_true rfl) dL_law_248 ⟨by show cells + 4 ≤ 601024; omega, by show slots + 24 ≤ 7293034; omega⟩ (fun H locs r9 u9 h9 hP hD hS => ?_)
  obtain ⟨S1, o1⟩ := u9
  have hk := lw_fin (cd := cdL_exchange) (ok := (fun e => e = 1 ∨ e = 2)) (z := (b1, M1)) (o := o) (h9.imp (fun ⟨hr, v, hv, ho⟩ => ⟨hr, v, by rw [← hv]; exact hst, ho⟩) (fun ⟨k, hk, hr, ho⟩ => ⟨k, by rw [← hk]; exact hst, hr, ho⟩))
  refine W.widen (k := cells + 121) (n := slots + 906) (by omega) (by omega) ?_
  refine lv_istore (lv' := [(5, .int r9), (4, .int i), (3, .ref (q 33)), (2, .ref (q 22)), (1, .ref (q 0)), (0, .ref b)]) hx hb dL_law_251 hl (by decide) rfl (fun ls hl => ?_)
  refine lv_aload_n hx hb dL_law_253 rfl (lv_at hl 3 rfl) ?_
  refine lv_aload_n hx hb dL_law_254 rfl (lv_at hl 5 rfl) ?_
  refine lv_iload hx hb dL_law_255 (lv_at hl 1 rfl) ?_
  refine lv_iconst (v := (1 : Int32)) hx hb dL_law_257 (by decide) ?_
  refine lv_iadd hx hb dL_law_258 ?_
  refine va_sld hx hb hX hbl hbA hS (hin 1 (by decide) (by decide)) dL_law_259 ?_
  refine lv_aload_n hx hb dL_law_260 rfl (lv_at hl 5 rfl) ?_
  refine lv_iload hx hb dL_law_261 (lv_at hl 1 rfl) ?_
  refine lv_iconst (v := (2 : Int32)) hx hb dL_law_263 (by decide) ?_
  refine lv_iadd hx hb dL_law_264 ?_
  refine va_sld hx hb hX hbl hbA hS (hin 2 (by decide) (by decide)) dL_law_265 ?_
  refine lv_aload_n hx hb dL_law_266 rfl (lv_at hl 5 rfl) ?_
  refine lv_iload hx hb dL_law_267 (lv_at hl 1 rfl) ?_
  refine lv_iconst (v := (3 : Int32)) hx hb dL_law_269 (by decide) ?_
  refine lv_iadd hx hb dL_law_270 ?_
  refine va_sld hx hb hX hbl hbA hS (hin 3 (by decide) (by decide)) dL_law_271 ?_
  refine caVM_i (As := [.int (xs (i + (1 : Int32)).toNatClampNeg), .int (xs (i + (2 : Int32)).toNatClampNeg), .int (xs (i + (3 : Int32)).toNatClampNeg)]) (rest := []) (ctX8_exchange l dC dI cq q S1 M o1 _ (xs (i + (1 : Int32)).toNatClampNeg) (xs (i + (2 : Int32)).toNatClampNeg) (xs (i + (3 : Int32)).toNatClampNeg) b1 M1 e8) F (cwV 3 hts gL_law_X8_exchange rfl rfl rfl hdX8_exchange ⟨Nat.le_of_ble_eq_true rfl, Nat.le_of_ble_eq_true rfl⟩) hK hP hD (fun _ _ => trivial) hS hA (fun _ _ _ _ _ => trivial) (fun _ _ _ => trivial) (va_recv hK hP (ci := 9) (q0 := 22) rfl rfl) rfl hl.1 rfl (Nat.le_of_ble_eq_true rfl) dL_law_272 ⟨by show cells + 121 + 0 ≤ 601024; omega, by show slots + 906 + 0 ≤ 7293034; omega⟩ (fun H locs hP hD hS => ?_)
  refine lv_istore (lv' := [(6, .int b1), (5, .int r9), (4, .int i), (3, .ref (q 33)), (2, .ref (q 22)), (1, .ref (q 0)), (0, .ref b)]) hx hb dL_law_275 hl (by decide) rfl (fun ls hl => ?_)
  refine lv_aload_n hx hb dL_law_277 rfl (lv_at hl 4 rfl) ?_
  refine caVR_i (As := []) (rest := []) (ctX8_thrown l dC dI cq q S1 M1 o1 _ (M1.1 0) rfl) F (cwV 0 hts gL_law_X8_thrown rfl rfl rfl hdX8_thrown ⟨Nat.le_of_ble_eq_true rfl, Nat.le_of_ble_eq_true rfl⟩) hK hP hD (fun _ _ => trivial) hS hA (fun _ _ _ _ _ => trivial) (fun _ _ _ => trivial) (va_recv hK hP (ci := 9) (q0 := 22) rfl rfl) rfl hl.1 rfl (Nat.le_of_ble_eq_true rfl) dL_law_278 ⟨by show cells + 121 + 0 ≤ 601024; omega, by show slots + 906 + 0 ≤ 7293034; omega⟩ (fun H locs hP hD hS => ?_)
  refine lv_iload hx hb dL_law_281 (lv_at hl 1 rfl) ?_
  refine lv_icmp_eq (tgt := 288) hx hb dL_law_283 (by decide) (fun _ => ?_) (fun c9 => absurd hk.1 c9)
  refine lv_iload hx hb dL_law_288 (lv_at hl 1 rfl) ?_
  have fin : W p l e room_1 s m #[Value.ref b] below meth c H locs (cells + 121) (slots + 906) Q (F0 m 305 ls []) := lv_goto (tgt := 1536) hx hb dL_law_305 (by decide) (kk _ _ _ _ _ _ hk.2.2 hP hD hS (lv_sub hl [2, 3, 4, 5, 6] rfl))
  refine lv_if_ne (tgt := 305) hx hb dL_law_290 (by decide) (fun _ => fin) (fun c8 => ?_)
  refine lv_aload_n hx hb dL_law_293 rfl (lv_at hl 3 rfl) ?_
  refine lv_iconst (v := (0 : Int32)) hx hb dL_law_294 (by decide) ?_
  refine va_lald (D := (dC, dI)) hx hb hK hP 33 23 rfl rfl (inb_ok (i := 0) (n := 1) (by decide)) dL_law_295 ?_
  refine lv_iload hx hb dL_law_296 (lv_at hl 0 rfl) ?_
  refine lv_i2l hx hb dL_law_298 rfl ?_
  refine W.lcmp hx hb dL_law_299 ?_
  exact lv_if_eq (tgt := 305) hx hb dL_law_300 (by decide) (fun _ => fin) (fun c7 => absurd ((lg_cmp_eq _ _).mpr (hk.2.1 c8)) c7)
set_option maxRecDepth 100000 in
set_option maxHeartbeats 8000000 in
theorem st_cut {p : Program} {l : Launch} {e : Env} {s : State} {m : MethodId} {below : List Frame} {meth : Method} {c : Code} {b L : Nat} {xs : Nat → Int32} {dC : Nat → ClassId} {dI : Nat → Nat → Nat} {cq : Nat → ClassId} {q : Nat → Nat} {Q : State → Prop} (hfl : l.stackTraces = false) (C : LC p s m c b L xs dC dI cq q) {n : Nat} (hn : 40000000 < n) {S : CS} {M : MS} {o : Nat → Int64} (hR : Rel S M) {i : Int32} (hin : ∀ t : Nat, 1 ≤ t → t ≤ 5 → vp_in (i + nI t) L) {H : Heap} {locs : List Loc} {cells slots : Nat} (hcl : cells + 121 ≤ 601024) (hsl : slots + 906 ≤ 7293034) (hP : va_P (dC, dI) vwCl (wA cq q S M o) H) (hD : va_D (fun a => s.heap.size ≤ a) (wA cq q S M o)) (hS : va_S (fun a => s.heap.size ≤ a) s.heap H locs) {ls : Array Slot} (hl : lv_has ls 9 [(4, .int i), (3, .ref (q 33)), (2, .ref (q 22)), (1, .ref (q 0)), (0, .ref b)])
    (kk : ∀ (S' : CS) (M' : MS) (o' : Nat → Int64) (H' : Heap) (locs' : List Loc) (ls' : Array Slot), Rel S' M' → va_P (dC, dI) vwCl (wA cq q S' M' o') H' → va_D (fun a => s.heap.size ≤ a) (wA cq q S' M' o') → va_S (fun a => s.heap.size ≤ a) s.heap H' locs' → lv_has ls' 9 [(4, .int i), (3, .ref (q 33)), (2, .ref (q 22)), (1, .ref (q 0)), (0, .ref b)] → W p l e room_1 s m #[Value.ref b] below meth c H' locs' (cells + 121) (slots + 906) Q (F0 m 1536 ls' [])) :
    W p l e room_1 s m #[Value.ref b] below meth c H locs cells slots Q (F0 m 308 ls []) := by
  obtain ⟨hx, hb, hml, hown, hts, hX, hbl, hK, hEV⟩ := id C
  have F : CallFix p m c cL_law 9 s #[Value.ref b] wsL_law RL := ⟨hx, hb, hml, hown, hts⟩
  have hA : ∀ a : Nat, s.heap.size ≤ a → (fun a => s.heap.size ≤ a) a := fun _ h => h
  have hDm : ∀ a : Nat, (fun a => s.heap.size ≤ a) a → s.heap.size ≤ a := fun _ h => h
  have hbA : ¬ (fun a : Nat => s.heap.size ≤ a) b := Nat.not_le.mpr hbl
  have hst := sq_cut hR (xs (i + (1 : Int32)).toNatClampNeg) (xs (i + (2 : Int32)).toNatClampNeg) (xs (i + (3 : Int32)).toNatClampNeg) (xs (i + (4 : Int32)).toNatClampNeg)
  obtain ⟨⟨b1, M1⟩, e8⟩ : ∃ z, mX8_cut M (xs (i + (1 : Int32)).toNatClampNeg) (xs (i + (2 : Int32)).toNatClampNeg) (xs (i + (3 : Int32)).toNatClampNeg) (xs (i + (4 : Int32)).toNatClampNeg) = some z := hst.elim (fun ⟨z, _, _, h, _⟩ => ⟨_, h⟩) (fun ⟨_, z, _, h, _⟩ => ⟨_, h⟩)
  obtain ⟨rs, e7, hroom, hpx, hfn⟩ := sqa_use hst e8
  refine lv_aload_n hx hb dL_law_308 rfl (lv_at hl 3 rfl) ?_
  refine lv_aload_n hx hb dL_law_309 rfl (lv_at hl 4 rfl) ?_
  refine lv_iload hx hb dL_law_310 (lv_at hl 0 rfl) ?_
  refine lv_iconst (v := (1 : Int32)) hx hb dL_law_312 (by decide) ?_
  refine lv_iadd hx hb dL_law_313 ?_
  refine va_sld hx hb hX hbl hbA hS (hin 1 (by decide) (by decide)) dL_law_314 ?_
  refine lv_aload_n hx hb dL_law_315 rfl (lv_at hl 4 rfl) ?_
  refine lv_iload hx hb dL_law_316 (lv_at hl 0 rfl) ?_
  refine lv_iconst (v := (2 : Int32)) hx hb dL_law_318 (by decide) ?_
  refine lv_iadd hx hb dL_law_319 ?_
  refine va_sld hx hb hX hbl hbA hS (hin 2 (by decide) (by decide)) dL_law_320 ?_
  refine lv_aload_n hx hb dL_law_321 rfl (lv_at hl 4 rfl) ?_
  refine lv_iload hx hb dL_law_322 (lv_at hl 0 rfl) ?_
  refine lv_iconst (v := (3 : Int32)) hx hb dL_law_324 (by decide) ?_
  refine lv_iadd hx hb dL_law_325 ?_
  refine va_sld hx hb hX hbl hbA hS (hin 3 (by decide) (by decide)) dL_law_326 ?_
  refine lv_aload_n hx hb dL_law_327 rfl (lv_at hl 4 rfl) ?_
  refine lv_iload hx hb dL_law_328 (lv_at hl 0 rfl) ?_
  refine lv_iconst (v := (4 : Int32)) hx hb dL_law_330 (by decide) ?_
  refine lv_iadd hx hb dL_law_331 ?_
  refine va_sld hx hb hX hbl hbA hS (hin 4 (by decide) (by decide)) dL_law_332 ?_
  refine lv_aload_n hx hb dL_law_333 rfl (lv_at hl 1 rfl) ?_
  refine caWS_i (As := [.ref (q 0), .int (xs (i + (1 : Int32)).toNatClampNeg), .int (xs (i + (2 : Int32)).toNatClampNeg), .int (xs (i + (3 : Int32)).toNatClampNeg), .int (xs (i + (4 : Int32)).toNatClampNeg), .ref (q 33)]) (rest := []) (ctL_cut l dC dI cq q S M o _ s.heap.size (xs (i + (1 : Int32)).toNatClampNeg) (xs (i + (2 : Int32)).toNatClampNeg) (xs (i + (3 : Int32)).toNatClampNeg) (xs (i + (4 : Int32)).toNatClampNeg) (fun (r : Int32) (u : CS) => ∃ (S9 : CS) (a b : Nat), rs = (.ok (), S9) ∧ r = nI S9.2.2.2.1.length ∧ u = addF S9 (a, fld5 (xs (i + (1 : Int32)).toNatClampNeg) (-1) (xs (i + (2 : Int32)).toNatClampNeg) (xs (i + (3 : Int32)).toNatClampNeg) (xs (i + (4 : Int32)).toNatClampNeg)) b) (fun k u => rs = (.error k, u)) (fun sz => ctX7_cut l dC dI cq q S M o sz s.heap.size hfl (xs (i + (1 : Int32)).toNatClampNeg) (xs (i + (2 : Int32)).toNatClampNeg) (xs (i + (3 : Int32)).toNatClampNeg) (xs (i + (4 : Int32)).toNatClampNeg) rs hroom e7) (fun e u h => hpx e u h)) F (vx_cwSW 6 hts gL_law_L_cut rfl rfl rfl hdL_cut ⟨Nat.le_of_ble_eq_true rfl, Nat.le_of_ble_eq_true rfl⟩) hK hP hD hDm hS hA EV.blind (fun U hU hW => EV.call hEV hS hDm hU hW) rfl hl.1 rfl (Nat.le_of_ble_eq_true rfl) dL_law_334 ⟨by show cells + 7 ≤ 601024; omega, by show slots + 45 ≤ 7293034; omega⟩ (fun H locs r9 u9 h9 hP hD hS => ?_)
  obtain ⟨S1, o1⟩ := u9
  have hk := hfn o o1 r9 S1 h9
  refine W.widen (k := cells + 121) (n := slots + 906) (by omega) (by omega) ?_
  refine lv_istore (lv' := [(5, .int r9), (4, .int i), (3, .ref (q 33)), (2, .ref (q 22)), (1, .ref (q 0)), (0, .ref b)]) hx hb dL_law_337 hl (by decide) rfl (fun ls hl => ?_)
  refine lv_aload_n hx hb dL_law_339 rfl (lv_at hl 3 rfl) ?_
  refine lv_aload_n hx hb dL_law_340 rfl (lv_at hl 5 rfl) ?_
  refine lv_iload hx hb dL_law_341 (lv_at hl 1 rfl) ?_
  refine lv_iconst (v := (1 : Int32)) hx hb dL_law_343 (by decide) ?_
  refine lv_iadd hx hb dL_law_344 ?_
  refine va_sld hx hb hX hbl hbA hS (hin 1 (by decide) (by decide)) dL_law_345 ?_
  refine lv_aload_n hx hb dL_law_346 rfl (lv_at hl 5 rfl) ?_
  refine lv_iload hx hb dL_law_347 (lv_at hl 1 rfl) ?_
  refine lv_iconst (v := (2 : Int32)) hx hb dL_law_349 (by decide) ?_
  refine lv_iadd hx hb dL_law_350 ?_
  refine va_sld hx hb hX hbl hbA hS (hin 2 (by decide) (by decide)) dL_law_351 ?_
  refine lv_aload_n hx hb dL_law_352 rfl (lv_at hl 5 rfl) ?_
  refine lv_iload hx hb dL_law_353 (lv_at hl 1 rfl) ?_
  refine lv_iconst (v := (3 : Int32)) hx hb dL_law_355 (by decide) ?_
  refine lv_iadd hx hb dL_law_356 ?_
  refine va_sld hx hb hX hbl hbA hS (hin 3 (by decide) (by decide)) dL_law_357 ?_
  refine lv_aload_n hx hb dL_law_358 rfl (lv_at hl 5 rfl) ?_
  refine lv_iload hx hb dL_law_359 (lv_at hl 1 rfl) ?_
  refine lv_iconst (v := (4 : Int32)) hx hb dL_law_361 (by decide) ?_
  refine lv_iadd hx hb dL_law_362 ?_
  refine va_sld hx hb hX hbl hbA hS (hin 4 (by decide) (by decide)) dL_law_363 ?_
  refine caVM_i (As := [.int (xs (i + (1 : Int32)).toNatClampNeg), .int (xs (i + (2 : Int32)).toNatClampNeg), .int (xs (i + (3 : Int32)).toNatClampNeg), .int (xs (i + (4 : Int32)).toNatClampNeg)]) (rest := []) (ctX8_cut l dC dI cq q S1 M o1 _ (xs (i + (1 : Int32)).toNatClampNeg) (xs (i + (2 : Int32)).toNatClampNeg) (xs (i + (3 : Int32)).toNatClampNeg) (xs (i + (4 : Int32)).toNatClampNeg) b1 M1 e8) F (cwV 4 hts gL_law_X8_cut rfl rfl rfl hdX8_cut ⟨Nat.le_of_ble_eq_true rfl, Nat.le_of_ble_eq_true rfl⟩) hK hP hD (fun _ _ => trivial) hS hA (fun _ _ _ _ _ => trivial) (fun _ _ _ => trivial) (va_recv hK hP (ci := 9) (q0 := 22) rfl rfl) rfl hl.1 rfl (Nat.le_of_ble_eq_true rfl) dL_law_364 ⟨by show cells + 121 + 0 ≤ 601024; omega, by show slots + 906 + 0 ≤ 7293034; omega⟩ (fun H locs hP hD hS => ?_)
  refine lv_istore (lv' := [(6, .int b1), (5, .int r9), (4, .int i), (3, .ref (q 33)), (2, .ref (q 22)), (1, .ref (q 0)), (0, .ref b)]) hx hb dL_law_367 hl (by decide) rfl (fun ls hl => ?_)
  refine lv_aload_n hx hb dL_law_369 rfl (lv_at hl 4 rfl) ?_
  refine caVR_i (As := []) (rest := []) (ctX8_thrown l dC dI cq q S1 M1 o1 _ (M1.1 0) rfl) F (cwV 0 hts gL_law_X8_thrown rfl rfl rfl hdX8_thrown ⟨Nat.le_of_ble_eq_true rfl, Nat.le_of_ble_eq_true rfl⟩) hK hP hD (fun _ _ => trivial) hS hA (fun _ _ _ _ _ => trivial) (fun _ _ _ => trivial) (va_recv hK hP (ci := 9) (q0 := 22) rfl rfl) rfl hl.1 rfl (Nat.le_of_ble_eq_true rfl) dL_law_370 ⟨by show cells + 121 + 0 ≤ 601024; omega, by show slots + 906 + 0 ≤ 7293034; omega⟩ (fun H locs hP hD hS => ?_)
  refine lv_iload hx hb dL_law_373 (lv_at hl 1 rfl) ?_
  refine lv_icmp_eq (tgt := 380) hx hb dL_law_375 (by decide) (fun _ => ?_) (fun c9 => absurd hk.1 c9)
  refine lv_iload hx hb dL_law_380 (lv_at hl 1 rfl) ?_
  have fin : W p l e room_1 s m #[Value.ref b] below meth c H locs (cells + 121) (slots + 906) Q (F0 m 397 ls []) := lv_goto (tgt := 1536) hx hb dL_law_397 (by decide) (kk _ _ _ _ _ _ hk.2.2 hP hD hS (lv_sub hl [2, 3, 4, 5, 6] rfl))
  refine lv_if_ne (tgt := 397) hx hb dL_law_382 (by decide) (fun _ => fin) (fun c8 => ?_)
  refine lv_aload_n hx hb dL_law_385 rfl (lv_at hl 3 rfl) ?_
  refine lv_iconst (v := (0 : Int32)) hx hb dL_law_386 (by decide) ?_
  refine va_lald (D := (dC, dI)) hx hb hK hP 33 23 rfl rfl (inb_ok (i := 0) (n := 1) (by decide)) dL_law_387 ?_
  refine lv_iload hx hb dL_law_388 (lv_at hl 0 rfl) ?_
  refine lv_i2l hx hb dL_law_390 rfl ?_
  refine W.lcmp hx hb dL_law_391 ?_
  exact lv_if_eq (tgt := 397) hx hb dL_law_392 (by decide) (fun _ => fin) (fun c7 => absurd ((lg_cmp_eq _ _).mpr (hk.2.1 c8)) c7)
set_option maxRecDepth 100000 in
set_option maxHeartbeats 8000000 in
theorem st_connect {p : Program} {l : Launch} {e : Env} {s : State} {m : MethodId} {below : List Frame} {meth : Method} {c : Code} {b L : Nat} {xs : Nat → Int32} {dC : Nat → ClassId} {dI : Nat → Nat → Nat} {cq : Nat → ClassId} {q : Nat → Nat} {Q : State → Prop} (hfl : l.stackTraces = false) (C : LC p s m c b L xs dC dI cq q) {n : Nat} (hn : 40000000 < n) {S : CS} {M : MS} {o : Nat → Int64} (hR : Rel S M) {i : Int32} (hin : ∀ t : Nat, 1 ≤ t → t ≤ 5 → vp_in (i + nI t) L) {H : Heap} {locs : List Loc} {cells slots : Nat} (hcl : cells + 121 ≤ 601024) (hsl : slots + 906 ≤ 7293034) (hP : va_P (dC, dI) vwCl (wA cq q S M o) H) (hD : va_D (fun a => s.heap.size ≤ a) (wA cq q S M o)) (hS : va_S (fun a => s.heap.size ≤ a) s.heap H locs) {ls : Array Slot} (hl : lv_has ls 9 [(4, .int i), (3, .ref (q 33)), (2, .ref (q 22)), (1, .ref (q 0)), (0, .ref b)])
    (kk : ∀ (S' : CS) (M' : MS) (o' : Nat → Int64) (H' : Heap) (locs' : List Loc) (ls' : Array Slot), Rel S' M' → va_P (dC, dI) vwCl (wA cq q S' M' o') H' → va_D (fun a => s.heap.size ≤ a) (wA cq q S' M' o') → va_S (fun a => s.heap.size ≤ a) s.heap H' locs' → lv_has ls' 9 [(4, .int i), (3, .ref (q 33)), (2, .ref (q 22)), (1, .ref (q 0)), (0, .ref b)] → W p l e room_1 s m #[Value.ref b] below meth c H' locs' (cells + 121) (slots + 906) Q (F0 m 1536 ls' [])) :
    W p l e room_1 s m #[Value.ref b] below meth c H locs cells slots Q (F0 m 400 ls []) := by
  obtain ⟨hx, hb, hml, hown, hts, hX, hbl, hK, hEV⟩ := id C
  have F : CallFix p m c cL_law 9 s #[Value.ref b] wsL_law RL := ⟨hx, hb, hml, hown, hts⟩
  have hA : ∀ a : Nat, s.heap.size ≤ a → (fun a => s.heap.size ≤ a) a := fun _ h => h
  have hDm : ∀ a : Nat, (fun a => s.heap.size ≤ a) a → s.heap.size ≤ a := fun _ h => h
  have hbA : ¬ (fun a : Nat => s.heap.size ≤ a) b := Nat.not_le.mpr hbl
  have hst := sq_connect hR (xs (i + (1 : Int32)).toNatClampNeg) (xs (i + (2 : Int32)).toNatClampNeg) (xs (i + (3 : Int32)).toNatClampNeg) (xs (i + (4 : Int32)).toNatClampNeg) (xs (i + (5 : Int32)).toNatClampNeg)
  obtain ⟨⟨b1, M1⟩, e8⟩ : ∃ z, mX8_connect M (xs (i + (1 : Int32)).toNatClampNeg) (xs (i + (2 : Int32)).toNatClampNeg) (xs (i + (3 : Int32)).toNatClampNeg) (xs (i + (4 : Int32)).toNatClampNeg) (xs (i + (5 : Int32)).toNatClampNeg) = some z := hst.elim (fun ⟨z, _, _, h, _⟩ => ⟨_, h⟩) (fun ⟨_, z, _, h, _⟩ => ⟨_, h⟩)
  obtain ⟨rs, e7, hroom, hpx, hfn⟩ := sqa_use hst e8
  refine lv_aload_n hx hb dL_law_400 rfl (lv_at hl 3 rfl) ?_
  refine lv_aload_n hx hb dL_law_401 rfl (lv_at hl 4 rfl) ?_
  refine lv_iload hx hb dL_law_402 (lv_at hl 0 rfl) ?_
  refine lv_iconst (v := (1 : Int32)) hx hb dL_law_404 (by decide) ?_
  refine lv_iadd hx hb dL_law_405 ?_
  refine va_sld hx hb hX hbl hbA hS (hin 1 (by decide) (by decide)) dL_law_406 ?_
  refine lv_aload_n hx hb dL_law_407 rfl (lv_at hl 4 rfl) ?_
  refine lv_iload hx hb dL_law_408 (lv_at hl 0 rfl) ?_
  refine lv_iconst (v := (2 : Int32)) hx hb dL_law_410 (by decide) ?_
  refine lv_iadd hx hb dL_law_411 ?_
  refine va_sld hx hb hX hbl hbA hS (hin 2 (by decide) (by decide)) dL_law_412 ?_
  refine lv_aload_n hx hb dL_law_413 rfl (lv_at hl 4 rfl) ?_
  refine lv_iload hx hb dL_law_414 (lv_at hl 0 rfl) ?_
  refine lv_iconst (v := (3 : Int32)) hx hb dL_law_416 (by decide) ?_
  refine lv_iadd hx hb dL_law_417 ?_
  refine va_sld hx hb hX hbl hbA hS (hin 3 (by decide) (by decide)) dL_law_418 ?_
  refine lv_aload_n hx hb dL_law_419 rfl (lv_at hl 4 rfl) ?_
  refine lv_iload hx hb dL_law_420 (lv_at hl 0 rfl) ?_
  refine lv_iconst (v := (4 : Int32)) hx hb dL_law_422 (by decide) ?_
  refine lv_iadd hx hb dL_law_423 ?_
  refine va_sld hx hb hX hbl hbA hS (hin 4 (by decide) (by decide)) dL_law_424 ?_
  refine lv_aload_n hx hb dL_law_425 rfl (lv_at hl 4 rfl) ?_
  refine lv_iload hx hb dL_law_426 (lv_at hl 0 rfl) ?_
  refine lv_iconst (v := (5 : Int32)) hx hb dL_law_428 (by decide) ?_
  refine lv_iadd hx hb dL_law_429 ?_
  refine va_sld hx hb hX hbl hbA hS (hin 5 (by decide) (by decide)) dL_law_430 ?_
  refine lv_aload_n hx hb dL_law_431 rfl (lv_at hl 1 rfl) ?_
  refine caWS_i (As := [.ref (q 0), .int (xs (i + (1 : Int32)).toNatClampNeg), .int (xs (i + (2 : Int32)).toNatClampNeg), .int (xs (i + (3 : Int32)).toNatClampNeg), .int (xs (i + (4 : Int32)).toNatClampNeg), .int (xs (i + (5 : Int32)).toNatClampNeg), .ref (q 33)]) (rest := []) (ctL_connect l dC dI cq q S M o _ s.heap.size (xs (i + (1 : Int32)).toNatClampNeg) (xs (i + (2 : Int32)).toNatClampNeg) (xs (i + (3 : Int32)).toNatClampNeg) (xs (i + (4 : Int32)).toNatClampNeg) (xs (i + (5 : Int32)).toNatClampNeg) (fun (r : Int32) (u : CS) => ∃ (S9 : CS) (a b : Nat), rs = (.ok (), S9) ∧ r = nI S9.2.2.2.1.length ∧ u = addF S9 (a, fld5 (xs (i + (1 : Int32)).toNatClampNeg) (xs (i + (2 : Int32)).toNatClampNeg) (xs (i + (3 : Int32)).toNatClampNeg) (xs (i + (4 : Int32)).toNatClampNeg) (xs (i + (5 : Int32)).toNatClampNeg)) b) (fun k u => rs = (.error k, u)) (fun sz => ctX7_connect l dC dI cq q S M o sz s.heap.size hfl (xs (i + (1 : Int32)).toNatClampNeg) (xs (i + (2 : Int32)).toNatClampNeg) (xs (i + (3 : Int32)).toNatClampNeg) (xs (i + (4 : Int32)).toNatClampNeg) (xs (i + (5 : Int32)).toNatClampNeg) rs hroom e7) (fun e u h => hpx e u h)) F (vx_cwSW 7 hts gL_law_L_connect rfl rfl rfl hdL_connect ⟨Nat.le_of_ble_eq_true rfl, Nat.le_of_ble_eq_true rfl⟩) hK hP hD hDm hS hA EV.blind (fun U hU hW => EV.call hEV hS hDm hU hW) rfl hl.1 rfl (Nat.le_of_ble_eq_true rfl) dL_law_432 ⟨by show cells + 9 ≤ 601024; omega, by show slots + 57 ≤ 7293034; omega⟩ (fun H locs r9 u9 h9 hP hD hS => ?_)
  obtain ⟨S1, o1⟩ := u9
  have hk := hfn o o1 r9 S1 h9
  refine W.widen (k := cells + 121) (n := slots + 906) (by omega) (by omega) ?_
  refine lv_istore (lv' := [(5, .int r9), (4, .int i), (3, .ref (q 33)), (2, .ref (q 22)), (1, .ref (q 0)), (0, .ref b)]) hx hb dL_law_435 hl (by decide) rfl (fun ls hl => ?_)
  refine lv_aload_n hx hb dL_law_437 rfl (lv_at hl 3 rfl) ?_
  refine lv_aload_n hx hb dL_law_438 rfl (lv_at hl 5 rfl) ?_
  refine lv_iload hx hb dL_law_439 (lv_at hl 1 rfl) ?_
  refine lv_iconst (v := (1 : Int32)) hx hb dL_law_441 (by decide) ?_
  refine lv_iadd hx hb dL_law_442 ?_
  refine va_sld hx hb hX hbl hbA hS (hin 1 (by decide) (by decide)) dL_law_443 ?_
  refine lv_aload_n hx hb dL_law_444 rfl (lv_at hl 5 rfl) ?_
  refine lv_iload hx hb dL_law_445 (lv_at hl 1 rfl) ?_
  refine lv_iconst (v := (2 : Int32)) hx hb dL_law_447 (by decide) ?_
  refine lv_iadd hx hb dL_law_448 ?_
  refine va_sld hx hb hX hbl hbA hS (hin 2 (by decide) (by decide)) dL_law_449 ?_
  refine lv_aload_n hx hb dL_law_450 rfl (lv_at hl 5 rfl) ?_
  refine lv_iload hx hb dL_law_451 (lv_at hl 1 rfl) ?_
  refine lv_iconst (v := (3 : Int32)) hx hb dL_law_453 (by decide) ?_
  refine lv_iadd hx hb dL_law_454 ?_
  refine va_sld hx hb hX hbl hbA hS (hin 3 (by decide) (by decide)) dL_law_455 ?_
  refine lv_aload_n hx hb dL_law_456 rfl (lv_at hl 5 rfl) ?_
  refine lv_iload hx hb dL_law_457 (lv_at hl 1 rfl) ?_
  refine lv_iconst (v := (4 : Int32)) hx hb dL_law_459 (by decide) ?_
  refine lv_iadd hx hb dL_law_460 ?_
  refine va_sld hx hb hX hbl hbA hS (hin 4 (by decide) (by decide)) dL_law_461 ?_
  refine lv_aload_n hx hb dL_law_462 rfl (lv_at hl 5 rfl) ?_
  refine lv_iload hx hb dL_law_463 (lv_at hl 1 rfl) ?_
  refine lv_iconst (v := (5 : Int32)) hx hb dL_law_465 (by decide) ?_
  refine lv_iadd hx hb dL_law_466 ?_
  refine va_sld hx hb hX hbl hbA hS (hin 5 (by decide) (by decide)) dL_law_467 ?_
  refine caVM_i (As := [.int (xs (i + (1 : Int32)).toNatClampNeg), .int (xs (i + (2 : Int32)).toNatClampNeg), .int (xs (i + (3 : Int32)).toNatClampNeg), .int (xs (i + (4 : Int32)).toNatClampNeg), .int (xs (i + (5 : Int32)).toNatClampNeg)]) (rest := []) (ctX8_connect l dC dI cq q S1 M o1 _ (xs (i + (1 : Int32)).toNatClampNeg) (xs (i + (2 : Int32)).toNatClampNeg) (xs (i + (3 : Int32)).toNatClampNeg) (xs (i + (4 : Int32)).toNatClampNeg) (xs (i + (5 : Int32)).toNatClampNeg) b1 M1 e8) F (cwV 5 hts gL_law_X8_connect rfl rfl rfl hdX8_connect ⟨Nat.le_of_ble_eq_true rfl, Nat.le_of_ble_eq_true rfl⟩) hK hP hD (fun _ _ => trivial) hS hA (fun _ _ _ _ _ => trivial) (fun _ _ _ => trivial) (va_recv hK hP (ci := 9) (q0 := 22) rfl rfl) rfl hl.1 rfl (Nat.le_of_ble_eq_true rfl) dL_law_468 ⟨by show cells + 121 + 0 ≤ 601024; omega, by show slots + 906 + 0 ≤ 7293034; omega⟩ (fun H locs hP hD hS => ?_)
  refine lv_istore (lv' := [(6, .int b1), (5, .int r9), (4, .int i), (3, .ref (q 33)), (2, .ref (q 22)), (1, .ref (q 0)), (0, .ref b)]) hx hb dL_law_471 hl (by decide) rfl (fun ls hl => ?_)
  refine lv_aload_n hx hb dL_law_473 rfl (lv_at hl 4 rfl) ?_
  refine caVR_i (As := []) (rest := []) (ctX8_thrown l dC dI cq q S1 M1 o1 _ (M1.1 0) rfl) F (cwV 0 hts gL_law_X8_thrown rfl rfl rfl hdX8_thrown ⟨Nat.le_of_ble_eq_true rfl, Nat.le_of_ble_eq_true rfl⟩) hK hP hD (fun _ _ => trivial) hS hA (fun _ _ _ _ _ => trivial) (fun _ _ _ => trivial) (va_recv hK hP (ci := 9) (q0 := 22) rfl rfl) rfl hl.1 rfl (Nat.le_of_ble_eq_true rfl) dL_law_474 ⟨by show cells + 121 + 0 ≤ 601024; omega, by show slots + 906 + 0 ≤ 7293034; omega⟩ (fun H locs hP hD hS => ?_)
  refine lv_iload hx hb dL_law_477 (lv_at hl 1 rfl) ?_
  refine lv_icmp_eq (tgt := 484) hx hb dL_law_479 (by decide) (fun _ => ?_) (fun c9 => absurd hk.1 c9)
  refine lv_iload hx hb dL_law_484 (lv_at hl 1 rfl) ?_
  have fin : W p l e room_1 s m #[Value.ref b] below meth c H locs (cells + 121) (slots + 906) Q (F0 m 501 ls []) := lv_goto (tgt := 1536) hx hb dL_law_501 (by decide) (kk _ _ _ _ _ _ hk.2.2 hP hD hS (lv_sub hl [2, 3, 4, 5, 6] rfl))
  refine lv_if_ne (tgt := 501) hx hb dL_law_486 (by decide) (fun _ => fin) (fun c8 => ?_)
  refine lv_aload_n hx hb dL_law_489 rfl (lv_at hl 3 rfl) ?_
  refine lv_iconst (v := (0 : Int32)) hx hb dL_law_490 (by decide) ?_
  refine va_lald (D := (dC, dI)) hx hb hK hP 33 23 rfl rfl (inb_ok (i := 0) (n := 1) (by decide)) dL_law_491 ?_
  refine lv_iload hx hb dL_law_492 (lv_at hl 0 rfl) ?_
  refine lv_i2l hx hb dL_law_494 rfl ?_
  refine W.lcmp hx hb dL_law_495 ?_
  exact lv_if_eq (tgt := 501) hx hb dL_law_496 (by decide) (fun _ => fin) (fun c7 => absurd ((lg_cmp_eq _ _).mpr (hk.2.1 c8)) c7)
set_option maxRecDepth 100000 in
set_option maxHeartbeats 8000000 in
theorem st_repair {p : Program} {l : Launch} {e : Env} {s : State} {m : MethodId} {below : List Frame} {meth : Method} {c : Code} {b L : Nat} {xs : Nat → Int32} {dC : Nat → ClassId} {dI : Nat → Nat → Nat} {cq : Nat → ClassId} {q : Nat → Nat} {Q : State → Prop} (hfl : l.stackTraces = false) (C : LC p s m c b L xs dC dI cq q) {n : Nat} (hn : 40000000 < n) {S : CS} {M : MS} {o : Nat → Int64} (hR : Rel S M) {i : Int32} (hin : ∀ t : Nat, 1 ≤ t → t ≤ 5 → vp_in (i + nI t) L) {H : Heap} {locs : List Loc} {cells slots : Nat} (hcl : cells + 121 ≤ 601024) (hsl : slots + 906 ≤ 7293034) (hP : va_P (dC, dI) vwCl (wA cq q S M o) H) (hD : va_D (fun a => s.heap.size ≤ a) (wA cq q S M o)) (hS : va_S (fun a => s.heap.size ≤ a) s.heap H locs) {ls : Array Slot} (hl : lv_has ls 9 [(4, .int i), (3, .ref (q 33)), (2, .ref (q 22)), (1, .ref (q 0)), (0, .ref b)])
    (kk : ∀ (S' : CS) (M' : MS) (o' : Nat → Int64) (H' : Heap) (locs' : List Loc) (ls' : Array Slot), Rel S' M' → va_P (dC, dI) vwCl (wA cq q S' M' o') H' → va_D (fun a => s.heap.size ≤ a) (wA cq q S' M' o') → va_S (fun a => s.heap.size ≤ a) s.heap H' locs' → lv_has ls' 9 [(4, .int i), (3, .ref (q 33)), (2, .ref (q 22)), (1, .ref (q 0)), (0, .ref b)] → W p l e room_1 s m #[Value.ref b] below meth c H' locs' (cells + 121) (slots + 906) Q (F0 m 1536 ls' [])) :
    W p l e room_1 s m #[Value.ref b] below meth c H locs cells slots Q (F0 m 504 ls []) := by
  obtain ⟨hx, hb, hml, hown, hts, hX, hbl, hK, hEV⟩ := id C
  have F : CallFix p m c cL_law 9 s #[Value.ref b] wsL_law RL := ⟨hx, hb, hml, hown, hts⟩
  have hA : ∀ a : Nat, s.heap.size ≤ a → (fun a => s.heap.size ≤ a) a := fun _ h => h
  have hDm : ∀ a : Nat, (fun a => s.heap.size ≤ a) a → s.heap.size ≤ a := fun _ h => h
  have hbA : ¬ (fun a : Nat => s.heap.size ≤ a) b := Nat.not_le.mpr hbl
  obtain ⟨rs, ⟨b1, M1⟩, e7, e8, hst⟩ := sq_repair hR (n := n) (by omega) (xs (i + (1 : Int32)).toNatClampNeg)
  refine lv_aload_n hx hb dL_law_504 rfl (lv_at hl 3 rfl) ?_
  refine lv_aload_n hx hb dL_law_505 rfl (lv_at hl 4 rfl) ?_
  refine lv_iload hx hb dL_law_506 (lv_at hl 0 rfl) ?_
  refine lv_iconst (v := (1 : Int32)) hx hb dL_law_508 (by decide) ?_
  refine lv_iadd hx hb dL_law_509 ?_
  refine va_sld hx hb hX hbl hbA hS (hin 1 (by decide) (by decide)) dL_law_510 ?_
  refine lv_aload_n hx hb dL_law_511 rfl (lv_at hl 1 rfl) ?_
  refine caWS_i (As := [.ref (q 0), .int (xs (i + (1 : Int32)).toNatClampNeg), .ref (q 33)]) (rest := []) (ctL_repair l dC dI cq q S M o _ s.heap.size (xs (i + (1 : Int32)).toNatClampNeg) (fun (r : Int32) (u : CS) => rs = (.ok r, u)) (fun k u => rs = (.error k, u)) (fun sz => ctX7_repair l dC dI cq q S M o sz s.heap.size hfl (xs (i + (1 : Int32)).toNatClampNeg) rs e7) (fun e u h => by rw [h] at hst; exact hst.1)) F (vx_cwSW 3 hts gL_law_L_repair rfl rfl rfl hdL_repair ⟨Nat.le_of_ble_eq_true rfl, Nat.le_of_ble_eq_true rfl⟩) hK hP hD hDm hS hA EV.blind (fun U hU hW => EV.call hEV hS hDm hU hW) rfl hl.1 rfl (Nat.le_of_ble_eq_true rfl) dL_law_512 ⟨by show cells + 1 ≤ 601024; omega, by show slots + 6 ≤ 7293034; omega⟩ (fun H locs r9 u9 h9 hP hD hS => ?_)
  obtain ⟨S1, o1⟩ := u9
  have hk := lw_fin (cd := cdL_repair) (ok := (fun e => e = 2)) (z := (b1, M1)) (o := o) (h9.imp (fun ⟨hr, v, hv, ho⟩ => ⟨hr, v, by rw [← hv]; exact hst, ho⟩) (fun ⟨k, hk, hr, ho⟩ => ⟨k, by rw [← hk]; exact hst, hr, ho⟩))
  refine W.widen (k := cells + 121) (n := slots + 906) (by omega) (by omega) ?_
  refine lv_istore (lv' := [(5, .int r9), (4, .int i), (3, .ref (q 33)), (2, .ref (q 22)), (1, .ref (q 0)), (0, .ref b)]) hx hb dL_law_515 hl (by decide) rfl (fun ls hl => ?_)
  refine lv_aload_n hx hb dL_law_517 rfl (lv_at hl 3 rfl) ?_
  refine lv_aload_n hx hb dL_law_518 rfl (lv_at hl 5 rfl) ?_
  refine lv_iload hx hb dL_law_519 (lv_at hl 1 rfl) ?_
  refine lv_iconst (v := (1 : Int32)) hx hb dL_law_521 (by decide) ?_
  refine lv_iadd hx hb dL_law_522 ?_
  refine va_sld hx hb hX hbl hbA hS (hin 1 (by decide) (by decide)) dL_law_523 ?_
  refine caVM_i (As := [.int (xs (i + (1 : Int32)).toNatClampNeg)]) (rest := []) (ctX8_repair l dC dI cq q S1 M o1 _ n (xs (i + (1 : Int32)).toNatClampNeg) b1 M1 e8) F (cwV 1 hts gL_law_X8_repair rfl rfl rfl hdX8_repair ⟨Nat.le_of_ble_eq_true rfl, Nat.le_of_ble_eq_true rfl⟩) hK hP hD (fun _ _ => trivial) hS hA (fun _ _ _ _ _ => trivial) (fun _ _ _ => trivial) (va_recv hK hP (ci := 9) (q0 := 22) rfl rfl) rfl hl.1 rfl (Nat.le_of_ble_eq_true rfl) dL_law_524 ⟨by show cells + 121 + 0 ≤ 601024; omega, by show slots + 906 + 0 ≤ 7293034; omega⟩ (fun H locs hP hD hS => ?_)
  refine lv_istore (lv' := [(6, .int b1), (5, .int r9), (4, .int i), (3, .ref (q 33)), (2, .ref (q 22)), (1, .ref (q 0)), (0, .ref b)]) hx hb dL_law_527 hl (by decide) rfl (fun ls hl => ?_)
  refine lv_aload_n hx hb dL_law_529 rfl (lv_at hl 4 rfl) ?_
  refine caVR_i (As := []) (rest := []) (ctX8_thrown l dC dI cq q S1 M1 o1 _ (M1.1 0) rfl) F (cwV 0 hts gL_law_X8_thrown rfl rfl rfl hdX8_thrown ⟨Nat.le_of_ble_eq_true rfl, Nat.le_of_ble_eq_true rfl⟩) hK hP hD (fun _ _ => trivial) hS hA (fun _ _ _ _ _ => trivial) (fun _ _ _ => trivial) (va_recv hK hP (ci := 9) (q0 := 22) rfl rfl) rfl hl.1 rfl (Nat.le_of_ble_eq_true rfl) dL_law_530 ⟨by show cells + 121 + 0 ≤ 601024; omega, by show slots + 906 + 0 ≤ 7293034; omega⟩ (fun H locs hP hD hS => ?_)
  refine lv_iload hx hb dL_law_533 (lv_at hl 1 rfl) ?_
  refine lv_icmp_eq (tgt := 540) hx hb dL_law_535 (by decide) (fun _ => ?_) (fun c9 => absurd hk.1 c9)
  refine lv_iload hx hb dL_law_540 (lv_at hl 1 rfl) ?_
  have fin : W p l e room_1 s m #[Value.ref b] below meth c H locs (cells + 121) (slots + 906) Q (F0 m 557 ls []) := lv_goto (tgt := 1536) hx hb dL_law_557 (by decide) (kk _ _ _ _ _ _ hk.2.2 hP hD hS (lv_sub hl [2, 3, 4, 5, 6] rfl))
  refine lv_if_ne (tgt := 557) hx hb dL_law_542 (by decide) (fun _ => fin) (fun c8 => ?_)
  refine lv_aload_n hx hb dL_law_545 rfl (lv_at hl 3 rfl) ?_
  refine lv_iconst (v := (0 : Int32)) hx hb dL_law_546 (by decide) ?_
  refine va_lald (D := (dC, dI)) hx hb hK hP 33 23 rfl rfl (inb_ok (i := 0) (n := 1) (by decide)) dL_law_547 ?_
  refine lv_iload hx hb dL_law_548 (lv_at hl 0 rfl) ?_
  refine lv_i2l hx hb dL_law_550 rfl ?_
  refine W.lcmp hx hb dL_law_551 ?_
  exact lv_if_eq (tgt := 557) hx hb dL_law_552 (by decide) (fun _ => fin) (fun c7 => absurd ((lg_cmp_eq _ _).mpr (hk.2.1 c8)) c7)
set_option maxRecDepth 100000 in
set_option maxHeartbeats 8000000 in
theorem st_plug {p : Program} {l : Launch} {e : Env} {s : State} {m : MethodId} {below : List Frame} {meth : Method} {c : Code} {b L : Nat} {xs : Nat → Int32} {dC : Nat → ClassId} {dI : Nat → Nat → Nat} {cq : Nat → ClassId} {q : Nat → Nat} {Q : State → Prop} (hfl : l.stackTraces = false) (C : LC p s m c b L xs dC dI cq q) {n : Nat} (hn : 40000000 < n) {S : CS} {M : MS} {o : Nat → Int64} (hR : Rel S M) {i : Int32} (hin : ∀ t : Nat, 1 ≤ t → t ≤ 5 → vp_in (i + nI t) L) {H : Heap} {locs : List Loc} {cells slots : Nat} (hcl : cells + 121 ≤ 601024) (hsl : slots + 906 ≤ 7293034) (hP : va_P (dC, dI) vwCl (wA cq q S M o) H) (hD : va_D (fun a => s.heap.size ≤ a) (wA cq q S M o)) (hS : va_S (fun a => s.heap.size ≤ a) s.heap H locs) {ls : Array Slot} (hl : lv_has ls 9 [(4, .int i), (3, .ref (q 33)), (2, .ref (q 22)), (1, .ref (q 0)), (0, .ref b)])
    (kk : ∀ (S' : CS) (M' : MS) (o' : Nat → Int64) (H' : Heap) (locs' : List Loc) (ls' : Array Slot), Rel S' M' → va_P (dC, dI) vwCl (wA cq q S' M' o') H' → va_D (fun a => s.heap.size ≤ a) (wA cq q S' M' o') → va_S (fun a => s.heap.size ≤ a) s.heap H' locs' → lv_has ls' 9 [(4, .int i), (3, .ref (q 33)), (2, .ref (q 22)), (1, .ref (q 0)), (0, .ref b)] → W p l e room_1 s m #[Value.ref b] below meth c H' locs' (cells + 121) (slots + 906) Q (F0 m 1536 ls' [])) :
    W p l e room_1 s m #[Value.ref b] below meth c H locs cells slots Q (F0 m 560 ls []) := by
  obtain ⟨hx, hb, hml, hown, hts, hX, hbl, hK, hEV⟩ := id C
  have F : CallFix p m c cL_law 9 s #[Value.ref b] wsL_law RL := ⟨hx, hb, hml, hown, hts⟩
  have hA : ∀ a : Nat, s.heap.size ≤ a → (fun a => s.heap.size ≤ a) a := fun _ h => h
  have hDm : ∀ a : Nat, (fun a => s.heap.size ≤ a) a → s.heap.size ≤ a := fun _ h => h
  have hbA : ¬ (fun a : Nat => s.heap.size ≤ a) b := Nat.not_le.mpr hbl
  obtain ⟨rs, ⟨b1, M1⟩, e7, e8, hst⟩ := sq_plug hR (xs (i + (1 : Int32)).toNatClampNeg)
  refine lv_aload_n hx hb dL_law_560 rfl (lv_at hl 3 rfl) ?_
  refine lv_aload_n hx hb dL_law_561 rfl (lv_at hl 4 rfl) ?_
  refine lv_iload hx hb dL_law_562 (lv_at hl 0 rfl) ?_
  refine lv_iconst (v := (1 : Int32)) hx hb dL_law_564 (by decide) ?_
  refine lv_iadd hx hb dL_law_565 ?_
  refine va_sld hx hb hX hbl hbA hS (hin 1 (by decide) (by decide)) dL_law_566 ?_
  refine lv_aload_n hx hb dL_law_567 rfl (lv_at hl 1 rfl) ?_
  refine caWS_i (As := [.ref (q 0), .int (xs (i + (1 : Int32)).toNatClampNeg), .ref (q 33)]) (rest := []) (ctL_plug l dC dI cq q S M o _ s.heap.size (xs (i + (1 : Int32)).toNatClampNeg) (fun (r : Int32) (u : CS) => rs = (.ok r, u)) (fun k u => rs = (.error k, u)) (fun sz => ctX7_plug l dC dI cq q S M o sz s.heap.size hfl (xs (i + (1 : Int32)).toNatClampNeg) rs e7) (fun e u h => by rw [h] at hst; exact hst.1)) F (vx_cwSW 3 hts gL_law_L_plug rfl rfl rfl hdL_plug ⟨Nat.le_of_ble_eq_true rfl, Nat.le_of_ble_eq_true rfl⟩) hK hP hD hDm hS hA EV.blind (fun U hU hW => EV.call hEV hS hDm hU hW) rfl hl.1 rfl (Nat.le_of_ble_eq_true rfl) dL_law_568 ⟨by show cells + 1 ≤ 601024; omega, by show slots + 6 ≤ 7293034; omega⟩ (fun H locs r9 u9 h9 hP hD hS => ?_)
  obtain ⟨S1, o1⟩ := u9
  have hk := lw_fin (cd := cdL_plug) (ok := (fun e => e = 1)) (z := (b1, M1)) (o := o) (h9.imp (fun ⟨hr, v, hv, ho⟩ => ⟨hr, v, by rw [← hv]; exact hst, ho⟩) (fun ⟨k, hk, hr, ho⟩ => ⟨k, by rw [← hk]; exact hst, hr, ho⟩))
  refine W.widen (k := cells + 121) (n := slots + 906) (by omega) (by omega) ?_
  refine lv_istore (lv' := [(5, .int r9), (4, .int i), (3, .ref (q 33)), (2, .ref (q 22)), (1, .ref (q 0)), (0, .ref b)]) hx hb dL_law_571 hl (by decide) rfl (fun ls hl => ?_)
  refine lv_aload_n hx hb dL_law_573 rfl (lv_at hl 3 rfl) ?_
  refine lv_aload_n hx hb dL_law_574 rfl (lv_at hl 5 rfl) ?_
  refine lv_iload hx hb dL_law_575 (lv_at hl 1 rfl) ?_
  refine lv_iconst (v := (1 : Int32)) hx hb dL_law_577 (by decide) ?_
  refine lv_iadd hx hb dL_law_578 ?_
  refine va_sld hx hb hX hbl hbA hS (hin 1 (by decide) (by decide)) dL_law_579 ?_
  refine caVM_i (As := [.int (xs (i + (1 : Int32)).toNatClampNeg)]) (rest := []) (ctX8_plug l dC dI cq q S1 M o1 _ (xs (i + (1 : Int32)).toNatClampNeg) b1 M1 e8) F (cwV 1 hts gL_law_X8_plug rfl rfl rfl hdX8_plug ⟨Nat.le_of_ble_eq_true rfl, Nat.le_of_ble_eq_true rfl⟩) hK hP hD (fun _ _ => trivial) hS hA (fun _ _ _ _ _ => trivial) (fun _ _ _ => trivial) (va_recv hK hP (ci := 9) (q0 := 22) rfl rfl) rfl hl.1 rfl (Nat.le_of_ble_eq_true rfl) dL_law_580 ⟨by show cells + 121 + 0 ≤ 601024; omega, by show slots + 906 + 0 ≤ 7293034; omega⟩ (fun H locs hP hD hS => ?_)
  refine lv_istore (lv' := [(6, .int b1), (5, .int r9), (4, .int i), (3, .ref (q 33)), (2, .ref (q 22)), (1, .ref (q 0)), (0, .ref b)]) hx hb dL_law_583 hl (by decide) rfl (fun ls hl => ?_)
  refine lv_aload_n hx hb dL_law_585 rfl (lv_at hl 4 rfl) ?_
  refine caVR_i (As := []) (rest := []) (ctX8_thrown l dC dI cq q S1 M1 o1 _ (M1.1 0) rfl) F (cwV 0 hts gL_law_X8_thrown rfl rfl rfl hdX8_thrown ⟨Nat.le_of_ble_eq_true rfl, Nat.le_of_ble_eq_true rfl⟩) hK hP hD (fun _ _ => trivial) hS hA (fun _ _ _ _ _ => trivial) (fun _ _ _ => trivial) (va_recv hK hP (ci := 9) (q0 := 22) rfl rfl) rfl hl.1 rfl (Nat.le_of_ble_eq_true rfl) dL_law_586 ⟨by show cells + 121 + 0 ≤ 601024; omega, by show slots + 906 + 0 ≤ 7293034; omega⟩ (fun H locs hP hD hS => ?_)
  refine lv_iload hx hb dL_law_589 (lv_at hl 1 rfl) ?_
  refine lv_icmp_eq (tgt := 596) hx hb dL_law_591 (by decide) (fun _ => ?_) (fun c9 => absurd hk.1 c9)
  refine lv_iload hx hb dL_law_596 (lv_at hl 1 rfl) ?_
  have fin : W p l e room_1 s m #[Value.ref b] below meth c H locs (cells + 121) (slots + 906) Q (F0 m 613 ls []) := lv_goto (tgt := 1536) hx hb dL_law_613 (by decide) (kk _ _ _ _ _ _ hk.2.2 hP hD hS (lv_sub hl [2, 3, 4, 5, 6] rfl))
  refine lv_if_ne (tgt := 613) hx hb dL_law_598 (by decide) (fun _ => fin) (fun c8 => ?_)
  refine lv_aload_n hx hb dL_law_601 rfl (lv_at hl 3 rfl) ?_
  refine lv_iconst (v := (0 : Int32)) hx hb dL_law_602 (by decide) ?_
  refine va_lald (D := (dC, dI)) hx hb hK hP 33 23 rfl rfl (inb_ok (i := 0) (n := 1) (by decide)) dL_law_603 ?_
  refine lv_iload hx hb dL_law_604 (lv_at hl 0 rfl) ?_
  refine lv_i2l hx hb dL_law_606 rfl ?_
  refine W.lcmp hx hb dL_law_607 ?_
  exact lv_if_eq (tgt := 613) hx hb dL_law_608 (by decide) (fun _ => fin) (fun c7 => absurd ((lg_cmp_eq _ _).mpr (hk.2.1 c8)) c7)
set_option maxRecDepth 100000 in
set_option maxHeartbeats 8000000 in
theorem st_pass {p : Program} {l : Launch} {e : Env} {s : State} {m : MethodId} {below : List Frame} {meth : Method} {c : Code} {b L : Nat} {xs : Nat → Int32} {dC : Nat → ClassId} {dI : Nat → Nat → Nat} {cq : Nat → ClassId} {q : Nat → Nat} {Q : State → Prop} (hfl : l.stackTraces = false) (C : LC p s m c b L xs dC dI cq q) {n : Nat} (hn : 40000000 < n) {S : CS} {M : MS} {o : Nat → Int64} (hR : Rel S M) {i : Int32} (hin : ∀ t : Nat, 1 ≤ t → t ≤ 5 → vp_in (i + nI t) L) {H : Heap} {locs : List Loc} {cells slots : Nat} (hcl : cells + 121 ≤ 601024) (hsl : slots + 906 ≤ 7293034) (hP : va_P (dC, dI) vwCl (wA cq q S M o) H) (hD : va_D (fun a => s.heap.size ≤ a) (wA cq q S M o)) (hS : va_S (fun a => s.heap.size ≤ a) s.heap H locs) {ls : Array Slot} (hl : lv_has ls 9 [(4, .int i), (3, .ref (q 33)), (2, .ref (q 22)), (1, .ref (q 0)), (0, .ref b)])
    (kk : ∀ (S' : CS) (M' : MS) (o' : Nat → Int64) (H' : Heap) (locs' : List Loc) (ls' : Array Slot), Rel S' M' → va_P (dC, dI) vwCl (wA cq q S' M' o') H' → va_D (fun a => s.heap.size ≤ a) (wA cq q S' M' o') → va_S (fun a => s.heap.size ≤ a) s.heap H' locs' → lv_has ls' 9 [(4, .int i), (3, .ref (q 33)), (2, .ref (q 22)), (1, .ref (q 0)), (0, .ref b)] → W p l e room_1 s m #[Value.ref b] below meth c H' locs' (cells + 121) (slots + 906) Q (F0 m 1536 ls' [])) :
    W p l e room_1 s m #[Value.ref b] below meth c H locs cells slots Q (F0 m 616 ls []) := by
  obtain ⟨hx, hb, hml, hown, hts, hX, hbl, hK, hEV⟩ := id C
  have F : CallFix p m c cL_law 9 s #[Value.ref b] wsL_law RL := ⟨hx, hb, hml, hown, hts⟩
  have hA : ∀ a : Nat, s.heap.size ≤ a → (fun a => s.heap.size ≤ a) a := fun _ h => h
  have hDm : ∀ a : Nat, (fun a => s.heap.size ≤ a) a → s.heap.size ≤ a := fun _ h => h
  have hbA : ¬ (fun a : Nat => s.heap.size ≤ a) b := Nat.not_le.mpr hbl
  obtain ⟨rs, ⟨b1, M1⟩, e7, e8, hst⟩ := sq_pass hR (n := n) (by omega) (xs (i + (1 : Int32)).toNatClampNeg)
  refine lv_aload_n hx hb dL_law_616 rfl (lv_at hl 3 rfl) ?_
  refine lv_aload_n hx hb dL_law_617 rfl (lv_at hl 4 rfl) ?_
  refine lv_iload hx hb dL_law_618 (lv_at hl 0 rfl) ?_
  refine lv_iconst (v := (1 : Int32)) hx hb dL_law_620 (by decide) ?_
  refine lv_iadd hx hb dL_law_621 ?_
  refine va_sld hx hb hX hbl hbA hS (hin 1 (by decide) (by decide)) dL_law_622 ?_
  refine lv_aload_n hx hb dL_law_623 rfl (lv_at hl 1 rfl) ?_
  refine caWS_i (As := [.ref (q 0), .int (xs (i + (1 : Int32)).toNatClampNeg), .ref (q 33)]) (rest := []) (ctL_pass l dC dI cq q S M o _ s.heap.size (xs (i + (1 : Int32)).toNatClampNeg) (fun (r : Int32) (u : CS) => rs = (.ok r, u)) (fun k u => rs = (.error k, u)) (fun sz => ctX7_pass l dC dI cq q S M o sz s.heap.size hfl n (xs (i + (1 : Int32)).toNatClampNeg) rs e7) (fun e u h => by rw [h] at hst; exact hst.1)) F (vx_cwSW 3 hts gL_law_L_pass rfl rfl rfl hdL_pass ⟨Nat.le_of_ble_eq_true rfl, Nat.le_of_ble_eq_true rfl⟩) hK hP hD hDm hS hA EV.blind (fun U hU hW => EV.call hEV hS hDm hU hW) rfl hl.1 rfl (Nat.le_of_ble_eq_true rfl) dL_law_624 ⟨by show cells + 2 ≤ 601024; omega, by show slots + 12 ≤ 7293034; omega⟩ (fun H locs r9 u9 h9 hP hD hS => ?_)
  obtain ⟨S1, o1⟩ := u9
  have hk := lw_fin (cd := cdL_pass) (ok := (fun e => e = 1 ∨ e = 3)) (z := (b1, M1)) (o := o) (h9.imp (fun ⟨hr, v, hv, ho⟩ => ⟨hr, v, by rw [← hv]; exact hst, ho⟩) (fun ⟨k, hk, hr, ho⟩ => ⟨k, by rw [← hk]; exact hst, hr, ho⟩))
  refine W.widen (k := cells + 121) (n := slots + 906) (by omega) (by omega) ?_
  refine lv_istore (lv' := [(5, .int r9), (4, .int i), (3, .ref (q 33)), (2, .ref (q 22)), (1, .ref (q 0)), (0, .ref b)]) hx hb dL_law_627 hl (by decide) rfl (fun ls hl => ?_)
  refine lv_aload_n hx hb dL_law_629 rfl (lv_at hl 3 rfl) ?_
  refine lv_aload_n hx hb dL_law_630 rfl (lv_at hl 5 rfl) ?_
  refine lv_iload hx hb dL_law_631 (lv_at hl 1 rfl) ?_
  refine lv_iconst (v := (1 : Int32)) hx hb dL_law_633 (by decide) ?_
  refine lv_iadd hx hb dL_law_634 ?_
  refine va_sld hx hb hX hbl hbA hS (hin 1 (by decide) (by decide)) dL_law_635 ?_
  refine caVM_i (As := [.int (xs (i + (1 : Int32)).toNatClampNeg)]) (rest := []) (ctX8_pass l dC dI cq q S1 M o1 _ n (xs (i + (1 : Int32)).toNatClampNeg) b1 M1 e8) F (cwV 1 hts gL_law_X8_pass rfl rfl rfl hdX8_pass ⟨Nat.le_of_ble_eq_true rfl, Nat.le_of_ble_eq_true rfl⟩) hK hP hD (fun _ _ => trivial) hS hA (fun _ _ _ _ _ => trivial) (fun _ _ _ => trivial) (va_recv hK hP (ci := 9) (q0 := 22) rfl rfl) rfl hl.1 rfl (Nat.le_of_ble_eq_true rfl) dL_law_636 ⟨by show cells + 121 + 0 ≤ 601024; omega, by show slots + 906 + 0 ≤ 7293034; omega⟩ (fun H locs hP hD hS => ?_)
  refine lv_istore (lv' := [(6, .int b1), (5, .int r9), (4, .int i), (3, .ref (q 33)), (2, .ref (q 22)), (1, .ref (q 0)), (0, .ref b)]) hx hb dL_law_639 hl (by decide) rfl (fun ls hl => ?_)
  refine lv_aload_n hx hb dL_law_641 rfl (lv_at hl 4 rfl) ?_
  refine caVR_i (As := []) (rest := []) (ctX8_thrown l dC dI cq q S1 M1 o1 _ (M1.1 0) rfl) F (cwV 0 hts gL_law_X8_thrown rfl rfl rfl hdX8_thrown ⟨Nat.le_of_ble_eq_true rfl, Nat.le_of_ble_eq_true rfl⟩) hK hP hD (fun _ _ => trivial) hS hA (fun _ _ _ _ _ => trivial) (fun _ _ _ => trivial) (va_recv hK hP (ci := 9) (q0 := 22) rfl rfl) rfl hl.1 rfl (Nat.le_of_ble_eq_true rfl) dL_law_642 ⟨by show cells + 121 + 0 ≤ 601024; omega, by show slots + 906 + 0 ≤ 7293034; omega⟩ (fun H locs hP hD hS => ?_)
  refine lv_iload hx hb dL_law_645 (lv_at hl 1 rfl) ?_
  refine lv_icmp_eq (tgt := 652) hx hb dL_law_647 (by decide) (fun _ => ?_) (fun c9 => absurd hk.1 c9)
  refine lv_iload hx hb dL_law_652 (lv_at hl 1 rfl) ?_
  have fin : W p l e room_1 s m #[Value.ref b] below meth c H locs (cells + 121) (slots + 906) Q (F0 m 669 ls []) := lv_goto (tgt := 1536) hx hb dL_law_669 (by decide) (kk _ _ _ _ _ _ hk.2.2 hP hD hS (lv_sub hl [2, 3, 4, 5, 6] rfl))
  refine lv_if_ne (tgt := 669) hx hb dL_law_654 (by decide) (fun _ => fin) (fun c8 => ?_)
  refine lv_aload_n hx hb dL_law_657 rfl (lv_at hl 3 rfl) ?_
  refine lv_iconst (v := (0 : Int32)) hx hb dL_law_658 (by decide) ?_
  refine va_lald (D := (dC, dI)) hx hb hK hP 33 23 rfl rfl (inb_ok (i := 0) (n := 1) (by decide)) dL_law_659 ?_
  refine lv_iload hx hb dL_law_660 (lv_at hl 0 rfl) ?_
  refine lv_i2l hx hb dL_law_662 rfl ?_
  refine W.lcmp hx hb dL_law_663 ?_
  exact lv_if_eq (tgt := 669) hx hb dL_law_664 (by decide) (fun _ => fin) (fun c7 => absurd ((lg_cmp_eq _ _).mpr (hk.2.1 c8)) c7)
