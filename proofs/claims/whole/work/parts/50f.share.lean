/-! the share of wrong records, compared -/
theorem lw_nan {r : UInt64} (h : isNaN64 r = true) (y : UInt64) : FP.dcmp r y = none := by
  rw [isNaN64_iff] at h
  have e : r.toNat &&& 0x7fffffffffffffff = r.toNat % 9223372036854775808 := Nat.and_two_pow_sub_one_eq_mod r.toNat 63
  rw [e] at h
  have hE : FP.Core.fieldE FP.Core.b64 r.toNat = FP.Core.b64.exps - 1 := by
    unfold FP.Core.fieldE
    rw [show FP.Core.b64.tails = 4503599627370496 from rfl, show FP.Core.b64.exps = 2048 from rfl]
    omega
  have hT : ¬ FP.Core.fieldT FP.Core.b64 r.toNat = 0 := by
    unfold FP.Core.fieldT
    rw [show FP.Core.b64.tails = 4503599627370496 from rfl]
    omega
  have hd : FP.Core.decode FP.Core.b64 r.toNat = FP.Core.Datum.nan := by
    unfold FP.Core.decode
    rw [if_pos hE, if_neg hT]
  show FP.Core.order (FP.Core.decode FP.Core.b64 r.toNat) (FP.Core.decode FP.Core.b64 y.toNat) = none
  rw [hd]
  rfl
theorem lw_dfin {r r' w : UInt64} (h : alike64 r w = true) (h' : alike64 r' w = true) (c : ¬ Op.cmpValue (FP.dcmp r r') .l = 0) : ¬ Op.cmpValue (FP.dcmp r r) .l = 0 ∧ ¬ Op.cmpValue (FP.dcmp r' r') .l = 0 := by
  have key : ∀ x, isNaN64 x = true → ¬ Op.cmpValue (FP.dcmp x x) .l = 0 := fun x hx => by
    rw [lw_nan hx x]
    decide
  unfold alike64 at h h'
  rw [Bool.or_eq_true, Bool.and_eq_true, decide_eq_true_iff] at h h'
  rcases h with h | h
  · rcases h' with h' | h'
    · rw [h, h'] at c
      rw [h, h']
      exact ⟨c, c⟩
    · rw [h]
      exact ⟨key _ h'.2, key _ h'.1⟩
  · rcases h' with h' | h'
    · rw [h']
      exact ⟨key _ h.1, key _ h.2⟩
    · exact ⟨key _ h.1, key _ h'.1⟩
set_option maxRecDepth 100000 in
set_option maxHeartbeats 8000000 in
theorem st_wrongShare {p : Program} {l : Launch} {e : Env} {s : State} {m : MethodId} {below : List Frame} {meth : Method} {c : Code} {b L : Nat} {xs : Nat → Int32} {dC : Nat → ClassId} {dI : Nat → Nat → Nat} {cq : Nat → ClassId} {q : Nat → Nat} {Q : State → Prop} (hfl : l.stackTraces = false) (C : LC p s m c b L xs dC dI cq q) {n : Nat} (hn : 40000000 < n) {S : CS} {M : MS} {o : Nat → Int64} (hR : Rel S M) {i : Int32} (hin : ∀ t : Nat, 1 ≤ t → t ≤ 5 → vp_in (i + nI t) L) {H : Heap} {locs : List Loc} {cells slots : Nat} (hcl : cells + 121 ≤ 601024) (hsl : slots + 906 ≤ 7293034) (hP : va_P (dC, dI) vwCl (wA cq q S M o) H) (hD : va_D (fun a => s.heap.size ≤ a) (wA cq q S M o)) (hS : va_S (fun a => s.heap.size ≤ a) s.heap H locs) {ls : Array Slot} (hl : lv_has ls 9 [(4, .int i), (3, .ref (q 33)), (2, .ref (q 22)), (1, .ref (q 0)), (0, .ref b)])
    (kk : ∀ (d' : Drawn), s.drawn.sameBut d' lw_cs → ∀ (S' : CS) (M' : MS) (o' : Nat → Int64) (H' : Heap) (locs' : List Loc) (ls' : Array Slot), Rel S' M' → va_P (dC, dI) vwCl (wA cq q S' M' o') H' → va_D (fun a => s.heap.size ≤ a) (wA cq q S' M' o') → va_S (fun a => s.heap.size ≤ a) s.heap H' locs' → lv_has ls' 9 [(4, .int i), (3, .ref (q 33)), (2, .ref (q 22)), (1, .ref (q 0)), (0, .ref b)] → W p l e room_1 (s.setDrawn d') m #[Value.ref b] below meth c H' locs' (cells + 121) (slots + 906) Q (F0 m 1536 ls' [])) :
    W p l e room_1 s m #[Value.ref b] below meth c H locs cells slots Q (F0 m 1481 ls []) := by
  obtain ⟨hx, hb, hml, hown, hts, hX, hbl, hK, hEV⟩ := id C
  have F : CallFix p m c cL_law 9 s #[Value.ref b] wsL_law RL := ⟨hx, hb, hml, hown, hts⟩
  have hA : ∀ a : Nat, s.heap.size ≤ a → (fun a => s.heap.size ≤ a) a := fun _ h => h
  have hDm : ∀ a : Nat, (fun a => s.heap.size ≤ a) a → s.heap.size ≤ a := fun _ h => h
  have hbA : ¬ (fun a : Nat => s.heap.size ≤ a) b := Nat.not_le.mpr hbl
  obtain ⟨w, e7, e8, hrel⟩ := sq_share hR (n := n) (by omega)
  have hFc := freeW hD hS hA
  refine lv_aload_n hx hb dL_law_1481 rfl (lv_at hl 3 rfl) ?_
  refine W.base ?_
  refine va_calldD (Drawn.sameBut.refl s.drawn lw_cs) (va_runV_D (As := []) (rest := []) ⟨hx, hb, hml, hown, dr_words hts _⟩ (ctX7_wrongShare l dC dI cq q S M o _ s.heap.size n w e7) (cwV 0 (dr_words hts _) gL_law_X7_wrongShare rfl rfl rfl hdX7_wrongShare ⟨Nat.le_of_ble_eq_true rfl, Nat.le_of_ble_eq_true rfl⟩) ⟨PreX.blind EV.blind, va_recv hK hP (ci := 8) (q0 := 0) rfl rfl, fun U hU hW => ⟨rfl, by rw [hU], by rw [hU]; exact hP, va_K.moved hW.alike hK, hD.weaken (fun _ _ _ h => hDm _ h), fun a h => hDm a (hA a (Nat.le_trans hS.1 h)), EV.call hEV hS hDm hU hW⟩⟩ rfl rfl hl.1 rfl (lv_room (Nat.le_of_ble_eq_true rfl)) dL_law_1482 ⟨by show cells + 0 ≤ 601024; omega, by show slots + 0 ≤ 7293034; omega⟩) hS (fun a _ h => hFc a h) hFc (fun r u t H1 locs1 ht hvm hw hB hz1 hk1 hS1 d1 hd1 => ?_)
  obtain ⟨hal, rfl⟩ := hw
  obtain ⟨hP1, hK1, hD1⟩ := hB
  rw [ht] at hP1
  have hD1 : va_D (fun a => s.heap.size ≤ a) (wA cq q S M o) := hD1.weaken (fun i z _ hz => hFc _ hz)
  have hP1 : va_P (dC, dI) vwCl (wA cq q S M o) H1 := hP1
  refine lv_dstore (lv' := [(5, .double r), (4, .int i), (3, .ref (q 33)), (2, .ref (q 22)), (1, .ref (q 0)), (0, .ref b)]) hx hb dL_law_1485 hl (by decide) rfl (fun ls hl => ?_)
  refine lv_aload_n hx hb dL_law_1487 rfl (lv_at hl 3 rfl) ?_
  have hFc1 := freeW hD1 hS1 hA
  refine va_calldD hd1 (va_runV_D (As := []) (rest := []) ⟨hx, hb, hml, hown, dr_words hts _⟩ (ctX8_wrongShare l dC dI cq q S M o _ n w (sG M 0 0) e8) (cwV 0 (dr_words hts _) gL_law_X8_wrongShare rfl rfl rfl hdX8_wrongShare ⟨Nat.le_of_ble_eq_true rfl, Nat.le_of_ble_eq_true rfl⟩) ⟨PreX.blind (fun _ _ _ _ _ => trivial), va_recv hK hP1 (ci := 9) (q0 := 22) rfl rfl, fun U hU hW => ⟨rfl, by rw [hU], by rw [hU]; exact hP1, va_K.moved hW.alike hK, hD1.weaken (fun _ _ _ _ => trivial), fun _ _ => trivial, trivial⟩⟩ rfl rfl hl.1 rfl (lv_room (Nat.le_of_ble_eq_true rfl)) dL_law_1488 ⟨by show cells + 0 ≤ 601024; omega, by show slots + 0 ≤ 7293034; omega⟩) hS1 (fun a _ h => hFc1 a h) hFc1 (fun r2 u t H2 locs2 ht hvm hw hB hz2 hk2 hS2 d2 hd2 => ?_)
  obtain ⟨hal2, rfl⟩ := hw
  obtain ⟨hP2, hK2, hD2⟩ := hB
  rw [ht] at hP2
  have hD2 : va_D (fun a => s.heap.size ≤ a) (wA cq q S (sG M 0 0) o) := hD2.weaken (fun i z _ hz => hFc1 _ hz)
  have hP2 : va_P (dC, dI) vwCl (wA cq q S (sG M 0 0) o) H2 := hP2
  refine W.widen (k := cells + 121) (n := slots + 906) (by omega) (by omega) ?_
  refine lv_dstore (lv' := [(7, .double r2), (5, .double r), (4, .int i), (3, .ref (q 33)), (2, .ref (q 22)), (1, .ref (q 0)), (0, .ref b)]) hx hb dL_law_1491 hl (by decide) rfl (fun ls hl => ?_)
  have fin : W p l e room_1 (s.setDrawn d2) m #[Value.ref b] below meth c H2 locs2 (cells + 121) (slots + 906) Q (F0 m 1519 ls []) := lv_goto (tgt := 1536) hx hb dL_law_1519 (by decide) (kk d2 hd2 _ _ _ _ _ _ hrel hP2 hD2 hS2 (lv_sub hl [2, 3, 4, 5, 6] rfl))
  refine lv_dload hx hb dL_law_1493 (lv_at hl 1 rfl) ?_
  refine lv_dload hx hb dL_law_1495 (lv_at hl 0 rfl) ?_
  refine lv_dcmp hx hb dL_law_1497 ?_
  refine lv_if_eq (tgt := 1519) hx hb dL_law_1498 (by decide) (fun _ => fin) (fun c1 => ?_)
  have hne := lw_dfin hal hal2 c1
  refine lv_dload hx hb dL_law_1501 (lv_at hl 1 rfl) ?_
  refine lv_dload hx hb dL_law_1503 (lv_at hl 1 rfl) ?_
  refine lv_dcmp hx hb dL_law_1505 ?_
  refine lv_if_eq (tgt := 1517) hx hb dL_law_1506 (by decide) (fun c2 => absurd c2 hne.1) (fun _ => ?_)
  refine lv_dload hx hb dL_law_1509 (lv_at hl 0 rfl) ?_
  refine lv_dload hx hb dL_law_1511 (lv_at hl 0 rfl) ?_
  refine lv_dcmp hx hb dL_law_1513 ?_
  exact lv_if_ne (tgt := 1519) hx hb dL_law_1514 (by decide) (fun _ => fin) (fun c3 => absurd c3 hne.2)
