theorem lw_gt {L k : Nat} (h : L < 6 * k + 6) (hL : L ≤ 3072) (hk : k ≤ 3072) : Int32.ofNat L - (6 : Int32) < nI (6 * k) := by
  have e : (nI L - (6 : Int32)).toInt = (L : Int) - 6 := pk_sub_toInt (a := L) (b := 6) (by omega) (by decide)
  rw [fa_lt, nI_toInt (by omega)]
  show (nI L - (6 : Int32)).toInt < _
  rw [e]
  omega
/-! the law's loop -/
set_option maxRecDepth 100000 in
set_option maxHeartbeats 8000000 in
theorem law_loop {p : Program} {l : Launch} {e : Env} {s : State} {m : MethodId} {below : List Frame} {meth : Method} {c : Code} {b L : Nat} {xs : Nat → Int32} {dC : Nat → ClassId} {dI : Nat → Nat → Nat} {cq : Nat → ClassId} {q : Nat → Nat} (hfl : l.stackTraces = false) (C : LC p s m c b L xs dC dI cq q) (hr : meth.sig.returnType = ret) (hlocks : meth.locks = false) (hL : L ≤ 3072) {n : Nat} (hn : 40000000 < n) : ∀ (r k : Nat) (d : Drawn) (S : CS) (M : MS) (o : Nat → Int64) (H : Heap) (locs : List Loc) (ls : Array Slot), L < 6 * (k + r) + 6 → 6 * k ≤ L → s.drawn.sameBut d lw_cs → Rel S M → va_P (dC, dI) vwCl (wA cq q S M o) H → va_D (fun a => s.heap.size ≤ a) (wA cq q S M o) → va_S (fun a => s.heap.size ≤ a) s.heap H locs → lv_has ls 9 [(4, .int (nI (6 * k))), (3, .ref (q 33)), (2, .ref (q 22)), (1, .ref (q 0)), (0, .ref b)] → W p l e room_1 (s.setDrawn d) m #[Value.ref b] below meth c H locs (40 + 121 * k) (800 + 906 * k) (lw_Z below #[Value.ref b] s) (F0 m 23 ls []) := by
  obtain ⟨hx, hb, hml, hown, hts, hX, hbl, hK, hEV⟩ := id C
  have hbA : ¬ (fun a : Nat => s.heap.size ≤ a) b := Nat.not_le.mpr hbl
  intro r
  induction r with
  | zero =>
    intro k d S M o H locs ls hr1 hr2 hd hR hP hD hS hl
    refine lv_iload hx hb dL_law_23 (lv_at hl 0 rfl) ?_
    refine lv_aload_n hx hb dL_law_25 rfl (lv_at hl 4 rfl) ?_
    refine va_slen (s := s.setDrawn d) hx hb (C.dr d).2.2.2.2.2.1 hbl hbA hS dL_law_26 ?_
    refine lv_bipush (v := (6 : Int32)) hx hb dL_law_27 (by decide) ?_
    refine lv_isub hx hb dL_law_29 ?_
    refine lv_icmp_gt (tgt := 1542) hx hb dL_law_30 (by decide) (fun _ => ?_) (fun c9 => absurd (lw_gt (L := L) (k := k) (by omega) (by omega) (by omega)) c9)
    refine lv_iconst (v := (1 : Int32)) hx hb dL_law_1542 (by decide) ?_
    refine va_forget (s := s.setDrawn d) hS.2.2 ?_
    refine W.widen (k := 601024) (n := 7293034) (by omega) (by omega) ?_
    exact lw_ret hd hx hb hr hlocks dL_law_1543
  | succ r ih =>
    intro k d S M o H locs ls hr1 hr2 hd hR hP hD hS hl
    refine lv_iload hx hb dL_law_23 (lv_at hl 0 rfl) ?_
    refine lv_aload_n hx hb dL_law_25 rfl (lv_at hl 4 rfl) ?_
    refine va_slen (s := s.setDrawn d) hx hb (C.dr d).2.2.2.2.2.1 hbl hbA hS dL_law_26 ?_
    refine lv_bipush (v := (6 : Int32)) hx hb dL_law_27 (by decide) ?_
    refine lv_isub hx hb dL_law_29 ?_
    refine lv_icmp_gt (tgt := 1542) hx hb dL_law_30 (by decide) (fun _ => ?_) (fun c9 => ?_)
    · refine lv_iconst (v := (1 : Int32)) hx hb dL_law_1542 (by decide) ?_
      refine va_forget (s := s.setDrawn d) hS.2.2 ?_
      refine W.widen (k := 601024) (n := 7293034) (by omega) (by omega) ?_
      exact lw_ret hd hx hb hr hlocks dL_law_1543
    · have h6 : 6 * k + 6 ≤ L := by
        rcases Nat.lt_or_ge L (6 * k + 6) with h | h
        · exact absurd (lw_gt (L := L) (k := k) h (by omega) (by omega)) c9
        · exact h
      have hin : ∀ t : Nat, 1 ≤ t → t ≤ 5 → vp_in (nI (6 * k) + nI t) L := fun t h1 h2 => pk_in (6 * k + t) L (by omega) (nI_add _ _) (by omega)
      have hcl : 40 + 121 * k + 121 ≤ 601024 := by omega
      have hsl : 800 + 906 * k + 906 ≤ 7293034 := by omega
      have tail : ∀ (d' : Drawn), s.drawn.sameBut d' lw_cs → ∀ (S' : CS) (M' : MS) (o' : Nat → Int64) (H' : Heap) (locs' : List Loc) (ls' : Array Slot), Rel S' M' → va_P (dC, dI) vwCl (wA cq q S' M' o') H' → va_D (fun a => s.heap.size ≤ a) (wA cq q S' M' o') → va_S (fun a => s.heap.size ≤ a) s.heap H' locs' → lv_has ls' 9 [(4, .int (nI (6 * k))), (3, .ref (q 33)), (2, .ref (q 22)), (1, .ref (q 0)), (0, .ref b)] → W p l e room_1 (s.setDrawn d') m #[Value.ref b] below meth c H' locs' (40 + 121 * k + 121) (800 + 906 * k + 906) (lw_Z below #[Value.ref b] s) (F0 m 1536 ls' []) := by
        intro d' hd' S' M' o' H' locs' ls' hR hP hD hS hl
        have e6 : nI (6 * k) + (6 : Int32) = nI (6 * (k + 1)) := nI_add _ 6
        refine lv_iinc (v := nI (6 * k) + (6 : Int32)) (lv' := [(4, .int (nI (6 * k) + (6 : Int32))), (3, .ref (q 33)), (2, .ref (q 22)), (1, .ref (q 0)), (0, .ref b)]) hx hb dL_law_1536 hl (k := 0) rfl rfl (by decide) rfl (fun ls hl => ?_)
        rw [e6] at hl
        refine lv_goto (tgt := 23) hx hb dL_law_1539 (by decide) ?_
        exact ih (k + 1) d' S' M' o' H' locs' ls (by omega) (by omega) hd' hR hP hD hS hl
      refine lv_aload_n hx hb dL_law_33 rfl (lv_at hl 4 rfl) ?_
      refine lv_iload hx hb dL_law_34 (lv_at hl 0 rfl) ?_
      refine va_sld (s := s.setDrawn d) hx hb (C.dr d).2.2.2.2.2.1 hbl hbA hS (pk_in (6 * k) L (by omega) rfl (by omega)) dL_law_36 ?_
      refine lv_bipush (v := (31 : Int32)) hx hb dL_law_37 (by decide) ?_
      refine lv_iand hx hb dL_law_39 ?_
      obtain ⟨v, hv, ev⟩ := pk_andE (xs (nI (6 * k)).toNatClampNeg) (m := (31 : Int32)) 5 (by decide)
      rw [ev]
      rcases (by omega : v = 0 ∨ v = 1 ∨ v = 2 ∨ v = 3 ∨ v = 4 ∨ v = 5 ∨ v = 6 ∨ v = 7 ∨ v = 8 ∨ v = 9 ∨ v = 10 ∨ v = 11 ∨ v = 12 ∨ v = 13 ∨ v = 14 ∨ v = 15 ∨ v = 16 ∨ v = 17 ∨ v = 18 ∨ v = 19 ∨ v = 20 ∨ v = 21 ∨ v = 22 ∨ v = 23 ∨ v = 24 ∨ v = 25 ∨ 26 ≤ v) with rfl | rfl | rfl | rfl | rfl | rfl | rfl | rfl | rfl | rfl | rfl | rfl | rfl | rfl | rfl | rfl | rfl | rfl | rfl | rfl | rfl | rfl | rfl | rfl | rfl | rfl | hv26
      · exact lv_tableIn (tgt := 160) (off := 120) hx hb dL_law_40 (by decide) (by decide) (by decide) (by decide) (st_begin (s := s.setDrawn d) hfl (C.dr d) hn hR hin hcl hsl hP hD hS hl (fun S' M' o' H' locs' ls' a1 a2 a3 a4 a5 => tail d hd S' M' o' H' locs' ls' a1 a2 a3 a4 a5))
      · exact lv_tableIn (tgt := 228) (off := 188) hx hb dL_law_40 (by decide) (by decide) (by decide) (by decide) (st_exchange (s := s.setDrawn d) hfl (C.dr d) hn hR hin hcl hsl hP hD hS hl (fun S' M' o' H' locs' ls' a1 a2 a3 a4 a5 => tail d hd S' M' o' H' locs' ls' a1 a2 a3 a4 a5))
      · exact lv_tableIn (tgt := 308) (off := 268) hx hb dL_law_40 (by decide) (by decide) (by decide) (by decide) (st_cut (s := s.setDrawn d) hfl (C.dr d) hn hR hin hcl hsl hP hD hS hl (fun S' M' o' H' locs' ls' a1 a2 a3 a4 a5 => tail d hd S' M' o' H' locs' ls' a1 a2 a3 a4 a5))
      · exact lv_tableIn (tgt := 400) (off := 360) hx hb dL_law_40 (by decide) (by decide) (by decide) (by decide) (st_connect (s := s.setDrawn d) hfl (C.dr d) hn hR hin hcl hsl hP hD hS hl (fun S' M' o' H' locs' ls' a1 a2 a3 a4 a5 => tail d hd S' M' o' H' locs' ls' a1 a2 a3 a4 a5))
      · exact lv_tableIn (tgt := 504) (off := 464) hx hb dL_law_40 (by decide) (by decide) (by decide) (by decide) (st_repair (s := s.setDrawn d) hfl (C.dr d) hn hR hin hcl hsl hP hD hS hl (fun S' M' o' H' locs' ls' a1 a2 a3 a4 a5 => tail d hd S' M' o' H' locs' ls' a1 a2 a3 a4 a5))
      · exact lv_tableIn (tgt := 560) (off := 520) hx hb dL_law_40 (by decide) (by decide) (by decide) (by decide) (st_plug (s := s.setDrawn d) hfl (C.dr d) hn hR hin hcl hsl hP hD hS hl (fun S' M' o' H' locs' ls' a1 a2 a3 a4 a5 => tail d hd S' M' o' H' locs' ls' a1 a2 a3 a4 a5))
      · exact lv_tableIn (tgt := 616) (off := 576) hx hb dL_law_40 (by decide) (by decide) (by decide) (by decide) (st_pass (s := s.setDrawn d) hfl (C.dr d) hn hR hin hcl hsl hP hD hS hl (fun S' M' o' H' locs' ls' a1 a2 a3 a4 a5 => tail d hd S' M' o' H' locs' ls' a1 a2 a3 a4 a5))
      · exact lv_tableIn (tgt := 672) (off := 632) hx hb dL_law_40 (by decide) (by decide) (by decide) (by decide) (st_append (s := s.setDrawn d) hfl (C.dr d) hn hR hin hcl hsl hP hD hS hl (fun S' M' o' H' locs' ls' a1 a2 a3 a4 a5 => tail d hd S' M' o' H' locs' ls' a1 a2 a3 a4 a5))
      · exact lv_tableIn (tgt := 728) (off := 688) hx hb dL_law_40 (by decide) (by decide) (by decide) (by decide) (st_clearBuffer (s := s.setDrawn d) hfl (C.dr d) hn hR hin hcl hsl hP hD hS hl (fun S' M' o' H' locs' ls' a1 a2 a3 a4 a5 => tail d hd S' M' o' H' locs' ls' a1 a2 a3 a4 a5))
      · exact lv_tableIn (tgt := 741) (off := 701) hx hb dL_law_40 (by decide) (by decide) (by decide) (by decide) (st_firstError (s := s.setDrawn d) hfl (C.dr d) hn hR hin hcl hsl hP hD hS hl (fun S' M' o' H' locs' ls' a1 a2 a3 a4 a5 => tail d hd S' M' o' H' locs' ls' a1 a2 a3 a4 a5))
      · exact lv_tableIn (tgt := 754) (off := 714) hx hb dL_law_40 (by decide) (by decide) (by decide) (by decide) (st_load (s := s.setDrawn d) hfl (C.dr d) hn hR hin hcl hsl hP hD hS hl (fun S' M' o' H' locs' ls' a1 a2 a3 a4 a5 => tail d hd S' M' o' H' locs' ls' a1 a2 a3 a4 a5))
      · exact lv_tableIn (tgt := 798) (off := 758) hx hb dL_law_40 (by decide) (by decide) (by decide) (by decide) (st_joined (s := s.setDrawn d) hfl (C.dr d) hn hR hin hcl hsl hP hD hS hl (fun S' M' o' H' locs' ls' a1 a2 a3 a4 a5 => tail d hd S' M' o' H' locs' ls' a1 a2 a3 a4 a5))
      · exact lv_tableIn (tgt := 878) (off := 838) hx hb dL_law_40 (by decide) (by decide) (by decide) (by decide) (st_status (s := s.setDrawn d) hfl (C.dr d) hn hR hin hcl hsl hP hD hS hl (fun S' M' o' H' locs' ls' a1 a2 a3 a4 a5 => tail d hd S' M' o' H' locs' ls' a1 a2 a3 a4 a5))
      · exact lv_tableIn (tgt := 934) (off := 894) hx hb dL_law_40 (by decide) (by decide) (by decide) (by decide) (st_echo (s := s.setDrawn d) hfl (C.dr d) hn hR hin hcl hsl hP hD hS hl (fun S' M' o' H' locs' ls' a1 a2 a3 a4 a5 => tail d hd S' M' o' H' locs' ls' a1 a2 a3 a4 a5))
      · exact lv_tableIn (tgt := 1002) (off := 962) hx hb dL_law_40 (by decide) (by decide) (by decide) (by decide) (st_crosstalk (s := s.setDrawn d) hfl (C.dr d) hn hR hin hcl hsl hP hD hS hl (fun S' M' o' H' locs' ls' a1 a2 a3 a4 a5 => tail d hd S' M' o' H' locs' ls' a1 a2 a3 a4 a5))
      · exact lv_tableIn (tgt := 1070) (off := 1030) hx hb dL_law_40 (by decide) (by decide) (by decide) (by decide) (st_identify (s := s.setDrawn d) hfl (C.dr d) hn hR hin hcl hsl hP hD hS hl (fun S' M' o' H' locs' ls' a1 a2 a3 a4 a5 => tail d hd S' M' o' H' locs' ls' a1 a2 a3 a4 a5))
      · exact lv_tableIn (tgt := 1083) (off := 1043) hx hb dL_law_40 (by decide) (by decide) (by decide) (by decide) (st_records (s := s.setDrawn d) hfl (C.dr d) hn hR hin hcl hsl hP hD hS hl (fun S' M' o' H' locs' ls' a1 a2 a3 a4 a5 => tail d hd S' M' o' H' locs' ls' a1 a2 a3 a4 a5))
      · exact lv_tableIn (tgt := 1151) (off := 1111) hx hb dL_law_40 (by decide) (by decide) (by decide) (by decide) (st_suspect (s := s.setDrawn d) hfl (C.dr d) hn hR hin hcl hsl hP hD hS hl (fun S' M' o' H' locs' ls' a1 a2 a3 a4 a5 => tail d hd S' M' o' H' locs' ls' a1 a2 a3 a4 a5))
      · exact lv_tableIn (tgt := 1164) (off := 1124) hx hb dL_law_40 (by decide) (by decide) (by decide) (by decide) (st_nextChange (s := s.setDrawn d) hfl (C.dr d) hn hR hin hcl hsl hP hD hS hl (fun S' M' o' H' locs' ls' a1 a2 a3 a4 a5 => tail d hd S' M' o' H' locs' ls' a1 a2 a3 a4 a5))
      · exact lv_tableIn (tgt := 1177) (off := 1137) hx hb dL_law_40 (by decide) (by decide) (by decide) (by decide) (st_explain (s := s.setDrawn d) hfl (C.dr d) hn hR hin hcl hsl hP hD hS hl (fun S' M' o' H' locs' ls' a1 a2 a3 a4 a5 => tail d hd S' M' o' H' locs' ls' a1 a2 a3 a4 a5))
      · exact lv_tableIn (tgt := 1233) (off := 1193) hx hb dL_law_40 (by decide) (by decide) (by decide) (by decide) (st_explained (s := s.setDrawn d) hfl (C.dr d) hn hR hin hcl hsl hP hD hS hl (fun S' M' o' H' locs' ls' a1 a2 a3 a4 a5 => tail d hd S' M' o' H' locs' ls' a1 a2 a3 a4 a5))
      · exact lv_tableIn (tgt := 1289) (off := 1249) hx hb dL_law_40 (by decide) (by decide) (by decide) (by decide) (st_count (s := s.setDrawn d) hfl (C.dr d) hn hR hin hcl hsl hP hD hS hl (fun S' M' o' H' locs' ls' a1 a2 a3 a4 a5 => tail d hd S' M' o' H' locs' ls' a1 a2 a3 a4 a5))
      · exact lv_tableIn (tgt := 1345) (off := 1305) hx hb dL_law_40 (by decide) (by decide) (by decide) (by decide) (st_fault (s := s.setDrawn d) hfl (C.dr d) hn hR hin hcl hsl hP hD hS hl (fun S' M' o' H' locs' ls' a1 a2 a3 a4 a5 => tail d hd S' M' o' H' locs' ls' a1 a2 a3 a4 a5))
      · exact lv_tableIn (tgt := 1413) (off := 1373) hx hb dL_law_40 (by decide) (by decide) (by decide) (by decide) (st_wire (s := s.setDrawn d) hfl (C.dr d) hn hR hin hcl hsl hP hD hS hl (fun S' M' o' H' locs' ls' a1 a2 a3 a4 a5 => tail d hd S' M' o' H' locs' ls' a1 a2 a3 a4 a5))
      · exact lv_tableIn (tgt := 1481) (off := 1441) hx hb dL_law_40 (by decide) (by decide) (by decide) (by decide) (st_wrongShare (s := s.setDrawn d) hfl (C.dr d) hn hR hin hcl hsl hP hD hS hl (fun d' hd' S' M' o' H' locs' ls' a1 a2 a3 a4 a5 => tail d' (hd.trans hd') S' M' o' H' locs' ls' a1 a2 a3 a4 a5))
      · exact lv_tableIn (tgt := 1522) (off := 1482) hx hb dL_law_40 (by decide) (by decide) (by decide) (by decide) (st_digest (s := s.setDrawn d) hfl (C.dr d) hn hR hin hcl hsl hP hD hS hl (fun S' M' o' H' locs' ls' a1 a2 a3 a4 a5 => tail d hd S' M' o' H' locs' ls' a1 a2 a3 a4 a5))
      · refine lv_tableOut (tgt := 1536) hx hb dL_law_40 (Or.inr (by rw [nI_toInt (by omega)]; omega)) (by decide) ?_
        refine W.widen (k := 40 + 121 * k + 121) (n := 800 + 906 * k + 906) (by omega) (by omega) ?_
        exact tail d hd S M o H locs ls hR hP hD hS hl
