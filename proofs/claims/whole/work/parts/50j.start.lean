def lw_q (u v : Nat → Nat) (a : Nat) : Nat → Nat := fun k => if k < 22 then u k else if k < 33 then v k else if k = 33 then a else u 34
set_option maxRecDepth 100000 in
set_option maxHeartbeats 16000000 in
theorem whole_start {p : Program} {e : Env} {s : State} {m : MethodId} {below : List Frame} {meth : Method} {c : Code} (l : Launch) (hflags : l.flags = flags0) {b L : Nat} {xs : Nat → Int32} (hL : L ≤ 3072) (C0 : lw_At p s m meth c b L xs) : W p l e room_1 s m #[Value.ref b] below meth c s.heap [] 0 0 (lw_Z below #[Value.ref b] s) (entryFrame m ([Value.ref b] : List Value).toArray 9) := by
  obtain ⟨hx, hb, hr, hml, hown, hts, hX, hbl, hlocks, hgv⟩ := id C0
  have hfl := lw_flags hflags
  have hA : ∀ a : Nat, s.heap.size ≤ a → (fun a => s.heap.size ≤ a) a := fun _ h => h
  have hDm : ∀ a : Nat, (fun a => s.heap.size ≤ a) a → s.heap.size ≤ a := fun _ h => h
  have hb : c.code = cL_law := hb
  have hown : s.vm.findClass RL = some m.cls := hown
  have htsL : ∀ w ∈ wsL_law, w.before #[Value.ref b] s = true := fun w h => hts w (wsL_law_in w h)
  have F : CallFix p m c cL_law 9 s #[Value.ref b] wsL_law RL := ⟨hx, hb, hml, hown, htsL⟩
  obtain ⟨dC, dI, cq, hK⟩ := lw_KK hts
  obtain ⟨q, hEH⟩ := lw_EH hts hgv
  have hEV : EV s.heap.size q s := ⟨lw_NW hts, hEH⟩
  have hNM := lw_NM hts
  obtain ⟨n, hn⟩ : ∃ n, 40000000 < n := ⟨40000001, by decide⟩
  obtain ⟨SS, MM, eS, eM, hR, hF1, hF2⟩ := lw_SM (n := n) (by omega)
  have hwF : wF cq SS = [] := lw_wF hF1 hF2
  have hS : va_S (fun a => s.heap.size ≤ a) s.heap s.heap [] := va_S.rf
  have hP : va_P (dC, dI) vwCl [] s.heap := fun k q h => by simp at h
  have hD : va_D (fun a => s.heap.size ≤ a) [] := ⟨fun i j p q h => by simp at h, fun k q h => by simp at h⟩
  have hl := lv_entry ([.ref b]) (n := 9) (Nat.le_of_ble_eq_true rfl)
  rw [lg_entry_eq]
  generalize (lg_sl ([.ref b]) ++ List.replicate (9 - (lg_sl ([.ref b])).length) Slot.unset).toArray = ls at hl ⊢
  have hl : lv_has ls 9 [(0, .ref b)] := hl
  refine va_new (ci := 8) (fs := [.null, .null, .null, .null, .null]) (C := RX7) (T := TX7) (N := 5) hx hb hts inX7 tyX7 tyX7_ok hown (hts (.classLink RL 8 RX7) (by decide +kernel)) (hts (.instantiable RX7 5) (by decide +kernel)) (hts (.initialized RX7) (by decide +kernel)) hK hP hD hS hA rfl (fun j hj => by rcases (show j = 0 ∨ j = 1 ∨ j = 2 ∨ j = 3 ∨ j = 4 by omega) with rfl | rfl | rfl | rfl | rfl <;> rfl) (Nat.le_of_ble_eq_true rfl) (Nat.le_of_ble_eq_true rfl) dL_law_0 (fun a0 H hP hD hS => ?_)
  have hP : va_P (dC, dI) vwCl [(a0, .inr (8, [.null, .null, .null, .null, .null]))] H := hP
  have hD : va_D (fun a => s.heap.size ≤ a) [(a0, .inr (8, [.null, .null, .null, .null, .null]))] := hD
  refine lv_dup hx hb dL_law_3 rfl ?_
  refine caFI_v (wc := [(a0, .inr (8, [.null, .null, .null, .null, .null]))]) (wr := []) [0] [] rfl rfl rfl (by decide) (by decide) (by decide) (As := []) (rest := [.ref a0]) (ctX7_init l dC dI cq q MM (fun _ => 0) _ s.heap.size a0 n SS eS) F (cwI 0 htsL gL_law_X7_init rfl rfl rfl (hts (.initialized RX7) (by decide +kernel)) (hts (.methodLink RL 78 yX7_init) (by decide +kernel)) (hts (.instanceMethod yX7_init) (by decide +kernel)) rfl hdX7_init ⟨Nat.le_of_ble_eq_true rfl, Nat.le_of_ble_eq_true rfl⟩) hK hP hD hDm hS hA (fun U g mk a h => ⟨EV.blind U g mk a h.1, lw_NMs rfl h.2⟩) (fun U hU hW => ⟨EV.call hEV hS hDm hU hW, lw_NMw hW hNM⟩) rfl hl.1 rfl (Nat.le_of_ble_eq_true rfl) dL_law_4 ⟨Nat.le_of_ble_eq_true rfl, Nat.le_of_ble_eq_true rfl⟩ (fun H locs u hu hP hD hS => ?_)
  obtain ⟨hu0, hu34⟩ := hu
  have e1 : wI cq u SS MM (fun _ => 0) = wGI cq u SS MM (fun _ => 0) (SS.1 4) (edA u SS) (nI SS.2.2.2.1.length) [] := by rw [wI_G, hwF]
  have hP : va_P (dC, dI) vwCl (wI cq u SS MM (fun _ => 0)) H := hP
  have hD : va_D (fun a => s.heap.size ≤ a) (wI cq u SS MM (fun _ => 0)) := hD
  rw [e1] at hP hD
  refine lv_astore_n (lv' := [(1, .ref a0), (0, .ref b)]) hx hb dL_law_7 rfl hl (by decide) rfl (fun ls hl => ?_)
  refine va_new (ci := 9) (fs := [.int 0, .int 0, .int 0, .int 0, .int 0, .null, .null, .int 0, .null, .int 0, .int 0, .null, .null, .null, .int 0, .int 0, .int 0, .int 0, .int 0, .int 0, .int 0, .int 0, .null, .int 0, .int 0, .null, .null, .null, .long 0]) (C := RX8) (T := TX8) (N := 29) hx hb hts inX8 tyX8 tyX8_ok hown (hts (.classLink RL 79 RX8) (by decide +kernel)) (hts (.instantiable RX8 29) (by decide +kernel)) (hts (.initialized RX8) (by decide +kernel)) hK hP hD hS hA rfl (fun j hj => by rcases (show j = 0 ∨ j = 1 ∨ j = 2 ∨ j = 3 ∨ j = 4 ∨ j = 5 ∨ j = 6 ∨ j = 7 ∨ j = 8 ∨ j = 9 ∨ j = 10 ∨ j = 11 ∨ j = 12 ∨ j = 13 ∨ j = 14 ∨ j = 15 ∨ j = 16 ∨ j = 17 ∨ j = 18 ∨ j = 19 ∨ j = 20 ∨ j = 21 ∨ j = 22 ∨ j = 23 ∨ j = 24 ∨ j = 25 ∨ j = 26 ∨ j = 27 ∨ j = 28 by omega) with rfl | rfl | rfl | rfl | rfl | rfl | rfl | rfl | rfl | rfl | rfl | rfl | rfl | rfl | rfl | rfl | rfl | rfl | rfl | rfl | rfl | rfl | rfl | rfl | rfl | rfl | rfl | rfl | rfl <;> rfl) (Nat.le_of_ble_eq_true rfl) (Nat.le_of_ble_eq_true rfl) dL_law_8 (fun a1 H hP hD hS => ?_)
  refine lv_dup hx hb dL_law_11 rfl ?_
  refine caFI_v (wc := [(a1, .inr (9, [.int 0, .int 0, .int 0, .int 0, .int 0, .null, .null, .int 0, .null, .int 0, .int 0, .null, .null, .null, .int 0, .int 0, .int 0, .int 0, .int 0, .int 0, .int 0, .int 0, .null, .int 0, .int 0, .null, .null, .null, .long 0]))]) (wr := wGI cq u SS MM (fun _ => 0) (SS.1 4) (edA u SS) (nI SS.2.2.2.1.length) []) [22] [0, 1, 2, 3, 4, 5, 6, 7, 8, 9, 10, 11, 12, 13, 14, 15, 16, 17, 18, 19, 20, 21] rfl rfl rfl (by decide) (by decide) (by decide) (As := []) (rest := [.ref a1]) (ctX8_init l dC dI cq SS (fun _ => 0) _ a1 n MM eM) F (cwI 0 htsL gL_law_X8_init rfl rfl rfl (hts (.initialized RX8) (by decide +kernel)) (hts (.methodLink RL 81 yX8_init) (by decide +kernel)) (hts (.instanceMethod yX8_init) (by decide +kernel)) rfl hdX8_init ⟨Nat.le_of_ble_eq_true rfl, Nat.le_of_ble_eq_true rfl⟩) hK hP hD (fun _ _ => trivial) hS hA (fun _ _ _ _ _ => trivial) (fun _ _ _ => trivial) rfl hl.1 rfl (Nat.le_of_ble_eq_true rfl) dL_law_12 ⟨Nat.le_of_ble_eq_true rfl, Nat.le_of_ble_eq_true rfl⟩ (fun H locs v hv hP hD hS => ?_)
  refine lv_astore_n (lv' := [(2, .ref a1), (1, .ref a0), (0, .ref b)]) hx hb dL_law_15 rfl hl (by decide) rfl (fun ls hl => ?_)
  refine lv_iconst (v := (1 : Int32)) hx hb dL_law_16 (by decide) ?_
  refine va_newa (atype := .long) hx hb (hts (.arrayClass .long) (by decide +kernel)) rfl hK hP hD hS hA (a0 := (1, .inr (.inl (fun _ => 0)))) (N' := 1) (fun _ => rfl) (by decide) (by decide) (by decide) (Nat.le_of_ble_eq_true rfl) (Nat.le_of_ble_eq_true rfl) dL_law_17 (fun a2 c9 H hK9 hP hD hS => ?_)
  have hc9 : c9 = cq 33 := uqJ 23 hK hK9 rfl
  subst hc9
  refine lv_astore_n (lv' := [(3, .ref a2), (2, .ref a1), (1, .ref a0), (0, .ref b)]) hx hb dL_law_19 rfl hl (by decide) rfl (fun ls hl => ?_)
  refine lv_iconst (v := (0 : Int32)) hx hb dL_law_20 (by decide) ?_
  refine lv_istore (lv' := [(4, .int 0), (3, .ref a2), (2, .ref a1), (1, .ref a0), (0, .ref b)]) hx hb dL_law_21 hl (by decide) rfl (fun ls hl => ?_)
  refine W.widen (k := 40 + 121 * 0) (n := 800 + 906 * 0) (by omega) (by omega) ?_
  have e2 : wA cq (lw_q u v a2) SS MM (fun _ => 0) = wG cq (lw_q u v a2) SS MM (fun _ => 0) (SS.1 4) (edA (lw_q u v a2) SS) (nI SS.2.2.2.1.length) [] := by rw [wA_G, hwF]
  have hP : va_P (dC, dI) vwCl (wA cq (lw_q u v a2) SS MM (fun _ => 0)) H := by rw [e2]; exact hP
  have hD : va_D (fun a => s.heap.size ≤ a) (wA cq (lw_q u v a2) SS MM (fun _ => 0)) := by rw [e2]; exact hD
  have hv : v 22 = a1 := hv
  rw [← hu0, ← hv] at hl
  refine W.base ?_
  exact law_loop (q := lw_q u v a2) hfl ⟨hx, hb, hml, hown, htsL, hX, hbl, hK, lw_EVq (q' := lw_q u v a2) hu34.symm hEV⟩ hr hlocks hL hn 513 0 s.drawn SS MM (fun _ => 0) H _ ls (by omega) (Nat.zero_le L) (Drawn.sameBut.refl s.drawn lw_cs) hR hP hD hS hl
