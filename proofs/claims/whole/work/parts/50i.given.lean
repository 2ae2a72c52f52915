/-! what the start gives: the words of the tables, the statics, the texts, the numbers of the classes; the two states that the constructors leave -/
set_option maxRecDepth 100000 in
set_option maxHeartbeats 8000000 in
theorem lw_NW {args : Array Value} {s : State} (hts : ∀ w ∈ lw_tbl, w.before args s = true) : NW s := ⟨va_Nw.of rfl (hts _ (by decide +kernel)), va_Nw.of rfl (hts _ (by decide +kernel)), va_Nw.of rfl (hts _ (by decide +kernel)), va_Nw.of rfl (hts _ (by decide +kernel)), va_Nw.of rfl (hts _ (by decide +kernel)), va_Nw.of rfl (hts _ (by decide +kernel)), va_Nw.of rfl (hts _ (by decide +kernel)), va_Nw.of rfl (hts _ (by decide +kernel)), va_Nw.of rfl (hts _ (by decide +kernel)), va_Nw.of rfl (hts _ (by decide +kernel)), va_Nw.of rfl (hts _ (by decide +kernel)), va_Nw.of rfl (hts _ (by decide +kernel)), va_Nw.of rfl (hts _ (by decide +kernel)), va_Nw.of rfl (hts _ (by decide +kernel)), va_Nw.of rfl (hts _ (by decide +kernel)), va_Nw.of rfl (hts _ (by decide +kernel)), va_Nw.of rfl (hts _ (by decide +kernel)), va_Nw.of rfl (hts _ (by decide +kernel)), va_Nw.of rfl (hts _ (by decide +kernel)), va_Nw.of rfl (hts _ (by decide +kernel)), va_Nw.of rfl (hts _ (by decide +kernel)), va_Nw.of rfl (hts _ (by decide +kernel)), va_Nw.of rfl (hts _ (by decide +kernel)), va_Nw.of rfl (hts _ (by decide +kernel)), va_Nw.of rfl (hts _ (by decide +kernel)), va_Nw.of rfl (hts _ (by decide +kernel)), va_Nw.of rfl (hts _ (by decide +kernel))⟩
theorem lw_NM {args : Array Value} {s : State} (hts : ∀ w ∈ lw_tbl, w.before args s = true) : NM s := ⟨va_Nw.of rfl (hts _ (by decide +kernel)), va_Nw.of rfl (hts _ (by decide +kernel)), va_Nw.of rfl (hts _ (by decide +kernel)), va_Nw.of rfl (hts _ (by decide +kernel)), va_Nw.of rfl (hts _ (by decide +kernel))⟩
theorem lw_NMs {s U : State} (hv : s.vm = U.vm) (h : NM s) : NM U := ⟨va_Nw.same rfl hv h.1, va_Nw.same rfl hv h.2.1, va_Nw.same rfl hv h.2.2.1, va_Nw.same rfl hv h.2.2.2.1, va_Nw.same rfl hv h.2.2.2.2⟩
theorem lw_NMw {s U : State} (hW : s.WarmedH U.vm) (h : NM s) : NM U := ⟨va_Nw.warmM hW h.1, va_Nw.warmM hW h.2.1, va_Nw.warmM hW h.2.2.1, va_Nw.warmM hW h.2.2.2.1, va_Nw.warmM hW h.2.2.2.2⟩
theorem lw_str {own tx : String} {k : Nat} {A : Array Value} {s : State} (h1 : (Cond.stringRef own k tx).before A s = true) (h2 : (Cond.exactly (.string own k) "java/lang/String").before A s = true) : ∃ sa : Nat, vk_R own k tx sa s := by
  obtain ⟨a, c, cA, kA, q1, -⟩ := Cond.exactly_spec (args := A) (first := s) (o := none) (s := s) (idx := []) (t := .string own k) (cls := "java/lang/String") h2
  exact ⟨a, vk_R.of h1 q1⟩
set_option maxRecDepth 100000 in
set_option maxHeartbeats 8000000 in
theorem lw_EH {args : Array Value} {s : State} (hts : ∀ w ∈ lw_tbl, w.before args s = true) (hgv : (Jvm.Cond.and given_1 narrow_1).before args s = true) : ∃ q : Nat → Nat, EH s.heap.size q s := by
  have hs := flat_of_before _ hgv
  have hA : ∀ a : Nat, a < s.heap.size → ¬ (fun a => s.heap.size ≤ a) a := fun _ h => Nat.not_le.mpr h
  obtain ⟨t, ht, hT⟩ := va_Tof (args := args) (tm := .static "java/util/ArrayList" "DEFAULTCAPACITY_EMPTY_ELEMENTDATA" "[Ljava/lang/Object;") (ty := .object "java/lang/Object") (N := 0) (f := fun _ => .null) (A := fun a => s.heap.size ≤ a) (by decide) (hs _ (by decide +kernel)) (va_eqt (z := 0) (hs _ (by decide +kernel))) (fun j hj => absurd hj (Nat.not_lt_zero j)) hA
  exact ⟨fun _ => t, va_Zref (hts _ (by decide +kernel)) (hts _ (by decide +kernel)) ht hA, hT, va_AO.of (hts _ (by decide +kernel)), vx_Zqof (hts _ (by decide +kernel)) (hts _ (by decide +kernel)) (hs _ (by decide +kernel)) hA, vx_Zqof (hts _ (by decide +kernel)) (hts _ (by decide +kernel)) (hs _ (by decide +kernel)) hA, lw_str (hts _ (by decide +kernel)) (hs _ (by decide +kernel)), lw_str (hts _ (by decide +kernel)) (hs _ (by decide +kernel)), lw_str (hts _ (by decide +kernel)) (hs _ (by decide +kernel)), lw_str (hts _ (by decide +kernel)) (hs _ (by decide +kernel)), lw_str (hts _ (by decide +kernel)) (hs _ (by decide +kernel)), lw_str (hts _ (by decide +kernel)) (hs _ (by decide +kernel)), lw_str (hts _ (by decide +kernel)) (hs _ (by decide +kernel)), lw_str (hts _ (by decide +kernel)) (hs _ (by decide +kernel)), va_Nc.of (hs _ (by decide +kernel)), va_Nc.of (hs _ (by decide +kernel)), va_Nc.of (hs _ (by decide +kernel)), va_Nc.of (hs _ (by decide +kernel)), va_Nc.of (hs _ (by decide +kernel)), va_Nc.of (hs _ (by decide +kernel))⟩
theorem lw_EVq {h0 : Nat} {q q' : Nat → Nat} {s : State} (h : q 34 = q' 34) (hE : EV h0 q s) : EV h0 q' s := by
  unfold EV EH at hE ⊢
  rw [← h]
  exact hE
set_option maxRecDepth 100000 in
set_option maxHeartbeats 8000000 in
theorem lw_KK {args : Array Value} {s : State} (hts : ∀ w ∈ lw_tbl, w.before args s = true) : ∃ (dC : Nat → ClassId) (dI : Nat → Nat → Nat) (cq : Nat → ClassId), va_K (dC, dI) vwCl (tyA cq) s := by
  obtain ⟨c0, i0, k0⟩ := u_known (C := RJx4a65c) (T := TJx4a65c) (N := 3) (n := 3) hts inJx4a65c (hts (.instantiable RJx4a65c 3) (by decide +kernel))
  obtain ⟨c1, i1, k1⟩ := u_known (C := RX0) (T := TX0) (N := 7) (n := 7) hts inX0 (hts (.instantiable RX0 7) (by decide +kernel))
  obtain ⟨c2, i2, k2⟩ := u_known (C := RX1) (T := TX1) (N := 5) (n := 5) hts inX1 (hts (.instantiable RX1 5) (by decide +kernel))
  obtain ⟨c3, i3, k3⟩ := u_known (C := RX2) (T := TX2) (N := 5) (n := 5) hts inX2 (hts (.instantiable RX2 5) (by decide +kernel))
  obtain ⟨c4, i4, k4⟩ := u_known (C := RX3) (T := TX3) (N := 1) (n := 1) hts inX3 (hts (.instantiable RX3 1) (by decide +kernel))
  obtain ⟨c5, i5, k5⟩ := u_known (C := RX4) (T := TX4) (N := 2) (n := 2) hts inX4 (hts (.instantiable RX4 2) (by decide +kernel))
  obtain ⟨c6, i6, k6⟩ := u_known (C := RX5) (T := TX5) (N := 8) (n := 8) hts inX5 (hts (.instantiable RX5 8) (by decide +kernel))
  obtain ⟨c7, i7, k7⟩ := u_known (C := RX6) (T := TX6) (N := 10) (n := 10) hts inX6 (hts (.instantiable RX6 10) (by decide +kernel))
  obtain ⟨c8, i8, k8⟩ := u_known (C := RX7) (T := TX7) (N := 5) (n := 5) hts inX7 (hts (.instantiable RX7 5) (by decide +kernel))
  obtain ⟨c9, i9, k9⟩ := u_known (C := RX8) (T := TX8) (N := 29) (n := 29) hts inX8 (hts (.instantiable RX8 29) (by decide +kernel))
  obtain ⟨dC, dI, hKc⟩ : ∃ (dC : Nat → ClassId) (dI : Nat → Nat → Nat), ∀ (k : Nat) (q : vw_C), vwCl[k]? = some q → u_Kn s q.1 q.2.1 q.2.2 (dC k) (dI k) := by
    refine ⟨fun k => match k with | 0 => c0 | 1 => c1 | 2 => c2 | 3 => c3 | 4 => c4 | 5 => c5 | 6 => c6 | 7 => c7 | 8 => c8 | _ => c9, fun k => match k with | 0 => i0 | 1 => i1 | 2 => i2 | 3 => i3 | 4 => i4 | 5 => i5 | 6 => i6 | 7 => i7 | 8 => i8 | _ => i9, ?_⟩
    intro k q hq
    match k, hq with
    | 0, hq => cases hq; exact k0
    | 1, hq => cases hq; exact k1
    | 2, hq => cases hq; exact k2
    | 3, hq => cases hq; exact k3
    | 4, hq => cases hq; exact k4
    | 5, hq => cases hq; exact k5
    | 6, hq => cases hq; exact k6
    | 7, hq => cases hq; exact k7
    | 8, hq => cases hq; exact k8
    | 9, hq => cases hq; exact k9
    | k + 10, hq => rw [List.getElem?_eq_none (show vwCl.length ≤ k + 10 from Nat.le_add_left 10 k)] at hq; cases hq
  obtain ⟨cI, kI, pI, hI1, hI2, hI3⟩ := Cond.arrayClass_spec (hts (.arrayClass .int) (by decide +kernel))
  obtain ⟨cJ, kJ, pJ, hJ1, hJ2, hJ3⟩ := Cond.arrayClass_spec (hts (.arrayClass .long) (by decide +kernel))
  obtain ⟨pO, cO, kO, hO4, -, hO2, hO3, hO1⟩ := Cond.arrayOver_spec (hts (.arrayOver (.object "java/lang/Object")) (by decide +kernel))
  have hI : ArrOfT s cI .int ∧ va_RA s cI .int := ⟨fun n z => ⟨fun k h => (by cases h), kI, hI2, pI, hI3⟩, hI1⟩
  have hJ : ArrOfT s cJ .long ∧ va_RA s cJ .long := ⟨fun n z => ⟨fun k h => (by cases h), kJ, hJ2, pJ, hJ3⟩, hJ1⟩
  have hO : ArrOfT s cO (.object "java/lang/Object") ∧ va_RA s cO (.object "java/lang/Object") := ⟨fun n z => ⟨fun k h => (by cases h), kO, hO2, pO, hO3⟩, kO, pO, hO2, hO3, hO4, hO1⟩
  have hty : ∀ x ∈ tyA (fun k => match k with | 19 => cJ | 33 => cJ | 34 => cO | _ => cI), ArrOfT s x.1 x.2 ∧ va_RA s x.1 x.2 := List.forall_mem_cons.mpr ⟨hI, List.forall_mem_cons.mpr ⟨hI, List.forall_mem_cons.mpr ⟨hI, List.forall_mem_cons.mpr ⟨hI, List.forall_mem_cons.mpr ⟨hI, List.forall_mem_cons.mpr ⟨hI, List.forall_mem_cons.mpr ⟨hI, List.forall_mem_cons.mpr ⟨hI, List.forall_mem_cons.mpr ⟨hI, List.forall_mem_cons.mpr ⟨hI, List.forall_mem_cons.mpr ⟨hI, List.forall_mem_cons.mpr ⟨hI, List.forall_mem_cons.mpr ⟨hI, List.forall_mem_cons.mpr ⟨hI, List.forall_mem_cons.mpr ⟨hI, List.forall_mem_cons.mpr ⟨hI, List.forall_mem_cons.mpr ⟨hI, List.forall_mem_cons.mpr ⟨hI, List.forall_mem_cons.mpr ⟨hI, List.forall_mem_cons.mpr ⟨hI, List.forall_mem_cons.mpr ⟨hI, List.forall_mem_cons.mpr ⟨hI, List.forall_mem_cons.mpr ⟨hJ, List.forall_mem_cons.mpr ⟨hJ, List.forall_mem_cons.mpr ⟨hO, fun _ h => absurd h List.not_mem_nil⟩⟩⟩⟩⟩⟩⟩⟩⟩⟩⟩⟩⟩⟩⟩⟩⟩⟩⟩⟩⟩⟩⟩⟩⟩
  exact ⟨dC, dI, _, hKc, fun k q h => hty q (List.mem_of_getElem? h)⟩
def a00 : AS := ((0, 0, 0, 0), (fun _ => 0), [], [], [])
theorem q_lay0 {n : Nat} (hn : 16 < n) : R1 (mX0_lay n CS0 (100 : Int32) (66 : Int32)) (fun S' => RC (aBg a00 100 66) S' ∧ S'.2.2.2.1 = [] ∧ S'.2.2.2.2 = none) := by
  unfold mX0_lay
  show R1 (mX0_lay_22 n n (sF (sF (sF (sF CS0 0 100) 1 66) 2 0) 3 0) (nI 0)) _
  refine q_lp (f := fun k s i => mX0_lay_22 n k s i) (N := 16) (inv := fun i S' => S'.1 = (sF (sF (sF (sF CS0 0 100) 1 66) 2 0) 3 0).1 ∧ S'.2.2 = CS0.2.2 ∧ ∀ j, j < i → S'.2.1 2 j = nI (j % 8)) ?_ ?_ 16 0 n _ rfl ⟨rfl, rfl, fun j hj => absurd hj (Nat.not_lt_zero j)⟩ hn
  · intro k s ⟨g, o, w⟩
    show R1 (mX0_lay_22 n (k + 1) s (nI 16)) _
    rw [mX0_lay_22, if_pos (show (16 : Int32) ≤ nI 16 from nI_le (Nat.le_refl _) (by decide)), bn_eq (q_clear (S := s) (by rw [o]; exact fun _ => rfl) (by rw [o]; exact Nat.zero_le _))]
    have gg : ∀ k, k ≠ 4 → (clr s).1 k = (sF (sF (sF (sF CS0 0 100) 1 66) 2 0) 3 0).1 k := fun k hk => (pk_un hk).trans (by rw [g])
    refine R1.ret ⟨⟨gg 0 (by decide), gg 1 (by decide), gg 2 (by decide), gg 3 (by decide), w, rfl, fun _ => rfl, gg 9 (by decide), ?_, gg 10 (by decide), fun i hi => absurd hi (Nat.not_lt_zero i)⟩, rfl, ?_⟩
    · intro p hp i hi
      show (s.2.2.1 p).toBitVec.getLsbD i = _
      rw [o]
      show (0 : Int64).toBitVec.getLsbD i = ((([] : List Nat).reverse[i]?).getD 0).testBit p
      simp
    · show s.2.2.2.2 = none
      rw [o]
      rfl
  · intro i k s hi ⟨g, o, w⟩
    right
    refine ⟨sA s 2 i (nI (i % 8)), ⟨g, o, fun j hj => ?_⟩, ?_⟩
    · rw [sA_r]
      by_cases c : j = i
      · rw [c]; exact pk_us
      · rw [pk_un c]; exact w j (by omega)
    · show mX0_lay_22 n (k + 1) s (nI i) = _
      rw [mX0_lay_22, if_neg (show ¬ (16 : Int32) ≤ nI i from nI_ge hi (by decide)), if_pos (inb_n hi (by decide)), nI_clamp (by omega), show nI i - nI i / (8 : Int32) * (8 : Int32) = nI (i % 8) from q_remI (by omega) (by decide) (by decide), q_i1]
theorem q_m00 : RM a00 MS0 := ⟨rfl, rfl, rfl, rfl, fun _ _ => rfl, rfl, fun k x hx => absurd hx (by show ¬ ([] : List Ft)[k]? = some x; simp), rfl, fun i hi => absurd hi (Nat.not_lt_zero i), rfl, fun i hi => absurd hi (Nat.not_lt_zero i)⟩
theorem q_v00 : Va (aBg a00 100 66) := by
  refine ⟨(by decide : 2 ≤ 100), (by decide : 100 ≤ 999), (by decide : 50 ≤ 66), (by decide : 66 ≤ 99), Nat.zero_le _, Nat.zero_le _, fun i _ => Nat.mod_lt _ (by decide), ?_, ?_, Nat.zero_le _, fun x hx => absurd hx List.not_mem_nil, Nat.zero_le _, fun x hx => absurd hx List.not_mem_nil, Nat.zero_le _, fun x hx => absurd hx List.not_mem_nil⟩
  · intro i j hi hj h
    have h : i % 8 = j % 8 := h
    omega
  · intro i j hi hj h
    have h : (8 + i) % 8 = (8 + j) % 8 := h
    omega
theorem lw_SM {n : Nat} (hn : 16 < n) : ∃ (SS : CS) (MM : MS), mX0_lay n CS0 (100 : Int32) (66 : Int32) = some SS ∧ mX8_fresh n MS0 (100 : Int32) (66 : Int32) = some MM ∧ Rel SS MM ∧ SS.2.2.2.1 = [] ∧ SS.2.2.2.2 = none := by
  obtain ⟨SS, eS, hRC, h1, h2⟩ := q_lay0 hn
  obtain ⟨MM, eM, hRM, -⟩ := q_bgM q_m00 hn 100 66
  exact ⟨SS, MM, eS, eM, ⟨_, q_v00, hRC, hRM⟩, h1, h2⟩
theorem lw_wF {cq : Nat → ClassId} {SS : CS} (h1 : SS.2.2.2.1 = []) (h2 : SS.2.2.2.2 = none) : wF cq SS = [] := by
  unfold wF wEd
  rw [h1, h2]
  rfl
theorem lw_flags {l : Launch} (h : l.flags = flags0) : l.stackTraces = false := by
  unfold Launch.stackTraces
  rw [h]
  decide +kernel
