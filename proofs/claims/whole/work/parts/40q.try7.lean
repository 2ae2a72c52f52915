/-! the class's search through the permutations -/
theorem q_btI {k i : Nat} (hk : k < 2 ^ 32) (hi : i < 32) : btI (nI k) i = k.testBit i := by
  unfold btI
  show (BitVec.ofNat 32 k).getLsbD i = _
  rw [BitVec.getLsbD_ofNat, decide_eq_true hi, Bool.true_and]
theorem q_hib {A i : Nat} (hA : A < 256) (hi : 8 ≤ i) : A.testBit i = false := Nat.testBit_lt_two_pow (Nat.lt_of_lt_of_le hA (Nat.pow_le_pow_right (by decide) hi : 2 ^ 8 ≤ 2 ^ i))
theorem q_msk {A m x : Nat} (hA : A < 256) (hm : m < 256) (hx : x < 8) : ((nI A &&& (nI m ^^^ (-1 : Int32))) &&& ((1 : Int32) <<< (nI x &&& 31))) = 0 ↔ (A.testBit x && !m.testBit x) = false := by
  have hlt := q_mk_lt (fun i => A.testBit i && !m.testBit i) 8
  have e : nI A &&& (nI m ^^^ (-1 : Int32)) = nI (q_mk (fun i => A.testBit i && !m.testBit i) 8) := by
    refine b_ext (fun i hi => ?_)
    rw [b_and, b_xor, b_m1 i hi, q_btI (by omega) hi, q_btI (by omega) hi, q_btI (by omega) hi, q_mk_bit]
    by_cases h8 : i < 8
    · rw [decide_eq_true h8, Bool.true_and]
      cases m.testBit i <;> rfl
    · rw [decide_eq_false h8, q_hib hA (by omega)]; rfl
  rw [e, q_shl1 x (by omega), fa_bit (by omega), q_mk_bit, decide_eq_true hx, Bool.true_and]
def q_ms (l : List Nat) : Nat := q_mk (q_has l) 8
theorem q_ms_lt (l : List Nat) : q_ms l < 256 := q_mk_lt _ 8
theorem q_ms_bit (l : List Nat) {x : Nat} (hx : x < 8) : (q_ms l).testBit x = q_has l x := by unfold q_ms; rw [q_mk_bit, decide_eq_true hx, Bool.true_and]
theorem q_has_s (l : List Nat) (x y : Nat) : q_has (l ++ [y]) x = (q_has l x || decide (x = y)) := by
  unfold q_has
  rw [List.contains_append]
  congr 1
  by_cases e : x = y
  · rw [decide_eq_true e, e]; simp
  · rw [decide_eq_false e]; simp [e]
theorem q_ms_s (l : List Nat) {y : Nat} (hy : y < 8) : q_ms (l ++ [y]) = q_ms l ||| 2 ^ y := by
  apply Nat.eq_of_testBit_eq
  intro i
  rw [fb_bit_set]
  unfold q_ms
  rw [q_mk_bit, q_mk_bit, q_has_s]
  by_cases h : i < 8
  · rw [decide_eq_true h, Bool.true_and, Bool.true_and]
  · rw [decide_eq_false h, Bool.false_and, Bool.false_and, decide_eq_false (by omega)]; rfl
theorem q_closes {S : CS} {n : Nat} (hn : 8 < n) {l : List Nat} (hv : q_vl l) {i : Nat} (hi : i < l.length) (h8 : l.length ≤ 8) (hA : ∀ j, j < l.length → S.2.1 16 j = nI (q_nth l j)) : mX1_closesCycle n S (nI i) = some (bI (q_cls l i)) := by
  have key : ∀ f st r k, st + f = 8 → r < 8 → f < k → mX1_closesCycle_9 n S (nI i) k (nI r) (nI st) = some (bI (decide (q_chs l i f r = i))) := by
    have fin : ∀ r, r < 8 → mX1_closesCycle_37 n S (nI i) (nI r) = some (bI (decide (r = i))) := by
      intro r hr
      unfold mX1_closesCycle_37
      by_cases c : r = i
      · rw [if_pos (congrArg nI c), decide_eq_true c]; rfl
      · rw [if_neg (fun e => c ((nI_eq (by omega) (by omega)).mp e)), decide_eq_false c]; rfl
    intro f
    induction f with
    | zero =>
      intro st r k hs hr hk
      obtain ⟨k, rfl⟩ : ∃ k', k = k' + 1 := ⟨k - 1, by omega⟩
      rw [mX1_closesCycle_9, if_pos (show (8 : Int32) ≤ nI st from nI_le (a := 8) (by omega) (by omega)), fin r hr]; rfl
    | succ f ih =>
      intro st r k hs hr hk
      obtain ⟨k, rfl⟩ : ∃ k', k = k' + 1 := ⟨k - 1, by omega⟩
      rw [mX1_closesCycle_9, if_neg (show ¬ (8 : Int32) ≤ nI st from nI_ge (b := 8) (by omega) (by decide)), if_neg (nI_pos (by omega))]
      show _ = some (bI (decide ((if r < i then q_chs l i f (q_nth l r) else r) = i)))
      by_cases c : r < i
      · rw [if_neg (nI_ge c (by omega)), if_pos (inb_n hr (by decide)), nI_clamp (by omega), hA r (by omega), q_i1, ih (st + 1) _ k (by omega) (hv.1 r (by omega)) (by omega), if_pos c]
      · rw [if_pos (nI_le (by omega) (by omega)), if_neg c, fin r hr]
  unfold mX1_closesCycle
  rw [if_pos (inb_n (by omega) (by decide)), nI_clamp (by omega), hA i hi]
  exact key 8 0 _ n rfl (hv.1 i hi) hn
def q_ab8 (al : Nat → Nat) (σ : List Nat) : Bool := decide (fb_ct (fun p => (al p).testBit (q_nth σ p)) 8 = 8)
def q_k2 (al : Nat → Nat) (σ : List Nat) : Nat := if q_ab8 al σ then 8 - q_cyc σ else 100
theorem q_ab8_iff {al : Nat → Nat} {σ : List Nat} : q_ab8 al σ = true ↔ ∀ p, p < 8 → (al p).testBit (q_nth σ p) = true := by
  unfold q_ab8
  rw [decide_eq_true_iff]
  exact fb_ct_all
def q_FT (S S' : CS) (k : Nat) : Prop := (∀ j, j ≠ 8 → S'.1 j = S.1 j) ∧ S'.2.2 = S.2.2 ∧ (∀ r, r ≠ 16 → r ≠ 17 → S'.2.1 r = S.2.1 r) ∧ ∀ i, i < k → S'.2.1 16 i = S.2.1 16 i
theorem q_FT.rf (S : CS) (k : Nat) : q_FT S S k := ⟨fun _ _ => rfl, rfl, fun _ _ _ => rfl, fun _ _ => rfl⟩
theorem q_FT.tr {S S1 S2 : CS} {k k' : Nat} (hk : k ≤ k') (h : q_FT S S1 k) (h2 : q_FT S1 S2 k') : q_FT S S2 k := ⟨fun j hj => (h2.1 j hj).trans (h.1 j hj), h2.2.1.trans h.2.1, fun r a b => (h2.2.2.1 r a b).trans (h.2.2.1 r a b), fun i hi => (h2.2.2.2 i (by omega)).trans (h.2.2.2 i hi)⟩
theorem q_FT.ke {S S' : CS} {k : Nat} (h : q_FT S S' k) : Ke S S' := ⟨h.1 0 (by decide), h.1 1 (by decide), h.1 2 (by decide), h.1 3 (by decide), h.1 9 (by decide), h.1 10 (by decide), h.2.2.1 2 (by decide) (by decide), h.2.2.1 21 (by decide) (by decide), h.2.1⟩
def q_BC (S : CS) (b : Nat × List Nat) : Prop := b.1 ≤ 8 ∧ S.1 8 = nI (8 - b.1) ∧ (b.1 < 8 → ∀ i, i < 8 → S.2.1 17 i = nI (q_nth b.2 i))
theorem q_try {n : Nat} (hn : 8 < n) {al : Nat → Nat} (hal : ∀ p, p < 8 → al p < 256) : ∀ (d : Nat) (S : CS) (l : List Nat) (b : Nat × List Nat), l.length + d = 8 → q_vl l → (∀ i, i < l.length → S.2.1 16 i = nI (q_nth l i)) → (∀ p, p < 8 → S.2.1 15 p = nI (al p)) → (∀ i, i < l.length → (al i).testBit (q_nth l i) = true) → q_BC S b → R1 (mX1_tryFarPins n (d + 1) S (nI l.length) (nI (q_ms l)) (nI (q_cyc l))) (fun S' => q_FT S S' l.length ∧ q_BC S' ((q_en d l).foldl (q_fs (q_k2 al)) b)) := by
  intro d
  induction d with
  | zero =>
    intro S l b hl hv h16 h15 hall ⟨hb, h8, h17⟩
    have hl8 : l.length = 8 := by omega
    have hcy : q_cyc l ≤ 8 := by
      have := fb_ct_le (q_cls l) l.length
      unfold q_cyc; omega
    have hk : q_k2 al l = 8 - q_cyc l := by
      unfold q_k2
      rw [if_pos (q_ab8_iff.mpr (fun p hp => hall p (by omega)))]
    rw [mX1_tryFarPins, h8, hl8, show nI (q_cyc l) + (8 : Int32) = nI (q_cyc l + 8) from nI_add _ 8, pk_sub (by omega), show q_cyc l + 8 - 8 = q_cyc l by omega]
    show R1 _ (fun S' => q_FT S S' 8 ∧ q_BC S' (q_fs (q_k2 al) b l))
    unfold q_fs
    rw [hk]
    by_cases c : 8 - b.1 < q_cyc l
    · rw [if_pos (nI_lt c (by omega)), if_neg (show ¬ nI 8 < (8 : Int32) by decide), if_pos (show 8 - q_cyc l < b.1 by omega)]
      refine R1.ret ⟨⟨fun j hj => pk_un hj, rfl, fun r _ h2 => up_n _ _ h2, fun i hi => ?_⟩, by show 8 - q_cyc l ≤ 8; omega, ?_, fun _ i hi => ?_⟩
      · rfl
      · show upd S.1 8 (nI (q_cyc l)) 8 = nI (8 - (8 - q_cyc l))
        rw [show 8 - (8 - q_cyc l) = q_cyc l by omega]; exact pk_us
      · show va_up S.2.1 17 (va_cpy (S.2.1 16) (S.2.1 17) (0 : Int32).toNatClampNeg (0 : Int32).toNatClampNeg (8 : Int32).toNatClampNeg) 17 i = nI (q_nth l i)
        rw [up_s, ← h16 i (by omega)]
        exact sb_cpy0 (n := 8) hi
    · rw [if_neg (nI_nlt (by omega) (by omega)), if_neg (show ¬ 8 - q_cyc l < b.1 by omega)]
      exact R1.ret ⟨q_FT.rf S 8, hb, h8, h17⟩
  | succ d ih =>
    intro S l b hl hv h16 h15 hall hBC
    obtain ⟨hb, h8, h17⟩ := hBC
    have hcy : q_cyc l ≤ l.length := fb_ct_le _ _
    rw [mX1_tryFarPins, h8, show nI (q_cyc l) + (8 : Int32) = nI (q_cyc l + 8) from nI_add _ 8, pk_sub (by omega)]
    by_cases c : 8 - b.1 < q_cyc l + 8 - l.length
    · rw [if_pos (nI_lt c (by omega)), if_pos (show nI l.length < (8 : Int32) from nI_lt (b := 8) (by omega) (by decide))]
      refine q_lp (f := fun k s i => mX1_tryFarPins_44 n (mX1_tryFarPins n (d + 1)) (nI l.length) (nI (q_ms l)) (nI (q_cyc l)) k s i) (N := 8) (inv := fun far s => q_FT S s l.length ∧ ∃ b', q_BC s b' ∧ (q_rs (q_en d) l 8).foldl (q_fs (q_k2 al)) b = (q_rs (q_en d) l (8 - far)).foldl (q_fs (q_k2 al)) b') ?_ ?_ 8 0 n S rfl ⟨q_FT.rf S _, b, ⟨hb, h8, h17⟩, rfl⟩ hn
      · rintro k s ⟨hF, b', hB, e⟩
        show R1 (mX1_tryFarPins_44 n (mX1_tryFarPins n (d + 1)) (nI l.length) (nI (q_ms l)) (nI (q_cyc l)) (k + 1) s (nI 8)) _
        rw [mX1_tryFarPins_44, if_pos (show (8 : Int32) ≤ nI 8 from nI_le (Nat.le_refl _) (by decide))]
        refine R1.ret ⟨hF, ?_⟩
        show q_BC s ((q_rs (q_en d) l 8).foldl (q_fs (q_k2 al)) b)
        rw [e]; exact hB
      · rintro far k s hfar ⟨hF, b', hB, e⟩
        right
        show ∃ s', (q_FT S s' l.length ∧ ∃ b', q_BC s' b' ∧ (q_rs (q_en d) l 8).foldl (q_fs (q_k2 al)) b = (q_rs (q_en d) l (8 - (far + 1))).foldl (q_fs (q_k2 al)) b') ∧ mX1_tryFarPins_44 n (mX1_tryFarPins n (d + 1)) (nI l.length) (nI (q_ms l)) (nI (q_cyc l)) (k + 1) s (nI far) = mX1_tryFarPins_44 n (mX1_tryFarPins n (d + 1)) (nI l.length) (nI (q_ms l)) (nI (q_cyc l)) k s' (nI (far + 1))
        have h15s : s.2.1 15 l.length = nI (al l.length) := by rw [hF.2.2.1 15 (by decide) (by decide)]; exact h15 _ (by omega)
        have hrs : q_rs (q_en d) l (8 - far) = (if q_has l far then [] else q_en d (l ++ [far])) ++ q_rs (q_en d) l (8 - (far + 1)) := by
          rw [show 8 - far = (8 - (far + 1)) + 1 by omega]
          show (if q_has l (7 - (8 - (far + 1))) then [] else q_en d (l ++ [7 - (8 - (far + 1))])) ++ _ = _
          rw [show 7 - (8 - (far + 1)) = far by omega]
        rw [hrs, List.foldl_append] at e
        have halp := hal l.length (by omega)
        have hmk := q_msk halp (q_ms_lt l) hfar
        rw [q_ms_bit l hfar] at hmk
        rw [mX1_tryFarPins_44, if_neg (show ¬ (8 : Int32) ≤ nI far from nI_ge hfar (by decide)), if_pos (inb_n (show l.length < 8 by omega) (by decide)), nI_clamp (by omega), h15s]
        by_cases c1 : ((al l.length).testBit far && !q_has l far) = false
        · rw [if_pos (hmk.mpr c1)]
          refine ⟨s, ⟨hF, b', hB, ?_⟩, by unfold mX1_tryFarPins_105; rw [q_i1]⟩
          rw [e]
          congr 1
          cases c2 : q_has l far
          · rw [if_neg (by decide)]
            refine q_fs_no _ _ _ (fun σ hσ => ?_)
            rw [c2] at c1
            have ha : (al l.length).testBit far = false := by simpa using c1
            obtain ⟨v1, v2, m, hm⟩ := q_en_sub d (l ++ [far]) σ hσ (q_vl_s hv hfar c2) (by simp; omega)
            have hno : q_ab8 al σ = false := by
              cases hab : q_ab8 al σ
              · rfl
              · have := q_ab8_iff.mp hab l.length (by omega)
                rw [hm, q_nth_l _ m l.length (by simp), q_nth_e, ha] at this
                cases this
            unfold q_k2
            rw [hno, if_neg (by decide)]
            have := hB.1
            omega
          · rfl
        · rw [if_neg (fun h => c1 (hmk.mp h)), if_pos (inb_n (show l.length < 8 by omega) (by decide))]
          have c1 : (al l.length).testBit far = true ∧ q_has l far = false := by
            have : ((al l.length).testBit far && !q_has l far) = true := by
              cases hx : ((al l.length).testBit far && !q_has l far)
              · exact absurd hx c1
              · rfl
            rw [Bool.and_eq_true] at this
            exact ⟨this.1, by simpa using this.2⟩
          rw [c1.2, if_neg (by decide)] at e
          have hlen : (l ++ [far]).length = l.length + 1 := by simp
          have hv2 := q_vl_s hv hfar c1.2
          have h16s : ∀ i, i < (l ++ [far]).length → (sA s 16 l.length (nI far)).2.1 16 i = nI (q_nth (l ++ [far]) i) := by
            intro i hi
            rw [sA_r]
            by_cases ei : i = l.length
            · rw [ei, q_nth_e]; exact pk_us
            · rw [pk_un ei, hF.2.2.2 i (by omega), h16 i (by omega), q_nth_l l _ i (by omega)]
          have hFs : q_FT s (sA s 16 l.length (nI far)) l.length := ⟨fun _ _ => rfl, rfl, fun r h1 _ => sA_o s _ _ h1, fun i hi => by rw [sA_r, pk_un (by omega)]⟩
          have hBs : q_BC (sA s 16 l.length (nI far)) b' := ⟨hB.1, hB.2.1, fun h i hi => by rw [sA_o s _ _ (by decide)]; exact hB.2.2 h i hi⟩
          rw [bn_eq (q_closes hn hv2 (i := l.length) (by omega) (by omega) h16s)]
          have hT := ih (sA s 16 l.length (nI far)) (l ++ [far]) b' (by omega) hv2 h16s (fun p hp => by rw [sA_o s _ _ (by decide), hF.2.2.1 15 (by decide) (by decide)]; exact h15 p hp) (fun i hi => by
            by_cases ei : i = l.length
            · rw [ei, q_nth_e]; exact c1.1
            · rw [q_nth_l l _ i (by omega)]; exact hall i (by omega)) hBs
          rw [hlen, q_ms_s l hfar, q_cyc_s] at hT
          obtain ⟨s', es, hF', hB'⟩ := hT
          have hgo : ∀ cc : Int32, cc = nI (q_cyc l + (if q_cls (l ++ [far]) l.length then 1 else 0)) → mX1_tryFarPins_102 n (mX1_tryFarPins n (d + 1)) (mX1_tryFarPins_44 n (mX1_tryFarPins n (d + 1)) (nI l.length) (nI (q_ms l)) (nI (q_cyc l)) k) (sA s 16 l.length (nI far)) (nI l.length) (nI (q_ms l)) (nI (q_cyc l)) (nI far) cc (nI (q_ms l) ||| ((1 : Int32) <<< (nI far &&& 31))) (nI l.length + 1) = mX1_tryFarPins_44 n (mX1_tryFarPins n (d + 1)) (nI l.length) (nI (q_ms l)) (nI (q_cyc l)) k s' (nI (far + 1)) := by
            intro cc hcc
            unfold mX1_tryFarPins_102 mX1_tryFarPins_105
            rw [hcc, q_or1 (by omega), q_i1, bn_eq es, q_i1]
          refine ⟨s', ⟨hF.tr (Nat.le_refl _) (hFs.tr (by omega) hF'), _, hB', e⟩, ?_⟩
          cases hc : q_cls (l ++ [far]) l.length
          · rw [if_pos (bI_0.mpr rfl)]
            exact hgo _ (by rw [hc]; rfl)
          · rw [if_neg (show ¬ bI true = 0 by decide)]
            exact hgo _ (by rw [hc, q_i1]; rfl)
    · rw [if_neg (nI_nlt (by omega) (by omega))]
      refine R1.ret ⟨q_FT.rf S _, ?_⟩
      rw [q_fs_no]
      · exact ⟨hb, h8, h17⟩
      · intro σ hσ
        obtain ⟨v1, v2, m, hm⟩ := q_en_sub (d + 1) l σ hσ hv hl
        have hml : m.length = d + 1 := by
          have := congrArg List.length hm
          rw [List.length_append] at this
          omega
        have := q_cyc_le (l := l) (m := m)
        rw [← hm] at this
        unfold q_k2
        split <;> omega
