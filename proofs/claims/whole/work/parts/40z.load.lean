/-! a text carried out, on both sides -/
def q_do (a : AS) (x : It) : AS := if tq_isF x = true then aAd a x.2 else aSw a (8 * (if x.1 = 110 then 0 else 1) + x.2.1) (8 * (if x.1 = 110 then 0 else 1) + (x.2.2.1 - 1))
def q_ld (a : AS) (al : List It) : AS := al.foldl q_do a
theorem q_do_L (a : AS) (x : It) : aL (q_do a x) = aL a ∧ aX (q_do a x) = aX a := by
  unfold q_do
  split <;> exact ⟨rfl, rfl⟩
theorem q_do_F (a : AS) (x : It) : (aF (q_do a x)).length = (aF a).length + (if tq_isF x = true then 1 else 0) := by
  unfold q_do
  split
  · show (aF a ++ [x.2]).length = _
    rw [List.length_append]; rfl
  · rfl
theorem q_doV {a : AS} (v : Va a) {x : It} (iv : tq_iv x) (hp : tq_isF x = true → x.2.2.2.1 < aL a) (hl : tq_isF x = true → (aF a).length < 10) : Va (q_do a x) := by
  unfold q_do
  by_cases w : tq_isF x = true
  · rw [if_pos w]
    refine q_adV v (hl w) ?_
    have := hp w
    have := of_decide_eq_true w
    unfold tq_iv tq_iv6 at iv
    unfold q_ok
    omega
  · rw [if_neg w]
    have : ¬ (x.1 = 99 ∨ x.1 = 115) := fun h => w (decide_eq_true h)
    unfold tq_iv tq_iv6 at iv
    exact q_swV v (by split <;> omega) (by omega) (by omega)
theorem q_drop {al : List It} {j : Nat} (h : j < al.length) : al.drop j = tq_at al j :: al.drop (j + 1) := by
  rw [List.drop_eq_getElem_cons h]
  congr 1
  have := tq_atk h
  rw [List.getElem?_eq_getElem h] at this
  exact Option.some.inj this
theorem tq_nF_le (al : List It) {i j : Nat} (h : i ≤ j) : tq_nF al i ≤ tq_nF al j := fb_ct_mono _ h
theorem q_carry {xs : List Nat} (hc : tq_Ch xs) {al : List It} (hA : tq_cp xs al) {n : Nat} (hn : 52 < n) {L F0 : Nat} (hfit : tq_fit L F0 al) : ∀ d j k (or : Nat → Nat × Nat) (S : CS) (a : AS), j + d = al.length → d < k → RC a S → Va a → aX a = xs → aL a = L → (aF a).length = F0 + tq_nF al j → tq_At xs al.length S j → R1 (mX7_carryOutText_11 n k or S (nI j) (nI j)) (fun z => z.1 = nI al.length ∧ RC (q_ld a (al.drop j)) z.2 ∧ Va (q_ld a (al.drop j))) := by
  obtain ⟨c0, c1, c2, c3⟩ := tq_cpI hA hc
  intro d
  induction d with
  | zero =>
    intro j k or S a hj hk r v hx hL hF hAt
    obtain ⟨k, rfl⟩ : ∃ k', k = k' + 1 := ⟨k - 1, by omega⟩
    have hjl : j = al.length := by omega
    rcases tq_next hc hn hA (hx ▸ tq_txR r) hAt with ⟨c, _⟩ | ⟨_, e⟩
    · exact absurd c (by omega)
    · rw [mX7_carryOutText_11, if_neg (show ¬ (50 : Int32) ≤ nI j from nI_ge (b := 50) (by omega) (by decide)), bm_eq e, if_pos rfl, hjl, List.drop_length]
      exact R1.ret ⟨rfl, r, v⟩
  | succ d ih =>
    intro j k or S a hj hk r v hx hL hF hAt
    obtain ⟨k, rfl⟩ : ∃ k', k = k' + 1 := ⟨k - 1, by omega⟩
    have hjl : j < al.length := by omega
    have iv := c3 j hjl
    have lt := tq_iv_lt iv
    have ns : tq_nF al (j + 1) = tq_nF al j + (if tq_isF (tq_at al j) = true then 1 else 0) := rfl
    rcases tq_next hc hn hA (hx ▸ tq_txR r) hAt with ⟨_, ⟨r1, S1⟩, e, h1, hK, hAt1, hF1⟩ | ⟨c, _⟩
    · have h1 : r1 = 1 := h1
      have hK : Kr S S1 := hK
      have hAt1 : tq_At xs al.length S1 (j + 1) := hAt1
      have hF1 : tq_F (tq_at al j) S1 := hF1
      have rr : RC a S1 := hK.ke.rc r
      obtain ⟨f13, f14, f15, f16, f17, f18⟩ := hF1
      have vd : Va (q_do a (tq_at al j)) := q_doV v iv (fun w => hL ▸ hfit.1 j hjl w) (fun w => by
        have := tq_nF_le al (show j + 1 ≤ al.length by omega)
        rw [ns, w, if_pos rfl] at this
        have := hfit.2
        omega)
      have step : ∀ (or' : Nat → Nat × Nat) (S2 : CS), RC (q_do a (tq_at al j)) S2 → (∀ i, 11 ≤ i → i ≤ 18 → S2.1 i = S1.1 i) → R1 (mX7_carryOutText_11 n k or' S2 (nI j + 1) (nI j + 1)) (fun z => z.1 = nI al.length ∧ RC (q_ld a (al.drop j)) z.2 ∧ Va (q_ld a (al.drop j))) := by
        intro or' S2 r2 hk2
        rw [q_i1]
        have ed : q_ld a (al.drop j) = q_ld (q_do a (tq_at al j)) (al.drop (j + 1)) := by
          rw [q_drop hjl]
          rfl
        rw [ed]
        refine ih (j + 1) k or' S2 (q_do a (tq_at al j)) (by omega) (by omega) r2 vd ((q_do_L a _).2.trans hx) ((q_do_L a _).1.trans hL) ?_ (hAt1.cg hk2)
        rw [q_do_F, hF, ns]
        omega
      rw [mX7_carryOutText_11, if_neg (show ¬ (50 : Int32) ≤ nI j from nI_ge (b := 50) (by omega) (by decide)), bm_eq e, if_neg (by rw [h1]; decide), bn_eq (tq_if (l := (tq_at al j).1) (by omega) f13)]
      rcases Bool.eq_false_or_eq_true (tq_isF (tq_at al j)) with w | w
      · have w' : decide ((tq_at al j).1 = 99 ∨ (tq_at al j).1 = 115) = true := w
        rw [w', if_neg (show ¬ bI true = (0 : Int32) by decide)]
        have ok : okAdd S1 = true := by
          have hl : (aF a).length < 10 := by
            have := tq_nF_le al (show j + 1 ≤ al.length by omega)
            rw [ns, w, if_pos rfl] at this
            have := hfit.2
            omega
          unfold okAdd
          rw [q_len rr, decide_eq_true hl, Bool.true_and]
          cases hm : S1.2.2.2.2 with
          | some b => rfl
          | none =>
            have h0 : aF a = [] := rr.2.2.2.2.2.2.1 hm
            have h2 : S1.2.2.2.1.length = 0 := by rw [q_len rr, h0]; rfl
            rw [List.length_eq_zero_iff.mp h2]
            rfl
        rw [if_pos ok, f14, f15, f16, f17, f18]
        have ra := q_adC rr (tq_at al j).2 (or 0).1 (or 0).2
        refine step (fun j => or (j + 1)) _ ?_ ?_
        · have ed : q_do a (tq_at al j) = aAd a (tq_at al j).2 := by unfold q_do; rw [if_pos w]
          rw [ed]
          exact ra
        · intro i h1 h2
          exact pk_un (by omega)
      · have w' : decide ((tq_at al j).1 = 99 ∨ (tq_at al j).1 = 115) = false := w
        have hn2 := of_decide_eq_false w'
        have hq : (tq_at al j).2.1 < 8 ∧ 1 ≤ (tq_at al j).2.2.1 ∧ (tq_at al j).2.2.1 ≤ 8 := by
          unfold tq_iv tq_iv6 at iv
          omega
        have eo : S1.1 15 = nI ((tq_at al j).2.2.1 - 1) := by
          rw [f15, ← oI_s, Nat.sub_add_cancel hq.2.1]
        rw [w', if_pos (show bI false = (0 : Int32) from rfl), f13, f14, eo]
        have sw : ∀ e, e < 2 → (if (tq_at al j).1 = 110 then 0 else 1) = e → R1 (bn (mX0_swapWires S1 (nI e) (nI (tq_at al j).2.1) (nI ((tq_at al j).2.2.1 - 1))) fun S2 => mX7_carryOutText_11 n k or S2 (nI j + 1) (nI j + 1)) (fun z => z.1 = nI al.length ∧ RC (q_ld a (al.drop j)) z.2 ∧ Va (q_ld a (al.drop j))) := by
          intro e he hee
          refine R1.bn (q_swC rr he hq.1 (by omega)) ?_
          rintro S2 ⟨r2, k2⟩
          refine step or S2 ?_ (fun i _ _ => by rw [k2])
          have ed : q_do a (tq_at al j) = aSw a (8 * e + (tq_at al j).2.1) (8 * e + ((tq_at al j).2.2.1 - 1)) := by
            unfold q_do
            rw [if_neg (by rw [w]; decide), hee]
          rw [ed]
          exact r2
        by_cases q : (tq_at al j).1 = 110
        · rw [if_pos (show nI (tq_at al j).1 = (110 : Int32) from congrArg nI q)]
          exact sw 0 (by decide) (if_pos q)
        · rw [if_neg (show ¬ nI (tq_at al j).1 = (110 : Int32) from tq_z (by omega) (by decide) q)]
          exact sw 1 (by decide) (if_neg q)
    · exact absurd c (by omega)
theorem q_carry8 {al : List It} (hal : al.length ≤ 13) (hiv : ∀ k, k < al.length → tq_iv (tq_at al k)) {n : Nat} {L F0 : Nat} (hfit : tq_fit L F0 al) : ∀ d j k (M : MS) (a : AS), j + d = al.length → d < k → RM a M → Va a → aL a = L → (aF a).length = F0 + tq_nF al j → tq_It al M → M.1 0 = 0 → R1 (mX8_load_77 n k M (nI j)) (fun z => z.1 = nI al.length ∧ RM ((q_ld a (al.drop j)).1, aW (q_ld a (al.drop j)), aF (q_ld a (al.drop j)), aR (q_ld a (al.drop j)), []) z.2 ∧ z.2.1 0 = 0) := by
  intro d
  induction d with
  | zero =>
    intro j k M a hj hk r v hL hF hI h0
    obtain ⟨k, rfl⟩ : ∃ k', k = k' + 1 := ⟨k - 1, by omega⟩
    have hjl : j = al.length := by omega
    rw [mX8_load_77, hI.1, if_pos (nI_le (by omega) (by omega)), hjl, List.drop_length]
    obtain ⟨r0, r1, r2, r3, r4, r5, r6, r7, r8, r9, r10⟩ := r
    exact R1.ret ⟨hI.1, ⟨(sG_n M _ (by decide)).trans r0, (sG_n M _ (by decide)).trans r1, (sG_n M _ (by decide)).trans r2, (sG_n M _ (by decide)).trans r3, r4, (sG_n M _ (by decide)).trans r5, r6, (sG_n M _ (by decide)).trans r7, r8, sG_s M _ _, fun i hi => absurd hi (Nat.not_lt_zero i)⟩, (sG_n M _ (by decide)).trans h0⟩
  | succ d ih =>
    intro j k M a hj hk r v hL hF hI h0
    obtain ⟨k, rfl⟩ : ∃ k', k = k' + 1 := ⟨k - 1, by omega⟩
    have hjl : j < al.length := by omega
    have iv := hiv j hjl
    have lt := tq_iv_lt iv
    have ns : tq_nF al (j + 1) = tq_nF al j + (if tq_isF (tq_at al j) = true then 1 else 0) := rfl
    have row : ∀ i, i < 6 → M.2.1 29 (6 * j + i) = tq_i6 (tq_at al j) i := hI.2 j _ (tq_atk hjl)
    have w0 : M.2.1 29 (6 * j) = nI (tq_at al j).1 := row 0 (by decide)
    have w1 : M.2.1 29 (6 * j + 1) = nI (tq_at al j).2.1 := row 1 (by decide)
    have w2 : M.2.1 29 (6 * j + 2) = oI (tq_at al j).2.2.1 := row 2 (by decide)
    have w3 : M.2.1 29 (6 * j + 3) = nI (tq_at al j).2.2.2.1 := row 3 (by decide)
    have w4 : M.2.1 29 (6 * j + 4) = nI (tq_at al j).2.2.2.2.1 := row 4 (by decide)
    have w5 : M.2.1 29 (6 * j + 5) = nI (tq_at al j).2.2.2.2.2 := row 5 (by decide)
    have e0 : (6 : Int32) * nI j = nI (6 * j) := pk_mul 6 _
    have e1 : nI (6 * j) + (1 : Int32) = nI (6 * j + 1) := nI_add _ 1
    have e2 : nI (6 * j) + (2 : Int32) = nI (6 * j + 2) := nI_add _ 2
    have e3 : nI (6 * j) + (3 : Int32) = nI (6 * j + 3) := nI_add _ 3
    have e4 : nI (6 * j) + (4 : Int32) = nI (6 * j + 4) := nI_add _ 4
    have e5 : nI (6 * j) + (5 : Int32) = nI (6 * j + 5) := nI_add _ 5
    have hlt : tq_isF (tq_at al j) = true → (aF a).length < 10 := fun w => by
      have := tq_nF_le al (show j + 1 ≤ al.length by omega)
      rw [ns, w, if_pos rfl] at this
      have := hfit.2
      omega
    have vd : Va (q_do a (tq_at al j)) := q_doV v iv (fun w => hL ▸ hfit.1 j hjl w) hlt
    have step : ∀ (M2 : MS), RM (q_do a (tq_at al j)) M2 → tq_It al M2 → M2.1 0 = 0 → R1 (mX8_load_77 n k M2 (nI j + 1)) (fun z => z.1 = nI al.length ∧ RM ((q_ld a (al.drop j)).1, aW (q_ld a (al.drop j)), aF (q_ld a (al.drop j)), aR (q_ld a (al.drop j)), []) z.2 ∧ z.2.1 0 = 0) := by
      intro M2 r2 hI2 h02
      rw [q_i1]
      have ed : q_ld a (al.drop j) = q_ld (q_do a (tq_at al j)) (al.drop (j + 1)) := by
        rw [q_drop hjl]
        rfl
      rw [ed]
      refine ih (j + 1) k M2 (q_do a (tq_at al j)) (by omega) (by omega) r2 vd ((q_do_L a _).1.trans hL) ?_ hI2 h02
      rw [q_do_F, hF, ns]
      omega
    rw [mX8_load_77, hI.1, if_neg (nI_ge hjl (by omega)), e0, if_pos (inb_n (by omega) (by decide)), if_pos (inb_n (by omega) (by decide)), if_pos (inb_n (by omega) (by decide)), nI_clamp (by omega), w0]
    rcases Bool.eq_false_or_eq_true (tq_isF (tq_at al j)) with w | w
    · have hq := of_decide_eq_true w
      have ad : ∀ kd : Int32, kd = dI6 (tq_at al j).2 0 → R1 (mX8_load_168 n (mX8_load_77 n k) M (nI j) (nI (6 * j)) kd) (fun z => z.1 = nI al.length ∧ RM ((q_ld a (al.drop j)).1, aW (q_ld a (al.drop j)), aF (q_ld a (al.drop j)), aR (q_ld a (al.drop j)), []) z.2 ∧ z.2.1 0 = 0) := by
        intro kd hkd
        unfold mX8_load_168 mX8_load_212
        rw [e1, e2, e3, e4, e5, if_pos (inb_n (by omega) (by decide)), if_pos (inb_n (by omega) (by decide)), if_pos (inb_n (by omega) (by decide)), if_pos (inb_n (by omega) (by decide)), if_pos (inb_n (by omega) (by decide)), nI_clamp (by omega), nI_clamp (by omega), nI_clamp (by omega), nI_clamp (by omega), nI_clamp (by omega), w1, w2, w3, w4, w5]
        refine R1.bm (q_adM r (hlt w) (tq_at al j).2 hkd) ?_
        rintro b M2 ⟨_, r2, k2, k3⟩
        refine step M2 ?_ ⟨(k2 21 (by decide)).trans hI.1, by rw [show M2.2.1 29 = M.2.1 29 from k3 29 (by decide)]; exact hI.2⟩ ((k2 0 (by decide)).trans h0)
        have ed : q_do a (tq_at al j) = aAd a (tq_at al j).2 := by unfold q_do; rw [if_pos w]
        rw [ed]
        exact r2
      rw [if_neg (show ¬ nI (tq_at al j).1 = (110 : Int32) from tq_z (k := 110) (by omega) (by decide) (by omega)), if_neg (show ¬ nI (tq_at al j).1 = (102 : Int32) from tq_z (k := 102) (by omega) (by decide) (by omega))]
      by_cases q : (tq_at al j).1 = 115
      · rw [if_pos (show nI (tq_at al j).1 = (115 : Int32) from congrArg nI q)]
        refine ad 1 ?_
        show (1 : Int32) = if (tq_at al j).2.2.1 = 0 then (0 : Int32) else 1
        rw [if_neg (by unfold tq_iv tq_iv6 at iv; omega)]
      · rw [if_neg (show ¬ nI (tq_at al j).1 = (115 : Int32) from tq_z (by omega) (by decide) q)]
        refine ad 0 ?_
        show (0 : Int32) = if (tq_at al j).2.2.1 = 0 then (0 : Int32) else 1
        rw [if_pos (by unfold tq_iv tq_iv6 at iv; omega)]
    · have hn2 := of_decide_eq_false w
      have hq : (tq_at al j).2.1 < 8 ∧ 1 ≤ (tq_at al j).2.2.1 ∧ (tq_at al j).2.2.1 ≤ 8 ∧ ((tq_at al j).1 = 110 ∨ (tq_at al j).1 = 102) := by
        unfold tq_iv tq_iv6 at iv
        omega
      have eo : M.2.1 29 (6 * j + 2) = nI ((tq_at al j).2.2.1 - 1) := by
        rw [w2, ← oI_s, Nat.sub_add_cancel hq.2.1]
      have sw : ∀ e, e < 2 → (if (tq_at al j).1 = 110 then 0 else 1) = e → R1 (mX8_load_129 n (mX8_load_77 n k) M (nI j) (nI (6 * j)) (nI e)) (fun z => z.1 = nI al.length ∧ RM ((q_ld a (al.drop j)).1, aW (q_ld a (al.drop j)), aF (q_ld a (al.drop j)), aR (q_ld a (al.drop j)), []) z.2 ∧ z.2.1 0 = 0) := by
        intro e he hee
        unfold mX8_load_129 mX8_load_212
        rw [e1, e2, if_pos (inb_n (by omega) (by decide)), if_pos (inb_n (by omega) (by decide)), nI_clamp (by omega), nI_clamp (by omega), w1, eo]
        refine R1.bn (q_swM r he hq.1 (by omega)) ?_
        rintro M2 ⟨r2, k2, k3⟩
        refine step M2 ?_ ⟨by rw [k2]; exact hI.1, by rw [k3 29 (by decide)]; exact hI.2⟩ (by rw [k2]; exact h0)
        have ed : q_do a (tq_at al j) = aSw a (8 * e + (tq_at al j).2.1) (8 * e + ((tq_at al j).2.2.1 - 1)) := by
          unfold q_do
          rw [if_neg (by rw [w]; decide), hee]
        rw [ed]
        exact r2
      have l112 : R1 (mX8_load_112 n (mX8_load_77 n k) M (nI j) (nI (6 * j))) (fun z => z.1 = nI al.length ∧ RM ((q_ld a (al.drop j)).1, aW (q_ld a (al.drop j)), aF (q_ld a (al.drop j)), aR (q_ld a (al.drop j)), []) z.2 ∧ z.2.1 0 = 0) := by
        unfold mX8_load_112
        rw [if_pos (inb_n (by omega) (by decide)), nI_clamp (by omega), w0]
        by_cases q : (tq_at al j).1 = 110
        · rw [if_pos (show nI (tq_at al j).1 = (110 : Int32) from congrArg nI q)]
          exact sw 0 (by decide) (if_pos q)
        · rw [if_neg (show ¬ nI (tq_at al j).1 = (110 : Int32) from tq_z (by omega) (by decide) q)]
          exact sw 1 (by decide) (if_neg q)
      by_cases q : (tq_at al j).1 = 110
      · rw [if_pos (show nI (tq_at al j).1 = (110 : Int32) from congrArg nI q)]
        exact l112
      · rw [if_neg (show ¬ nI (tq_at al j).1 = (110 : Int32) from tq_z (by omega) (by decide) q), if_pos (show nI (tq_at al j).1 = (102 : Int32) from congrArg nI (show (tq_at al j).1 = 102 by omega))]
        exact l112
def aCl (a : AS) : AS := (a.1, aW a, aF a, aR a, [])
theorem q_clV {a : AS} (v : Va a) : Va (aCl a) := by
  obtain ⟨v1, v2, v3, v4, v5, v6, v7, v8, v9, v10, v11, v12, v13, v14, v15⟩ := v
  exact ⟨v1, v2, v3, v4, v5, v6, v7, v8, v9, v10, v11, v12, v13, Nat.zero_le _, fun c hc => absurd hc List.not_mem_nil⟩
theorem q_clC {a : AS} {S : CS} (r : RC a S) : RC (aCl a) (sF S 10 0) := by
  obtain ⟨r0, r1, r2, r3, r4, r5, r6, r7, r8, r9, r10⟩ := r
  exact ⟨(sF_n S _ (by decide)).trans r0, (sF_n S _ (by decide)).trans r1, (sF_n S _ (by decide)).trans r2, (sF_n S _ (by decide)).trans r3, r4, r5, r6, (sF_n S _ (by decide)).trans r7, r8, sF_s S _ _, fun i hi => absurd hi (Nat.not_lt_zero i)⟩
