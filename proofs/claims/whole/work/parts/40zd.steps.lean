/-! one call on both sides: the same answer, or both refuse -/
def Rel (S : CS) (M : MS) : Prop := ∃ a, Va a ∧ RC a S ∧ RM a M
def Sq7 (cd : Nat → Int32) (ok : Nat → Prop) (rs : Except Nat Int32 × CS) (z : Int32 × MS) : Prop := match rs with
  | (.ok v, S1) => z.2.1 0 = 0 ∧ v = z.1 ∧ Rel S1 z.2
  | (.error k, S1) => ok k ∧ z.2.1 0 = cd k ∧ ¬ cd k = 0 ∧ Rel S1 z.2
def Sqp (x : Option (Except Nat Int32 × CS)) (y : Option (Int32 × MS)) (cd : Nat → Int32) (ok : Nat → Prop) : Prop := ∃ rs z, x = some rs ∧ y = some z ∧ Sq7 cd ok rs z
theorem Rel.s0 {S : CS} {M : MS} (h : Rel S M) (t : Int32) : Rel S (sG M 0 t) := by
  obtain ⟨a, v, r, m⟩ := h
  exact ⟨a, v, r, q_s0 m t⟩
theorem Sqp.er {cd : Nat → Int32} {ok : Nat → Prop} {x : Option (Except Nat Int32 × CS)} {y : Option (Int32 × MS)} {S : CS} {M : MS} {k : Nat} {t : Int32} (h : Rel S M) (hx : x = some (.error k, S)) (hy : y = some (0, sG M 0 t)) (hk : ok k) (hc : cd k = t) (h0 : ¬ t = 0) : Sqp x y cd ok := ⟨_, _, hx, hy, hk, by rw [hc]; exact sG_s _ _ _, by rw [hc]; exact h0, h.s0 t⟩
theorem Sqp.ok {cd : Nat → Int32} {ok : Nat → Prop} {x : Option (Except Nat Int32 × CS)} {y : Option (Int32 × MS)} {S : CS} {M : MS} {a : AS} {w : Int32} (hx : x = some (.ok w, S)) (hy : y = some (w, M)) (h0 : M.1 0 = 0) (v : Va a) (r : RC a S) (m : RM a M) : Sqp x y cd ok := ⟨_, _, hx, hy, h0, rfl, a, v, r, m⟩
theorem bt_eq {α β : Type} {x : Option (Except Nat α × CS)} {a : α} {S : CS} {g : α → CS → Option (Except Nat β × CS)} (h : x = some (.ok a, S)) : bt x g = g a S := by rw [h]; rfl
theorem bt_er {α β : Type} {x : Option (Except Nat α × CS)} {e : Nat} {S : CS} {g : α → CS → Option (Except Nat β × CS)} (h : x = some (.error e, S)) : bt x g = some (.error e, S) := by rw [h]; rfl
theorem sq_in {lo hi : Nat} (x : Int32) (hl : lo < 2 ^ 31) (hh : hi < 2 ^ 31) : (∃ j, lo ≤ j ∧ j ≤ hi ∧ x = nI j) ∨ (x < nI lo ∨ nI hi < x) := by
  by_cases c : x < nI lo
  · exact Or.inr (Or.inl c)
  · by_cases c2 : nI hi < x
    · exact Or.inr (Or.inr c2)
    · left
      have h1 := fa_of_nlt c
      have h2 := fa_of_nlt c2
      rw [fa_le, nI_toInt hl] at h1
      rw [fa_le, nI_toInt hh] at h2
      refine ⟨x.toInt.toNat, by omega, by omega, ?_⟩
      rw [fa_eq, nI_toInt (by omega)]
      omega
theorem sq_rgY (S : CS) {j lo hi : Nat} (h1 : lo ≤ j) (h2 : j ≤ hi) (hh : hi < 2 ^ 31) : mX7_needRange S (nI j) (nI lo) (nI hi) = some (.ok (), S) := by
  unfold mX7_needRange
  rw [if_neg (nI_nlt h1 (by omega)), if_pos (nI_le h2 hh)]
theorem sq_rgN (S : CS) {x : Int32} {lo hi : Nat} (h : x < nI lo ∨ nI hi < x) : mX7_needRange S x (nI lo) (nI hi) = some (.error 1, S) := by
  unfold mX7_needRange
  by_cases c : x < nI lo
  · rw [if_pos c]
  · rw [if_neg c, if_neg (fa_of_lt (h.resolve_left c)).2.1]
theorem sq_wiY {j lo hi : Nat} (h1 : lo ≤ j) (h2 : j ≤ hi) (hh : hi < 2 ^ 31) : mX8_within (nI j) (nI lo) (nI hi) = some 1 := by
  unfold mX8_within
  rw [if_neg (nI_nlt h1 (by omega)), if_neg (nI_nlt h2 hh)]
theorem sq_wiN {x : Int32} {lo hi : Nat} (h : x < nI lo ∨ nI hi < x) : mX8_within x (nI lo) (nI hi) = some 0 := by
  unfold mX8_within
  by_cases c : x < nI lo
  · rw [if_pos c]
  · rw [if_neg c, if_pos (h.resolve_left c)]
theorem sq_ix (x : Int32) {m : Nat} (hm : m < 2 ^ 31) : (∃ j, j < m ∧ x = nI j) ∨ (x < 0 ∨ nI m ≤ x) := by
  rcases pk_ix x hm with h | h | h
  · exact Or.inr (Or.inl h)
  · exact Or.inr (Or.inr h)
  · exact Or.inl h
theorem sq_ixY (S : CS) {j m : Nat} (h : j < m) (hm : m < 2 ^ 31) : mX7_needIndex S (nI j) (nI m) = some (.ok (), S) := by
  unfold mX7_needIndex
  rw [if_neg (nI_pos (by omega)), if_pos (nI_lt h hm)]
theorem sq_ixN (S : CS) {x : Int32} {m : Nat} (h : x < 0 ∨ nI m ≤ x) : mX7_needIndex S x (nI m) = some (.error 2, S) := by
  unfold mX7_needIndex
  by_cases c : x < 0
  · rw [if_pos c]
  · rw [if_neg c, if_neg (fun q => (fa_of_lt q).2.1 (h.resolve_left c))]
theorem sq_ge {x : Int32} {m : Nat} (hm : m + 1 < 2 ^ 31) (h : x < 0 ∨ nI (m + 1) ≤ x) : x < nI 0 ∨ nI m < x := by
  rcases h with h | h
  · exact Or.inl h
  · right
    rw [fa_le, nI_toInt hm] at h
    rw [fa_lt, nI_toInt (by omega)]
    omega
theorem sq_enY (S : CS) {j : Nat} (h : j < 2) : mX7_needEnd S (nI j) = some (.ok (), S) := by
  unfold mX7_needEnd
  exact bt_eq (sq_rgY S (lo := 0) (hi := 1) (Nat.zero_le _) (by omega) (by decide))
theorem sq_enN (S : CS) {x : Int32} (h : x < 0 ∨ nI 2 ≤ x) : mX7_needEnd S x = some (.error 1, S) := by
  unfold mX7_needEnd
  exact bt_er (sq_rgN S (lo := 0) (hi := 1) (sq_ge (by decide) h))
theorem sq_bzY {x : Option Int32} (h : x = some 1) : (bn x fun r1 => if bz r1 then some r1 else none) = some 1 := by
  rw [bn_eq h, if_pos bz_1]
theorem sq_bzN {x : Option Int32} (h : x = some 0) : (bn x fun r1 => if bz r1 then some r1 else none) = some 0 := by
  rw [bn_eq h, if_pos bz_0]
theorem sq_wrY {j : Nat} (h : j < 8) : mX8_isWire (nI j) = some 1 := sq_bzY (sq_wiY (lo := 0) (hi := 7) (Nat.zero_le _) (by omega) (by decide))
theorem sq_wrN {x : Int32} (h : x < 0 ∨ nI 8 ≤ x) : mX8_isWire x = some 0 := sq_bzN (sq_wiN (lo := 0) (hi := 7) (sq_ge (by decide) h))
theorem sq_ieY {j : Nat} (h : j < 2) : mX8_isEnd (nI j) = some 1 := sq_bzY (sq_wiY (lo := 0) (hi := 1) (Nat.zero_le _) (by omega) (by decide))
theorem sq_ieN {x : Int32} (h : x < 0 ∨ nI 2 ≤ x) : mX8_isEnd x = some 0 := sq_bzN (sq_wiN (lo := 0) (hi := 1) (sq_ge (by decide) h))
theorem sq_ipY {j : Nat} (h : j < 4) : mX8_isPair (nI j) = some 1 := sq_bzY (sq_wiY (lo := 0) (hi := 3) (Nat.zero_le _) (by omega) (by decide))
theorem sq_ipN {x : Int32} (h : x < 0 ∨ nI 4 ≤ x) : mX8_isPair x = some 0 := sq_bzN (sq_wiN (lo := 0) (hi := 3) (sq_ge (by decide) h))
/-- below a size, as the reference says it -/
theorem sq_wmY {j m : Nat} (h : j < m) (hm : m < 2 ^ 31) : mX8_within (nI j) (0 : Int32) (nI m - 1) = some 1 := by
  obtain ⟨k, rfl⟩ : ∃ k, m = k + 1 := ⟨m - 1, by omega⟩
  rw [nI_pred]
  exact sq_wiY (lo := 0) (Nat.zero_le _) (by omega) (by omega)
theorem sq_wmN {x : Int32} {m : Nat} (hm : m < 2 ^ 30) (h : x < 0 ∨ nI m ≤ x) : mX8_within x (0 : Int32) (nI m - 1) = some 0 := by
  unfold mX8_within
  by_cases c : x < 0
  · rw [if_pos c]
  · rw [if_neg c, if_pos]
    have h2 := h.resolve_left c
    rw [fa_le, nI_toInt (by omega)] at h2
    have e : (nI m - (1 : Int32)).toInt = (m : Int) - 1 := pk_sub_toInt (a := m) (b := 1) hm (by decide)
    rw [fa_lt, e]
    omega
theorem sq_one {M : MS} {t : Int32} : (sG M 0 t).1 0 = t := sG_s M 0 t
/-! begin, exchange, plug -/
theorem sq_begin {S : CS} {M : MS} (h : Rel S M) {n : Nat} (hn : 88 < n) (x1 x2 : Int32) : Sqp (mX7_begin n S x1 x2) (mX8_begin n M x1 x2) cdL_begin (fun e => e = 1) := by
  have hh := h
  obtain ⟨a, v, r, m⟩ := h
  have er : mX8_begin_27 n M x1 x2 = some (0, sG M 0 1) := by
    unfold mX8_begin_27 mX8_begin_28
    rw [sG_s, if_neg (by decide)]
  rcases sq_in (lo := 2) (hi := 999) x1 (by decide) (by decide) with ⟨L, l1, l2, rfl⟩ | c1
  · have w1 : mX8_within (nI L) (2 : Int32) (999 : Int32) = some 1 := sq_wiY l1 l2 (by decide)
    have g1 : mX7_needRange S (nI L) (2 : Int32) (999 : Int32) = some (.ok (), S) := sq_rgY S l1 l2 (by decide)
    rcases sq_in (lo := 50) (hi := 99) x2 (by decide) (by decide) with ⟨V, v1, v2, rfl⟩ | c2
    · have w2 : mX8_within (nI V) (50 : Int32) (99 : Int32) = some 1 := sq_wiY v1 v2 (by decide)
      have g2 : mX7_needRange S (nI V) (50 : Int32) (99 : Int32) = some (.ok (), S) := sq_rgY S v1 v2 (by decide)
      obtain ⟨S', eS, rS⟩ := q_bgC r v (n := n) (by omega) L V
      obtain ⟨S9, e9, e12⟩ := bo eS
      obtain ⟨M', eM, rM, k0⟩ := q_bgM (q_s0 m 0) (n := n) (by omega) L V
      refine Sqp.ok (w := nI (aL a)) ?_ ?_ (k0.trans sq_one) (q_bgV v l1 l2 v1 v2) rS rM
      · unfold mX7_begin
        rw [bt_eq g1, bt_eq g2, bn_eq e9, bn_eq e12, r.1]
      · unfold mX8_begin
        rw [bn_eq w1, if_neg (by decide), bn_eq w2, if_neg (by decide)]
        unfold mX8_begin_28
        rw [sG_s, if_pos (by decide), bn_eq eM, (q_s0 m 0).1]
    · have w2 : mX8_within x2 (50 : Int32) (99 : Int32) = some 0 := sq_wiN c2
      have g2 : mX7_needRange S x2 (50 : Int32) (99 : Int32) = some (.error 1, S) := sq_rgN S c2
      refine Sqp.er hh (k := 1) (t := 1) ?_ ?_ rfl rfl (by decide)
      · unfold mX7_begin
        rw [bt_eq g1, bt_er g2]
      · unfold mX8_begin
        rw [bn_eq w1, if_neg (by decide), bn_eq w2, if_pos rfl, er]
  · have w1 : mX8_within x1 (2 : Int32) (999 : Int32) = some 0 := sq_wiN c1
    have g1 : mX7_needRange S x1 (2 : Int32) (999 : Int32) = some (.error 1, S) := sq_rgN S c1
    refine Sqp.er hh (k := 1) (t := 1) ?_ ?_ rfl rfl (by decide)
    · unfold mX7_begin
      rw [bt_er g1]
    · unfold mX8_begin
      rw [bn_eq w1, if_pos rfl, er]
theorem sq_exchange {S : CS} {M : MS} (h : Rel S M) (x1 x2 x3 : Int32) : Sqp (mX7_exchange S x1 x2 x3) (mX8_exchange M x1 x2 x3) cdL_exchange (fun e => e = 1 ∨ e = 2) := by
  have hh := h
  obtain ⟨a, v, r, m⟩ := h
  have er1 : mX8_exchange_13 M x1 x2 x3 = some (0, sG M 0 1) := by
    unfold mX8_exchange_13 mX8_exchange_36
    rw [sG_s, if_neg (by decide)]
  have er2 : mX8_exchange_35 M x1 x2 x3 = some (0, sG M 0 2) := by
    unfold mX8_exchange_35 mX8_exchange_36
    rw [sG_s, if_neg (by decide)]
  unfold mX7_exchange mX8_exchange
  rcases sq_ix x1 (m := 2) (by decide) with ⟨e, he, rfl⟩ | c1
  · rw [bt_eq (sq_enY S he), bn_eq (sq_ieY he), if_neg (show ¬ (1 : Int32) = 0 by decide)]
    by_cases cd : x2 = x3
    · refine Sqp.er hh (k := 1) (t := 1) ?_ ?_ (Or.inl rfl) rfl (by decide)
      · exact bt_er (by unfold mX7_needDifferent; rw [if_pos cd])
      · rw [if_pos cd, er1]
    · rw [bt_eq (show mX7_needDifferent S x2 x3 = some (.ok (), S) by unfold mX7_needDifferent; rw [if_neg cd]), if_neg cd]
      rcases sq_ix x2 (m := 8) (by decide) with ⟨p, hp, rfl⟩ | c2
      · rw [bt_eq (show mX7_needIndex S (nI p) (8 : Int32) = _ from sq_ixY S hp (by decide)), bn_eq (sq_wrY hp), if_neg (show ¬ (1 : Int32) = 0 by decide)]
        rcases sq_ix x3 (m := 8) (by decide) with ⟨q, hq, rfl⟩ | c3
        · rw [bt_eq (show mX7_needIndex S (nI q) (8 : Int32) = _ from sq_ixY S hq (by decide)), bn_eq (sq_wrY hq), if_neg (show ¬ (1 : Int32) = 0 by decide)]
          obtain ⟨S', eS, rS, _⟩ := q_swC r he hp hq
          obtain ⟨M', eM, rM, k1, k2⟩ := q_swM (q_s0 m 0) he hp hq
          have e8 : ((8 : Int32) * nI e) + nI p = nI (8 * e + p) := by rw [show (8 : Int32) = nI 8 from rfl, pk_mul, nI_add]
          refine Sqp.ok (w := nI (aW (aSw a (8 * e + p) (8 * e + q)) (8 * e + p))) ?_ ?_ (by rw [k1]; exact sq_one) (q_swV v he hp hq) rS rM
          · rw [bn_eq eS, bn_eq (q_wireAt rS he hp)]
          · unfold mX8_exchange_36
            rw [sG_s, if_pos (by decide), bn_eq eM, e8, if_pos (inb_n (by omega) (by decide)), nI_clamp (by omega), rM.2.2.2.2.1 _ (by omega)]
        · rw [bt_er (show mX7_needIndex S x3 (8 : Int32) = _ from sq_ixN S c3), bn_eq (sq_wrN c3), if_pos rfl]
          exact Sqp.er hh rfl er2 (Or.inr rfl) rfl (by decide)
      · rw [bt_er (show mX7_needIndex S x2 (8 : Int32) = _ from sq_ixN S c2), bn_eq (sq_wrN c2), if_pos rfl]
        exact Sqp.er hh rfl er2 (Or.inr rfl) rfl (by decide)
  · rw [bt_er (sq_enN S c1), bn_eq (sq_ieN c1), if_pos rfl]
    exact Sqp.er hh rfl er1 (Or.inl rfl) rfl (by decide)
def aUn (a : AS) (u : Nat) : AS := ((aL a, aV a, u, aT a), a.2)
theorem sq_plug {S : CS} {M : MS} (h : Rel S M) (x1 : Int32) : Sqp (mX7_plug S x1) (mX8_plug M x1) cdL_plug (fun e => e = 1) := by
  have hh := h
  obtain ⟨a, v, r, m⟩ := h
  unfold mX7_plug mX8_plug mX8_plug_16
  rcases sq_in (lo := 0) (hi := 99) x1 (by decide) (by decide) with ⟨u, l1, l2, rfl⟩ | c1
  · rw [bt_eq (show mX7_needRange S (nI u) (0 : Int32) (99 : Int32) = _ from sq_rgY S l1 l2 (by decide)), bn_eq (show mX8_within (nI u) (0 : Int32) (99 : Int32) = _ from sq_wiY l1 l2 (by decide)), if_neg (show ¬ (1 : Int32) = 0 by decide), sG_s, if_pos (show (0 : Int32) ≤ 0 by decide)]
    obtain ⟨v1, v2, v3, v4, v5, v6, v7, v8, v9, v10, v11, v12, v13, v14, v15⟩ := v
    refine Sqp.ok (a := aUn a u) (w := nI (aU a)) (by rw [r.2.2.1]) (by rw [(q_s0 m 0).2.2.1]) ((sG_n _ _ (by decide)).trans sq_one) ⟨v1, v2, v3, v4, l2, v6, v7, v8, v9, v10, v11, v12, v13, v14, v15⟩ ?_ ?_
    · obtain ⟨r0, r1, r2, r3, r4, r5, r6, r7, r8, r9, r10⟩ := r
      exact ⟨(sF_n _ _ (by decide)).trans r0, (sF_n _ _ (by decide)).trans r1, sF_s _ _ _, (sF_n _ _ (by decide)).trans r3, r4, r5, r6, (sF_n _ _ (by decide)).trans r7, r8, (sF_n _ _ (by decide)).trans r9, r10⟩
    · obtain ⟨r0, r1, r2, r3, r4, r5, r6, r7, r8, r9, r10⟩ := q_s0 m 0
      exact ⟨(sG_n _ _ (by decide)).trans r0, (sG_n _ _ (by decide)).trans r1, sG_s _ _ _, (sG_n _ _ (by decide)).trans r3, r4, (sG_n _ _ (by decide)).trans r5, r6, (sG_n _ _ (by decide)).trans r7, r8, (sG_n _ _ (by decide)).trans r9, r10⟩
  · rw [bt_er (show mX7_needRange S x1 (0 : Int32) (99 : Int32) = _ from sq_rgN S c1), bn_eq (show mX8_within x1 (0 : Int32) (99 : Int32) = _ from sq_wiN c1), if_pos rfl, sG_s, if_neg (show ¬ (1 : Int32) ≤ 0 by decide)]
    exact Sqp.er hh rfl rfl rfl rfl (by decide)
/-! faults -/
theorem sq_time {a : AS} {S : CS} {M : MS} (v : Va a) (r : RC a S) (m : RM a M) (x2 x3 x4 : Int32) : (∃ p pe d, x2 = nI p ∧ x3 = nI pe ∧ x4 = nI d ∧ 1 ≤ p ∧ p < aL a ∧ 1 ≤ pe ∧ pe ≤ 32 ∧ 1 ≤ d ∧ d ≤ pe ∧ mX7_needFaultRanges S x2 x3 x4 = some (.ok (), S) ∧ mX8_isTime M x2 x3 x4 = some 1) ∨ (mX7_needFaultRanges S x2 x3 x4 = some (.error 1, S) ∧ mX8_isTime M x2 x3 x4 = some 0) := by
  have hL1 : 2 ≤ aL a := v.1
  have hL2 : aL a ≤ 999 := v.2.1
  have eL : nI (aL a) - (1 : Int32) = nI (aL a - 1) := pk_sub (a := aL a) (b := 1) (by omega)
  unfold mX7_needFaultRanges mX8_isTime
  rw [r.1, m.1, eL]
  rcases sq_in (lo := 1) (hi := aL a - 1) x2 (by decide) (by omega) with ⟨p, p1, p2, rfl⟩ | c2
  · rw [bt_eq (show mX7_needRange S (nI p) (1 : Int32) (nI (aL a - 1)) = _ from sq_rgY S p1 p2 (by omega)), bn_eq (show mX8_within (nI p) (1 : Int32) (nI (aL a - 1)) = _ from sq_wiY p1 p2 (by omega)), if_neg (show ¬ (1 : Int32) = 0 by decide)]
    rcases sq_in (lo := 1) (hi := 32) x3 (by decide) (by decide) with ⟨pe, e1, e2, rfl⟩ | c3
    · rw [bt_eq (show mX7_needRange S (nI pe) (1 : Int32) (32 : Int32) = _ from sq_rgY S e1 e2 (by decide)), bn_eq (show mX8_within (nI pe) (1 : Int32) (32 : Int32) = _ from sq_wiY e1 e2 (by decide)), if_neg (show ¬ (1 : Int32) = 0 by decide)]
      rcases sq_in (lo := 1) (hi := pe) x4 (by decide) (by omega) with ⟨d, d1, d2, rfl⟩ | c4
      · rw [bt_eq (show mX7_needRange S (nI d) (1 : Int32) (nI pe) = _ from sq_rgY S d1 d2 (by omega)), bn_eq (show mX8_within (nI d) (1 : Int32) (nI pe) = _ from sq_wiY d1 d2 (by omega)), if_neg (show ¬ (1 : Int32) = 0 by decide)]
        exact Or.inl ⟨p, pe, d, rfl, rfl, rfl, p1, by omega, e1, e2, d1, d2, rfl, rfl⟩
      · rw [bt_er (show mX7_needRange S x4 (1 : Int32) (nI pe) = _ from sq_rgN S c4), bn_eq (show mX8_within x4 (1 : Int32) (nI pe) = _ from sq_wiN c4), if_pos rfl]
        exact Or.inr ⟨rfl, rfl⟩
    · rw [bt_er (show mX7_needRange S x3 (1 : Int32) (32 : Int32) = _ from sq_rgN S c3), bn_eq (show mX8_within x3 (1 : Int32) (32 : Int32) = _ from sq_wiN c3), if_pos rfl]
      exact Or.inr ⟨rfl, rfl⟩
  · rw [bt_er (show mX7_needRange S x2 (1 : Int32) (nI (aL a - 1)) = _ from sq_rgN S c2), bn_eq (show mX8_within x2 (1 : Int32) (nI (aL a - 1)) = _ from sq_wiN c2), if_pos rfl]
    exact Or.inr ⟨rfl, rfl⟩
/-- a fault is added on both sides, or both refuse -/
def Sqa (x : Option (Except Nat Unit × CS)) (w : Nat → Int32) (y : Option (Int32 × MS)) (cd : Nat → Int32) (ok : Nat → Prop) : Prop := (∃ z : CS × MS, x = some (.ok (), z.1) ∧ (z.1.2.2.2.1.length < 10 ∧ (z.1.2.2.2.2 = none → z.1.2.2.2.1 = [])) ∧ y = some (nI z.1.2.2.2.1.length, z.2) ∧ z.2.1 0 = 0 ∧ ∀ f b, Rel (addF z.1 (f, w) b) z.2) ∨ ∃ (k : Nat) (z : CS × MS), x = some (.error k, z.1) ∧ y = some (0, z.2) ∧ ok k ∧ z.2.1 0 = cd k ∧ ¬ cd k = 0 ∧ Rel z.1 z.2
theorem Sqa.er {x : Option (Except Nat Unit × CS)} {w : Nat → Int32} {y : Option (Int32 × MS)} {cd : Nat → Int32} {ok : Nat → Prop} {S : CS} {M : MS} {k : Nat} {t : Int32} (h : Rel S M) (hx : x = some (.error k, S)) (hy : y = some (0, sG M 0 t)) (hk : ok k) (hc : cd k = t) (h0 : ¬ t = 0) : Sqa x w y cd ok := Or.inr ⟨k, (S, sG M 0 t), hx, hy, hk, by rw [hc]; exact sq_one, by rw [hc]; exact h0, h.s0 t⟩
theorem sq_add {a : AS} {S : CS} {M : MS} (v : Va a) (r : RC a S) (m : RM a M) {kd : Int32} {y : Ft} (hk : kd = dI6 y 0) (hy : q_ok (aL a) y) {cd : Nat → Int32} {ok : Nat → Prop} {X : Option (Except Nat Unit × CS)} {Y : Option (Int32 × MS)} (h3 : ok 3) (hcd : cd 3 = 3) (eX : X = bt (mX7_needRoomForFault S) fun _ S9 => some (.ok (), S9)) (eY : Y = if M.1 7 = (10 : Int32) then some (0, sG M 0 3) else bm (mX8_add (sG M 0 0) kd (nI y.1) (oI y.2.1) (nI y.2.2.1) (nI y.2.2.2.1) (nI y.2.2.2.2)) fun r9 M11 => some (r9, M11)) : Sqa X (fld5 (nI y.1) (oI y.2.1) (nI y.2.2.1) (nI y.2.2.2.1) (nI y.2.2.2.2)) Y cd ok := by
  have h10 := q_F10 v
  rw [eX, eY, m.2.2.2.2.2.1]
  unfold mX7_needRoomForFault
  rw [bn_eq (q_size r)]
  by_cases c : (aF a).length = 10
  · rw [if_pos (show nI (aF a).length = (10 : Int32) from congrArg nI c), if_neg (show ¬ nI (aF a).length < (10 : Int32) from nI_nlt (b := 10) (by omega) (by omega))]
    exact Sqa.er ⟨a, v, r, m⟩ rfl rfl h3 hcd (by decide)
  · rw [if_neg (show ¬ nI (aF a).length = (10 : Int32) from tq_z (by omega) (by decide) c), if_pos (show nI (aF a).length < (10 : Int32) from nI_lt (b := 10) (by omega) (by decide))]
    obtain ⟨⟨b, M'⟩, eM, hb, rM, k1, _⟩ := q_adM (q_s0 m 0) (by omega) y hk
    have hb : b = nI (aF a).length := hb
    refine Or.inl ⟨(S, M'), rfl, ⟨by rw [q_len r]; omega, fun h => ?_⟩, ?_, (k1 0 (by decide)).trans sq_one, fun f b => ⟨aAd a y, q_adV v (by omega) hy, q_adC r y f b, rM⟩⟩
    · have := r.2.2.2.2.2.2.1 h
      have hl := q_len r
      rw [this] at hl
      exact List.length_eq_zero_iff.mp hl
    · rw [bm_eq eM, hb, q_len r]
theorem sq_cut {S : CS} {M : MS} (h : Rel S M) (x1 x2 x3 x4 : Int32) : Sqa (mX7_cut S x1 x2 x3 x4) (fld5 x1 (-1) x2 x3 x4) (mX8_cut M x1 x2 x3 x4) cdL_cut (fun e => e = 1 ∨ e = 2 ∨ e = 3) := by
  have hh := h
  obtain ⟨a, v, r, m⟩ := h
  have er : ∀ t : Int32, ¬ t ≤ 0 → mX8_cut_41 M x1 x2 x3 x4 t = some (0, sG M 0 t) := by
    intro t ht
    unfold mX8_cut_41
    rw [sG_s, if_neg ht]
  unfold mX7_cut mX8_cut
  rcases sq_ix x1 (m := 8) (by decide) with ⟨w, hw, rfl⟩ | c1
  · rw [bt_eq (show mX7_needIndex S (nI w) (8 : Int32) = _ from sq_ixY S hw (by decide)), bn_eq (sq_wrY hw), if_neg (show ¬ (1 : Int32) = 0 by decide)]
    rcases sq_time v r m x2 x3 x4 with ⟨p, pe, d, rfl, rfl, rfl, p1, p2, e1, e2, d1, d2, g, t⟩ | ⟨g, t⟩
    · rw [bt_eq g, bn_eq t, if_neg (show ¬ (1 : Int32) = 0 by decide)]
      have := sq_add v r m (kd := 0) (y := (w, 0, p, pe, d)) rfl ⟨hw, by show 0 < 9; omega, by show 0 ≠ w + 1; omega, p1, p2, e1, e2, d1, d2⟩ (cd := cdL_cut) (ok := fun e => e = 1 ∨ e = 2 ∨ e = 3) (Or.inr (Or.inr rfl)) rfl (X := bt (mX7_needRoomForFault S) fun _ S9 => some (.ok (), S9)) (Y := if M.1 7 = (10 : Int32) then mX8_cut_41 M (nI w) (nI p) (nI pe) (nI d) 3 else mX8_cut_41 M (nI w) (nI p) (nI pe) (nI d) 0) rfl (by
        rw [er 3 (by decide)]
        unfold mX8_cut_41
        rw [sG_s, if_pos (show (0 : Int32) ≤ 0 by decide), ← oI_0])
      rw [← oI_0]
      exact this
    · rw [bt_er g, bn_eq t, if_pos rfl]
      exact Sqa.er hh rfl (er 2 (by decide)) (Or.inl rfl) rfl (by decide)
  · rw [bt_er (show mX7_needIndex S x1 (8 : Int32) = _ from sq_ixN S c1), bn_eq (sq_wrN c1), if_pos rfl]
    exact Sqa.er hh rfl (er 1 (by decide)) (Or.inr (Or.inl rfl)) rfl (by decide)
theorem sq_connect {S : CS} {M : MS} (h : Rel S M) (x1 x2 x3 x4 x5 : Int32) : Sqa (mX7_connect S x1 x2 x3 x4 x5) (fld5 x1 x2 x3 x4 x5) (mX8_connect M x1 x2 x3 x4 x5) cdL_connect (fun e => e = 1 ∨ e = 2 ∨ e = 3) := by
  have hh := h
  obtain ⟨a, v, r, m⟩ := h
  have er : ∀ t : Int32, ¬ t ≤ 0 → mX8_connect_54 M x1 x2 x3 x4 x5 t = some (0, sG M 0 t) := by
    intro t ht
    unfold mX8_connect_54
    rw [sG_s, if_neg ht]
  unfold mX7_connect mX8_connect mX8_connect_15 mX8_connect_36
  rcases sq_ix x1 (m := 8) (by decide) with ⟨w, hw, rfl⟩ | c1
  · rw [bt_eq (show mX7_needIndex S (nI w) (8 : Int32) = _ from sq_ixY S hw (by decide)), bn_eq (sq_wrY hw), if_neg (show ¬ (1 : Int32) = 0 by decide)]
    rcases sq_ix x2 (m := 8) (by decide) with ⟨o, ho, rfl⟩ | c2
    · rw [bt_eq (show mX7_needIndex S (nI o) (8 : Int32) = _ from sq_ixY S ho (by decide)), bn_eq (sq_wrY ho), if_neg (show ¬ (1 : Int32) = 0 by decide)]
      by_cases cd : w = o
      · rw [bt_er (show mX7_needDifferent S (nI w) (nI o) = some (.error 1, S) by unfold mX7_needDifferent; rw [if_pos (congrArg nI cd)]), if_pos (congrArg nI cd)]
        exact Sqa.er hh rfl (er 2 (by decide)) (Or.inl rfl) rfl (by decide)
      · rw [bt_eq (show mX7_needDifferent S (nI w) (nI o) = some (.ok (), S) by unfold mX7_needDifferent; rw [if_neg (tq_z (by omega) (by omega) cd)]), if_neg (tq_z (by omega) (by omega) cd)]
        rcases sq_time v r m x3 x4 x5 with ⟨p, pe, d, rfl, rfl, rfl, p1, p2, e1, e2, d1, d2, g, t⟩ | ⟨g, t⟩
        · rw [bt_eq g, bn_eq t, if_neg (show ¬ (1 : Int32) = 0 by decide)]
          have := sq_add v r m (kd := 1) (y := (w, o + 1, p, pe, d)) rfl ⟨hw, by show o + 1 < 9; omega, by show o + 1 ≠ w + 1; omega, p1, p2, e1, e2, d1, d2⟩ (cd := cdL_connect) (ok := fun e => e = 1 ∨ e = 2 ∨ e = 3) (Or.inr (Or.inr rfl)) rfl (X := bt (mX7_needRoomForFault S) fun _ S9 => some (.ok (), S9)) (Y := if M.1 7 = (10 : Int32) then mX8_connect_54 M (nI w) (nI o) (nI p) (nI pe) (nI d) 3 else mX8_connect_54 M (nI w) (nI o) (nI p) (nI pe) (nI d) 0) rfl (by
            rw [er 3 (by decide)]
            unfold mX8_connect_54
            rw [sG_s, if_pos (show (0 : Int32) ≤ 0 by decide)]
            show _ = if M.1 7 = (10 : Int32) then _ else bm (mX8_add (sG M 0 0) 1 (nI w) (oI (o + 1)) (nI p) (nI pe) (nI d)) _
            rw [oI_s])
          have e5 : fld5 (nI w) (nI o) (nI p) (nI pe) (nI d) = fld5 (nI w) (oI (o + 1)) (nI p) (nI pe) (nI d) := by rw [oI_s]
          rw [e5]
          exact this
        · rw [bt_er g, bn_eq t, if_pos rfl]
          exact Sqa.er hh rfl (er 2 (by decide)) (Or.inl rfl) rfl (by decide)
    · rw [bt_er (show mX7_needIndex S x2 (8 : Int32) = _ from sq_ixN S c2), bn_eq (sq_wrN c2), if_pos rfl]
      exact Sqa.er hh rfl (er 1 (by decide)) (Or.inr (Or.inl rfl)) rfl (by decide)
  · rw [bt_er (show mX7_needIndex S x1 (8 : Int32) = _ from sq_ixN S c1), bn_eq (sq_wrN c1), if_pos rfl]
    exact Sqa.er hh rfl (er 1 (by decide)) (Or.inr (Or.inl rfl)) rfl (by decide)
theorem sq_repair {S : CS} {M : MS} (h : Rel S M) {n : Nat} (hn : 88 < n) (x1 : Int32) : Sqp (mX7_repair S x1) (mX8_repair n M x1) cdL_repair (fun e => e = 2) := by
  have hh := h
  obtain ⟨a, v, r, m⟩ := h
  have h10 := q_F10 v
  unfold mX7_repair mX8_repair
  rw [q_len r, m.2.2.2.2.2.1]
  rcases sq_ix x1 (m := (aF a).length) (by omega) with ⟨i, hi, rfl⟩ | c1
  · rw [bt_eq (sq_ixY S hi (by omega)), bn_eq (sq_wmY hi (by omega)), if_neg (show ¬ (1 : Int32) = 0 by decide)]
    unfold mX8_repair_20
    rw [sG_s, if_pos (show (0 : Int32) ≤ 0 by decide), (q_s0 m 0).2.2.2.2.2.1, show nI (aF a).length - (1 : Int32) = nI ((aF a).length - 1) from pk_sub (a := (aF a).length) (b := 1) (by omega)]
    obtain ⟨⟨b, M'⟩, eM, hb, rM, k0⟩ := q_rmM (q_s0 m 0) v hi (n := n) (by omega)
    have hb : b = nI ((aF a).length - 1) := hb
    have hm : ∃ z, S.2.2.2.2 = some z := by
      cases hz : S.2.2.2.2 with
      | none =>
        have h0 := r.2.2.2.2.2.2.1 hz
        rw [h0] at hi
        exact absurd hi (Nat.not_lt_zero i)
      | some z => exact ⟨z, rfl⟩
    obtain ⟨z, hz⟩ := hm
    refine Sqp.ok (a := aRm a i) (w := nI ((aF a).length - 1)) (S := remF S i z) ?_ (by rw [eM, hb]) (k0.trans sq_one) (q_rmV v i) (q_rmC r i z) rM
    rw [hz]
    show (if (nI i).toNatClampNeg < S.2.2.2.1.length ∧ nI i = nI (nI i).toNatClampNeg ∧ S.2.2.2.1.length ≤ 10 then some (Except.ok (nI (S.2.2.2.1.eraseIdx (nI i).toNatClampNeg).length), remF S (nI i).toNatClampNeg z) else none) = _
    rw [nI_clamp (by omega), if_pos ⟨by rw [q_len r]; exact hi, rfl, by rw [q_len r]; exact h10⟩, List.length_eraseIdx_of_lt (by rw [q_len r]; exact hi), q_len r]
  · rw [bt_er (sq_ixN S c1), bn_eq (sq_wmN (by omega) c1), if_pos rfl]
    unfold mX8_repair_20
    rw [sG_s, if_neg (show ¬ (1 : Int32) ≤ 0 by decide)]
    exact Sqp.er hh rfl rfl rfl rfl (by decide)
