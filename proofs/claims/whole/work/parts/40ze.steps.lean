/-! more calls -/
theorem Fm.s0 {M M' : MS} (h : Fm M M') : M'.1 0 = M.1 0 := by rw [h.1]
theorem sq_pass {S : CS} {M : MS} (h : Rel S M) {n : Nat} (hn : 100 < n) (x1 : Int32) : Sqp (mX7_pass n S x1) (mX8_pass n M x1) cdL_pass (fun e => e = 1 ∨ e = 3) := by
  have hh := h
  obtain ⟨a, v, r, m⟩ := h
  have ht := q_T v
  have er : ∀ t : Int32, ¬ t ≤ 0 → mX8_pass_31 n M x1 t = some (0, sG M 0 t) := by
    intro t ht
    unfold mX8_pass_31
    rw [sG_s, if_neg ht]
  unfold mX7_pass mX8_pass
  rcases sq_in (lo := 1) (hi := 100) x1 (by decide) (by decide) with ⟨t, t1, t2, rfl⟩ | c1
  · rw [bt_eq (show mX7_needRange S (nI t) (1 : Int32) (100 : Int32) = _ from sq_rgY S t1 t2 (by decide)), bn_eq (show mX8_within (nI t) (1 : Int32) (100 : Int32) = _ from sq_wiY t1 t2 (by decide)), if_neg (show ¬ (1 : Int32) = 0 by decide), r.2.2.2.1, m.2.2.2.1, nI_add, show (100000 : Int32) - nI t = nI (100000 - t) from pk_sub (a := 100000) (by omega)]
    by_cases c : aT a + t ≤ 100000
    · rw [if_pos (nI_le (by omega) (by omega)), if_pos (show nI (aT a + t) ≤ (100000 : Int32) from nI_le c (by decide))]
      obtain ⟨S7, e7, k7, m7⟩ := q_ms7 r v (n := n) (by omega)
      obtain ⟨rs, e37, S', rfl, rS⟩ := q_pass37 (k7.rc r) v (n := n) hn t2 c m7
      obtain ⟨⟨b, M'⟩, e45, hb, rM, k0⟩ := q_pass45 (q_s0 m 0) v (n := n) hn t2 c
      have hb : b = nI (aT a + t) := hb
      refine Sqp.ok (a := aPs a t) (w := nI (aT a + t)) (by rw [bn_eq e7]; exact e37) ?_ (k0.trans sq_one) (q_psV v t c) rS rM
      unfold mX8_pass_31
      rw [sG_s, if_pos (show (0 : Int32) ≤ 0 by decide), ← hb]
      exact e45
    · rw [if_neg (nI_ge (by omega) (by omega)), if_neg (show ¬ nI (aT a + t) ≤ (100000 : Int32) from nI_ge (a := 100000) (by omega) (by omega))]
      exact Sqp.er hh rfl (er 2 (by decide)) (Or.inr rfl) rfl (by decide)
  · rw [bt_er (show mX7_needRange S x1 (1 : Int32) (100 : Int32) = _ from sq_rgN S c1), bn_eq (show mX8_within x1 (1 : Int32) (100 : Int32) = _ from sq_wiN c1), if_pos rfl]
    exact Sqp.er hh rfl (er 1 (by decide)) (Or.inl rfl) rfl (by decide)
def aAp (a : AS) (c : Nat) : AS := (a.1, aW a, aF a, aR a, aX a ++ [c])
theorem q_apX (xs : List Nat) (c : Nat) {row : Nat → Int32} (h : ∀ i, i < xs.length → row i = nI (xs.getD i 0)) : ∀ i, i < (xs ++ [c]).length → upd row xs.length (nI c) i = nI ((xs ++ [c]).getD i 0) := by
  intro i hi
  rw [List.length_append] at hi
  rw [List.getD_eq_getElem?_getD]
  by_cases e : i = xs.length
  · rw [e, pk_us, List.getElem?_append_right (Nat.le_refl _), Nat.sub_self]; rfl
  · have hi2 : i < xs.length := by simp at hi; omega
    rw [pk_un e, h i hi2, List.getElem?_append_left hi2, List.getD_eq_getElem?_getD]
theorem sq_append {S : CS} {M : MS} (h : Rel S M) (x1 : Int32) : Sqp (mX7_append S x1) (mX8_append M x1) cdL_append (fun e => e = 1 ∨ e = 3) := by
  have hh := h
  obtain ⟨a, v, r, m⟩ := h
  have h50 : (aX a).length ≤ 50 := (tq_chV v).1
  have er : ∀ t : Int32, ¬ t ≤ 0 → mX8_append_30 M x1 t = some (0, sG M 0 t) := by
    intro t ht
    unfold mX8_append_30
    rw [sG_s, if_neg ht]
  unfold mX7_append mX8_append
  rcases sq_in (lo := 33) (hi := 126) x1 (by decide) (by decide) with ⟨c, c1, c2, rfl⟩ | c1
  · rw [bt_eq (show mX7_needRange S (nI c) (33 : Int32) (126 : Int32) = _ from sq_rgY S c1 c2 (by decide)), bn_eq (show mX8_within (nI c) (33 : Int32) (126 : Int32) = _ from sq_wiY c1 c2 (by decide)), if_neg (show ¬ (1 : Int32) = 0 by decide), (tq_txR r).1, (tq_tmR m).1]
    by_cases q : (aX a).length = 50
    · rw [if_neg (show ¬ nI (aX a).length < (50 : Int32) from nI_nlt (b := 50) (by omega) (by omega)), if_pos (show nI (aX a).length = (50 : Int32) from congrArg nI q)]
      exact Sqp.er hh rfl (er 2 (by decide)) (Or.inr rfl) rfl (by decide)
    · rw [if_pos (show nI (aX a).length < (50 : Int32) from nI_lt (b := 50) (by omega) (by decide)), if_neg (show ¬ nI (aX a).length = (50 : Int32) from tq_z (by omega) (by decide) q)]
      have eA : mX6_add S (nI c) = some (sF (sA S 21 (aX a).length (nI c)) 10 (nI ((aX a).length + 1))) := by
        unfold mX6_add
        have e10 : (sA S 21 (nI (aX a).length).toNatClampNeg (nI c)).1 10 = nI (aX a).length := (tq_txR r).1
        rw [(tq_txR r).1, if_neg (nI_pos (by omega)), if_neg (show ¬ (50 : Int32) ≤ nI (aX a).length from nI_ge (b := 50) (by omega) (by decide)), if_pos (inb_n (by omega) (by decide)), e10, nI_clamp (by omega), q_i1]
      have h0 : (sG M 0 0).1 10 = nI (aX a).length := (tq_tmR (q_s0 m 0)).1
      have h1 : (sB (sG M 0 0) 26 (aX a).length (nI c)).1 10 = nI (aX a).length := h0
      have eB : mX8_append_30 M (nI c) 0 = some (nI ((aX a).length + 1), sG (sB (sG M 0 0) 26 (aX a).length (nI c)) 10 (nI ((aX a).length + 1))) := by
        unfold mX8_append_30
        rw [show (sG M 0 0).1 0 = (0 : Int32) from sq_one, if_pos (show (0 : Int32) ≤ 0 by decide), h0, if_pos (inb_n (by omega) (by decide)), nI_clamp (by omega), h1, q_i1, sG_s]
      obtain ⟨v1, v2, v3, v4, v5, v6, v7, v8, v9, v10, v11, v12, v13, v14, v15⟩ := v
      refine Sqp.ok (a := aAp a c) (w := nI ((aX a).length + 1)) (by rw [bn_eq eA, sF_s]) eB (show (sG M 0 0).1 0 = 0 from sq_one) ⟨v1, v2, v3, v4, v5, v6, v7, v8, v9, v10, v11, v12, v13, ?_, ?_⟩ ?_ ?_
      · show (aX a ++ [c]).length ≤ 50
        rw [List.length_append]
        show (aX a).length + 1 ≤ 50
        omega
      · intro y hy
        rcases List.mem_append.mp hy with hy | hy
        · exact v15 y hy
        · rw [List.mem_singleton.mp hy]; exact ⟨c1, c2⟩
      · obtain ⟨r0, r1, r2, r3, r4, r5, r6, r7, r8, r9, r10⟩ := r
        refine ⟨(sF_n _ _ (by decide)).trans r0, (sF_n _ _ (by decide)).trans r1, (sF_n _ _ (by decide)).trans r2, (sF_n _ _ (by decide)).trans r3, ?_, r5, r6, (sF_n _ _ (by decide)).trans r7, r8, ?_, ?_⟩
        · show ∀ i, i < 16 → (sA S 21 _ _).2.1 2 i = _
          rw [sA_o _ _ _ (by decide)]; exact r4
        · rw [sF_s]
          show _ = nI (aX a ++ [c]).length
          rw [List.length_append]; rfl
        · show ∀ i, i < (aX a ++ [c]).length → (sA S 21 _ _).2.1 21 i = _
          rw [sA_r]
          exact q_apX _ _ r10
      · obtain ⟨r0, r1, r2, r3, r4, r5, r6, r7, r8, r9, r10⟩ := q_s0 m 0
        refine ⟨(sG_n _ _ (by decide)).trans r0, (sG_n _ _ (by decide)).trans r1, (sG_n _ _ (by decide)).trans r2, (sG_n _ _ (by decide)).trans r3, ?_, (sG_n _ _ (by decide)).trans r5, ?_, (sG_n _ _ (by decide)).trans r7, ?_, ?_, ?_⟩
        · show ∀ i, i < 16 → (sB (sG M 0 0) 26 _ _).2.1 23 i = _
          rw [sB_o _ _ _ (by decide)]; exact r4
        · show ∀ k x, (aF a)[k]? = some x → ∀ j, j < 6 → (sB (sG M 0 0) 26 _ _).2.1 24 (6 * k + j) = dI6 x j
          rw [sB_o _ _ _ (by decide)]; exact r6
        · show ∀ i, i < (aR a).length → (sB (sG M 0 0) 26 _ _).2.1 25 i = _
          rw [sB_o _ _ _ (by decide)]; exact r8
        · rw [sG_s]
          show _ = nI (aX a ++ [c]).length
          rw [List.length_append]; rfl
        · show ∀ i, i < (aX a ++ [c]).length → (sB (sG M 0 0) 26 _ _).2.1 26 i = _
          rw [sB_r]
          exact q_apX _ _ r10
  · rw [bt_er (show mX7_needRange S x1 (33 : Int32) (126 : Int32) = _ from sq_rgN S c1), bn_eq (show mX8_within x1 (33 : Int32) (126 : Int32) = _ from sq_wiN c1), if_pos rfl]
    exact Sqp.er hh rfl (er 1 (by decide)) (Or.inl rfl) rfl (by decide)
/-- a call that refuses nothing -/
def Sqq {α : Type} (x : Option (α × CS)) (y : Option (α × MS)) : Prop := ∃ w S1 M1, x = some (w, S1) ∧ y = some (w, M1) ∧ Rel S1 M1
theorem sq_clear {S : CS} {M : MS} (h : Rel S M) : Sqq (mX7_clearBuffer S) (mX8_clearBuffer M) := by
  obtain ⟨a, v, r, m⟩ := h
  have m0 := q_s0 m 0
  refine ⟨nI (aX a).length, sF S 10 0, sG (sG M 0 0) 10 0, ?_, ?_, aCl a, q_clV v, q_clC r, ?_⟩
  · unfold mX7_clearBuffer
    rw [(tq_txR r).1]
  · unfold mX8_clearBuffer
    rw [(tq_tmR m0).1]
  · obtain ⟨r0, r1, r2, r3, r4, r5, r6, r7, r8, r9, r10⟩ := m0
    exact ⟨(sG_n _ _ (by decide)).trans r0, (sG_n _ _ (by decide)).trans r1, (sG_n _ _ (by decide)).trans r2, (sG_n _ _ (by decide)).trans r3, r4, (sG_n _ _ (by decide)).trans r5, r6, (sG_n _ _ (by decide)).trans r7, r8, sG_s _ _ _, fun i hi => absurd hi (Nat.not_lt_zero i)⟩
theorem sq_firstError {S : CS} {M : MS} (h : Rel S M) {n : Nat} (hn : 88 < n) : Sqq (mX7_firstError n S) (mX8_firstError n M) := by
  obtain ⟨a, v, r, m⟩ := h
  have m0 := q_s0 m 0
  obtain ⟨⟨w, S'⟩, e7, k7, e, he, hw, _⟩ := tq_err7 (tq_txR r) (tq_chV v) (n := n) (by omega)
  obtain ⟨⟨w', M'⟩, e8, k8, e', he', hw', _⟩ := tq_err8 (tq_tmR m0) (tq_chV v) (n := n) (by omega)
  have hw : w = nI e := hw
  have hw' : w' = nI e' := hw'
  have k7 : Kr S S' := k7
  have k8 : Kt (sG M 0 0) M' := k8
  refine ⟨nI e, S', M', ?_, ?_, a, v, k7.ke.rc r, k8.1.rm m0⟩
  · unfold mX7_firstError
    rw [bm_eq e7, hw]
  · unfold mX8_firstError
    rw [bm_eq e8, hw', tq_er_one he he']
theorem sq_load {S : CS} {M : MS} (h : Rel S M) {n : Nat} (hn : 88 < n) : ∃ z, mX8_load n M = some z ∧ Ok (fun or => mX7_load 60 or S) (fun rs => Sq7 cdL_load (fun e => e = 1 ∨ e = 3) rs z) := by
  obtain ⟨a, v, r, m⟩ := h
  obtain ⟨z, ez, hz⟩ := q_loadM m v (n := n) (by omega)
  refine ⟨z, ez, ?_⟩
  intro or
  obtain ⟨rs, ers, hrs⟩ := q_loadC r v (n := 60) (by decide) or
  refine ⟨rs, ers, ?_⟩
  rcases hrs with ⟨al, S', hA, hf, rfl, rS, vS⟩ | ⟨S', hno, rfl, rS⟩ | ⟨al, S', hA, hnf, rfl, rS⟩
  · rcases hz with ⟨al', hA', hf', z1, z0, rM⟩ | ⟨hno, _⟩ | ⟨al', hA', hnf', _⟩
    · rw [tq_cp_one hA' hA] at z1 rM
      exact ⟨z0, z1.symm, _, vS, rS, rM⟩
    · exact absurd hA (hno al)
    · rw [tq_cp_one hA' hA] at hnf'
      exact absurd hf hnf'
  · rcases hz with ⟨al', hA', _⟩ | ⟨_, z0, rM⟩ | ⟨al', hA', _⟩
    · exact absurd hA' (hno al')
    · exact ⟨Or.inl rfl, z0, by decide, a, v, rS, rM⟩
    · exact absurd hA' (hno al')
  · rcases hz with ⟨al', hA', hf', _⟩ | ⟨hno, _⟩ | ⟨al', hA', hnf', z0, rM⟩
    · rw [tq_cp_one hA' hA] at hf'
      exact absurd hf' hnf
    · exact absurd hA (hno al)
    · exact ⟨Or.inr rfl, z0, by decide, a, v, rS, rM⟩
/-! what is measured -/
theorem q_jn8 {a : AS} {M : MS} (m : RM a M) (v : Va a) {n : Nat} (hn : 88 < n) {e p to : Nat} (he : e < 2) (hp : p < 8) (ht : to < 2) : R1 (mX8_joinedNow n M (nI e) (nI p) (nI to)) (fun z => z.1 = q_jn (q_J a (aT a)) e p to ∧ q_N8 a (aT a) z.2 ∧ Fm M z.2) := by
  have hT := q_T v
  have e8 : ((8 : Int32) * nI e) + nI p = nI (8 * e + p) := by rw [show (8 : Int32) = nI 8 from rfl, pk_mul, nI_add]
  unfold mX8_joinedNow
  rw [m.2.2.2.1]
  refine R1.bn (q_ly2 m v hn (by omega)) ?_
  rintro M3 ⟨hN, hF⟩
  rw [e8, bn_eq (q_same hN (by omega) (by omega) ht)]
  unfold q_jn
  by_cases c : e = to
  · rw [if_pos (congrArg nI c), if_pos c]
    exact R1.ret ⟨rfl, hN, hF⟩
  · rw [if_neg (tq_z (by omega) (by omega) c), if_neg c]
    exact R1.ret ⟨rfl, hN, hF⟩
theorem sq_joined {S : CS} {M : MS} (h : Rel S M) {n : Nat} (hn : 88 < n) (x1 x2 x3 : Int32) : Sqp (mX7_joined n S x1 x2 x3) (mX8_joined n M x1 x2 x3) cdL_joined (fun e => e = 1 ∨ e = 2) := by
  have hh := h
  obtain ⟨a, v, r, m⟩ := h
  have er : ∀ t : Int32, ¬ t ≤ 0 → mX8_joined_31 n M x1 x2 x3 t = some (0, sG M 0 t) := by
    intro t ht
    unfold mX8_joined_31
    rw [sG_s, if_neg ht]
  unfold mX7_joined mX8_joined mX8_joined_15
  rcases sq_ix x1 (m := 2) (by decide) with ⟨e, he, rfl⟩ | c1
  · rw [bt_eq (sq_enY S he), bn_eq (sq_ieY he), if_neg (show ¬ (1 : Int32) = 0 by decide)]
    rcases sq_ix x3 (m := 2) (by decide) with ⟨to, ht, rfl⟩ | c3
    · rw [bt_eq (sq_enY S ht), bn_eq (sq_ieY ht), if_neg (show ¬ (1 : Int32) = 0 by decide)]
      rcases sq_ix x2 (m := 8) (by decide) with ⟨p, hp, rfl⟩ | c2
      · rw [bt_eq (show mX7_needIndex S (nI p) (8 : Int32) = _ from sq_ixY S hp (by decide)), bn_eq (sq_wrY hp), if_neg (show ¬ (1 : Int32) = 0 by decide)]
        obtain ⟨S7, e7, k7, m7⟩ := q_ms7 r v (n := n) (by omega)
        obtain ⟨⟨w, M'⟩, e8, hw, _, hF⟩ := q_jn8 (q_s0 m 0) v hn he hp ht
        have hw : w = q_jn (q_J a (aT a)) e p to := hw
        have hF : Fm (sG M 0 0) M' := hF
        refine Sqp.ok (a := a) (w := q_jn (q_J a (aT a)) e p to) (by rw [bn_eq e7, bn_eq (q_joinedPins m7.2.1 he hp ht)]) ?_ (hF.s0.trans sq_one) v (k7.rc r) (hF.km.rm (q_s0 m 0))
        unfold mX8_joined_31
        rw [sG_s, if_pos (show (0 : Int32) ≤ 0 by decide), bm_eq e8, hw]
      · rw [bt_er (show mX7_needIndex S x2 (8 : Int32) = _ from sq_ixN S c2), bn_eq (sq_wrN c2), if_pos rfl]
        exact Sqp.er hh rfl (er 2 (by decide)) (Or.inr rfl) rfl (by decide)
    · rw [bt_er (sq_enN S c3), bn_eq (sq_ieN c3), if_pos rfl]
      exact Sqp.er hh rfl (er 1 (by decide)) (Or.inl rfl) rfl (by decide)
  · rw [bt_er (sq_enN S c1), bn_eq (sq_ieN c1), if_pos rfl]
    exact Sqp.er hh rfl (er 1 (by decide)) (Or.inl rfl) rfl (by decide)
theorem sq_status {S : CS} {M : MS} (h : Rel S M) {n : Nat} (hn : 88 < n) (x1 : Int32) : Sqp (mX7_status n S x1) (mX8_status n M x1) cdL_status (fun e => e = 2) := by
  have hh := h
  obtain ⟨a, v, r, m⟩ := h
  have hT := q_T v
  unfold mX7_status mX8_status mX8_status_13
  rcases sq_ix x1 (m := 8) (by decide) with ⟨p, hp, rfl⟩ | c2
  · rw [bt_eq (show mX7_needIndex S (nI p) (8 : Int32) = _ from sq_ixY S hp (by decide)), bn_eq (sq_wrY hp), if_neg (show ¬ (1 : Int32) = 0 by decide), sG_s, if_pos (show (0 : Int32) ≤ 0 by decide), (q_s0 m 0).2.2.2.1]
    obtain ⟨S7, e7, k7, m7⟩ := q_ms7 r v (n := n) (by omega)
    obtain ⟨M', e8, hN, hF⟩ := q_ly2 (q_s0 m 0) v hn (t := aT a) (by omega)
    exact Sqp.ok (a := a) (w := nI (q_st (q_J a (aT a)) p)) (by rw [bn_eq e7, bn_eq (q_statusOf m7.2.1 (q_J_rf a _) hp)]) (by rw [bn_eq e8, bn_eq (q_statusNow hN (by omega) hp)]) (hF.s0.trans sq_one) v (k7.rc r) (hF.km.rm (q_s0 m 0))
  · rw [bt_er (show mX7_needIndex S x1 (8 : Int32) = _ from sq_ixN S c2), bn_eq (sq_wrN c2), if_pos rfl, sG_s, if_neg (show ¬ (1 : Int32) ≤ 0 by decide)]
    exact Sqp.er hh rfl rfl rfl rfl (by decide)
theorem sq_echo {S : CS} {M : MS} (h : Rel S M) {n : Nat} (hn : 88 < n) (x1 x2 : Int32) : Sqp (mX7_echo n S x1 x2) (mX8_echo n M x1 x2) cdL_echo (fun e => e = 1 ∨ e = 2) := by
  have hh := h
  obtain ⟨a, v, r, m⟩ := h
  have er : ∀ t : Int32, ¬ t ≤ 0 → mX8_echo_26 n M x1 x2 t = some (0, sG M 0 t) := by
    intro t ht
    unfold mX8_echo_26
    rw [sG_s, if_neg ht]
  unfold mX7_echo mX8_echo
  rcases sq_ix x1 (m := 8) (by decide) with ⟨p, hp, rfl⟩ | c2
  · rw [bt_eq (show mX7_needIndex S (nI p) (8 : Int32) = _ from sq_ixY S hp (by decide)), bn_eq (sq_wrY hp), if_neg (show ¬ (1 : Int32) = 0 by decide)]
    rcases sq_in (lo := 0) (hi := 3) x2 (by decide) (by decide) with ⟨w, w1, w2, rfl⟩ | c1
    · rw [bt_eq (show mX7_needRange S (nI w) (0 : Int32) (3 : Int32) = _ from sq_rgY S w1 w2 (by decide)), bn_eq (show mX8_within (nI w) (0 : Int32) (3 : Int32) = _ from sq_wiY w1 w2 (by decide)), if_neg (show ¬ (1 : Int32) = 0 by decide)]
      refine Sqp.ok (a := a) (M := sG M 0 0) (w := q_ech a (q_ev a (aT a) (aW a p) (aF a).length) w) (by rw [bn_eq (q_echoAt r v (by omega) hp (by omega))]) ?_ sq_one v r (q_s0 m 0)
      unfold mX8_echo_26
      rw [sG_s, if_pos (show (0 : Int32) ≤ 0 by decide), bn_eq (q_echoNow (q_s0 m 0) v (by omega) hp (by omega))]
    · rw [bt_er (show mX7_needRange S x2 (0 : Int32) (3 : Int32) = _ from sq_rgN S c1), bn_eq (show mX8_within x2 (0 : Int32) (3 : Int32) = _ from sq_wiN c1), if_pos rfl]
      exact Sqp.er hh rfl (er 2 (by decide)) (Or.inl rfl) rfl (by decide)
  · rw [bt_er (show mX7_needIndex S x1 (8 : Int32) = _ from sq_ixN S c2), bn_eq (sq_wrN c2), if_pos rfl]
    exact Sqp.er hh rfl (er 1 (by decide)) (Or.inr rfl) rfl (by decide)
theorem sq_crosstalk {S : CS} {M : MS} (h : Rel S M) {n : Nat} (hn : 88 < n) (x1 x2 : Int32) : Sqp (mX7_crosstalk n S x1 x2) (mX8_crosstalk n M x1 x2) cdL_crosstalk (fun e => e = 2) := by
  have hh := h
  obtain ⟨a, v, r, m⟩ := h
  have er : mX8_crosstalk_19 n M x1 x2 = some (0, sG M 0 1) := by
    unfold mX8_crosstalk_19 mX8_crosstalk_20
    rw [sG_s, if_neg (by decide)]
  unfold mX7_crosstalk mX8_crosstalk
  rcases sq_ix x1 (m := 4) (by decide) with ⟨p, hp, rfl⟩ | c1
  · rw [bt_eq (show mX7_needIndex S (nI p) (4 : Int32) = _ from sq_ixY S hp (by decide)), bn_eq (sq_ipY hp), if_neg (show ¬ (1 : Int32) = 0 by decide)]
    rcases sq_ix x2 (m := 4) (by decide) with ⟨q, hq, rfl⟩ | c2
    · rw [bt_eq (show mX7_needIndex S (nI q) (4 : Int32) = _ from sq_ixY S hq (by decide)), bn_eq (sq_ipY hq), if_neg (show ¬ (1 : Int32) = 0 by decide)]
      refine Sqp.ok (a := a) (M := sG M 0 0) (w := nI (q_tk a p q)) (by rw [bn_eq (q_crosstalkOf r v (by omega) hp hq)]) ?_ sq_one v r (q_s0 m 0)
      unfold mX8_crosstalk_20
      rw [sG_s, if_pos (show (0 : Int32) ≤ 0 by decide), bn_eq (q_talk (q_s0 m 0) v (by omega) hp hq)]
    · rw [bt_er (show mX7_needIndex S x2 (4 : Int32) = _ from sq_ixN S c2), bn_eq (sq_ipN c2), if_pos rfl]
      exact Sqp.er hh rfl er rfl rfl (by decide)
  · rw [bt_er (show mX7_needIndex S x1 (4 : Int32) = _ from sq_ixN S c1), bn_eq (sq_ipN c1), if_pos rfl]
    exact Sqp.er hh rfl er rfl rfl (by decide)
theorem sq_identify {S : CS} {M : MS} (h : Rel S M) {n : Nat} (hn : 88 < n) : Sqq (mX7_identify n S) (mX8_identify n M) := by
  obtain ⟨a, v, r, m⟩ := h
  obtain ⟨S7, e7, k7, m7⟩ := q_ms7 r v (n := n) (by omega)
  obtain ⟨⟨w, M'⟩, e8, hw, hK, _⟩ := q_identified (q_s0 m 0) v (n := n) hn
  have hw : w = q_idn a (aT a) := hw
  have hK : Km (sG M 0 0) M' := hK
  refine ⟨q_idn a (aT a), S7, M', ?_, ?_, a, v, k7.rc r, hK.rm (q_s0 m 0)⟩
  · unfold mX7_identify
    rw [bn_eq e7, bn_eq (q_identU (k7.rc r) v m7.2.1 (by omega))]
  · unfold mX8_identify
    rw [bm_eq e8, hw]
theorem sq_records {S : CS} {M : MS} (h : Rel S M) {n : Nat} (hn : 88 < n) (x1 x2 : Int32) : Sqp (mX7_records n S x1 x2) (mX8_records n M x1 x2) cdL_records (fun e => e = 1 ∨ e = 2) := by
  have hh := h
  obtain ⟨a, v, r, m⟩ := h
  have er : ∀ t : Int32, ¬ t ≤ 0 → mX8_records_26 n M x1 x2 t = some (0, sG M 0 t) := by
    intro t ht
    unfold mX8_records_26
    rw [sG_s, if_neg ht]
  unfold mX7_records mX8_records
  rcases sq_ix x1 (m := 8) (by decide) with ⟨p, hp, rfl⟩ | c2
  · rw [bt_eq (show mX7_needIndex S (nI p) (8 : Int32) = _ from sq_ixY S hp (by decide)), bn_eq (sq_wrY hp), if_neg (show ¬ (1 : Int32) = 0 by decide)]
    rcases sq_in (lo := 0) (hi := 4) x2 (by decide) (by decide) with ⟨w, w1, w2, rfl⟩ | c1
    · rw [bt_eq (show mX7_needRange S (nI w) (0 : Int32) (4 : Int32) = _ from sq_rgY S w1 w2 (by decide)), bn_eq (show mX8_within (nI w) (0 : Int32) (4 : Int32) = _ from sq_wiY w1 w2 (by decide)), if_neg (show ¬ (1 : Int32) = 0 by decide)]
      obtain ⟨z, ez, hz⟩ := q_numberAbout r v (n := n) (by omega) hp (what := w) (by omega)
      obtain ⟨z', ez', hz'⟩ := q_recordsNow (q_s0 m 0) v (n := n) (by omega) hp (what := w) (by omega)
      refine Sqp.ok (a := a) (M := sG M 0 0) (w := z) (by rw [bn_eq ez]) ?_ sq_one v r (q_s0 m 0)
      unfold mX8_records_26
      rw [sG_s, if_pos (show (0 : Int32) ≤ 0 by decide), bn_eq ez', q_abt_one hz' hz]
    · rw [bt_er (show mX7_needRange S x2 (0 : Int32) (4 : Int32) = _ from sq_rgN S c1), bn_eq (show mX8_within x2 (0 : Int32) (4 : Int32) = _ from sq_wiN c1), if_pos rfl]
      exact Sqp.er hh rfl (er 2 (by decide)) (Or.inl rfl) rfl (by decide)
  · rw [bt_er (show mX7_needIndex S x1 (8 : Int32) = _ from sq_ixN S c2), bn_eq (sq_wrN c2), if_pos rfl]
    exact Sqp.er hh rfl (er 1 (by decide)) (Or.inr rfl) rfl (by decide)
theorem sq_suspect {S : CS} {M : MS} (h : Rel S M) {n : Nat} (hn : 88 < n) : ∃ w M1, mX7_suspect n S = some w ∧ mX8_suspect n M = some (w, M1) ∧ Rel S M1 := by
  obtain ⟨a, v, r, m⟩ := h
  refine ⟨(q_mw (q_wc (aR a)) 8).1, sG M 0 0, ?_, ?_, a, v, r, q_s0 m 0⟩
  · unfold mX7_suspect
    rw [bn_eq (q_mostWrong r v (by omega))]
  · unfold mX8_suspect
    rw [bn_eq (q_suspected (q_s0 m 0) v (by omega))]
theorem sq_share {S : CS} {M : MS} (h : Rel S M) {n : Nat} (hn : 88 < n) : ∃ w, mX4_shareOfWrong n S = some w ∧ mX8_wrongShare n M = some (w, sG M 0 0) ∧ Rel S (sG M 0 0) := by
  obtain ⟨a, v, r, m⟩ := h
  exact ⟨q_shr a, q_shareC r v (by omega), q_shareM m v (by omega), a, v, r, q_s0 m 0⟩
theorem sq_nextChange {S : CS} {M : MS} (h : Rel S M) {n : Nat} (hn : 102 < n) : Sqq (mX7_nextChange n S) (mX8_nextChange n M) := by
  obtain ⟨a, v, r, m⟩ := h
  have hT := q_T v
  have m0 := q_s0 m 0
  obtain ⟨S7, e7, k7, m7⟩ := q_ms7 r v (n := n) (by omega)
  obtain ⟨⟨w, M3⟩, e8, hw, _, hF⟩ := q_wr2 m0 v (n := n) (by omega) (t := aT a) (by omega)
  have hw : w = nI (q_wm (q_J a (aT a))) := hw
  have hF : Fm (sG M 0 0) M3 := hF
  have wl := q_wm_lt (q_J a (aT a))
  have key : ∀ d i k k' (S' : CS) (M' : MS) (t : Nat), i + d = 101 → 1 ≤ i → d < k → d < k' → RC a S' → q_Mz a t S' → RM a M' → ∃ w S1 M1, mX7_nextChange_14 n (nI (q_wm (q_J a (aT a)))) k S' (nI i) = some (w, S1) ∧ mX8_nextChange_16 n (nI (q_wm (q_J a (aT a)))) k' M' (nI i) = some (w, M1) ∧ RC a S1 ∧ RM a M1 := by
    intro d
    induction d with
    | zero =>
      intro i k k' S' M' t hi h1 hk hk' rS mz rM
      obtain ⟨k, rfl⟩ : ∃ j, k = j + 1 := ⟨k - 1, by omega⟩
      obtain ⟨k', rfl⟩ : ∃ j, k' = j + 1 := ⟨k' - 1, by omega⟩
      refine ⟨-1, S', M', ?_, ?_, rS, rM⟩
      · rw [mX7_nextChange_14, if_pos (show (100 : Int32) < nI i from nI_lt (a := 100) (by omega) (by omega))]
      · rw [mX8_nextChange_16, if_pos (show (100 : Int32) < nI i from nI_lt (a := 100) (by omega) (by omega))]
        unfold mX8_nextChange_42
        rw [if_pos (show (100 : Int32) < nI i from nI_lt (a := 100) (by omega) (by omega))]
    | succ d ih =>
      intro i k k' S' M' t hi h1 hk hk' rS mz rM
      obtain ⟨k, rfl⟩ : ∃ j, k = j + 1 := ⟨k - 1, by omega⟩
      obtain ⟨k', rfl⟩ : ∃ j, k' = j + 1 := ⟨k' - 1, by omega⟩
      obtain ⟨S8, e8, k8, m8⟩ := q_onw rS v (n := n) (by omega) mz (t' := aT a + i) (by omega)
      obtain ⟨⟨w', M8⟩, e9, hw', _, hF'⟩ := q_wr2 rM v (n := n) (by omega) (t := aT a + i) (by omega)
      have hw' : w' = nI (q_wm (q_J a (aT a + i))) := hw'
      have hF' : Fm M' M8 := hF'
      have wl' := q_wm_lt (q_J a (aT a + i))
      rw [mX7_nextChange_14, if_neg (show ¬ (100 : Int32) < nI i from nI_nlt (a := 100) (by omega) (by decide)), rS.2.2.2.1, nI_add, bn_eq e8, m8.2.2, mX8_nextChange_16, if_neg (show ¬ (100 : Int32) < nI i from nI_nlt (a := 100) (by omega) (by decide)), rM.2.2.2.1, nI_add, bm_eq e9, hw']
      by_cases c : q_wm (q_J a (aT a + i)) = q_wm (q_J a (aT a))
      · rw [if_pos (congrArg nI c), if_pos (congrArg nI c), q_i1]
        exact ih (i + 1) k k' S8 M8 (aT a + i) (by omega) (by omega) (by omega) (by omega) (k8.rc rS) m8 (hF'.km.rm rM)
      · rw [if_neg (tq_z (by omega) (by omega) c), if_neg (tq_z (by omega) (by omega) c)]
        refine ⟨nI i, S8, M8, rfl, ?_, k8.rc rS, hF'.km.rm rM⟩
        unfold mX8_nextChange_42
        rw [if_neg (show ¬ (100 : Int32) < nI i from nI_nlt (a := 100) (by omega) (by decide))]
  obtain ⟨u, S1, M1, q1, q2, q3, q4⟩ := key 100 1 n n S7 M3 (aT a) rfl (by decide) (by omega) (by omega) (k7.rc r) m7 (hF.km.rm m0)
  refine ⟨u, S1, M1, ?_, ?_, a, v, q3, q4⟩
  · unfold mX7_nextChange
    rw [bn_eq e7, m7.2.2]
    exact q1
  · unfold mX8_nextChange
    rw [m0.2.2.2.1, bm_eq e8, hw]
    exact q2
