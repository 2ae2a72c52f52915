/-! changes of the state, on both sides -/
def q_tau (x y k : Nat) : Nat := if k = y then x else if k = x then y else k
def q_swp (w : Nat → Nat) (x y : Nat) : Nat → Nat := fun k => w (q_tau x y k)
def aSw (a : AS) (x y : Nat) : AS := (a.1, q_swp (aW a) x y, a.2.2)
theorem q_swRow {r : Nat → Int32} {w : Nat → Nat} (h : ∀ i, i < 16 → r i = nI (w i)) {x y : Nat} (hx : x < 16) (hy : y < 16) : ∀ i, i < 16 → upd (upd r x (r y)) y (r x) i = nI (q_swp w x y i) := by
  intro i hi
  unfold q_swp q_tau
  by_cases c : i = y
  · rw [if_pos c, c, pk_us]; exact h x hx
  · rw [if_neg c, pk_un c]
    by_cases c2 : i = x
    · rw [if_pos c2, c2, pk_us]; exact h y hy
    · rw [if_neg c2, pk_un c2]; exact h i hi
theorem q_swC {a : AS} {S : CS} (r : RC a S) {e p q : Nat} (he : e < 2) (hp : p < 8) (hq : q < 8) : R1 (mX0_swapWires S (nI e) (nI p) (nI q)) (fun S' => RC (aSw a (8 * e + p) (8 * e + q)) S' ∧ S'.1 = S.1) := by
  unfold mX0_swapWires
  rw [q_ct e p, q_ct e q, if_neg (nI_pos (by omega)), if_neg (show ¬ (16 : Int32) ≤ nI (8 * e + p) from nI_ge (b := 16) (by omega) (by decide)), if_neg (nI_pos (by omega)), if_pos (show nI (8 * e + q) < (16 : Int32) from nI_lt (b := 16) (by omega) (by decide)), if_pos (inb_n (by omega) (by decide)), if_pos (inb_n (by omega) (by decide)), if_pos (inb_n (by omega) (by decide)), if_pos (inb_n (by omega) (by decide)), nI_clamp (by omega), nI_clamp (by omega)]
  obtain ⟨r0, r1, r2, r3, r4, r5, r6, r7, r8, r9, r10⟩ := r
  refine R1.ret ⟨⟨r0, r1, r2, r3, ?_, r5, r6, r7, r8, r9, ?_⟩, rfl⟩
  · rw [sA_r, sA_r]
    exact q_swRow r4 (by omega) (by omega)
  · rw [sA_o _ _ _ (by decide), sA_o _ _ _ (by decide)]
    exact r10
theorem q_swM {a : AS} {M : MS} (r : RM a M) {e p q : Nat} (he : e < 2) (hp : p < 8) (hq : q < 8) : R1 (mX8_swap M (nI e) (nI p) (nI q)) (fun M' => RM (aSw a (8 * e + p) (8 * e + q)) M' ∧ M'.1 = M.1 ∧ ∀ k, k ≠ 23 → M'.2.1 k = M.2.1 k) := by
  have e8 : ∀ j : Nat, ((8 : Int32) * nI e) + nI j = nI (8 * e + j) := fun j => by rw [show (8 : Int32) = nI 8 from rfl, pk_mul, nI_add]
  unfold mX8_swap
  rw [e8 p, e8 q, if_pos (inb_n (by omega) (by decide)), if_pos (inb_n (by omega) (by decide)), if_pos (inb_n (by omega) (by decide)), if_pos (inb_n (by omega) (by decide)), nI_clamp (by omega), nI_clamp (by omega)]
  obtain ⟨r0, r1, r2, r3, r4, r5, r6, r7, r8, r9, r10⟩ := r
  refine R1.ret ⟨⟨r0, r1, r2, r3, ?_, r5, ?_, r7, ?_, r9, ?_⟩, rfl, fun k hk => by rw [sB_o _ _ _ hk, sB_o _ _ _ hk]⟩
  · rw [sB_r, sB_r]
    exact q_swRow r4 (by omega) (by omega)
  · rw [sB_o _ _ _ (by decide), sB_o _ _ _ (by decide)]
    exact r6
  · rw [sB_o _ _ _ (by decide), sB_o _ _ _ (by decide)]
    exact r8
  · rw [sB_o _ _ _ (by decide), sB_o _ _ _ (by decide)]
    exact r10
theorem q_swV {a : AS} (v : Va a) {e p q : Nat} (he : e < 2) (hp : p < 8) (hq : q < 8) : Va (aSw a (8 * e + p) (8 * e + q)) := by
  obtain ⟨v1, v2, v3, v4, v5, v6, v7, v8, v9, v10, v11, v12, v13, v14, v15⟩ := v
  have near : ∀ i, i < 8 → q_tau (8 * e + p) (8 * e + q) i < 8 := by
    intro i hi
    unfold q_tau
    repeat' split
    all_goals omega
  have far : ∀ i, i < 8 → ∃ j, j < 8 ∧ q_tau (8 * e + p) (8 * e + q) (8 + i) = 8 + j := by
    intro i hi
    unfold q_tau
    repeat' split
    · exact ⟨8 * e + p - 8, by omega, by omega⟩
    · exact ⟨8 * e + q - 8, by omega, by omega⟩
    · exact ⟨i, hi, rfl⟩
  have inj : ∀ i j, q_tau (8 * e + p) (8 * e + q) i = q_tau (8 * e + p) (8 * e + q) j → i = j := by
    intro i j h
    unfold q_tau at h
    repeat' split at h
    all_goals omega
  refine ⟨v1, v2, v3, v4, v5, v6, ?_, ?_, ?_, v10, v11, v12, v13, v14, v15⟩
  · intro i hi
    refine v7 _ ?_
    unfold q_tau
    repeat' split
    all_goals omega
  · intro i j hi hj h
    exact inj i j (v8 _ _ (near i hi) (near j hj) h)
  · intro i j hi hj h
    obtain ⟨i', hi', ei⟩ := far i hi
    obtain ⟨j', hj', ej⟩ := far j hj
    have h : aW a (q_tau (8 * e + p) (8 * e + q) (8 + i)) = aW a (q_tau (8 * e + p) (8 * e + q) (8 + j)) := h
    have h2 := h
    rw [ei, ej] at h2
    have := v9 i' j' hi' hj' h2
    have := inj (8 + i) (8 + j) (by rw [ei, ej, this])
    omega
/-- a fault more -/
def aAd (a : AS) (x : Ft) : AS := (a.1, aW a, aF a ++ [x], a.2.2.2)
theorem q_adC {a : AS} {S : CS} (r : RC a S) (x : Ft) (w b : Nat) : RC (aAd a x) (addF S (w, fld5 (nI x.1) (oI x.2.1) (nI x.2.2.1) (nI x.2.2.2.1) (nI x.2.2.2.2)) b) := by
  obtain ⟨r0, r1, r2, r3, r4, r5, r6, r7, r8, r9, r10⟩ := r
  refine ⟨r0, r1, r2, r3, r4, ?_, fun h => ?_, r7, r8, r9, r10⟩
  · show (S.2.2.2.1 ++ [_]).map e5 = (aF a ++ [x]).map d5
    rw [List.map_append, List.map_append, r5]
    rfl
  · cases h
theorem q_adM {a : AS} {M : MS} (r : RM a M) (hl : (aF a).length < 10) (x : Ft) {kd : Int32} (hk : kd = dI6 x 0) : R1 (mX8_add M kd (nI x.1) (oI x.2.1) (nI x.2.2.1) (nI x.2.2.2.1) (nI x.2.2.2.2)) (fun z => z.1 = nI (aF a).length ∧ RM (aAd a x) z.2 ∧ (∀ k, k ≠ 7 → z.2.1 k = M.1 k) ∧ ∀ k, k ≠ 24 → z.2.2.1 k = M.2.1 k) := by
  obtain ⟨r0, r1, r2, r3, r4, r5, r6, r7, r8, r9, r10⟩ := r
  have e0 : (6 : Int32) * nI (aF a).length = nI (6 * (aF a).length) := pk_mul 6 _
  have e1 : nI (6 * (aF a).length) + (1 : Int32) = nI (6 * (aF a).length + 1) := nI_add _ 1
  have e2 : nI (6 * (aF a).length) + (2 : Int32) = nI (6 * (aF a).length + 2) := nI_add _ 2
  have e3 : nI (6 * (aF a).length) + (3 : Int32) = nI (6 * (aF a).length + 3) := nI_add _ 3
  have e4 : nI (6 * (aF a).length) + (4 : Int32) = nI (6 * (aF a).length + 4) := nI_add _ 4
  have e5 : nI (6 * (aF a).length) + (5 : Int32) = nI (6 * (aF a).length + 5) := nI_add _ 5
  have ek : kd = nI (if x.2.1 = 0 then 0 else 1) := by
    rw [hk]
    show (if x.2.1 = 0 then (0 : Int32) else 1) = _
    split <;> rfl
  unfold mX8_add
  rw [r5, e0, e1, e2, e3, e4, e5, if_pos (inb_n (by omega) (by decide)), if_pos (inb_n (by omega) (by decide)), if_pos (inb_n (by omega) (by decide)), if_pos (inb_n (by omega) (by decide)), if_pos (inb_n (by omega) (by decide)), if_pos (inb_n (by omega) (by decide)), nI_clamp (by omega), nI_clamp (by omega), nI_clamp (by omega), nI_clamp (by omega), nI_clamp (by omega), nI_clamp (by omega)]
  have er : (sB (sB (sB (sB (sB (sB M 24 (6 * (aF a).length) kd) 24 (6 * (aF a).length + 1) (nI x.1)) 24 (6 * (aF a).length + 2) (oI x.2.1)) 24 (6 * (aF a).length + 3) (nI x.2.2.1)) 24 (6 * (aF a).length + 4) (nI x.2.2.2.1)) 24 (6 * (aF a).length + 5) (nI x.2.2.2.2)).2.1 24 = tq_w6 (M.2.1 24) (aF a).length (if x.2.1 = 0 then 0 else 1, x) := by
    rw [sB_r, sB_r, sB_r, sB_r, sB_r, sB_r, ek]
    rfl
  have eo : ∀ k, k ≠ 24 → (sB (sB (sB (sB (sB (sB M 24 (6 * (aF a).length) kd) 24 (6 * (aF a).length + 1) (nI x.1)) 24 (6 * (aF a).length + 2) (oI x.2.1)) 24 (6 * (aF a).length + 3) (nI x.2.2.1)) 24 (6 * (aF a).length + 4) (nI x.2.2.2.1)) 24 (6 * (aF a).length + 5) (nI x.2.2.2.2)).2.1 k = M.2.1 k := by
    intro k hk
    rw [sB_o _ _ _ hk, sB_o _ _ _ hk, sB_o _ _ _ hk, sB_o _ _ _ hk, sB_o _ _ _ hk, sB_o _ _ _ hk]
  have e7 : (sB (sB (sB (sB (sB (sB M 24 (6 * (aF a).length) kd) 24 (6 * (aF a).length + 1) (nI x.1)) 24 (6 * (aF a).length + 2) (oI x.2.1)) 24 (6 * (aF a).length + 3) (nI x.2.2.1)) 24 (6 * (aF a).length + 4) (nI x.2.2.2.1)) 24 (6 * (aF a).length + 5) (nI x.2.2.2.2)).1 = M.1 := rfl
  generalize sB (sB (sB (sB (sB (sB M 24 (6 * (aF a).length) kd) 24 (6 * (aF a).length + 1) (nI x.1)) 24 (6 * (aF a).length + 2) (oI x.2.1)) 24 (6 * (aF a).length + 3) (nI x.2.2.1)) 24 (6 * (aF a).length + 4) (nI x.2.2.2.1)) 24 (6 * (aF a).length + 5) (nI x.2.2.2.2) = M6 at er eo e7 ⊢
  have g7 : M6.1 7 = nI (aF a).length := by rw [e7]; exact r5
  refine R1.ret ⟨?_, ⟨?_, ?_, ?_, ?_, ?_, ?_, ?_, ?_, ?_, ?_, ?_⟩, ?_, eo⟩
  · show (sG M6 7 (M6.1 7 + 1)).1 7 - 1 = _
    rw [sG_s, g7, q_i1]
    exact nI_pred _
  · exact (sG_n M6 _ (by decide)).trans (by rw [e7]; exact r0)
  · exact (sG_n M6 _ (by decide)).trans (by rw [e7]; exact r1)
  · exact (sG_n M6 _ (by decide)).trans (by rw [e7]; exact r2)
  · exact (sG_n M6 _ (by decide)).trans (by rw [e7]; exact r3)
  · show ∀ i, i < 16 → M6.2.1 23 i = _
    rw [eo 23 (by decide)]
    exact r4
  · show (sG M6 7 (M6.1 7 + 1)).1 7 = nI (aF a ++ [x]).length
    rw [sG_s, g7, q_i1, List.length_append]
    rfl
  · intro k y hy j hj
    show M6.2.1 24 (6 * k + j) = _
    rw [er]
    have hy : (aF a ++ [x])[k]? = some y := hy
    by_cases hk2 : k < (aF a).length
    · rw [List.getElem?_append_left hk2] at hy
      rw [tq_w6_out _ _ _ (by omega)]
      exact r6 k y hy j hj
    · rw [List.getElem?_append_right (by omega)] at hy
      have hk3 : k = (aF a).length := by
        rcases Nat.lt_or_ge (aF a).length k with c | c
        · rw [List.getElem?_eq_none (by simp; omega)] at hy; cases hy
        · omega
      subst hk3
      rw [Nat.sub_self] at hy
      have hx2 : x = y := Option.some.inj hy
      rw [← hx2, tq_w6_in _ _ _ j hj]
      rcases (by omega : j = 0 ∨ j = 1 ∨ j = 2 ∨ j = 3 ∨ j = 4 ∨ j = 5) with rfl | rfl | rfl | rfl | rfl | rfl
      · show nI (if x.2.1 = 0 then 0 else 1) = (if x.2.1 = 0 then (0 : Int32) else 1)
        split <;> rfl
      all_goals rfl
  · exact (sG_n M6 _ (by decide)).trans (by rw [e7]; exact r7)
  · show ∀ i, i < (aR a).length → M6.2.1 25 i = _
    rw [eo 25 (by decide)]
    exact r8
  · exact (sG_n M6 _ (by decide)).trans (by rw [e7]; exact r9)
  · show ∀ i, i < (aX a).length → M6.2.1 26 i = _
    rw [eo 26 (by decide)]
    exact r10
  · intro k hk2
    exact (sG_n M6 _ hk2).trans (by rw [e7])
theorem q_adV {a : AS} (v : Va a) (hl : (aF a).length < 10) {x : Ft} (hx : q_ok (aL a) x) : Va (aAd a x) := by
  obtain ⟨v1, v2, v3, v4, v5, v6, v7, v8, v9, v10, v11, v12, v13, v14, v15⟩ := v
  refine ⟨v1, v2, v3, v4, v5, v6, v7, v8, v9, ?_, ?_, v12, v13, v14, v15⟩
  · show (aF a ++ [x]).length ≤ 10
    rw [List.length_append]
    show (aF a).length + 1 ≤ 10
    omega
  · intro y hy
    rcases List.mem_append.mp hy with hy | hy
    · exact v11 y hy
    · rw [List.mem_singleton.mp hy]; exact hx
/-- a fault less -/
def aRm (a : AS) (i : Nat) : AS := (a.1, aW a, (aF a).eraseIdx i, a.2.2.2)
theorem q_erM {α β : Type} (f : α → β) : ∀ (l : List α) (i : Nat), (l.eraseIdx i).map f = (l.map f).eraseIdx i
  | [], _ => rfl
  | _ :: _, 0 => rfl
  | x :: l, i + 1 => by
    show f x :: (l.eraseIdx i).map f = f x :: (l.map f).eraseIdx i
    rw [q_erM f l i]
theorem q_rmC {a : AS} {S : CS} (r : RC a S) (i b : Nat) : RC (aRm a i) (remF S i b) := by
  obtain ⟨r0, r1, r2, r3, r4, r5, r6, r7, r8, r9, r10⟩ := r
  refine ⟨r0, r1, r2, r3, r4, ?_, fun h => ?_, r7, r8, r9, r10⟩
  · show (S.2.2.2.1.eraseIdx i).map e5 = ((aF a).eraseIdx i).map d5
    rw [q_erM, q_erM, r5]
  · cases h
theorem q_rmV {a : AS} (v : Va a) (i : Nat) : Va (aRm a i) := by
  obtain ⟨v1, v2, v3, v4, v5, v6, v7, v8, v9, v10, v11, v12, v13, v14, v15⟩ := v
  refine ⟨v1, v2, v3, v4, v5, v6, v7, v8, v9, ?_, fun y hy => v11 y (List.mem_of_mem_eraseIdx hy), v12, v13, v14, v15⟩
  exact Nat.le_trans (List.length_eraseIdx_le _ _) v10
theorem q_rmM {a : AS} {M : MS} (r : RM a M) (v : Va a) {i : Nat} (hi : i < (aF a).length) {n : Nat} (hn : 60 < n) : R1 (mX8_repair_47 n n (sG M 7 (nI ((aF a).length - 1))) ((6 : Int32) * nI i)) (fun z => z.1 = nI ((aF a).length - 1) ∧ RM (aRm a i) z.2 ∧ z.2.1 0 = M.1 0) := by
  have h10 := q_F10 v
  obtain ⟨r0, r1, r2, r3, r4, r5, r6, r7, r8, r9, r10⟩ := r
  have e0 : (6 : Int32) * nI i = nI (6 * i) := pk_mul 6 _
  have e6 : (6 : Int32) * nI ((aF a).length - 1) = nI (6 * ((aF a).length - 1)) := pk_mul 6 _
  rw [e0]
  refine q_lp (f := fun k s i => mX8_repair_47 n k s i) (N := 6 * ((aF a).length - 1)) (inv := fun j M' => 6 * i ≤ j ∧ M'.1 = (sG M 7 (nI ((aF a).length - 1))).1 ∧ (∀ k, k ≠ 24 → M'.2.1 k = M.2.1 k) ∧ ∀ x, M'.2.1 24 x = if 6 * i ≤ x ∧ x < j then M.2.1 24 (x + 6) else M.2.1 24 x) ?_ ?_ (6 * ((aF a).length - 1) - 6 * i) (6 * i) n _ (by omega) ⟨Nat.le_refl _, rfl, fun _ _ => rfl, fun x => by rw [if_neg (by omega)]; rfl⟩ (by omega)
  · intro k s ⟨_, g, o, w⟩
    show R1 (mX8_repair_47 n (k + 1) s (nI (6 * ((aF a).length - 1)))) _
    have g7 : s.1 7 = nI ((aF a).length - 1) := by rw [g]; exact sG_s _ _ _
    have gn : ∀ k, k ≠ 7 → s.1 k = M.1 k := fun k hk => by rw [g]; exact sG_n _ _ hk
    have ll : ((aF a).eraseIdx i).length = (aF a).length - 1 := List.length_eraseIdx_of_lt hi
    rw [mX8_repair_47, g7, e6, if_pos (nI_le (Nat.le_refl _) (by omega))]
    refine R1.ret ⟨rfl, ⟨(gn 1 (by decide)).trans r0, (gn 2 (by decide)).trans r1, (gn 3 (by decide)).trans r2, (gn 4 (by decide)).trans r3, ?_, ?_, ?_, (gn 9 (by decide)).trans r7, ?_, (gn 10 (by decide)).trans r9, ?_⟩, gn 0 (by decide)⟩
    · show ∀ i, i < 16 → s.2.1 23 i = _
      rw [o 23 (by decide)]; exact r4
    · show s.1 7 = nI ((aF a).eraseIdx i).length
      rw [g7, ll]
    · intro k y hy j hj
      show s.2.1 24 (6 * k + j) = _
      have hy : ((aF a).eraseIdx i)[k]? = some y := hy
      have hk : k < ((aF a).eraseIdx i).length := (List.getElem?_eq_some_iff.mp hy).1
      rw [List.getElem?_eraseIdx] at hy
      rw [w]
      by_cases c : k < i
      · rw [if_neg (by omega)]
        rw [if_pos c] at hy
        exact r6 k y hy j hj
      · rw [if_pos (by omega), show 6 * k + j + 6 = 6 * (k + 1) + j by omega]
        rw [if_neg c] at hy
        exact r6 (k + 1) y hy j hj
    · show ∀ i, i < (aR a).length → s.2.1 25 i = _
      rw [o 25 (by decide)]; exact r8
    · show ∀ i, i < (aX a).length → s.2.1 26 i = _
      rw [o 26 (by decide)]; exact r10
  · intro j k s hj ⟨hji, g, o, w⟩
    right
    have g7 : s.1 7 = nI ((aF a).length - 1) := by rw [g]; exact sG_s _ _ _
    have ej : nI j + (6 : Int32) = nI (j + 6) := nI_add _ 6
    refine ⟨sB s 24 j (s.2.1 24 (j + 6)), ⟨by omega, g, fun k hk => (sB_o _ _ _ hk).trans (o k hk), ?_⟩, ?_⟩
    · intro x
      rw [sB_r]
      by_cases c : x = j
      · rw [c, pk_us, w, if_neg (by omega), if_pos (by omega)]
      · rw [pk_un c, w]
        by_cases c2 : 6 * i ≤ x ∧ x < j
        · rw [if_pos c2, if_pos (by omega)]
        · rw [if_neg c2, if_neg (by omega)]
    · show mX8_repair_47 n (k + 1) s (nI j) = _
      rw [mX8_repair_47, g7, e6, if_neg (nI_ge hj (by omega)), ej, if_pos (inb_n (by omega) (by decide)), if_pos (inb_n (by omega) (by decide)), nI_clamp (by omega), nI_clamp (by omega), q_i1]
