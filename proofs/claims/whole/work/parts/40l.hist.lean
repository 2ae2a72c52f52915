/-! the kept records, read on both sides -/
def q_rc (rs : List Nat) (p k : Nat) : Bool := (rs.getD k 0).testBit p
theorem q_rb_eq (rs : List Nat) (p i : Nat) : q_rb rs p i = (decide (i < rs.length) && q_rc rs p (rs.length - 1 - i)) := by
  unfold q_rb q_rc
  by_cases h : i < rs.length
  · rw [decide_eq_true h, Bool.true_and, List.getElem?_reverse h, List.getD_eq_getElem?_getD]
  · rw [decide_eq_false h, Bool.false_and, List.getElem?_eq_none (by rw [List.length_reverse]; omega)]
    exact Nat.zero_testBit p
theorem q_R64 {a : AS} (v : Va a) : (aR a).length ≤ 64 := v.2.2.2.2.2.2.2.2.2.2.2.1
theorem q_Rlt {a : AS} (v : Va a) {k : Nat} (h : k < (aR a).length) : (aR a).getD k 0 < 256 := by
  rw [List.getD_eq_getElem?_getD, List.getElem?_eq_getElem h]
  exact v.2.2.2.2.2.2.2.2.2.2.2.2.1 _ (List.getElem_mem h)
theorem q_rev : ∀ (n : Nat) (f : Nat → Bool), fb_ct (fun i => f (n - 1 - i)) n = fb_ct f n
  | 0, _ => rfl
  | n + 1, f => by
    have h1 : fb_ct (fun i => f (n + 1 - 1 - i)) (n + 1) = fb_ct (fun i => f (n + 1 - 1 - i)) n + (if f 0 then 1 else 0) := by
      rw [fb_ct_succ]
      show _ + (if f (n + 1 - 1 - n) = true then 1 else 0) = _
      rw [show n + 1 - 1 - n = 0 by omega]
    have h2 : fb_ct (fun i => f (n + 1 - 1 - i)) n = fb_ct (fun i => (fun k => f (1 + k)) (n - 1 - i)) n := fb_ct_cong (fun i hi => by
      show f (n + 1 - 1 - i) = f (1 + (n - 1 - i))
      rw [show n + 1 - 1 - i = 1 + (n - 1 - i) by omega])
    rw [h1, h2, q_rev n (fun k => f (1 + k)), Nat.add_comm n 1, fb_ct_split f 1 n]
    show _ = fb_ct f 0 + (if f 0 = true then 1 else 0) + _
    show _ = 0 + (if f 0 = true then 1 else 0) + _
    omega
theorem q_lNz {x : Nat} (h : x < 2 ^ 64) : lN x = 0 ↔ x = 0 := by
  constructor
  · intro e
    have := congrArg (fun z : Int64 => z.toBitVec.toNat) e
    have h2 : (lN x).toBitVec.toNat = x := wb_tn h
    exact h2.symm.trans this
  · intro e; rw [e]; rfl
theorem q_Lm {a : AS} {S : CS} (r : RC a S) {p : Nat} (hp : p < 8) : ∃ m, m < 2 ^ 64 ∧ S.2.2.1 p = lN m ∧ ∀ i, i < 64 → m.testBit i = q_rb (aR a) p i := by
  obtain ⟨m, hm, e⟩ := wb_of (S.2.2.1 p)
  refine ⟨m, hm, e, fun i hi => ?_⟩
  have h := r.2.2.2.2.2.2.2.2.1 p hp i hi
  rw [e, wb_tb, BitVec.getLsbD_ofNat, decide_eq_true hi, Bool.true_and] at h
  exact h
theorem q_bitsOf {S : CS} {p : Nat} (hp : p < 8) : mX4_bitsOf S (nI p) = some (S.2.2.1 p) := by
  unfold mX4_bitsOf
  rw [if_neg (nI_pos (by omega)), if_neg (show ¬ (8 : Int32) ≤ nI p from nI_ge hp (by decide)), if_pos (inb_n hp (by decide)), nI_clamp (by omega)]
def q_wc (rs : List Nat) (p : Nat) : Nat := fb_ct (q_rc rs p) rs.length
theorem q_cut64 {f : Nat → Bool} {n : Nat} (h : n ≤ 64) : fb_ct (fun i => decide (i < n) && f i) 64 = fb_ct f n := by
  obtain ⟨d, hd⟩ : ∃ d, 64 = n + d := ⟨64 - n, by omega⟩
  rw [hd, fb_ct_split]
  have h2 : fb_ct (fun k => decide (k < n) && f k) n = fb_ct f n := fb_ct_cong (fun k hk => by rw [decide_eq_true hk, Bool.true_and])
  have h3 : fb_ct (fun k => decide (n + k < n) && f (n + k)) d = 0 := fb_ct_zero.mpr (fun k _ => by rw [decide_eq_false (by omega), Bool.false_and])
  rw [h2, h3, Nat.add_zero]
theorem q_timesWrong {a : AS} {S : CS} (r : RC a S) (v : Va a) {p : Nat} (hp : p < 8) : mX4_timesWrong S (nI p) = some (nI (q_wc (aR a) p)) := by
  obtain ⟨m, hm, e, hb⟩ := q_Lm r hp
  unfold mX4_timesWrong
  rw [bn_eq (q_bitsOf hp), e, bn_eq (q_bitCountL m hm)]
  have h1 : fb_ct (fun k => m.testBit k) 64 = fb_ct (fun i => decide (i < (aR a).length) && (fun i => q_rc (aR a) p ((aR a).length - 1 - i)) i) 64 := fb_ct_cong (fun i hi => by rw [hb i hi, q_rb_eq])
  rw [h1, q_cut64 (q_R64 v), q_rev]; rfl
theorem q_recorded {a : AS} {M : MS} (r : RM a M) (v : Va a) {p k : Nat} (hp : p < 8) (hk : k < (aR a).length) : mX8_recorded M (nI k) (nI p) = some (bI (q_rc (aR a) p k)) := by
  have h64 := q_R64 v
  have hlt := q_Rlt v hk
  unfold mX8_recorded
  rw [if_pos (inb_n (by omega) (by decide)), nI_clamp (by omega), r.2.2.2.2.2.2.2.2.1 k hk, q_bitB (by omega) (by omega)]; rfl
theorem q_wrongRecords {a : AS} {M : MS} (r : RM a M) (v : Va a) {n : Nat} (hn : 64 < n) {p : Nat} (hp : p < 8) : mX8_wrongRecords n M (nI p) = some (nI (q_wc (aR a) p)) := by
  have h64 := q_R64 v
  obtain ⟨k', e⟩ := q_fun (f := fun k x i => mX8_wrongRecords_4 n M (nI p) k x i) (aR a).length (fun i => nI (fb_ct (q_rc (aR a) p) i)) (by
    intro i k hi
    show mX8_wrongRecords_4 n M (nI p) (k + 1) _ (nI i) = mX8_wrongRecords_4 n M (nI p) k _ _
    rw [mX8_wrongRecords_4, r.2.2.2.2.2.2.2.1, if_neg (nI_ge hi (by omega)), bn_eq (q_recorded r v hp hi), bI_n, nI_add, q_i1, fb_ct_succ]) (by omega : (aR a).length < n)
  show mX8_wrongRecords_4 n M (nI p) n (nI 0) (nI 0) = _
  refine e.trans ?_
  show mX8_wrongRecords_4 n M (nI p) (k' + 1) _ (nI (aR a).length) = _
  rw [mX8_wrongRecords_4, r.2.2.2.2.2.2.2.1, if_pos (nI_le (Nat.le_refl _) (by omega))]; rfl
/-! the longest row of wrong ones -/
def q_row (b : Nat → Bool) : Nat → Nat
  | 0 => 0
  | k + 1 => if b k then q_row b k + 1 else 0
def q_most (b : Nat → Bool) : Nat → Nat
  | 0 => 0
  | k + 1 => if q_most b k < q_row b (k + 1) then q_row b (k + 1) else q_most b k
theorem q_row_iff (b : Nat → Bool) : ∀ k L, L ≤ q_row b k ↔ (L ≤ k ∧ ∀ i, k - L ≤ i → i < k → b i = true)
  | 0, L => by
    show L ≤ 0 ↔ _
    exact ⟨fun h => ⟨h, fun i _ hi => absurd hi (Nat.not_lt_zero i)⟩, fun h => h.1⟩
  | k + 1, L => by
    show L ≤ (if b k = true then q_row b k + 1 else 0) ↔ _
    cases L with
    | zero => exact ⟨fun _ => ⟨Nat.zero_le _, fun i h1 h2 => by omega⟩, fun _ => Nat.zero_le _⟩
    | succ L =>
      by_cases c : b k = true
      · rw [if_pos c]
        have ih := q_row_iff b k L
        constructor
        · intro h
          obtain ⟨h1, h2⟩ := ih.mp (by omega)
          refine ⟨by omega, fun i h3 h4 => ?_⟩
          by_cases e : i = k
          · rw [e]; exact c
          · exact h2 i (by omega) (by omega)
        · rintro ⟨h1, h2⟩
          have := ih.mpr ⟨by omega, fun i h3 h4 => h2 i (by omega) (by omega)⟩
          omega
      · rw [if_neg c]
        constructor
        · intro h; omega
        · rintro ⟨h1, h2⟩
          exact absurd (h2 k (by omega) (by omega)) c
theorem q_most_iff (b : Nat → Bool) : ∀ n L, L ≤ q_most b n ↔ (L = 0 ∨ ∃ e, e ≤ n ∧ L ≤ q_row b e)
  | 0, L => by
    show L ≤ 0 ↔ _
    constructor
    · intro h; left; omega
    · rintro (h | ⟨e, he, h⟩)
      · omega
      · have : e = 0 := by omega
        subst this
        exact h
  | n + 1, L => by
    have ih := q_most_iff b n
    show L ≤ (if q_most b n < q_row b (n + 1) then q_row b (n + 1) else q_most b n) ↔ _
    constructor
    · intro h
      by_cases c : q_most b n < q_row b (n + 1)
      · rw [if_pos c] at h; exact Or.inr ⟨n + 1, Nat.le_refl _, h⟩
      · rw [if_neg c] at h
        rcases (ih L).mp h with h | ⟨e, he, h⟩
        · exact Or.inl h
        · exact Or.inr ⟨e, by omega, h⟩
    · rintro (h | ⟨e, he, h⟩)
      · omega
      · by_cases e1 : e = n + 1
        · subst e1
          split <;> omega
        · have := (ih L).mpr (Or.inr ⟨e, by omega, h⟩)
          split <;> omega
theorem q_most_run (b : Nat → Bool) (n L : Nat) : L + 1 ≤ q_most b n ↔ ∃ s, s + (L + 1) ≤ n ∧ ∀ l, l < L + 1 → b (s + l) = true := by
  rw [q_most_iff]
  constructor
  · rintro (h | ⟨e, he, h⟩)
    · omega
    · obtain ⟨h1, h2⟩ := (q_row_iff b e (L + 1)).mp h
      exact ⟨e - (L + 1), by omega, fun l hl => h2 _ (by omega) (by omega)⟩
  · rintro ⟨s, hs, h⟩
    right
    refine ⟨s + (L + 1), hs, (q_row_iff b _ _).mpr ⟨by omega, fun i h1 h2 => ?_⟩⟩
    have := h (i - s) (by omega)
    rw [show s + (i - s) = i by omega] at this
    exact this
def q_Xi (m : Nat) : Nat → Nat
  | 0 => m
  | i + 1 => q_Xi m i &&& (q_Xi m i * 2 ^ 1)
theorem q_Xi_le (m : Nat) : ∀ i, q_Xi m i ≤ m
  | 0 => Nat.le_refl m
  | i + 1 => Nat.le_trans Nat.and_le_left (q_Xi_le m i)
theorem q_Xi_bit (m : Nat) : ∀ i j, (q_Xi m i).testBit j = true ↔ (i ≤ j ∧ ∀ l, l ≤ i → m.testBit (j - l) = true)
  | 0, j => by
    show m.testBit j = true ↔ _
    constructor
    · intro h
      exact ⟨Nat.zero_le _, fun l hl => by rw [show l = 0 by omega]; exact h⟩
    · intro h; exact h.2 0 (Nat.le_refl _)
  | i + 1, j => by
    show (q_Xi m i &&& (q_Xi m i * 2 ^ 1)).testBit j = true ↔ _
    rw [Nat.testBit_and, Nat.testBit_mul_two_pow, Bool.and_eq_true, Bool.and_eq_true, decide_eq_true_iff, q_Xi_bit m i j, q_Xi_bit m i (j - 1)]
    constructor
    · rintro ⟨⟨h1, h2⟩, h3, h4, h5⟩
      refine ⟨by omega, fun l hl => ?_⟩
      by_cases e : l = i + 1
      · have := h5 i (Nat.le_refl _)
        rw [show j - 1 - i = j - l by omega] at this
        exact this
      · exact h2 l (by omega)
    · rintro ⟨h1, h2⟩
      exact ⟨⟨by omega, fun l hl => h2 l (by omega)⟩, by omega, by omega, fun l hl => by
        have := h2 (l + 1) (by omega)
        rw [show j - (l + 1) = j - 1 - l by omega] at this
        exact this⟩
theorem q_bitof {x : Nat} : x ≠ 0 ↔ ∃ i, x.testBit i = true := by
  constructor
  · intro h
    apply Classical.byContradiction
    intro hn
    apply h
    apply Nat.eq_of_testBit_eq
    intro i
    rw [Nat.zero_testBit]
    cases hb : x.testBit i
    · rfl
    · exact absurd ⟨i, hb⟩ hn
  · rintro ⟨i, hi⟩ e
    rw [e, Nat.zero_testBit] at hi
    cases hi
theorem q_Xi_run {rs : List Nat} {p m : Nat} (hl : rs.length ≤ 64) (hm : m < 2 ^ 64) (hb : ∀ i, i < 64 → m.testBit i = q_rb rs p i) (j : Nat) : q_Xi m j ≠ 0 ↔ j + 1 ≤ q_most (q_rc rs p) rs.length := by
  have hb' : ∀ i, m.testBit i = true ↔ (i < rs.length ∧ q_rc rs p (rs.length - 1 - i) = true) := by
    intro i
    by_cases h : i < 64
    · rw [hb i h, q_rb_eq, Bool.and_eq_true, decide_eq_true_iff]
    · have : m.testBit i = false := Nat.testBit_lt_two_pow (Nat.lt_of_lt_of_le hm (Nat.pow_le_pow_right (by decide) (by omega)))
      rw [this]
      constructor
      · intro h; cases h
      · intro h; omega
  rw [q_bitof, q_most_run]
  constructor
  · rintro ⟨e, he⟩
    obtain ⟨h1, h2⟩ := (q_Xi_bit m j e).mp he
    have e0 := (hb' e).mp (by have := h2 0 (Nat.zero_le _); rw [Nat.sub_zero] at this; exact this)
    refine ⟨rs.length - 1 - e, by omega, fun l hl => ?_⟩
    have := ((hb' (e - l)).mp (h2 l (by omega))).2
    rw [show rs.length - 1 - (e - l) = rs.length - 1 - e + l by omega] at this
    exact this
  · rintro ⟨s, hs, h⟩
    refine ⟨rs.length - 1 - s, (q_Xi_bit m j _).mpr ⟨by omega, fun l hl => (hb' _).mpr ⟨by omega, ?_⟩⟩⟩
    have := h l (by omega)
    rw [show rs.length - 1 - (rs.length - 1 - s - l) = s + l by omega]
    exact this
theorem q_longestC {a : AS} {S : CS} (r : RC a S) (v : Va a) {n : Nat} (hn : 64 < n) {p : Nat} (hp : p < 8) : mX4_longestWrongRow n S (nI p) = some (nI (q_most (q_rc (aR a) p) (aR a).length)) := by
  have h64 := q_R64 v
  obtain ⟨m, hm, e, hb⟩ := q_Lm r hp
  have hrun := q_Xi_run h64 hm hb
  have hmost : q_most (q_rc (aR a) p) (aR a).length ≤ (aR a).length := by
    rcases Nat.lt_or_ge (aR a).length (q_most (q_rc (aR a) p) (aR a).length) with h | h
    · obtain ⟨s, hs, _⟩ := (q_most_run (q_rc (aR a) p) (aR a).length (aR a).length).mp h
      omega
    · exact h
  unfold mX4_longestWrongRow
  rw [bn_eq (q_bitsOf hp), e]
  have key : R1 (mX4_longestWrongRow_12 n S n (lN m) (nI 0) (nI 0)) (fun z => z = nI (q_most (q_rc (aR a) p) (aR a).length)) := by
    refine q_lp (f := fun k (s : Int64 × Int32) i => mX4_longestWrongRow_12 n S k s.1 s.2 i) (N := 64) (inv := fun i s => s = (lN (q_Xi m i), nI i) ∧ i ≤ q_most (q_rc (aR a) p) (aR a).length) ?_ ?_ 64 0 n (lN m, nI 0) rfl ⟨rfl, Nat.zero_le _⟩ hn
    · rintro k s ⟨rfl, h⟩
      show R1 (mX4_longestWrongRow_12 n S (k + 1) (lN (q_Xi m 64)) (nI 64) (nI 64)) _
      rw [mX4_longestWrongRow_12, if_pos (show (64 : Int32) ≤ nI 64 from nI_le (Nat.le_refl _) (by decide))]
      exact R1.ret (congrArg nI (by omega))
    · rintro i k s hi ⟨rfl, h⟩
      show R1 (mX4_longestWrongRow_12 n S (k + 1) (lN (q_Xi m i)) (nI i) (nI i)) _ ∨ ∃ s' : Int64 × Int32, (s' = (lN (q_Xi m (i + 1)), nI (i + 1)) ∧ i + 1 ≤ q_most (q_rc (aR a) p) (aR a).length) ∧ mX4_longestWrongRow_12 n S (k + 1) (lN (q_Xi m i)) (nI i) (nI i) = mX4_longestWrongRow_12 n S k s'.1 s'.2 (nI (i + 1))
      have hX : q_Xi m i < 2 ^ 64 := Nat.lt_of_le_of_lt (q_Xi_le m i) hm
      rw [mX4_longestWrongRow_12, if_neg (show ¬ (64 : Int32) ≤ nI i from nI_ge hi (by decide))]
      by_cases c : q_Xi m i = 0
      · left
        rw [if_pos ((lg_cmp_eq _ _).mpr ((q_lNz hX).mpr c))]
        refine R1.ret (congrArg nI ?_)
        have : ¬ i + 1 ≤ q_most (q_rc (aR a) p) (aR a).length := fun h => (hrun i).mpr h c
        omega
      · right
        rw [if_neg (fun h => c ((q_lNz hX).mp ((lg_cmp_eq _ _).mp h))), q_i1, show lN (q_Xi m i) <<< ((1 : Int32).toInt64 &&& 63) = lN (q_Xi m i * 2 ^ 1) from wb_shl _ (k := 1) (by decide), fb_andL]
        exact ⟨_, ⟨rfl, (hrun i).mp c⟩, rfl⟩
  obtain ⟨z, ez, rfl⟩ := key
  exact ez
theorem q_longestM {a : AS} {M : MS} (r : RM a M) (v : Va a) {n : Nat} (hn : 64 < n) {p : Nat} (hp : p < 8) : mX8_longest n M (nI p) = some (nI (q_most (q_rc (aR a) p) (aR a).length)) := by
  have h64 := q_R64 v
  have hrow : ∀ i, q_row (q_rc (aR a) p) i ≤ i := fun i => ((q_row_iff _ i _).mp (Nat.le_refl _)).1
  have hmo : ∀ i, q_most (q_rc (aR a) p) i ≤ i := by
    intro i
    induction i with
    | zero => exact Nat.le_refl _
    | succ i ih =>
      have := hrow (i + 1)
      show (if _ then _ else _) ≤ _
      split <;> omega
  obtain ⟨k', e⟩ := q_fun (f := fun k (s : Int32 × Int32) i => mX8_longest_7 n M (nI p) k s.1 s.2 i) (aR a).length (fun i => (nI (q_most (q_rc (aR a) p) i), nI (q_row (q_rc (aR a) p) i))) (by
    intro i k hi
    show mX8_longest_7 n M (nI p) (k + 1) (nI (q_most (q_rc (aR a) p) i)) (nI (q_row (q_rc (aR a) p) i)) (nI i) = mX8_longest_7 n M (nI p) k (nI (q_most (q_rc (aR a) p) (i + 1))) (nI (q_row (q_rc (aR a) p) (i + 1))) (nI (i + 1))
    have b1 := hrow i
    have b2 := hmo i
    have fin : ∀ t, t = q_row (q_rc (aR a) p) (i + 1) → mX8_longest_34 n (mX8_longest_7 n M (nI p) k) M (nI p) (nI (q_most (q_rc (aR a) p) i)) (nI i) (nI t) = mX8_longest_7 n M (nI p) k (nI (q_most (q_rc (aR a) p) (i + 1))) (nI (q_row (q_rc (aR a) p) (i + 1))) (nI (i + 1)) := by
      intro t ht
      have b3 := hrow (i + 1)
      unfold mX8_longest_34 mX8_longest_45
      rw [q_i1]
      show _ = mX8_longest_7 n M (nI p) k (nI (if q_most (q_rc (aR a) p) i < q_row (q_rc (aR a) p) (i + 1) then q_row (q_rc (aR a) p) (i + 1) else q_most (q_rc (aR a) p) i)) _ _
      rw [← ht]
      by_cases c : q_most (q_rc (aR a) p) i < t
      · rw [if_neg (nI_ge c (by omega)), if_pos c]
      · rw [if_pos (nI_le (by omega) (by omega)), if_neg c]
    rw [mX8_longest_7, r.2.2.2.2.2.2.2.1, if_neg (nI_ge hi (by omega)), bn_eq (q_recorded r v hp hi)]
    cases c : q_rc (aR a) p i
    · rw [if_neg (by decide)]
      exact fin 0 (by show 0 = if q_rc (aR a) p i = true then _ else 0; rw [c]; rfl)
    · rw [if_pos (bI_1.mpr rfl), q_i1]
      exact fin _ (by show _ = if q_rc (aR a) p i = true then _ else 0; rw [c]; rfl)) (by omega : (aR a).length < n)
  show mX8_longest_7 n M (nI p) n (nI 0) (nI 0) (nI 0) = _
  refine e.trans ?_
  show mX8_longest_7 n M (nI p) (k' + 1) _ _ (nI (aR a).length) = _
  rw [mX8_longest_7, r.2.2.2.2.2.2.2.1, if_pos (nI_le (Nat.le_refl _) (by omega))]
/-! records unlike those so many before them -/
def q_un (rs : List Nat) (p d : Nat) : Nat := fb_ct (fun k => q_rc rs p (k + d) ^^ q_rc rs p k) (rs.length - d)
theorem q_diff {a : AS} {S : CS} (r : RC a S) (v : Va a) {p d : Nat} (hp : p < 8) (hd : 1 ≤ d) (hd2 : d ≤ (aR a).length) : ∃ D, D < 2 ^ 63 ∧ mX4_differences S (nI p) (nI d) = some (lN D) ∧ fb_ct (fun k => D.testBit k) 64 = q_un (aR a) p d := by
  have h64 := q_R64 v
  obtain ⟨m, hm, e, hb⟩ := q_Lm r hp
  refine ⟨(m ^^^ m / 2 ^ d) % 2 ^ ((aR a).length - d), ?_, ?_, ?_⟩
  · refine Nat.lt_of_lt_of_le (Nat.mod_lt _ (Nat.two_pow_pos _)) (Nat.pow_le_pow_right (by decide) (by omega))
  · unfold mX4_differences
    rw [bn_eq (q_bitsOf hp), e, r.2.2.2.2.2.2.2.1, pk_sub hd2]
    have h1 : (1 : Int64) <<< ((nI ((aR a).length - d)).toInt64 &&& 63) = lN (2 ^ ((aR a).length - d)) := by
      have := wb_shl 1 (k := (aR a).length - d) (by omega)
      rw [Nat.one_mul] at this
      exact this
    by_cases hd64 : d < 64
    · rw [wb_shr hm hd64, fb_xorL, h1, show lN (2 ^ ((aR a).length - d)) - (1 : Int64) = lN (2 ^ ((aR a).length - d) - 1) from lN_sub (Nat.two_pow_pos _), fb_maskL]
    · have e1 : d = 64 := by omega
      have e2 : (aR a).length = 64 := by omega
      rw [h1, show lN (2 ^ ((aR a).length - d)) - (1 : Int64) = lN (2 ^ ((aR a).length - d) - 1) from lN_sub (Nat.two_pow_pos _), e2, e1]
      rw [show lN (2 ^ (64 - 64) - 1) = (0 : Int64) by decide, show (m ^^^ m / 2 ^ 64) % 2 ^ (64 - 64) = 0 by rw [Nat.sub_self, Nat.pow_zero, Nat.mod_one], Int64.and_zero]
      rfl
  · have hD : ∀ i, i < 64 → ((m ^^^ m / 2 ^ d) % 2 ^ ((aR a).length - d)).testBit i = (decide (i < (aR a).length - d) && (fun i => (fun k => q_rc (aR a) p (k + d) ^^ q_rc (aR a) p k) ((aR a).length - d - 1 - i)) i) := by
      intro i hi
      rw [Nat.testBit_mod_two_pow, Nat.testBit_xor, Nat.testBit_div_two_pow]
      by_cases c : i < (aR a).length - d
      · rw [decide_eq_true c, Bool.true_and, Bool.true_and, hb i hi, hb (i + d) (by omega), q_rb_eq, q_rb_eq, decide_eq_true (show i < (aR a).length by omega), decide_eq_true (show i + d < (aR a).length by omega), Bool.true_and, Bool.true_and]
        show _ = (q_rc (aR a) p ((aR a).length - d - 1 - i + d) ^^ q_rc (aR a) p ((aR a).length - d - 1 - i))
        rw [show (aR a).length - d - 1 - i + d = (aR a).length - 1 - i by omega, show (aR a).length - d - 1 - i = (aR a).length - 1 - (i + d) by omega]
      · rw [decide_eq_false c, Bool.false_and, Bool.false_and]
    rw [fb_ct_cong hD, q_cut64 (by omega)]
    exact q_rev ((aR a).length - d) (fun k => q_rc (aR a) p (k + d) ^^ q_rc (aR a) p k)
theorem q_changes {a : AS} {S : CS} (r : RC a S) (v : Va a) {p : Nat} (hp : p < 8) : mX4_changes S (nI p) = some (nI (q_un (aR a) p 1)) := by
  have h64 := q_R64 v
  unfold mX4_changes
  rw [r.2.2.2.2.2.2.2.1]
  by_cases c : 2 ≤ (aR a).length
  · obtain ⟨D, hD, e, hc⟩ := q_diff r v hp (Nat.le_refl 1) (by omega)
    rw [if_pos (show (2 : Int32) ≤ nI (aR a).length from nI_le (a := 2) c (by omega)), bn_eq (show mX4_differences S (nI p) (1 : Int32) = some (lN D) from e), bn_eq (q_bitCountL D (by omega)), hc]
  · rw [if_neg (show ¬ (2 : Int32) ≤ nI (aR a).length from nI_ge (b := 2) (by omega) (by decide))]
    unfold q_un
    rw [show (aR a).length - 1 = 0 by omega]; rfl
theorem q_unlike {a : AS} {M : MS} (r : RM a M) (v : Va a) {n : Nat} (hn : 64 < n) {p d : Nat} (hp : p < 8) (hd2 : d ≤ 64) : mX8_unlike n M (nI p) (nI d) = some (nI (q_un (aR a) p d)) := by
  have h64 := q_R64 v
  have L := r.2.2.2.2.2.2.2.1
  unfold mX8_unlike
  rcases Nat.lt_or_ge (aR a).length d with c | c
  · obtain ⟨k, rfl⟩ : ∃ k, n = k + 1 := ⟨n - 1, by omega⟩
    rw [mX8_unlike_5, L, if_pos (nI_le (by omega) (by omega))]
    unfold q_un
    rw [show (aR a).length - d = 0 by omega]; rfl
  · obtain ⟨s, k', hs, e⟩ := q_run (f := fun k x i => mX8_unlike_5 n M (nI p) (nI d) k x i) (N := (aR a).length) (inv := fun i x => d ≤ i ∧ x = nI (fb_ct (fun k => q_rc (aR a) p (k + d) ^^ q_rc (aR a) p k) (i - d))) (by
      rintro i k x hi ⟨hdi, rfl⟩
      refine ⟨_, ⟨by omega, rfl⟩, ?_⟩
      show mX8_unlike_5 n M (nI p) (nI d) (k + 1) _ (nI i) = mX8_unlike_5 n M (nI p) (nI d) k (nI (fb_ct _ (i + 1 - d))) _
      rw [mX8_unlike_5, L, if_neg (nI_ge hi (by omega)), bn_eq (q_recorded r v hp hi), pk_sub hdi, bn_eq (q_recorded r v hp (show i - d < (aR a).length by omega)), show i + 1 - d = (i - d) + 1 by omega, fb_ct_succ]
      show _ = mX8_unlike_5 n M (nI p) (nI d) k (nI (_ + (if (q_rc (aR a) p (i - d + d) ^^ q_rc (aR a) p (i - d)) = true then 1 else 0))) _
      rw [show i - d + d = i by omega]
      unfold mX8_unlike_39
      rw [q_i1]
      cases q_rc (aR a) p i <;> cases q_rc (aR a) p (i - d)
      · rw [if_pos rfl]; exact congrArg (fun z => mX8_unlike_5 n M (nI p) (nI d) k z _) (nI_add _ 0)
      · rw [if_neg (by decide)]; exact congrArg (fun z => mX8_unlike_5 n M (nI p) (nI d) k z _) (nI_add _ 1)
      · rw [if_neg (by decide)]; exact congrArg (fun z => mX8_unlike_5 n M (nI p) (nI d) k z _) (nI_add _ 1)
      · rw [if_pos rfl]; exact congrArg (fun z => mX8_unlike_5 n M (nI p) (nI d) k z _) (nI_add _ 0)) ((aR a).length - d) d n (0 : Int32) (by omega) ⟨Nat.le_refl _, by rw [Nat.sub_self]; rfl⟩ (by omega)
    obtain ⟨_, rfl⟩ := hs
    refine e.trans ?_
    show mX8_unlike_5 n M (nI p) (nI d) (k' + 1) _ (nI (aR a).length) = _
    rw [mX8_unlike_5, L, if_pos (nI_le (Nat.le_refl _) (by omega))]; rfl
/-- the least period, or -1 -/
def q_per (rs : List Nat) (p : Nat) (z : Int32) : Prop := (∃ d, 1 ≤ d ∧ d ≤ 32 ∧ 2 * d ≤ rs.length ∧ q_un rs p d = 0 ∧ (∀ e, 1 ≤ e → e < d → q_un rs p e ≠ 0) ∧ z = nI d) ∨ ((∀ e, 1 ≤ e → e ≤ 32 → 2 * e ≤ rs.length → q_un rs p e ≠ 0) ∧ z = -1)
theorem q_per_one {rs : List Nat} {p : Nat} {z z' : Int32} (h : q_per rs p z) (h' : q_per rs p z') : z = z' := by
  rcases h with ⟨d, h1, h2, h3, h4, h5, rfl⟩ | ⟨h1, rfl⟩ <;> rcases h' with ⟨d', g1, g2, g3, g4, g5, rfl⟩ | ⟨g1, rfl⟩
  · rcases Nat.lt_trichotomy d d' with c | c | c
    · exact absurd h4 (g5 d h1 c)
    · rw [c]
    · exact absurd g4 (h5 d' g1 c)
  · exact absurd h4 (g1 d h1 h2 h3)
  · exact absurd g4 (h1 d' g1 g2 g3)
  · rfl
theorem q_leastPeriod {a : AS} {S : CS} (r : RC a S) (v : Va a) {n : Nat} (hn : 33 < n) {p : Nat} (hp : p < 8) : R1 (mX4_leastPeriod n S (nI p)) (q_per (aR a) p) := by
  have h64 := q_R64 v
  refine q_lp (f := fun k (_ : Unit) i => mX4_leastPeriod_2 n S (nI p) k i) (N := 33) (inv := fun i _ => 1 ≤ i ∧ ∀ e, 1 ≤ e → e < i → q_un (aR a) p e ≠ 0) ?_ ?_ 32 1 n () rfl ⟨Nat.le_refl _, fun e h1 h2 => by omega⟩ (by omega)
  · rintro k _ ⟨_, h⟩
    show R1 (mX4_leastPeriod_2 n S (nI p) (k + 1) (nI 33)) _
    rw [mX4_leastPeriod_2, if_pos (show (32 : Int32) < nI 33 from nI_lt (a := 32) (by decide) (by decide))]
    exact R1.ret (Or.inr ⟨fun e h1 h2 _ => h e h1 (by omega), rfl⟩)
  · rintro i k _ hi ⟨h1, h⟩
    show R1 (mX4_leastPeriod_2 n S (nI p) (k + 1) (nI i)) _ ∨ ∃ s' : Unit, (1 ≤ i + 1 ∧ ∀ e, 1 ≤ e → e < i + 1 → q_un (aR a) p e ≠ 0) ∧ mX4_leastPeriod_2 n S (nI p) (k + 1) (nI i) = mX4_leastPeriod_2 n S (nI p) k (nI (i + 1))
    rw [mX4_leastPeriod_2, if_neg (show ¬ (32 : Int32) < nI i from nI_nlt (a := 32) (b := i) (by omega) (by decide)), r.2.2.2.2.2.2.2.1, show (2 : Int32) * nI i = nI (2 * i) from pk_mul 2 i]
    by_cases c : (aR a).length < 2 * i
    · left
      rw [if_pos (nI_lt c (by omega))]
      exact R1.ret (Or.inr ⟨fun e g1 g2 g3 => h e g1 (by omega), rfl⟩)
    · rw [if_neg (nI_nlt (by omega) (by omega))]
      obtain ⟨D, hD, e, hc⟩ := q_diff r v hp h1 (by omega)
      rw [bn_eq e]
      have hz : D = 0 ↔ q_un (aR a) p i = 0 := by
        rw [← hc, fb_ct_zero]
        constructor
        · intro e k _
          rw [e, Nat.zero_testBit]
        · intro hk
          apply Classical.byContradiction
          intro hne
          obtain ⟨j, hj⟩ := q_bitof.mp hne
          by_cases hj64 : j < 64
          · rw [hk j hj64] at hj; cases hj
          · rw [Nat.testBit_lt_two_pow (Nat.lt_of_lt_of_le hD (Nat.pow_le_pow_right (by decide) (by omega)))] at hj; cases hj
      by_cases c2 : D = 0
      · left
        rw [if_pos ((lg_cmp_eq _ _).mpr ((q_lNz (by omega)).mpr c2))]
        exact R1.ret (Or.inl ⟨i, h1, by omega, by omega, hz.mp c2, h, rfl⟩)
      · right
        rw [if_neg (fun h => c2 ((q_lNz (by omega)).mp ((lg_cmp_eq _ _).mp h))), q_i1]
        exact ⟨(), ⟨by omega, fun e g1 g2 => by
          by_cases ee : e = i
          · rw [ee]; exact fun h => c2 (hz.mpr h)
          · exact h e g1 (by omega)⟩, rfl⟩
theorem q_period8 {a : AS} {M : MS} (r : RM a M) (v : Va a) {n : Nat} (hn : 64 < n) {p : Nat} (hp : p < 8) : R1 (mX8_period n M (nI p)) (q_per (aR a) p) := by
  have h64 := q_R64 v
  refine q_lp (f := fun k (_ : Unit) i => mX8_period_2 n M (nI p) k i) (N := 33) (inv := fun i _ => 1 ≤ i ∧ ∀ e, 1 ≤ e → e < i → q_un (aR a) p e ≠ 0) ?_ ?_ 32 1 n () rfl ⟨Nat.le_refl _, fun e h1 h2 => by omega⟩ (by omega)
  · rintro k _ ⟨_, h⟩
    show R1 (mX8_period_2 n M (nI p) (k + 1) (nI 33)) _
    rw [mX8_period_2, if_pos (show (32 : Int32) < nI 33 from nI_lt (a := 32) (by decide) (by decide))]
    exact R1.ret (Or.inr ⟨fun e h1 h2 _ => h e h1 (by omega), rfl⟩)
  · rintro i k _ hi ⟨h1, h⟩
    show R1 (mX8_period_2 n M (nI p) (k + 1) (nI i)) _ ∨ ∃ s' : Unit, (1 ≤ i + 1 ∧ ∀ e, 1 ≤ e → e < i + 1 → q_un (aR a) p e ≠ 0) ∧ mX8_period_2 n M (nI p) (k + 1) (nI i) = mX8_period_2 n M (nI p) k (nI (i + 1))
    rw [mX8_period_2, if_neg (show ¬ (32 : Int32) < nI i from nI_nlt (a := 32) (b := i) (by omega) (by decide)), r.2.2.2.2.2.2.2.1, show (2 : Int32) * nI i = nI (2 * i) from pk_mul 2 i]
    by_cases c : (aR a).length < 2 * i
    · left
      rw [if_pos (nI_lt c (by omega))]
      exact R1.ret (Or.inr ⟨fun e g1 g2 g3 => h e g1 (by omega), rfl⟩)
    · rw [if_neg (nI_nlt (by omega) (by omega)), bn_eq (q_unlike r v hn hp (by omega))]
      have hle : q_un (aR a) p i ≤ (aR a).length - i := fb_ct_le _ _
      by_cases c2 : q_un (aR a) p i = 0
      · left
        rw [if_pos (by rw [c2]; rfl)]
        exact R1.ret (Or.inl ⟨i, h1, by omega, by omega, c2, h, rfl⟩)
      · right
        rw [if_neg (nI_ne0 (by omega) (by omega)), q_i1]
        exact ⟨(), ⟨by omega, fun e g1 g2 => by
          by_cases ee : e = i
          · rw [ee]; exact c2
          · exact h e g1 (by omega)⟩, rfl⟩
/-- what is said of a pin's records -/
def q_abt (rs : List Nat) (p what : Nat) (z : Int32) : Prop := (what = 0 ∧ z = nI rs.length) ∨ (what = 1 ∧ z = nI (q_wc rs p)) ∨ (what = 2 ∧ z = nI (q_most (q_rc rs p) rs.length)) ∨ (what = 3 ∧ z = nI (q_un rs p 1)) ∨ (4 ≤ what ∧ q_per rs p z)
theorem q_abt_one {rs : List Nat} {p w : Nat} {z z' : Int32} (h : q_abt rs p w z) (h' : q_abt rs p w z') : z = z' := by
  rcases h with ⟨rfl, rfl⟩ | ⟨rfl, rfl⟩ | ⟨rfl, rfl⟩ | ⟨rfl, rfl⟩ | ⟨hw, h⟩ <;> rcases h' with ⟨g, g2⟩ | ⟨g, g2⟩ | ⟨g, g2⟩ | ⟨g, g2⟩ | ⟨g, g2⟩ <;> first | (exact g2.symm) | omega | exact q_per_one h g2
theorem q_numberAbout {a : AS} {S : CS} (r : RC a S) (v : Va a) {n : Nat} (hn : 64 < n) {p what : Nat} (hp : p < 8) (hw : what < 5) : R1 (mX4_numberAbout n S (nI p) (nI what)) (q_abt (aR a) p what) := by
  unfold mX4_numberAbout
  rw [r.2.2.2.2.2.2.2.1, bn_eq (q_timesWrong r v hp), bn_eq (q_longestC r v hn hp), bn_eq (q_changes r v hp)]
  by_cases a0 : what = 0
  · subst a0
    rw [if_pos (show nI 0 = 0 from rfl)]; exact R1.ret (Or.inl ⟨rfl, rfl⟩)
  · rw [if_neg (nI_ne0 (by omega) (by omega))]
    by_cases a1 : what = 1
    · subst a1
      rw [if_pos (show nI 1 = 1 from rfl)]; exact R1.ret (Or.inr (Or.inl ⟨rfl, rfl⟩))
    · rw [if_neg (show ¬ nI what = 1 from fun e => a1 ((nI_eq (by omega) (by omega)).mp e))]
      by_cases a2 : what = 2
      · subst a2
        rw [if_pos (show nI 2 = 2 from rfl)]; exact R1.ret (Or.inr (Or.inr (Or.inl ⟨rfl, rfl⟩)))
      · rw [if_neg (show ¬ nI what = 2 from fun e => a2 ((nI_eq (by omega) (by omega)).mp e))]
        by_cases a3 : what = 3
        · subst a3
          rw [if_pos (show nI 3 = 3 from rfl)]; exact R1.ret (Or.inr (Or.inr (Or.inr (Or.inl ⟨rfl, rfl⟩))))
        · rw [if_neg (show ¬ nI what = 3 from fun e => a3 ((nI_eq (by omega) (by omega)).mp e))]
          exact R1.bn (q_leastPeriod r v (by omega) hp) (fun z hz => R1.ret (Or.inr (Or.inr (Or.inr (Or.inr ⟨by omega, hz⟩)))))
theorem q_recordsNow {a : AS} {M : MS} (r : RM a M) (v : Va a) {n : Nat} (hn : 64 < n) {p what : Nat} (hp : p < 8) (hw : what < 5) : R1 (mX8_recordsNow n M (nI p) (nI what)) (q_abt (aR a) p what) := by
  unfold mX8_recordsNow
  rw [r.2.2.2.2.2.2.2.1, bn_eq (q_wrongRecords r v hn hp), bn_eq (q_longestM r v hn hp), bn_eq (show mX8_unlike n M (nI p) (1 : Int32) = _ from q_unlike r v hn hp (d := 1) (by decide))]
  by_cases a0 : what = 0
  · subst a0
    rw [if_pos (show nI 0 = 0 from rfl)]; exact R1.ret (Or.inl ⟨rfl, rfl⟩)
  · rw [if_neg (nI_ne0 (by omega) (by omega))]
    by_cases a1 : what = 1
    · subst a1
      rw [if_pos (show nI 1 = 1 from rfl)]; exact R1.ret (Or.inr (Or.inl ⟨rfl, rfl⟩))
    · rw [if_neg (show ¬ nI what = 1 from fun e => a1 ((nI_eq (by omega) (by omega)).mp e))]
      by_cases a2 : what = 2
      · subst a2
        rw [if_pos (show nI 2 = 2 from rfl)]; exact R1.ret (Or.inr (Or.inr (Or.inl ⟨rfl, rfl⟩)))
      · rw [if_neg (show ¬ nI what = 2 from fun e => a2 ((nI_eq (by omega) (by omega)).mp e))]
        by_cases a3 : what = 3
        · subst a3
          rw [if_pos (show nI 3 = 3 from rfl)]; exact R1.ret (Or.inr (Or.inr (Or.inr (Or.inl ⟨rfl, rfl⟩))))
        · rw [if_neg (show ¬ nI what = 3 from fun e => a3 ((nI_eq (by omega) (by omega)).mp e))]
          exact R1.bn (q_period8 r v hn hp) (fun z hz => R1.ret (Or.inr (Or.inr (Or.inr (Or.inr ⟨by omega, hz⟩)))))
/-! the pin that was wrong most often -/
def q_mw (c : Nat → Nat) : Nat → Int32 × Nat
  | 0 => (-1, 0)
  | i + 1 => if (q_mw c i).2 < c i then (nI i, c i) else q_mw c i
theorem q_wc_le {a : AS} (v : Va a) (p : Nat) : q_wc (aR a) p ≤ 64 := Nat.le_trans (fb_ct_le _ _) (q_R64 v)
theorem q_mw_le {a : AS} (v : Va a) : ∀ i, (q_mw (q_wc (aR a)) i).2 ≤ 64
  | 0 => Nat.zero_le _
  | i + 1 => by
    have := q_mw_le v i
    have := q_wc_le v i
    show (if _ then _ else _ : Int32 × Nat).2 ≤ 64
    split <;> assumption
theorem q_mostWrong {a : AS} {S : CS} (r : RC a S) (v : Va a) {n : Nat} (hn : 8 < n) : mX4_mostWrongPin n S = some (q_mw (q_wc (aR a)) 8).1 := by
  obtain ⟨k', e⟩ := q_fun (f := fun k (s : Int32 × Int32) i => mX4_mostWrongPin_6 n S k s.1 s.2 i) 8 (fun i => ((q_mw (q_wc (aR a)) i).1, nI (q_mw (q_wc (aR a)) i).2)) (by
    intro i k hi
    show mX4_mostWrongPin_6 n S (k + 1) (q_mw (q_wc (aR a)) i).1 (nI (q_mw (q_wc (aR a)) i).2) (nI i) = mX4_mostWrongPin_6 n S k (if (q_mw (q_wc (aR a)) i).2 < q_wc (aR a) i then (nI i, q_wc (aR a) i) else q_mw (q_wc (aR a)) i).1 (nI (if (q_mw (q_wc (aR a)) i).2 < q_wc (aR a) i then (nI i, q_wc (aR a) i) else q_mw (q_wc (aR a)) i).2) (nI (i + 1))
    have b1 := q_mw_le v i
    have b2 := q_wc_le v i
    rw [mX4_mostWrongPin_6, if_neg (show ¬ (8 : Int32) ≤ nI i from nI_ge hi (by decide)), bn_eq (q_timesWrong r v hi), bn_eq (q_timesWrong r v hi)]
    unfold mX4_mostWrongPin_29
    rw [q_i1]
    by_cases c : (q_mw (q_wc (aR a)) i).2 < q_wc (aR a) i
    · rw [if_neg (nI_ge c (by omega)), if_pos c]
    · rw [if_pos (nI_le (by omega) (by omega)), if_neg c]) hn
  show mX4_mostWrongPin_6 n S n (-1) (nI 0) (nI 0) = _
  refine e.trans ?_
  show mX4_mostWrongPin_6 n S (k' + 1) _ _ (nI 8) = _
  rw [mX4_mostWrongPin_6, if_pos (show (8 : Int32) ≤ nI 8 from nI_le (Nat.le_refl _) (by decide))]
theorem q_suspected {a : AS} {M : MS} (r : RM a M) (v : Va a) {n : Nat} (hn : 64 < n) : mX8_suspected n M = some (q_mw (q_wc (aR a)) 8).1 := by
  obtain ⟨k', e⟩ := q_fun (f := fun k (s : Int32 × Int32) i => mX8_suspected_6 n M k s.1 s.2 i) 8 (fun i => ((q_mw (q_wc (aR a)) i).1, nI (q_mw (q_wc (aR a)) i).2)) (by
    intro i k hi
    show mX8_suspected_6 n M (k + 1) (q_mw (q_wc (aR a)) i).1 (nI (q_mw (q_wc (aR a)) i).2) (nI i) = mX8_suspected_6 n M k (if (q_mw (q_wc (aR a)) i).2 < q_wc (aR a) i then (nI i, q_wc (aR a) i) else q_mw (q_wc (aR a)) i).1 (nI (if (q_mw (q_wc (aR a)) i).2 < q_wc (aR a) i then (nI i, q_wc (aR a) i) else q_mw (q_wc (aR a)) i).2) (nI (i + 1))
    have b1 := q_mw_le v i
    have b2 := q_wc_le v i
    rw [mX8_suspected_6, if_neg (show ¬ (8 : Int32) ≤ nI i from nI_ge hi (by decide)), bn_eq (q_wrongRecords r v hn hi)]
    unfold mX8_suspected_30 mX8_suspected_43
    rw [q_i1]
    by_cases c : (q_mw (q_wc (aR a)) i).2 < q_wc (aR a) i
    · rw [if_neg (nI_ge c (by omega)), if_neg (nI_ge c (by omega)), if_pos c]
    · rw [if_pos (nI_le (by omega) (by omega)), if_pos (nI_le (by omega) (by omega)), if_neg c]) (by omega : 8 < n)
  show mX8_suspected_6 n M n (-1) (nI 0) (nI 0) = _
  refine e.trans ?_
  show mX8_suspected_6 n M (k' + 1) _ _ (nI 8) = _
  rw [mX8_suspected_6, if_pos (show (8 : Int32) ≤ nI 8 from nI_le (Nat.le_refl _) (by decide))]
/-! the share of wrong records -/
theorem q_one : ∀ x, x < 513 → FP.dmul FP.dconst1 (FP.i2d (nI x)) = FP.i2d (nI x) ∧ (FP.i2d (nI x)) &&& 0x7fffffffffffffff ≤ 0x7ff0000000000000 := by decide +kernel
def q_shr (a : AS) : UInt64 := if (aR a).length = 0 then FP.dconst0 else FP.ddiv (FP.i2d (nI (fb_sm (q_wc (aR a)) 8))) (FP.i2d ((8 : Int32) * nI (aR a).length))
theorem q_smw {a : AS} (v : Va a) : fb_sm (q_wc (aR a)) 8 < 513 := by
  have := fb_sm_bound (f := q_wc (aR a)) (c := 64) (n := 8) (fun k _ => q_wc_le v k)
  omega
theorem q_shareC {a : AS} {S : CS} (r : RC a S) (v : Va a) {n : Nat} (hn : 8 < n) : mX4_shareOfWrong n S = some (q_shr a) := by
  have h64 := q_R64 v
  unfold mX4_shareOfWrong q_shr
  rw [r.2.2.2.2.2.2.2.1]
  by_cases c : (aR a).length = 0
  · rw [c, if_neg (by decide), if_pos rfl]
  · rw [if_pos (show (0 : Int32) < nI _ from nI_lt (a := 0) (by omega) (by omega)), if_neg c]
    obtain ⟨k', e⟩ := q_fun (f := fun k x i => mX4_shareOfWrong_13 n S k x i) 8 (fun i => nI (fb_sm (q_wc (aR a)) i)) (by
      intro i k hi
      show mX4_shareOfWrong_13 n S (k + 1) _ (nI i) = mX4_shareOfWrong_13 n S k _ _
      rw [mX4_shareOfWrong_13, if_neg (show ¬ (8 : Int32) ≤ nI i from nI_ge hi (by decide)), bn_eq (q_timesWrong r v hi), nI_add, q_i1, fb_sm_succ]) hn
    have e' : mX4_shareOfWrong_13 n S n (0 : Int32) (0 : Int32) = _ := e
    rw [e', mX4_shareOfWrong_13, if_pos (show (8 : Int32) ≤ nI 8 from nI_le (Nat.le_refl _) (by decide)), r.2.2.2.2.2.2.2.1]
theorem q_shareM {a : AS} {M : MS} (r : RM a M) (v : Va a) {n : Nat} (hn : 64 < n) : mX8_wrongShare n M = some (q_shr a, sG M 0 0) := by
  have h64 := q_R64 v
  have r0 := (Km.sG M 0 0 (Or.inl rfl)).rm r
  have ho := q_one _ (q_smw v)
  unfold mX8_wrongShare q_shr
  obtain ⟨k', e⟩ := q_fun (f := fun k (x : Int32) i => mX8_wrongShare_9 n k (sG M 0 0) x i) 8 (fun i => nI (fb_sm (q_wc (aR a)) i)) (by
    intro i k hi
    show mX8_wrongShare_9 n (k + 1) (sG M 0 0) _ (nI i) = mX8_wrongShare_9 n k (sG M 0 0) _ _
    rw [mX8_wrongShare_9, if_neg (show ¬ (8 : Int32) ≤ nI i from nI_ge hi (by decide)), bn_eq (q_wrongRecords r0 v hn hi), nI_add, q_i1, fb_sm_succ]) (by omega : 8 < n)
  have e' : mX8_wrongShare_9 n n (sG M 0 0) (0 : Int32) (0 : Int32) = _ := e
  rw [e', mX8_wrongShare_9, if_pos (show (8 : Int32) ≤ nI 8 from nI_le (Nat.le_refl _) (by decide)), r0.2.2.2.2.2.2.2.1, ho.1]
  by_cases c : (aR a).length = 0
  · rw [c, if_pos (show nI 0 = 0 from rfl), if_pos rfl]
  · rw [if_neg (nI_ne0 (by omega) (by omega)), if_neg c, if_pos ho.2]
