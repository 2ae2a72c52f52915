/-! splits, on both sides -/
theorem q_unite4s {S : CS} {n : Nat} {g : Nat → Nat} (hg : ∀ j, j < 4 → S.2.1 5 j = nI (g j) ∧ g j < 4) {x y : Nat} (hx : x < 4) (hy : y < 4) (h : g x = g y) : mX3_unite_4 n S (nI x) (nI y) = some (0, S) := by
  have gr : ∀ x, x < 4 → mX3_groupOf_4 S (nI x) = some (nI (g x)) := by
    intro x hx
    unfold mX3_groupOf_4
    rw [if_neg (nI_pos (by omega)), if_neg (show ¬ (4 : Int32) ≤ nI x from nI_ge hx (by decide)), if_pos (inb_n hx (by decide)), nI_clamp (by omega), (hg x hx).1]
  unfold mX3_unite_4
  rw [bn_eq (gr x hx), bn_eq (gr y hy), if_pos (congrArg nI h)]
theorem q_unite4 {S : CS} {n : Nat} (hn : 4 < n) {g : Nat → Nat} (hg : ∀ j, j < 4 → S.2.1 5 j = nI (g j) ∧ g j < 4) {x y : Nat} (hx : x < 4) (hy : y < 4) (hxy : ¬ g x = g y) : R1 (mX3_unite_4 n S (nI x) (nI y)) (fun z => z.1 = 1 ∧ Fr (fun k => k ≠ 5) S z.2 ∧ ∀ j, j < 4 → z.2.2.1 5 j = nI (q_mg g x y j) ∧ q_mg g x y j < 4) := by
  have gr : ∀ x, x < 4 → mX3_groupOf_4 S (nI x) = some (nI (g x)) := by
    intro x hx
    unfold mX3_groupOf_4
    rw [if_neg (nI_pos (by omega)), if_neg (show ¬ (4 : Int32) ≤ nI x from nI_ge hx (by decide)), if_pos (inb_n hx (by decide)), nI_clamp (by omega), (hg x hx).1]
  have gx := (hg x hx).2
  have gy := (hg y hy).2
  unfold mX3_unite_4
  rw [bn_eq (gr x hx), bn_eq (gr y hy), if_neg (fun h => hxy ((nI_eq (by omega) (by omega)).mp h))]
  have mb : ∀ j, j < 4 → q_mg g x y j < 4 := by
    intro j hj
    unfold q_mg
    split
    · exact gx
    · exact (hg j hj).2
  refine q_lp (f := fun k s i => mX3_unite_4_24 n (nI (g x)) (nI (g y)) k s i) (N := 4) (inv := fun i S' => Fr (fun k => k ≠ 5) S S' ∧ ∀ j, j < 4 → S'.2.1 5 j = nI (if j < i then q_mg g x y j else g j)) ?_ ?_ 4 0 n S rfl ⟨Fr.rf _ S, fun j hj => by rw [if_neg (Nat.not_lt_zero j)]; exact (hg j hj).1⟩ (by omega)
  · intro k s ⟨hF, hA⟩
    show R1 (mX3_unite_4_24 n (nI (g x)) (nI (g y)) (k + 1) s (nI 4)) _
    rw [mX3_unite_4_24, if_pos (show (4 : Int32) ≤ nI 4 from nI_le (Nat.le_refl _) (by decide))]
    exact R1.ret ⟨rfl, hF, fun j hj => ⟨by rw [show (1, s).2 = s from rfl, hA j hj, if_pos hj], mb j hj⟩⟩
  · intro i k s hi ⟨hF, hA⟩
    right
    show ∃ s', (Fr (fun k => k ≠ 5) S s' ∧ ∀ j, j < 4 → s'.2.1 5 j = nI (if j < i + 1 then q_mg g x y j else g j)) ∧ mX3_unite_4_24 n (nI (g x)) (nI (g y)) (k + 1) s (nI i) = mX3_unite_4_24 n (nI (g x)) (nI (g y)) k s' (nI (i + 1))
    have hgi := (hg i hi).2
    rw [mX3_unite_4_24, if_neg (show ¬ (4 : Int32) ≤ nI i from nI_ge hi (by decide)), if_pos (inb_n hi (by decide)), nI_clamp (by omega), hA i hi, if_neg (Nat.lt_irrefl i)]
    have rest : ∀ j, j ≠ i → (if j < i + 1 then q_mg g x y j else g j) = (if j < i then q_mg g x y j else g j) := by
      intro j hj
      by_cases h : j < i
      · rw [if_pos h, if_pos (by omega)]
      · rw [if_neg h, if_neg (by omega)]
    by_cases c1 : g i = g y
    · rw [if_pos (congrArg nI c1), if_pos (inb_n hi (by decide))]
      refine ⟨sA s 5 i (nI (g x)), ⟨hF.tr (Fr.sA s (fun h => h rfl)), fun j hj => ?_⟩, by unfold mX3_unite_4_54; rw [q_i1]⟩
      rw [sA_r]
      by_cases e : j = i
      · rw [e, if_pos (Nat.lt_succ_self i)]
        unfold q_mg
        rw [if_pos c1]; exact pk_us
      · rw [pk_un e, rest j e]; exact hA j hj
    · rw [if_neg (fun h => c1 ((nI_eq (by omega) (by omega)).mp h))]
      refine ⟨s, ⟨hF, fun j hj => ?_⟩, by unfold mX3_unite_4_54; rw [q_i1]⟩
      by_cases e : j = i
      · rw [e, if_pos (Nat.lt_succ_self i), hA i hi, if_neg (Nat.lt_irrefl i)]
        unfold q_mg
        rw [if_neg c1]
      · rw [rest j e]; exact hA j hj
theorem q_splitsC {a : AS} {S : CS} (r : RC a S) (v : Va a) {n : Nat} (hn : 18 < n) : R1 (mX0_splitsNeeded n S) (fun z => z.1 = nI (q_spC (q_b a)) ∧ Fr (fun k => k ≠ 5) S z.2) := by
  have hsep : R1 (mX3_separate_4 n S) (fun S' => Fr (fun k => k ≠ 5) S S' ∧ ∀ z, z < 4 → S'.2.1 5 z = nI z) := by
    refine q_lp (f := fun k s i => mX3_separate_4_2 n k s i) (N := 4) (inv := fun i S' => Fr (fun k => k ≠ 5) S S' ∧ ∀ z, z < i → S'.2.1 5 z = nI z) ?_ ?_ 4 0 n S rfl ⟨Fr.rf _ S, fun z hz => absurd hz (Nat.not_lt_zero z)⟩ (by omega)
    · intro k s h
      show R1 (mX3_separate_4_2 n (k + 1) s (nI 4)) _
      rw [mX3_separate_4_2, if_pos (show (4 : Int32) ≤ nI 4 from nI_le (Nat.le_refl _) (by decide))]
      exact R1.ret h
    · intro i k s hi ⟨hF, hA⟩
      right
      refine ⟨sA s 5 i (nI i), ⟨hF.tr (Fr.sA s (fun h => h rfl)), fun z hz => ?_⟩, ?_⟩
      · rw [sA_r]
        by_cases e : z = i
        · rw [e]; exact pk_us
        · rw [pk_un e]; exact hA z (by omega)
      · show mX3_separate_4_2 n (k + 1) s (nI i) = _
        rw [mX3_separate_4_2, if_neg (show ¬ (4 : Int32) ≤ nI i from nI_ge hi (by decide)), if_pos (inb_n hi (by decide)), nI_clamp (by omega), q_i1]
  refine R1.bn hsep ?_
  rintro S1 ⟨hF1, hA1⟩
  have st : ∀ (K : CS → Int32 → Int32 → Option (Int32 × CS)) (kk p q : Nat) (c : Nat × (Nat → Nat)) (s : CS), p < 4 → q < 4 → Fr (fun k => k ≠ 5) S s → (∀ j, j < 4 → s.2.1 5 j = nI (c.2 j) ∧ c.2 j < 4) → ∃ s', Fr (fun k => k ≠ 5) S s' ∧ (∀ j, j < 4 → s'.2.1 5 j = nI ((q_sp1 (q_b a) p q c).2 j) ∧ (q_sp1 (q_b a) p q c).2 j < 4) ∧ mX0_splitsNeeded_20 n K (nI p) (kk + 1) s (nI c.1) (nI q) = mX0_splitsNeeded_20 n K (nI p) kk s' (nI (q_sp1 (q_b a) p q c).1) (nI (q + 1)) := by
    intro K kk p q c s hp hq hF hA
    have rs := (hF.ke (by decide) (by decide)).rc r
    have ht : q_tk a p q < 2 ^ 31 := by
      unfold q_tk q_eb
      split <;> (repeat' split) <;> omega
    rw [mX0_splitsNeeded_20, if_neg (show ¬ (4 : Int32) ≤ nI q from nI_ge hq (by decide)), bn_eq (q_crosstalkOf rs v (by omega) hp hq)]
    unfold mX0_splitsNeeded_49 q_sp1 q_b
    rw [q_i1]
    by_cases c0 : q_tk a p q = 0
    · rw [c0, if_pos (show nI 0 = 0 from rfl), if_neg (by simp)]
      exact ⟨s, hF, hA, rfl⟩
    · rw [if_neg (nI_ne0 (by omega) ht)]
      by_cases c1 : c.2 p = c.2 q
      · rw [bm_eq (q_unite4s hA hp hq c1), if_pos rfl, if_neg (by simp [c1])]
        exact ⟨s, hF, hA, rfl⟩
      · obtain ⟨⟨r1, s1⟩, e1, h1, hF2, hg2⟩ := q_unite4 (n := n) (by omega) hA hp hq c1
        have h1 : r1 = 1 := h1
        subst h1
        rw [bm_eq e1, if_neg (show ¬ (1 : Int32) = 0 by decide), if_pos (by simp [c0, c1]), q_i1]
        exact ⟨s1, hF.tr hF2, hg2, rfl⟩
  have en : ∀ (K : CS → Int32 → Int32 → Option (Int32 × CS)) (kk p : Nat) (c : Int32) (s : CS), mX0_splitsNeeded_20 n K (nI p) (kk + 1) s c (nI 4) = K s c (nI (p + 1)) := by
    intro K kk p c s
    rw [mX0_splitsNeeded_20, if_pos (show (4 : Int32) ≤ nI 4 from nI_le (Nat.le_refl _) (by decide)), q_i1]
  have ou : ∀ (kk p : Nat) (c : Int32) (s : CS), p < 4 → mX0_splitsNeeded_11 n (kk + 1) s c (nI p) = mX0_splitsNeeded_20 n (mX0_splitsNeeded_11 n kk) (nI p) n s c (nI (p + 1)) := by
    intro kk p c s hp
    rw [mX0_splitsNeeded_11, if_neg (show ¬ (4 : Int32) ≤ nI p from nI_ge hp (by decide)), q_i1]
  obtain ⟨m, hm⟩ : ∃ m, n = m + 5 := ⟨n - 5, by omega⟩
  obtain ⟨s01, F01, A01, e01⟩ := st (mX0_splitsNeeded_11 n (m + 4)) (m + 4) 0 1 (0, fun z => z) S1 (by decide) (by decide) hF1 (fun j hj => ⟨hA1 j hj, hj⟩)
  obtain ⟨s02, F02, A02, e02⟩ := st (mX0_splitsNeeded_11 n (m + 4)) (m + 3) 0 2 _ s01 (by decide) (by decide) F01 A01
  obtain ⟨s03, F03, A03, e03⟩ := st (mX0_splitsNeeded_11 n (m + 4)) (m + 2) 0 3 _ s02 (by decide) (by decide) F02 A02
  obtain ⟨s12, F12, A12, e12⟩ := st (mX0_splitsNeeded_11 n (m + 3)) (m + 4) 1 2 _ s03 (by decide) (by decide) F03 A03
  obtain ⟨s13, F13, A13, e13⟩ := st (mX0_splitsNeeded_11 n (m + 3)) (m + 3) 1 3 _ s12 (by decide) (by decide) F12 A12
  obtain ⟨s23, F23, A23, e23⟩ := st (mX0_splitsNeeded_11 n (m + 2)) (m + 4) 2 3 _ s13 (by decide) (by decide) F13 A13
  refine R1.of (a := (nI (q_spC (q_b a)), s23)) ?_ ⟨rfl, F23⟩
  show mX0_splitsNeeded_11 n n S1 (nI 0) (nI 0) = _
  have t0 : mX0_splitsNeeded_11 n n S1 (nI 0) (nI 0) = mX0_splitsNeeded_11 n (m + 5) S1 (nI 0) (nI 0) := by rw [← hm]
  have u : ∀ (K : CS → Int32 → Int32 → Option (Int32 × CS)) (x : Int32) (s : CS) (c d : Int32), mX0_splitsNeeded_20 n K x n s c d = mX0_splitsNeeded_20 n K x (m + 5) s c d := fun K x s c d => by rw [← hm]
  rw [t0, ou (m + 4) 0 _ _ (by decide), u, e01, e02, e03, en, ou (m + 3) 1 _ _ (by decide), u, e12, e13, en, ou (m + 2) 2 _ _ (by decide), u, e23, en, ou (m + 1) 3 _ _ (by decide), u, en, mX0_splitsNeeded_11, if_pos (show (4 : Int32) ≤ nI (3 + 1) from nI_le (a := 4) (by decide) (by decide))]
  rfl
theorem q_clo_lt {b : Nat → Nat → Bool} {x q s : Nat} (hq : q < 4) (hs : s < 16) : q_clo b x q s < 16 := by
  unfold q_clo
  split
  · exact Nat.or_lt_two_pow (n := 4) hs (Nat.pow_lt_pow_right (by decide) hq)
  · exact hs
theorem q_r1_lt {b : Nat → Nat → Bool} {s : Nat} (hs : s < 16) : ∀ i, q_r1 b s i < 16
  | 0 => hs
  | i + 1 => q_clo_lt (Nat.mod_lt _ (by decide)) (q_r1_lt hs i)
theorem q_splitsM {a : AS} {M : MS} (r : RM a M) (v : Va a) {n : Nat} (hn : 32 < n) : mX8_splits n M = some (nI (q_spM (q_b a))) := by
  have tk : ∀ p q, q_tk a p q < 2 ^ 31 := by
    intro p q
    unfold q_tk q_eb
    split <;> (repeat' split) <;> omega
  obtain ⟨k', e⟩ := q_fun (f := fun k x i => mX8_splits_4 n M k x i) 4 (fun i => nI (fb_ct (q_spP (q_b a)) i)) (by
    intro p k hp
    show mX8_splits_4 n M (k + 1) _ (nI p) = mX8_splits_4 n M k _ _
    have h2p : 2 ^ p < 16 := Nat.pow_lt_pow_right (by decide) (show p < 4 from hp)
    rw [mX8_splits_4, if_neg (show ¬ (4 : Int32) ≤ nI p from nI_ge hp (by decide)), q_shl1 p (by omega)]
    obtain ⟨k1, e1⟩ := q_fun (f := fun k' x i => mX8_splits_16 n (mX8_splits_4 n M k) M (nI (fb_ct (q_spP (q_b a)) p)) (nI p) k' x i) 16 (fun i => nI (q_r1 (q_b a) (2 ^ p) i)) (by
      intro i k' hi
      show mX8_splits_16 n (mX8_splits_4 n M k) M _ (nI p) (k' + 1) _ (nI i) = mX8_splits_16 n (mX8_splits_4 n M k) M _ (nI p) k' (nI (q_clo (q_b a) (i / 4 % 4) (i % 4) (q_r1 (q_b a) (2 ^ p) i))) _
      have hs := q_r1_lt (b := q_b a) h2p i
      obtain ⟨s, hs2⟩ : ∃ s, s = q_r1 (q_b a) (2 ^ p) i := ⟨_, rfl⟩
      rw [← hs2] at hs ⊢
      have ht := tk (i / 4 % 4) (i % 4)
      have h4 : i / 4 % 4 = i / 4 := by omega
      have hpw : i % 4 < 31 := by omega
      rw [mX8_splits_16, if_neg (show ¬ (16 : Int32) ≤ nI i from nI_ge hi (by decide)), show nI i / (4 : Int32) = nI (i / 4) from pk_div (by omega) (by decide) (by decide), show nI i - nI (i / 4) * (4 : Int32) = nI (i % 4) from by rw [show nI (i / 4) * (4 : Int32) = nI (i / 4 * 4) from pk_mul _ 4, pk_sub (by omega)]; congr 1; omega, q_bitB (by omega) (by omega), bn_eq (show mX8_talk n M (nI (i / 4)) (nI (i % 4)) = some (nI (q_tk a (i / 4 % 4) (i % 4))) from by rw [h4]; exact q_talk r v (by omega) (by omega) (by omega))]
      unfold mX8_splits_64 mX8_splits_65 q_clo q_b
      rw [q_i1, q_or0, h4]
      rw [h4] at ht
      cases c1 : s.testBit (i / 4)
      · rw [if_neg (by decide), if_neg (by simp)]
      · rw [if_pos (bI_1.mpr rfl)]
        by_cases c2 : q_tk a (i / 4) (i % 4) = 0
        · rw [c2, if_pos (show nI 0 ≤ 0 by decide), if_neg (by simp)]
        · rw [if_neg (nI_nle (by omega) ht), if_pos (by simp [c2]), q_or1 hpw]) (by omega : 16 < n)
    have e1' : mX8_splits_16 n (mX8_splits_4 n M k) M (nI (fb_ct (q_spP (q_b a)) p)) (nI p) n (nI (2 ^ p)) (0 : Int32) = _ := e1
    rw [e1', mX8_splits_16, if_pos (show (16 : Int32) ≤ nI 16 from nI_le (Nat.le_refl _) (by decide))]
    have hs16 := q_r1_lt (b := q_b a) h2p 16
    obtain ⟨s16, hs16e⟩ : ∃ s, s = q_r1 (q_b a) (2 ^ p) 16 := ⟨_, rfl⟩
    have hP : q_spP (q_b a) p = decide (q_r1 (q_b a) s16 32 % 2 ^ p ≠ 0) := by rw [hs16e]; rfl
    rw [← hs16e] at hs16 ⊢
    obtain ⟨k2, e2⟩ := q_fun (f := fun k' x i => mX8_splits_76 n (mX8_splits_4 n M k) M (nI (fb_ct (q_spP (q_b a)) p)) (nI p) k' x i) 32 (fun i => nI (q_r1 (q_b a) s16 i)) (by
      intro i k' hi
      show mX8_splits_76 n (mX8_splits_4 n M k) M _ (nI p) (k' + 1) _ (nI i) = mX8_splits_76 n (mX8_splits_4 n M k) M _ (nI p) k' (nI (q_clo (q_b a) (i / 4 % 4) (i % 4) (q_r1 (q_b a) s16 i))) _
      have hs := q_r1_lt (b := q_b a) hs16 i
      obtain ⟨s, hs2⟩ : ∃ s, s = q_r1 (q_b a) s16 i := ⟨_, rfl⟩
      rw [← hs2] at hs ⊢
      have ht := tk (i / 4 % 4) (i % 4)
      have hpw : i % 4 < 31 := by omega
      rw [mX8_splits_76, if_neg (show ¬ (32 : Int32) ≤ nI i from nI_ge hi (by decide)), show nI i / (4 : Int32) = nI (i / 4) from pk_div (by omega) (by decide) (by decide), show nI (i / 4) - nI (i / 4) / (4 : Int32) * (4 : Int32) = nI (i / 4 % 4) from pk_rem (by omega) (by decide) (by decide), show nI i - nI (i / 4) * (4 : Int32) = nI (i % 4) from by rw [show nI (i / 4) * (4 : Int32) = nI (i / 4 * 4) from pk_mul _ 4, pk_sub (by omega)]; congr 1; omega, q_bitB (by omega) (by omega), bn_eq (q_talk r v (by omega) (by omega) (by omega))]
      unfold mX8_splits_126 mX8_splits_127 q_clo q_b
      rw [q_i1, q_or0]
      cases c1 : s.testBit (i / 4 % 4)
      · rw [if_neg (by decide), if_neg (by simp)]
      · rw [if_pos (bI_1.mpr rfl)]
        by_cases c2 : q_tk a (i / 4 % 4) (i % 4) = 0
        · rw [c2, if_pos (show nI 0 ≤ 0 by decide), if_neg (by simp)]
        · rw [if_neg (nI_nle (by omega) ht), if_pos (by simp [c2]), q_or1 hpw]) (by omega : 32 < n)
    have e2' : mX8_splits_76 n (mX8_splits_4 n M k) M (nI (fb_ct (q_spP (q_b a)) p)) (nI p) n (nI s16) (0 : Int32) = _ := e2
    have hs32 := q_r1_lt (b := q_b a) hs16 32
    have hml : q_r1 (q_b a) s16 32 % 2 ^ p < 2 ^ p := Nat.mod_lt _ (Nat.two_pow_pos p)
    rw [e2', mX8_splits_76, if_pos (show (32 : Int32) ≤ nI 32 from nI_le (Nat.le_refl _) (by decide)), q_shl1 p (by omega), show nI (2 ^ p) - (1 : Int32) = nI (2 ^ p - 1) from pk_sub (Nat.two_pow_pos p), fa_mask, fb_ct_succ, hP]
    unfold mX8_splits_151
    rw [q_i1]
    by_cases c : q_r1 (q_b a) s16 32 % 2 ^ p = 0
    · rw [c, if_pos (show nI 0 = 0 from rfl), if_neg (by simp)]; exact congrArg (fun z => mX8_splits_4 n M k z _) (nI_add _ 0)
    · rw [if_neg (nI_ne0 (by omega) (by omega)), if_pos (by simp [c]), q_i1]) (by omega : 4 < n)
  show mX8_splits_4 n M n (nI 0) (nI 0) = _
  refine e.trans ?_
  show mX8_splits_4 n M (k' + 1) _ (nI 4) = _
  rw [mX8_splits_4, if_pos (show (4 : Int32) ≤ nI 4 from nI_le (Nat.le_refl _) (by decide))]
  rfl
