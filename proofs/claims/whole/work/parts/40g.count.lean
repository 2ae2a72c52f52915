/-! what is counted of the nets; identifying -/
def q_first (J : Nat → Nat → Bool) (c : Nat) : Bool := decide (q_mk (J c) c = 0)
theorem q_mk_mod (f : Nat → Bool) {c n : Nat} (h : c ≤ n) : q_mk f n % 2 ^ c = q_mk f c := by
  apply Nat.eq_of_testBit_eq
  intro i
  rw [Nat.testBit_mod_two_pow, q_mk_bit, q_mk_bit]
  by_cases hi : i < c
  · rw [decide_eq_true hi, decide_eq_true (show i < n by omega)]; rfl
  · rw [decide_eq_false hi]; rfl
theorem q_isFirst {S : CS} {J : Nat → Nat → Bool} (h : q_MB J S) {c : Nat} (hc : c < 16) : mX5_isFirstOfNet S (nI c) = some (bI (q_first J c)) := by
  unfold mX5_isFirstOfNet q_first
  have hp : 0 < 2 ^ c := Nat.two_pow_pos c
  have hlt : q_mk (J c) c < 2 ^ c := q_mk_lt _ _
  have hp2 : 2 ^ c < 2 ^ 16 := Nat.pow_lt_pow_right (by decide) hc
  rw [bn_eq (q_membersWith h hc), q_shl1 c (by omega), show nI (2 ^ c) - (1 : Int32) = nI (2 ^ c - 1) from pk_sub hp, fa_mask, q_mk_mod _ (by omega)]
  by_cases e : q_mk (J c) c = 0
  · rw [e, if_pos (show nI 0 = 0 from rfl), decide_eq_true rfl]; rfl
  · rw [if_neg (nI_ne0 (by omega) (by omega)), decide_eq_false e]; rfl
theorem q_size5 {S : CS} {J : Nat → Nat → Bool} (h : q_MB J S) {n : Nat} (hn : 16 < n) : mX5_size n S = some (nI (fb_ct (q_first J) 16)) := by
  obtain ⟨k', e⟩ := q_fun (f := fun k x i => mX5_size_4 n S k x i) 16 (fun i => nI (fb_ct (q_first J) i)) (by
    intro i k hi
    show mX5_size_4 n S (k + 1) _ (nI i) = mX5_size_4 n S k _ _
    rw [mX5_size_4, if_neg (show ¬ (16 : Int32) ≤ nI i from nI_ge hi (by decide)), bn_eq (q_isFirst h hi), fb_ct_succ]
    unfold mX5_size_21
    cases q_first J i
    · rw [if_pos (bI_0.mpr rfl), q_i1]; rfl
    · rw [if_neg (show ¬ bI true = 0 by decide), q_i1, q_i1]; rfl) hn
  show mX5_size_4 n S n (nI 0) (nI 0) = _
  refine e.trans ?_
  show mX5_size_4 n S (k' + 1) _ (nI 16) = _
  rw [mX5_size_4, if_pos (show (16 : Int32) ≤ nI 16 from nI_le (Nat.le_refl _) (by decide))]
def q_mx (J : Nat → Nat → Bool) (c : Nat) : Nat := if q_pc (q_N J c) < q_pc (q_F J c) then q_pc (q_F J c) else q_pc (q_N J c)
def q_sh (J : Nat → Nat → Bool) : Nat → Int32
  | 0 => 0
  | c + 1 => q_sh J c + (if q_first J c then nI (q_mx J c) - 1 else 0)
theorem q_MBn {S : CS} {J : Nat → Nat → Bool} (h : q_MB J S) {c : Nat} (hc : c < 16) : S.2.1 12 c &&& (255 : Int32) = nI (q_N J c) := by
  rw [h c hc]
  show nI _ &&& nI (2 ^ 8 - 1) = _
  rw [fa_mask, q_lo]; rfl
theorem q_MBf {S : CS} {J : Nat → Nat → Bool} (h : q_MB J S) {c : Nat} (hc : c < 16) : S.2.1 12 c >>> ((8 : Int32) &&& 31) = nI (q_F J c) := by
  have hlt := q_mk_lt (J c) 16
  rw [h c hc, pk_shrN (by omega) _ 8 q_s8, q_hi]; rfl
theorem q_mxI (J : Nat → Nat → Bool) (c : Nat) : (if nI (q_pc (q_N J c)) < nI (q_pc (q_F J c)) then nI (q_pc (q_F J c)) else nI (q_pc (q_N J c))) = nI (q_mx J c) := by
  have b1 := q_pc_le (q_F J c)
  have b0 := q_pc_le (q_N J c)
  unfold q_mx
  by_cases e : q_pc (q_N J c) < q_pc (q_F J c)
  · rw [if_pos (nI_lt e (by omega)), if_pos e]
  · rw [if_neg (nI_nlt (by omega) (by omega)), if_neg e]
theorem q_shorts {S : CS} {J : Nat → Nat → Bool} (h : q_MB J S) {n : Nat} (hn : 16 < n) : mX5_shortsNeeded n S = some (q_sh J 16) := by
  obtain ⟨k', e⟩ := q_fun (f := fun k x i => mX5_shortsNeeded_4 n S k x i) 16 (fun i => q_sh J i) (by
    intro i k hi
    show mX5_shortsNeeded_4 n S (k + 1) _ (nI i) = mX5_shortsNeeded_4 n S k _ _
    have hN := q_N_lt J i
    have hF := q_F_lt J i
    rw [mX5_shortsNeeded_4, if_neg (show ¬ (16 : Int32) ≤ nI i from nI_ge hi (by decide)), bn_eq (q_isFirst h hi)]
    show _ = mX5_shortsNeeded_4 n S k (q_sh J i + (if q_first J i = true then nI (q_mx J i) - 1 else 0)) _
    unfold mX5_shortsNeeded_57
    cases q_first J i
    · rw [if_pos (bI_0.mpr rfl), q_i1, if_neg (by decide), Int32.add_zero]
    · rw [if_neg (show ¬ bI true = 0 by decide), if_pos (inb_n hi (by decide)), nI_clamp (by omega), q_MBn h hi, bn_eq (q_bitCount _ (by omega)), if_pos (inb_n hi (by decide)), q_MBf h hi, bn_eq (q_bitCount _ (by omega)), q_i1, if_pos rfl, q_mxI]) hn
  show mX5_shortsNeeded_4 n S n (q_sh J 0) (nI 0) = _
  refine e.trans ?_
  show mX5_shortsNeeded_4 n S (k' + 1) _ (nI 16) = _
  rw [mX5_shortsNeeded_4, if_pos (show (16 : Int32) ≤ nI 16 from nI_le (Nat.le_refl _) (by decide))]
theorem q_firstS (J : Nat → Nat → Bool) (c e : Nat) : decide (q_mk (J c) (e + 1) = 0) = (decide (q_mk (J c) e = 0) && !(J c e)) := by
  show decide (q_mk (J c) e ||| (if J c e = true then 2 ^ e else 0) = 0) = _
  have hp : 0 < 2 ^ e := Nat.two_pow_pos e
  cases h : J c e
  · rw [if_neg (by decide), Nat.or_zero]; simp
  · rw [if_pos rfl]
    have : ¬ (q_mk (J c) e ||| 2 ^ e = 0) := by
      intro h0
      have := Nat.or_eq_zero_iff.mp h0
      omega
    rw [decide_eq_false this]; simp
theorem q_netShorts {a : AS} {M : MS} {t n : Nat} (h : q_N8 a t M) (hn : 16 < n) : mX8_netShorts n M = some (q_sh (q_J a t) 16) := by
  obtain ⟨k', e⟩ := q_fun (f := fun k x i => mX8_netShorts_4 n M k x i) 16 (fun i => q_sh (q_J a t) i) (by
    intro i k hi
    show mX8_netShorts_4 n M (k + 1) _ (nI i) = mX8_netShorts_4 n M k _ _
    rw [mX8_netShorts_4, if_neg (show ¬ (16 : Int32) ≤ nI i from nI_ge hi (by decide))]
    obtain ⟨k2, e2⟩ := q_fun (f := fun k' x j => mX8_netShorts_15 n (mX8_netShorts_4 n M k) M (q_sh (q_J a t) i) (nI i) k' x j) i (fun j => bI (decide (q_mk (q_J a t i) j = 0))) (by
      intro j k' hj
      show mX8_netShorts_15 n (mX8_netShorts_4 n M k) M _ (nI i) (k' + 1) _ (nI j) = mX8_netShorts_15 n (mX8_netShorts_4 n M k) M _ (nI i) k' _ _
      rw [mX8_netShorts_15, if_neg (nI_ge hj (by omega)), q_firstS]
      unfold mX8_netShorts_45 mX8_netShorts_46
      cases decide (q_mk (q_J a t i) j = 0)
      · rw [if_pos (bI_0.mpr rfl), q_i1]; rfl
      · rw [if_neg (show ¬ bI true = 0 by decide), if_pos (inb_n (show j < 16 by omega) (by decide)), if_pos (inb_n hi (by decide)), nI_clamp (by omega), nI_clamp (by omega), q_i1]
        have hh := h j i (by omega) hi
        rw [q_J_sy] at hh
        cases c : q_J a t i j
        · rw [if_neg (fun e => by have := hh.mp e; rw [c] at this; cases this)]; rfl
        · rw [if_pos (hh.mpr c)]; rfl) (by omega : i < n)
    have e2' : mX8_netShorts_15 n (mX8_netShorts_4 n M k) M (q_sh (q_J a t) i) (nI i) n (1 : Int32) (0 : Int32) = _ := e2
    rw [e2', mX8_netShorts_15, if_pos (nI_le (Nat.le_refl _) (by omega)), bn_eq (show mX8_same n M (nI i) (0 : Int32) = some (nI (q_N (q_J a t) i)) from q_same h (by omega) (to := 0) hi (by decide)), bn_eq (q_bits n hn (by have := q_N_lt (q_J a t) i; omega)), bn_eq (show mX8_same n M (nI i) (1 : Int32) = some (nI (q_F (q_J a t) i)) from q_same h (by omega) (to := 1) hi (by decide)), bn_eq (q_bits n hn (by have := q_F_lt (q_J a t) i; omega))]
    show _ = mX8_netShorts_4 n M k (q_sh (q_J a t) i + (if q_first (q_J a t) i = true then nI (q_mx (q_J a t) i) - 1 else 0)) _
    show (if bI (q_first (q_J a t) i) = 0 then _ else _) = _
    have b1 := q_pc_le (q_F (q_J a t) i)
    have b0 := q_pc_le (q_N (q_J a t) i)
    unfold mX8_netShorts_100 mX8_netShorts_94 mX8_netShorts_100
    cases q_first (q_J a t) i
    · rw [if_pos (bI_0.mpr rfl), q_i1, if_neg (by decide)]
    · rw [if_neg (show ¬ bI true = 0 by decide), q_i1, if_pos rfl, ← q_mxI]
      by_cases c : q_pc (q_N (q_J a t) i) < q_pc (q_F (q_J a t) i)
      · rw [if_pos (nI_le (by omega) (by omega)), if_pos (nI_lt c (by omega))]
      · rw [if_neg (nI_nlt (by omega) (by omega))]
        by_cases c2 : q_pc (q_N (q_J a t) i) = q_pc (q_F (q_J a t) i)
        · rw [c2, if_pos (nI_le (Nat.le_refl _) (by omega))]
        · rw [if_neg (nI_ge (by omega) (by omega))]) hn
  show mX8_netShorts_4 n M n (q_sh (q_J a t) 0) (nI 0) = _
  refine e.trans ?_
  show mX8_netShorts_4 n M (k' + 1) _ (nI 16) = _
  rw [mX8_netShorts_4, if_pos (show (16 : Int32) ≤ nI 16 from nI_le (Nat.le_refl _) (by decide))]
theorem q_allNets {a : AS} {M : MS} (r : RM a M) (v : Va a) {n : Nat} (hn : 88 < n) : R1 (mX8_allNets n M) (fun z => z.1 = nI (fb_ct (q_first (q_J a (aT a))) 16) ∧ Km M z.2) := by
  have hT := q_T v
  unfold mX8_allNets
  rw [r.2.2.2.1]
  refine R1.bn (q_layNets r v hn (by omega)) ?_
  rintro M3 ⟨hK, h⟩
  obtain ⟨t, ht⟩ : ∃ t, t = aT a := ⟨_, rfl⟩
  rw [← ht] at h ⊢
  obtain ⟨k', e⟩ := q_fun (f := fun k (x : Int32) i => mX8_allNets_12 n k M3 x i) 16 (fun i => nI (fb_ct (q_first (q_J a t)) i)) (by
    intro i k hi
    show mX8_allNets_12 n (k + 1) M3 _ (nI i) = mX8_allNets_12 n k M3 _ _
    rw [mX8_allNets_12, if_neg (show ¬ (16 : Int32) ≤ nI i from nI_ge hi (by decide))]
    obtain ⟨k2, e2⟩ := q_fun (f := fun k' (x : Int32) j => mX8_allNets_23 n (mX8_allNets_12 n k) (nI (fb_ct (q_first (q_J a t)) i)) (nI i) k' M3 x j) i (fun j => bI (decide (q_mk (q_J a t i) j = 0))) (by
      intro j k' hj
      show mX8_allNets_23 n (mX8_allNets_12 n k) _ (nI i) (k' + 1) M3 _ (nI j) = mX8_allNets_23 n (mX8_allNets_12 n k) _ (nI i) k' M3 _ _
      rw [mX8_allNets_23, if_neg (nI_ge hj (by omega)), q_firstS]
      unfold mX8_allNets_53 mX8_allNets_54
      cases decide (q_mk (q_J a t i) j = 0)
      · rw [if_pos (bI_0.mpr rfl), q_i1]; rfl
      · rw [if_neg (show ¬ bI true = 0 by decide), if_pos (inb_n (show j < 16 by omega) (by decide)), if_pos (inb_n hi (by decide)), nI_clamp (by omega), nI_clamp (by omega), q_i1]
        have hh := h j i (by omega) hi
        rw [q_J_sy] at hh
        cases c : q_J a t i j
        · rw [if_neg (fun e => by have := hh.mp e; rw [c] at this; cases this)]; rfl
        · rw [if_pos (hh.mpr c)]; rfl) (by omega : i < n)
    have e2' : mX8_allNets_23 n (mX8_allNets_12 n k) (nI (fb_ct (q_first (q_J a t)) i)) (nI i) n M3 (1 : Int32) (0 : Int32) = _ := e2
    rw [e2', mX8_allNets_23, if_pos (nI_le (Nat.le_refl _) (by omega)), fb_ct_succ]
    show (if bI (q_first (q_J a t) i) = 0 then _ else _) = _
    unfold mX8_allNets_71
    cases q_first (q_J a t) i
    · rw [if_pos (bI_0.mpr rfl), q_i1]; exact congrArg (fun z => mX8_allNets_12 n k M3 z _) (nI_add _ 0)
    · rw [if_neg (show ¬ bI true = 0 by decide), q_i1, q_i1]; rfl) (by omega : 16 < n)
  refine R1.of (a := (nI (fb_ct (q_first (q_J a t)) 16), M3)) (e.trans ?_) ⟨rfl, hK⟩
  show mX8_allNets_12 n (k' + 1) M3 _ (nI 16) = _
  rw [mX8_allNets_12, if_pos (show (16 : Int32) ≤ nI 16 from nI_le (Nat.le_refl _) (by decide))]
/-! split pairs, identifying -/
def q_spl (a : AS) (p : Nat) : Bool := decide (aW a (2 * p) / 2 ≠ aW a (2 * p + 1) / 2)
theorem q_div2 {x : Nat} (h : x < 2 ^ 31) : nI x / (2 : Int32) = nI (x / 2) := pk_div h (by decide) (by decide)
theorem q_isSplit {a : AS} {S : CS} (r : RC a S) (v : Va a) {p : Nat} (hp : p < 4) : mX0_isSplit S (nI p) = some (bI (q_spl a p)) := by
  have w0 := q_wireAt r (e := 0) (p := 2 * p) (by decide) (by omega)
  have w1 := q_wireAt r (e := 0) (p := 2 * p + 1) (by decide) (by omega)
  rw [Nat.mul_zero, Nat.zero_add] at w0 w1
  have l0 := q_Wlt v (show 2 * p < 16 by omega)
  have l1 := q_Wlt v (show 2 * p + 1 < 16 by omega)
  unfold mX0_isSplit q_spl
  rw [show (2 : Int32) * nI p = nI (2 * p) from pk_mul 2 p, q_i1, bn_eq (show mX0_wireAt S (0 : Int32) _ = _ from w0), bn_eq (show mX0_wireAt S (0 : Int32) _ = _ from w1), q_div2 (by omega), q_div2 (by omega)]
  by_cases c : aW a (2 * p) / 2 = aW a (2 * p + 1) / 2
  · rw [if_pos (congrArg nI c), decide_eq_false (by simp [c])]; rfl
  · rw [if_neg (fun e => c ((nI_eq (by omega) (by omega)).mp e)), decide_eq_true c]; rfl
theorem q_isSplit8 {a : AS} {M : MS} (r : RM a M) (v : Va a) {p : Nat} (hp : p < 4) : mX8_isSplit M (nI p) = some (bI (q_spl a p)) := by
  have l0 := q_Wlt v (show 2 * p < 16 by omega)
  have l1 := q_Wlt v (show 2 * p + 1 < 16 by omega)
  unfold mX8_isSplit q_spl
  rw [show (2 : Int32) * nI p = nI (2 * p) from pk_mul 2 p, q_i1, if_pos (inb_n (by omega) (by decide)), if_pos (inb_n (by omega) (by decide)), nI_clamp (by omega), nI_clamp (by omega), r.2.2.2.2.1 _ (by omega), r.2.2.2.2.1 _ (by omega), q_div2 (by omega), q_div2 (by omega)]
  by_cases c : aW a (2 * p) / 2 = aW a (2 * p + 1) / 2
  · rw [if_pos (congrArg nI c), decide_eq_false (by simp [c])]; rfl
  · rw [if_neg (fun e => c ((nI_eq (by omega) (by omega)).mp e)), decide_eq_true c]; rfl
theorem q_splitPairs {a : AS} {S : CS} (r : RC a S) (v : Va a) {n : Nat} (hn : 4 < n) : mX0_splitPairs n S = some (nI (q_mk (q_spl a) 4)) := by
  obtain ⟨k', e⟩ := q_fun (f := fun k x i => mX0_splitPairs_4 n S k x i) 4 (fun i => nI (q_mk (q_spl a) i)) (by
    intro i k hi
    show mX0_splitPairs_4 n S (k + 1) _ (nI i) = mX0_splitPairs_4 n S k (nI (q_mk (q_spl a) i ||| (if q_spl a i = true then 2 ^ i else 0))) _
    rw [mX0_splitPairs_4, if_neg (show ¬ (4 : Int32) ≤ nI i from nI_ge hi (by decide)), bn_eq (q_isSplit r v hi)]
    unfold mX0_splitPairs_23
    cases q_spl a i
    · rw [if_pos (bI_0.mpr rfl), q_i1, if_neg (by decide), Nat.or_zero]
    · rw [if_neg (show ¬ bI true = 0 by decide), q_or1 (by omega), q_i1, if_pos rfl]) hn
  show mX0_splitPairs_4 n S n (nI 0) (nI 0) = _
  refine e.trans ?_
  show mX0_splitPairs_4 n S (k' + 1) _ (nI 4) = _
  rw [mX0_splitPairs_4, if_pos (show (4 : Int32) ≤ nI 4 from nI_le (Nat.le_refl _) (by decide))]
theorem q_splitPairs8 {a : AS} {M : MS} (r : RM a M) (v : Va a) {n : Nat} (hn : 4 < n) : mX8_splitPairs n M = some (nI (q_mk (q_spl a) 4)) := by
  obtain ⟨k', e⟩ := q_fun (f := fun k x i => mX8_splitPairs_4 n M k x i) 4 (fun i => nI (q_mk (q_spl a) i)) (by
    intro i k hi
    show mX8_splitPairs_4 n M (k + 1) _ (nI i) = mX8_splitPairs_4 n M k (nI (q_mk (q_spl a) i ||| (if q_spl a i = true then 2 ^ i else 0))) _
    rw [mX8_splitPairs_4, if_neg (show ¬ (4 : Int32) ≤ nI i from nI_ge hi (by decide)), bn_eq (q_isSplit8 r v hi)]
    unfold mX8_splitPairs_25
    cases q_spl a i
    · rw [if_pos (bI_0.mpr rfl), q_or0, q_i1, if_neg (by decide), Nat.or_zero]
    · rw [if_neg (show ¬ bI true = 0 by decide), q_or1 (by omega), q_i1, if_pos rfl]) hn
  show mX8_splitPairs_4 n M n (nI 0) (nI 0) = _
  refine e.trans ?_
  show mX8_splitPairs_4 n M (k' + 1) _ (nI 4) = _
  rw [mX8_splitPairs_4, if_pos (show (4 : Int32) ≤ nI 4 from nI_le (Nat.le_refl _) (by decide))]
def q_gd (a : AS) (t p : Nat) : Bool := !(q_spl a p) && decide (q_st (q_J a t) (2 * p) = 0) && decide (q_st (q_J a t) (2 * p + 1) = 0)
def q_idn (a : AS) (t : Nat) : Int32 := if aU a = 0 then -1 else if 0 < fb_ct (q_gd a t) 4 then nI (aU a) else -1
theorem q_identU {a : AS} {S : CS} (r : RC a S) (v : Va a) {t : Nat} (h : q_MB (q_J a t) S) {n : Nat} (hn : 4 < n) : mX7_identifiedUnit n S = some (q_idn a t) := by
  have hU : aU a ≤ 99 := v.2.2.2.2.1
  unfold mX7_identifiedUnit q_idn
  rw [r.2.2.1]
  by_cases c0 : aU a = 0
  · rw [c0, if_pos (show nI 0 = 0 from rfl), if_pos rfl]
  · rw [if_neg (nI_ne0 (by omega) (by omega)), if_neg c0]
    have key : R1 (mX7_identifiedUnit_14 n S n (nI 0)) (fun z => z = if 0 < fb_ct (q_gd a t) 4 then nI (aU a) else -1) := by
      refine q_lp (f := fun k (_ : Unit) i => mX7_identifiedUnit_14 n S k i) (N := 4) (inv := fun i _ => fb_ct (q_gd a t) i = 0) ?_ ?_ 4 0 n () rfl rfl hn
      · intro k _ h0
        show R1 (mX7_identifiedUnit_14 n S (k + 1) (nI 4)) _
        rw [mX7_identifiedUnit_14, if_pos (show (4 : Int32) ≤ nI 4 from nI_le (Nat.le_refl _) (by decide)), if_neg (by omega)]
        exact R1.ret rfl
      · intro i k _ hi h0
        show R1 (mX7_identifiedUnit_14 n S (k + 1) (nI i)) _ ∨ ∃ s' : Unit, fb_ct (q_gd a t) (i + 1) = 0 ∧ mX7_identifiedUnit_14 n S (k + 1) (nI i) = mX7_identifiedUnit_14 n S k (nI (i + 1))
        have s0 := q_st_lt (q_J a t) (2 * i)
        have s1 := q_st_lt (q_J a t) (2 * i + 1)
        have no : q_gd a t i = false → mX7_identifiedUnit_14 n S (k + 1) (nI i) = mX7_identifiedUnit_14 n S k (nI (i + 1)) → R1 (mX7_identifiedUnit_14 n S (k + 1) (nI i)) (fun z => z = if 0 < fb_ct (q_gd a t) 4 then nI (aU a) else -1) ∨ ∃ s' : Unit, fb_ct (q_gd a t) (i + 1) = 0 ∧ mX7_identifiedUnit_14 n S (k + 1) (nI i) = mX7_identifiedUnit_14 n S k (nI (i + 1)) := fun h e => Or.inr ⟨(), by rw [fb_ct_succ, h0, h]; rfl, e⟩
        have E : mX7_identifiedUnit_14 n S (k + 1) (nI i) = if q_st (q_J a t) (2 * i) = 0 then (if q_st (q_J a t) (2 * i + 1) = 0 then (if q_spl a i = false then some (nI (aU a)) else mX7_identifiedUnit_14 n S k (nI (i + 1))) else mX7_identifiedUnit_14 n S k (nI (i + 1))) else mX7_identifiedUnit_14 n S k (nI (i + 1)) := by
          rw [mX7_identifiedUnit_14, if_neg (show ¬ (4 : Int32) ≤ nI i from nI_ge hi (by decide)), show (2 : Int32) * nI i = nI (2 * i) from pk_mul 2 i, q_i1, bn_eq (q_statusOf h (q_J_rf a t) (by omega)), bn_eq (q_statusOf h (q_J_rf a t) (by omega))]
          unfold mX7_identifiedUnit_51 mX7_identifiedUnit_52 mX7_identifiedUnit_76
          rw [q_i1, bn_eq (q_isSplit r v hi), r.2.2.1]
          by_cases a1 : q_st (q_J a t) (2 * i) = 0
          · rw [a1, if_pos (show nI 0 = 0 from rfl), if_pos rfl]
            by_cases a2 : q_st (q_J a t) (2 * i + 1) = 0
            · rw [a2, if_pos (show nI 0 = 0 from rfl), if_pos rfl, if_neg (by decide)]
              cases q_spl a i
              · rfl
              · rfl
            · rw [if_neg (nI_ne0 (by omega) (by omega)), if_neg a2, if_pos rfl]
          · rw [if_neg (nI_ne0 (by omega) (by omega)), if_neg a1, if_pos rfl]
        by_cases a1 : q_st (q_J a t) (2 * i) = 0
        · by_cases a2 : q_st (q_J a t) (2 * i + 1) = 0
          · cases a3 : q_spl a i
            · left
              rw [E, if_pos a1, if_pos a2, if_pos a3]
              have hg : q_gd a t i = true := by unfold q_gd; rw [a3, decide_eq_true a1, decide_eq_true a2]; rfl
              have : 0 < fb_ct (q_gd a t) 4 := fb_ct_pos.mpr ⟨i, hi, hg⟩
              rw [if_pos this]
              exact R1.ret rfl
            · exact no (by unfold q_gd; rw [a3]; rfl) (by rw [E, if_pos a1, if_pos a2, if_neg (by rw [a3]; decide)])
          · exact no (by unfold q_gd; rw [decide_eq_false a2]; simp) (by rw [E, if_pos a1, if_neg a2])
        · exact no (by unfold q_gd; rw [decide_eq_false a1]; simp) (by rw [E, if_neg a1])
    obtain ⟨z, e, rfl⟩ := key
    exact e
theorem q_identified {a : AS} {M : MS} (r : RM a M) (v : Va a) {n : Nat} (hn : 88 < n) : R1 (mX8_identified n M) (fun z => z.1 = q_idn a (aT a) ∧ Km M z.2 ∧ q_N8 a (aT a) z.2) := by
  have hT := q_T v
  have hU : aU a ≤ 99 := v.2.2.2.2.1
  unfold mX8_identified
  rw [r.2.2.2.1]
  refine R1.bn (q_layNets r v hn (by omega)) ?_
  rintro M3 ⟨hK, h⟩
  obtain ⟨t, ht⟩ : ∃ t, t = aT a := ⟨_, rfl⟩
  rw [← ht] at h ⊢
  have r3 := hK.rm r
  obtain ⟨k', e⟩ := q_fun (f := fun k (x : Int32) i => mX8_identified_12 n k M3 x i) 4 (fun i => bI (decide (0 < fb_ct (q_gd a t) i))) (by
    intro i k hi
    show mX8_identified_12 n (k + 1) M3 _ (nI i) = mX8_identified_12 n k M3 _ _
    have s0 := q_st_lt (q_J a t) (2 * i)
    have s1 := q_st_lt (q_J a t) (2 * i + 1)
    rw [mX8_identified_12, if_neg (show ¬ (4 : Int32) ≤ nI i from nI_ge hi (by decide)), fb_ct_succ]
    unfold mX8_identified_51 mX8_identified_55 mX8_identified_56
    by_cases c0 : 0 < fb_ct (q_gd a t) i
    · rw [decide_eq_true c0, if_neg (show ¬ bI true = 0 by decide), q_i1, decide_eq_true (show 0 < fb_ct (q_gd a t) i + _ by omega)]; rfl
    · rw [decide_eq_false c0, if_pos (bI_0.mpr rfl), bn_eq (q_isSplit8 r3 v hi), show (2 : Int32) * nI i = nI (2 * i) from pk_mul 2 i, q_i1, q_i1, bn_eq (q_statusNow h (by omega) (by omega)), bn_eq (q_statusNow h (by omega) (by omega))]
      have z0 : fb_ct (q_gd a t) i = 0 := by omega
      have hg : q_gd a t i = (!(q_spl a i) && decide (q_st (q_J a t) (2 * i) = 0) && decide (q_st (q_J a t) (2 * i + 1) = 0)) := rfl
      rw [z0, Nat.zero_add, hg]
      cases q_spl a i
      · rw [if_pos (bI_0.mpr rfl)]
        by_cases a1 : q_st (q_J a t) (2 * i) = 0
        · rw [a1, if_pos (show nI 0 = 0 from rfl)]
          by_cases a2 : q_st (q_J a t) (2 * i + 1) = 0
          · rw [a2, if_pos (show nI 0 = 0 from rfl)]; rfl
          · rw [if_neg (nI_ne0 (by omega) (by omega)), decide_eq_false a2]; rfl
        · rw [if_neg (nI_ne0 (by omega) (by omega)), decide_eq_false a1]; rfl
      · rw [if_neg (show ¬ bI true = 0 by decide)]; rfl) (by omega : 4 < n)
  refine R1.of (a := (q_idn a t, M3)) (e.trans ?_) ⟨rfl, hK, h⟩
  show mX8_identified_12 n (k' + 1) M3 _ (nI 4) = _
  rw [mX8_identified_12, if_pos (show (4 : Int32) ≤ nI 4 from nI_le (Nat.le_refl _) (by decide)), r3.2.2.1]
  unfold q_idn
  by_cases c0 : aU a = 0
  · rw [c0, if_pos (show nI 0 ≤ 0 by decide), if_pos rfl]
    split <;> rfl
  · rw [if_neg (nI_nle (by omega) (by omega)), if_neg c0]
    by_cases c1 : 0 < fb_ct (q_gd a t) 4
    · rw [decide_eq_true c1, if_neg (show ¬ bI true = 0 by decide), if_pos c1]
    · rw [decide_eq_false c1, if_pos (bI_0.mpr rfl), if_neg c1]
