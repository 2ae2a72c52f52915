/-! crosstalk and splits -/
def q_in (a : AS) (x p : Nat) : Bool := decide (x = aW a (2 * p)) || decide (x = aW a (2 * p + 1))
def q_ctk (a : AS) (p q k : Nat) : Bool := (q_in a (2 * k) p && q_in a (2 * k + 1) q) || (q_in a (2 * k) q && q_in a (2 * k + 1) p)
def q_eb (x y : Nat) : Nat := if x / 2 = y / 2 then 1 else 0
def q_tk (a : AS) (p q : Nat) : Nat := if p = q then 0 else q_eb (aW a (2 * p)) (aW a (2 * q)) + q_eb (aW a (2 * p)) (aW a (2 * q + 1)) + (q_eb (aW a (2 * p + 1)) (aW a (2 * q)) + q_eb (aW a (2 * p + 1)) (aW a (2 * q + 1)))
def q_pinOf (a : AS) (x : Nat) : Nat := fa_first (fun i => decide (aW a i = x)) 8
theorem q_nearPair {a : AS} {S : CS} (r : RC a S) (v : Va a) {n : Nat} (hn : 8 < n) {x : Nat} (hx : x < 8) : ∃ i, i < 8 ∧ aW a i = x ∧ mX0_nearPairOf n S (nI x) = some (nI (i / 2)) := by
  have hW : ∀ i, i < 8 → aW a i < 8 := fun i hi => q_Wlt v (by omega)
  have hinj := v.2.2.2.2.2.2.2.1
  obtain ⟨i0, hi0, he0⟩ := fb_onto hW (fun i j hij hj e => by have := hinj i j (by omega) hj e; omega) hx
  have key : R1 (mX0_nearPairOf_2 n S (nI x) n (nI 0)) (fun z => z = nI (i0 / 2)) := by
    refine q_lp (f := fun k (_ : Unit) i => mX0_nearPairOf_2 n S (nI x) k i) (N := 8) (inv := fun i _ => i ≤ i0) ?_ ?_ 8 0 n () rfl (Nat.zero_le _) hn
    · intro k _ h
      omega
    · intro i k _ hi h
      show R1 (mX0_nearPairOf_2 n S (nI x) (k + 1) (nI i)) _ ∨ ∃ s' : Unit, i + 1 ≤ i0 ∧ mX0_nearPairOf_2 n S (nI x) (k + 1) (nI i) = mX0_nearPairOf_2 n S (nI x) k (nI (i + 1))
      have hwi := hW i hi
      rw [mX0_nearPairOf_2, if_neg (show ¬ (8 : Int32) ≤ nI i from nI_ge hi (by decide)), if_pos (inb_n (show i < 16 by omega) (by decide)), nI_clamp (by omega), r.2.2.2.2.1 i (by omega), q_i1]
      by_cases c : aW a i = x
      · left
        rw [if_pos (congrArg nI c), q_div2 (by omega)]
        have : i = i0 := hinj i i0 hi hi0 (c.trans he0.symm)
        rw [this]; exact R1.ret rfl
      · right
        rw [if_neg (fun e => c ((nI_eq (by omega) (by omega)).mp e))]
        exact ⟨(), by rcases Nat.lt_or_ge i i0 with h' | h'; exact h'; exact absurd (by rw [show i = i0 by omega]; exact he0) c, rfl⟩
  obtain ⟨z, e, rfl⟩ := key
  exact ⟨i0, hi0, he0, e⟩
theorem q_inb {a : AS} (v : Va a) {x i p : Nat} (hi : i < 8) (he : aW a i = x) (hp : p < 4) : (i / 2 = p ↔ q_in a x p = true) := by
  have hinj := v.2.2.2.2.2.2.2.1
  unfold q_in
  rw [Bool.or_eq_true, decide_eq_true_iff, decide_eq_true_iff]
  constructor
  · intro h
    rcases (by omega : i = 2 * p ∨ i = 2 * p + 1) with h | h
    · left; rw [← h, he]
    · right; rw [← h, he]
  · rintro (h | h)
    · have := hinj i (2 * p) hi (by omega) (he.trans h); omega
    · have := hinj i (2 * p + 1) hi (by omega) (he.trans h); omega
theorem q_crossC {a : AS} {S : CS} (r : RC a S) (v : Va a) {n : Nat} (hn : 8 < n) {p q : Nat} (hp : p < 4) (hq : q < 4) : mX0_crosstalkOf n S (nI p) (nI q) = some (if p = q then 0 else nI (fb_ct (q_ctk a p q) 4)) := by
  unfold mX0_crosstalkOf
  by_cases c : p = q
  · rw [if_pos (congrArg nI c), if_pos c]
  · rw [if_neg (fun e => c ((nI_eq (by omega) (by omega)).mp e)), if_neg c]
    obtain ⟨k', e⟩ := q_fun (f := fun k x i => mX0_crosstalkOf_12 n S (nI p) (nI q) k x i) 4 (fun i => nI (fb_ct (q_ctk a p q) i)) (by
      intro i k hi
      show mX0_crosstalkOf_12 n S (nI p) (nI q) (k + 1) _ (nI i) = mX0_crosstalkOf_12 n S (nI p) (nI q) k _ _
      obtain ⟨i0, hi0, h0, e0⟩ := q_nearPair r v hn (x := 2 * i) (by omega)
      obtain ⟨i1, hi1, h1, e1⟩ := q_nearPair r v hn (x := 2 * i + 1) (by omega)
      have b0p := q_inb v hi0 h0 hp
      have b0q := q_inb v hi0 h0 hq
      have b1p := q_inb v hi1 h1 hp
      have b1q := q_inb v hi1 h1 hq
      rw [mX0_crosstalkOf_12, if_neg (show ¬ (4 : Int32) ≤ nI i from nI_ge hi (by decide)), show (2 : Int32) * nI i = nI (2 * i) from pk_mul 2 i, q_i1, bn_eq e0, bn_eq e1, fb_ct_succ]
      unfold mX0_crosstalkOf_64 mX0_crosstalkOf_52 mX0_crosstalkOf_64 mX0_crosstalkOf_67
      rw [q_i1, q_i1]
      have hk : q_ctk a p q i = ((q_in a (2 * i) p && q_in a (2 * i + 1) q) || (q_in a (2 * i) q && q_in a (2 * i + 1) p)) := rfl
      have nn : ∀ {x y : Nat}, x < 8 → y < 4 → ¬ x / 2 = y → ¬ nI (x / 2) = nI y := fun hx hy h e => h ((nI_eq (by omega) (by omega)).mp e)
      rw [hk]
      by_cases c1 : i0 / 2 = p
      · have d1 : ¬ i0 / 2 = q := by omega
        rw [if_pos (congrArg nI c1), if_neg (nn hi0 hq d1), b0p.mp c1]
        have f1 : q_in a (2 * i) q = false := by
          cases h : q_in a (2 * i) q
          · rfl
          · exact absurd (b0q.mpr h) d1
        rw [f1]
        by_cases c2 : i1 / 2 = q
        · rw [if_pos (congrArg nI c2), b1q.mp c2]; rfl
        · have f2 : q_in a (2 * i + 1) q = false := by
            cases h : q_in a (2 * i + 1) q
            · rfl
            · exact absurd (b1q.mpr h) c2
          rw [if_neg (nn hi1 hq c2), f2]; rfl
      · have f1 : q_in a (2 * i) p = false := by
          cases h : q_in a (2 * i) p
          · rfl
          · exact absurd (b0p.mpr h) c1
        rw [if_neg (nn hi0 hp c1), f1]
        by_cases c2 : i0 / 2 = q
        · rw [if_pos (congrArg nI c2), b0q.mp c2]
          by_cases c3 : i1 / 2 = p
          · rw [if_pos (congrArg nI c3), b1p.mp c3]; rfl
          · have f2 : q_in a (2 * i + 1) p = false := by
              cases h : q_in a (2 * i + 1) p
              · rfl
              · exact absurd (b1p.mpr h) c3
            rw [if_neg (nn hi1 hp c3), f2]; rfl
        · have f2 : q_in a (2 * i) q = false := by
            cases h : q_in a (2 * i) q
            · rfl
            · exact absurd (b0q.mpr h) c2
          rw [if_neg (nn hi0 hq c2), f2]; rfl) (by omega : 4 < n)
    have e' : mX0_crosstalkOf_12 n S (nI p) (nI q) n (0 : Int32) (0 : Int32) = _ := e
    rw [e', mX0_crosstalkOf_12, if_pos (show (4 : Int32) ≤ nI 4 from nI_le (Nat.le_refl _) (by decide))]
def q_ctk4 (P0 P1 Q0 Q1 k : Nat) : Bool := ((decide (2 * k = P0) || decide (2 * k = P1)) && (decide (2 * k + 1 = Q0) || decide (2 * k + 1 = Q1))) || ((decide (2 * k = Q0) || decide (2 * k = Q1)) && (decide (2 * k + 1 = P0) || decide (2 * k + 1 = P1)))
theorem q_ct4 : ∀ P0, P0 < 8 → ∀ P1, P1 < 8 → ∀ Q0, Q0 < 8 → ∀ Q1, Q1 < 8 → (P0 != P1 && P0 != Q0 && P0 != Q1 && P1 != Q0 && P1 != Q1 && Q0 != Q1) = true → fb_ct (q_ctk4 P0 P1 Q0 Q1) 4 = q_eb P0 Q0 + q_eb P0 Q1 + (q_eb P1 Q0 + q_eb P1 Q1) := by decide +kernel
theorem q_ct_tk {a : AS} (v : Va a) {p q : Nat} (hp : p < 4) (hq : q < 4) : (if p = q then 0 else fb_ct (q_ctk a p q) 4) = q_tk a p q := by
  have hinj := v.2.2.2.2.2.2.2.1
  unfold q_tk
  by_cases c : p = q
  · rw [if_pos c, if_pos c]
  · rw [if_neg c, if_neg c]
    have ne : ∀ i j, i < 8 → j < 8 → i ≠ j → (aW a i != aW a j) = true := fun i j hi hj h => by
      rw [bne_iff_ne]; exact fun e => h (hinj i j hi hj e)
    exact q_ct4 _ (q_Wlt v (by omega)) _ (q_Wlt v (by omega)) _ (q_Wlt v (by omega)) _ (q_Wlt v (by omega)) (by
      rw [ne _ _ (by omega) (by omega) (by omega), ne _ _ (by omega) (by omega) (by omega), ne _ _ (by omega) (by omega) (by omega), ne _ _ (by omega) (by omega) (by omega), ne _ _ (by omega) (by omega) (by omega), ne _ _ (by omega) (by omega) (by omega)]; rfl)
theorem q_crosstalkOf {a : AS} {S : CS} (r : RC a S) (v : Va a) {n : Nat} (hn : 8 < n) {p q : Nat} (hp : p < 4) (hq : q < 4) : mX0_crosstalkOf n S (nI p) (nI q) = some (nI (q_tk a p q)) := by
  rw [q_crossC r v hn hp hq, ← q_ct_tk v hp hq]
  by_cases c : p = q
  · rw [if_pos c, if_pos c]; rfl
  · rw [if_neg c, if_neg c]
theorem q_talk {a : AS} {M : MS} (r : RM a M) (v : Va a) {n : Nat} (hn : 4 < n) {p q : Nat} (hp : p < 4) (hq : q < 4) : mX8_talk n M (nI p) (nI q) = some (nI (q_tk a p q)) := by
  have e2 : ∀ x : Nat, (2 : Int32) * nI x = nI (2 * x) := fun x => pk_mul 2 x
  have e22 : ∀ x : Nat, nI x + (2 : Int32) = nI (x + 2) := fun x => nI_add x 2
  obtain ⟨k, rfl⟩ : ∃ k, n = k + 4 + 1 := ⟨n - 5, by omega⟩
  unfold mX8_talk q_tk
  rw [e2]
  by_cases c : p = q
  · rw [mX8_talk_7, e2, e22, if_neg (nI_ge (show 2 * p < 2 * p + 2 by omega) (by omega)), if_pos (congrArg nI c), if_pos c]; rfl
  · have hne : ¬ nI p = nI q := fun e => c ((nI_eq (by omega) (by omega)).mp e)
    have inner : ∀ (K7 : Int32 → Int32 → Option Int32) (N x3 : Nat) (one : Nat), one < 8 → mX8_talk_27 N K7 M (nI p) (nI q) (nI one) (k + 4 + 1) (nI x3) (nI (2 * q)) = K7 (nI (x3 + q_eb (aW a one) (aW a (2 * q)) + q_eb (aW a one) (aW a (2 * q + 1)))) (nI (one + 1)) := by
      intro K7 N x3 one ho
      have st : ∀ (kk x y : Nat), 2 * q ≤ y → y < 2 * q + 2 → mX8_talk_27 N K7 M (nI p) (nI q) (nI one) (kk + 1) (nI x) (nI y) = mX8_talk_27 N K7 M (nI p) (nI q) (nI one) kk (nI (x + q_eb (aW a one) (aW a y))) (nI (y + 1)) := by
        intro kk x y h1 h2
        have l1 := q_Wlt v (show one < 16 by omega)
        have l2 := q_Wlt v (show y < 16 by omega)
        rw [mX8_talk_27, e2, e22, if_neg (nI_ge h2 (by omega)), if_pos (inb_n (show one < 16 by omega) (by decide)), if_pos (inb_n (show y < 16 by omega) (by decide)), nI_clamp (by omega), nI_clamp (by omega), r.2.2.2.2.1 one (by omega), r.2.2.2.2.1 y (by omega), q_div2 (by omega), q_div2 (by omega)]
        unfold mX8_talk_64 q_eb
        by_cases c2 : aW a one / 2 = aW a y / 2
        · rw [if_pos (congrArg nI c2), if_pos c2, q_i1, q_i1]
        · rw [if_neg (fun e => c2 ((nI_eq (by omega) (by omega)).mp e)), if_neg c2, q_i1]; exact congrArg (fun z => mX8_talk_27 N K7 M (nI p) (nI q) (nI one) kk z _) (nI_add _ 0)
      rw [st (k + 4) x3 (2 * q) (by omega) (by omega), st (k + 3) _ (2 * q + 1) (by omega) (by omega), mX8_talk_27, e2, e22, if_pos (nI_le (Nat.le_refl _) (by omega)), q_i1]
    have so : ∀ (kk x one : Nat), 2 * p ≤ one → one < 2 * p + 2 → mX8_talk_7 (k + 4 + 1) M (nI p) (nI q) (kk + 1) (nI x) (nI one) = mX8_talk_7 (k + 4 + 1) M (nI p) (nI q) kk (nI (x + q_eb (aW a one) (aW a (2 * q)) + q_eb (aW a one) (aW a (2 * q + 1)))) (nI (one + 1)) := by
      intro kk x one h1 h2
      rw [mX8_talk_7, e2, e22, if_neg (nI_ge h2 (by omega)), if_neg hne, e2, inner _ _ x one (by omega)]
    rw [show (0 : Int32) = nI 0 from rfl, so (k + 4) 0 (2 * p) (by omega) (by omega), so (k + 3) _ (2 * p + 1) (by omega) (by omega), mX8_talk_7, e2, e22, if_pos (nI_le (Nat.le_refl _) (by omega)), if_neg c]
    exact congrArg (fun z => some (nI z)) (by omega)
/-! splits -/
def q_b (a : AS) (p q : Nat) : Bool := decide (q_tk a p q ≠ 0)
theorem q_eb_sy (x y : Nat) : q_eb x y = q_eb y x := by unfold q_eb; split <;> split <;> omega
theorem q_tk_sy (a : AS) (p q : Nat) : q_tk a p q = q_tk a q p := by
  unfold q_tk
  by_cases c : p = q
  · rw [if_pos c, if_pos c.symm]
  · rw [if_neg c, if_neg (fun h => c h.symm), q_eb_sy (aW a (2 * q)), q_eb_sy (aW a (2 * q)), q_eb_sy (aW a (2 * q + 1)), q_eb_sy (aW a (2 * q + 1))]
    omega
def q_sp1 (b : Nat → Nat → Bool) (p q : Nat) (s : Nat × (Nat → Nat)) : Nat × (Nat → Nat) := if (b p q && decide (s.2 p ≠ s.2 q)) = true then (s.1 + 1, q_mg s.2 p q) else s
def q_spC (b : Nat → Nat → Bool) : Nat := (q_sp1 b 2 3 (q_sp1 b 1 3 (q_sp1 b 1 2 (q_sp1 b 0 3 (q_sp1 b 0 2 (q_sp1 b 0 1 (0, fun z => z))))))).1
def q_clo (b : Nat → Nat → Bool) (a q set : Nat) : Nat := if (set.testBit a && b a q) = true then set ||| 2 ^ q else set
def q_r1 (b : Nat → Nat → Bool) (set : Nat) : Nat → Nat
  | 0 => set
  | i + 1 => q_clo b (i / 4 % 4) (i % 4) (q_r1 b set i)
def q_spP (b : Nat → Nat → Bool) (p : Nat) : Bool := decide (q_r1 b (q_r1 b (2 ^ p) 16) 32 % 2 ^ p ≠ 0)
def q_spM (b : Nat → Nat → Bool) : Nat := fb_ct (q_spP b) 4
def q_bm (m p q : Nat) : Bool := if p = q then false else if p < q then m.testBit (4 * p + q) else m.testBit (4 * q + p)
def q_cd (x : Nat) : Nat := (if x.testBit 0 then 2 else 0) + (if x.testBit 1 then 4 else 0) + (if x.testBit 2 then 8 else 0) + (if x.testBit 3 then 64 else 0) + (if x.testBit 4 then 128 else 0) + (if x.testBit 5 then 2048 else 0)
theorem q_spAll : ∀ x, x < 64 → q_spC (q_bm (q_cd x)) = q_spM (q_bm (q_cd x)) := by decide +kernel
theorem q_cdb : ∀ x, x < 64 → ((q_cd x).testBit 1 = x.testBit 0 ∧ (q_cd x).testBit 2 = x.testBit 1 ∧ (q_cd x).testBit 3 = x.testBit 2 ∧ (q_cd x).testBit 6 = x.testBit 3 ∧ (q_cd x).testBit 7 = x.testBit 4 ∧ (q_cd x).testBit 11 = x.testBit 5) := by decide +kernel
theorem q_r1_cong {b b' : Nat → Nat → Bool} (h : ∀ p q, p < 4 → q < 4 → b p q = b' p q) (s : Nat) : ∀ i, q_r1 b s i = q_r1 b' s i
  | 0 => rfl
  | i + 1 => by
    show q_clo b (i / 4 % 4) (i % 4) (q_r1 b s i) = q_clo b' (i / 4 % 4) (i % 4) (q_r1 b' s i)
    rw [q_r1_cong h s i]
    unfold q_clo
    rw [h _ _ (Nat.mod_lt _ (by decide)) (Nat.mod_lt _ (by decide))]
theorem q_spM_cong {b b' : Nat → Nat → Bool} (h : ∀ p q, p < 4 → q < 4 → b p q = b' p q) : q_spM b = q_spM b' := by
  unfold q_spM
  refine fb_ct_cong (fun p _ => ?_)
  unfold q_spP
  rw [q_r1_cong h, q_r1_cong h]
theorem q_spC_cong {b b' : Nat → Nat → Bool} (h : ∀ p q, p < 4 → q < 4 → b p q = b' p q) : q_spC b = q_spC b' := by
  have e : ∀ p q s, p < 4 → q < 4 → q_sp1 b p q s = q_sp1 b' p q s := fun p q s hp hq => by unfold q_sp1; rw [h p q hp hq]
  unfold q_spC
  rw [e 0 1 _ (by decide) (by decide), e 0 2 _ (by decide) (by decide), e 0 3 _ (by decide) (by decide), e 1 2 _ (by decide) (by decide), e 1 3 _ (by decide) (by decide), e 2 3 _ (by decide) (by decide)]
theorem q_spCM (a : AS) : q_spC (q_b a) = q_spM (q_b a) := by
  obtain ⟨x, hx, h0, h1, h2, h3, h4, h5⟩ : ∃ x, x < 64 ∧ x.testBit 0 = q_b a 0 1 ∧ x.testBit 1 = q_b a 0 2 ∧ x.testBit 2 = q_b a 0 3 ∧ x.testBit 3 = q_b a 1 2 ∧ x.testBit 4 = q_b a 1 3 ∧ x.testBit 5 = q_b a 2 3 := by
    refine ⟨q_mk (fun i => if i = 0 then q_b a 0 1 else if i = 1 then q_b a 0 2 else if i = 2 then q_b a 0 3 else if i = 3 then q_b a 1 2 else if i = 4 then q_b a 1 3 else q_b a 2 3) 6, q_mk_lt _ 6, ?_, ?_, ?_, ?_, ?_, ?_⟩ <;> rw [q_mk_bit] <;> rfl
  obtain ⟨g0, g1, g2, g3, g4, g5⟩ := q_cdb x hx
  have sy : ∀ p q, q_b a p q = q_b a q p := fun p q => by unfold q_b; rw [q_tk_sy]
  have dg : ∀ p, q_b a p p = false := fun p => by unfold q_b q_tk; rw [if_pos rfl]; rfl
  have h : ∀ p q, p < 4 → q < 4 → q_b a p q = q_bm (q_cd x) p q := by
    intro p q hp hq
    have lt : ∀ p q, p < q → q < 4 → q_b a p q = (q_cd x).testBit (4 * p + q) := by
      intro p q hpq hq
      rcases (by omega : (p = 0 ∧ q = 1) ∨ (p = 0 ∧ q = 2) ∨ (p = 0 ∧ q = 3) ∨ (p = 1 ∧ q = 2) ∨ (p = 1 ∧ q = 3) ∨ (p = 2 ∧ q = 3)) with ⟨rfl, rfl⟩ | ⟨rfl, rfl⟩ | ⟨rfl, rfl⟩ | ⟨rfl, rfl⟩ | ⟨rfl, rfl⟩ | ⟨rfl, rfl⟩
      · exact (g0.trans h0).symm
      · exact (g1.trans h1).symm
      · exact (g2.trans h2).symm
      · exact (g3.trans h3).symm
      · exact (g4.trans h4).symm
      · exact (g5.trans h5).symm
    unfold q_bm
    rcases Nat.lt_trichotomy p q with c | c | c
    · rw [if_neg (by omega), if_pos c]; exact lt p q c hq
    · rw [if_pos c, c]; exact dg q
    · rw [if_neg (by omega), if_neg (by omega), sy]; exact lt q p c hp
  rw [q_spC_cong h, q_spM_cong h]
  exact q_spAll x hx
