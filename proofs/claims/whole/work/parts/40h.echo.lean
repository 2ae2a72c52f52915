/-! echoes -/
def q_key (x : Ft) : Nat := 2 * x.2.2.1 + (if x.2.1 = 0 then 1 else 0)
def q_on (x : Ft) (w : Nat) : Bool := decide (x.1 = w) || decide (x.2.1 = w + 1)
def q_ev (a : AS) (t w : Nat) : Nat → Nat
  | 0 => 2 * aL a + 1
  | i + 1 => if (q_on (q_at (aF a) i) w && q_pr (q_at (aF a) i) t) = true ∧ q_key (q_at (aF a) i) < q_ev a t w i then q_key (q_at (aF a) i) else q_ev a t w i
theorem q_key_lt {len : Nat} {x : Ft} (ok : q_ok len x) : q_key x < 2 * len ∧ q_key x < 2 * len + 1 := by
  have := ok.2.2.2.2.1
  unfold q_key
  split <;> omega
theorem q_ev_le (a : AS) (t w : Nat) : ∀ i, q_ev a t w i ≤ 2 * aL a + 1
  | 0 => Nat.le_refl _
  | i + 1 => by
    have := q_ev_le a t w i
    show (if _ then _ else _) ≤ _
    split <;> omega
theorem q_touches {f : FT} {x : Ft} {len w : Nat} (ok : q_ok len x) (hw : w < 8) (h0 : f.2 0 = nI x.1) (h1 : f.2 1 = oI x.2.1) : mX2_touches f (nI w) = some (bI (q_on x w)) := by
  have o1 := ok.1
  have o2 := ok.2.1
  unfold mX2_touches mX2_touches_16 q_on
  rw [h0, h1]
  by_cases c : x.1 = w
  · rw [if_pos (congrArg nI c), decide_eq_true c]; rfl
  · rw [if_neg (fun e => c ((nI_eq (by omega) (by omega)).mp e)), decide_eq_false c]
    by_cases c2 : x.2.1 = w + 1
    · rw [if_pos ((oI_n _ o2 _ hw).mpr c2), decide_eq_true c2]; rfl
    · rw [if_neg (fun e => c2 ((oI_n _ o2 _ hw).mp e)), decide_eq_false c2]; rfl
theorem q_met {f f' : FT} {x x' : Ft} {len : Nat} (hl : len ≤ 999) (ok : q_ok len x) (ok' : q_ok len x') (h1 : f.2 1 = oI x.2.1) (h2 : f.2 2 = nI x.2.2.1) (h1' : f'.2 1 = oI x'.2.1) (h2' : f'.2 2 = nI x'.2.2.1) : mX2_isMetBefore f f' = some (bI (decide (q_key x < q_key x'))) := by
  have o5 := ok.2.2.2.2.1
  have o5' := ok'.2.2.2.2.1
  unfold mX2_isMetBefore mX2_isMetBefore_36 q_key
  rw [bn_eq (q_isShort ok h1), bn_eq (q_isShort ok' h1'), h2, h2']
  by_cases c1 : x.2.2.1 < x'.2.2.1
  · rw [if_pos (nI_lt c1 (by omega)), decide_eq_true (by split <;> split <;> omega)]; rfl
  · rw [if_neg (nI_nlt (by omega) (by omega))]
    by_cases c2 : x.2.2.1 = x'.2.2.1
    · rw [if_pos (congrArg nI c2)]
      by_cases c3 : x.2.1 = 0
      · rw [if_pos (bI_0.mpr (decide_eq_false (by simp [c3]))), decide_eq_false (by rw [if_pos c3]; split <;> omega)]; rfl
      · rw [if_neg (show ¬ bI (decide (x.2.1 ≠ 0)) = 0 from fun h => c3 (by simpa using bI_0.mp h))]
        by_cases c4 : x'.2.1 = 0
        · rw [if_pos (bI_0.mpr (decide_eq_false (by simp [c4]))), decide_eq_true (by rw [if_neg c3, if_pos c4]; omega)]; rfl
        · rw [if_neg (show ¬ bI (decide (x'.2.1 ≠ 0)) = 0 from fun h => c4 (by simpa using bI_0.mp h)), decide_eq_false (by rw [if_neg c3, if_neg c4]; omega)]; rfl
    · rw [if_neg (fun e => c2 ((nI_eq (by omega) (by omega)).mp e)), decide_eq_false (by split <;> split <;> omega)]; rfl
theorem q_firstEvent {a : AS} {S : CS} (r : RC a S) (v : Va a) {n : Nat} (hn : 10 < n) {t w : Nat} (hw : w < 8) : R1 (mX0_firstEvent n S (nI w) (nI (q_pm (aF a) t))) (fun z => (z = -1 ∧ q_ev a t w (aF a).length = 2 * aL a + 1) ∨ ∃ f, f < (aF a).length ∧ z = nI f ∧ q_key (q_at (aF a) f) = q_ev a t w (aF a).length) := by
  have h10 := q_F10 v
  have hL : aL a ≤ 999 := v.2.1
  refine q_lp (f := fun k z i => mX0_firstEvent_5 n S (nI w) (nI (q_pm (aF a) t)) k z i) (N := (aF a).length) (inv := fun i z => (z = -1 ∧ q_ev a t w i = 2 * aL a + 1) ∨ ∃ f, f < i ∧ z = nI f ∧ q_key (q_at (aF a) f) = q_ev a t w i) ?_ ?_ (aF a).length 0 n (-1) (by omega) (Or.inl ⟨rfl, rfl⟩) (by omega)
  · intro k z h
    show R1 (mX0_firstEvent_5 n S (nI w) (nI (q_pm (aF a) t)) (k + 1) z (nI (aF a).length)) _
    rw [mX0_firstEvent_5, bn_eq (q_size r), if_pos (nI_le (Nat.le_refl _) (by omega))]
    exact R1.ret h
  · intro i k z hi h
    right
    show ∃ z', ((z' = -1 ∧ q_ev a t w (i + 1) = 2 * aL a + 1) ∨ ∃ f, f < i + 1 ∧ z' = nI f ∧ q_key (q_at (aF a) f) = q_ev a t w (i + 1)) ∧ mX0_firstEvent_5 n S (nI w) (nI (q_pm (aF a) t)) (k + 1) z (nI i) = mX0_firstEvent_5 n S (nI w) (nI (q_pm (aF a) t)) k z' (nI (i + 1))
    have ok := q_okat v (q_atk hi)
    have hk := q_key_lt ok
    obtain ⟨f, hf, _, f0, f1, f2, f3, f4⟩ := q_get r v (q_atk hi)
    have hev : q_ev a t w (i + 1) = if (q_on (q_at (aF a) i) w && q_pr (q_at (aF a) i) t) = true ∧ q_key (q_at (aF a) i) < q_ev a t w i then q_key (q_at (aF a) i) else q_ev a t w i := rfl
    have keep : (q_on (q_at (aF a) i) w && q_pr (q_at (aF a) i) t) = false ∨ ¬ q_key (q_at (aF a) i) < q_ev a t w i → ((z = -1 ∧ q_ev a t w (i + 1) = 2 * aL a + 1) ∨ ∃ f, f < i + 1 ∧ z = nI f ∧ q_key (q_at (aF a) f) = q_ev a t w (i + 1)) := by
      intro hc
      rw [hev, if_neg (fun h => hc.elim (fun e => by rw [e] at h; cases h.1) (fun e => e h.2))]
      rcases h with h | ⟨g, hg, h⟩
      · exact Or.inl h
      · exact Or.inr ⟨g, by omega, h⟩
    have take : (q_on (q_at (aF a) i) w && q_pr (q_at (aF a) i) t) = true → q_key (q_at (aF a) i) < q_ev a t w i → ((nI i = -1 ∧ q_ev a t w (i + 1) = 2 * aL a + 1) ∨ ∃ f, f < i + 1 ∧ nI i = nI f ∧ q_key (q_at (aF a) f) = q_ev a t w (i + 1)) := fun h1 h2 => Or.inr ⟨i, by omega, rfl, by rw [hev, if_pos ⟨h1, h2⟩]⟩
    rw [mX0_firstEvent_5, bn_eq (q_size r), if_neg (nI_ge hi (by omega)), q_pcbit v hi]
    unfold mX0_firstEvent_79 mX0_firstEvent_82
    rw [q_i1]
    cases c1 : q_pr (q_at (aF a) i) t
    · rw [if_pos (bI_0.mpr rfl)]
      exact ⟨z, keep (Or.inl (by rw [c1, Bool.and_false])), rfl⟩
    · rw [if_neg (show ¬ bI true = 0 by decide), bn_eq hf, bn_eq (q_touches ok hw f0 f1)]
      cases c2 : q_on (q_at (aF a) i) w
      · rw [if_pos (bI_0.mpr rfl)]
        exact ⟨z, keep (Or.inl (by rw [c2, Bool.false_and])), rfl⟩
      · rw [if_neg (show ¬ bI true = 0 by decide)]
        rcases h with ⟨hz, he⟩ | ⟨g, hg, hz, he⟩
        · rw [if_pos hz]
          exact ⟨nI i, take (by rw [c1, c2]; rfl) (by omega), rfl⟩
        · have okg := q_okat v (q_atk (show g < (aF a).length by omega))
          obtain ⟨f', hf', _, g0, g1, g2, g3, g4⟩ := q_get r v (q_atk (show g < (aF a).length by omega))
          have hne : ¬ nI g = -1 := by
            intro e
            have := congrArg Int32.toInt e
            rw [nI_toInt (by omega), show (-1 : Int32).toInt = -1 by decide] at this
            omega
          rw [hz, if_neg hne, bn_eq hf, bn_eq hf', bn_eq (q_met hL ok okg f1 f2 g1 g2)]
          by_cases c3 : q_key (q_at (aF a) i) < q_key (q_at (aF a) g)
          · rw [decide_eq_true c3, if_neg (show ¬ bI true = 0 by decide)]
            exact ⟨nI i, take (by rw [c1, c2]; rfl) (by omega), rfl⟩
          · rw [decide_eq_false c3, if_pos (bI_0.mpr rfl)]
            exact ⟨nI g, hz ▸ keep (Or.inr (by omega)), rfl⟩
def q_tm (v p : Nat) : Nat := (400 * p + 3 * v) / (6 * v)
def q_ech (a : AS) (e what : Nat) : Int32 := if e / 2 = aL a ∧ aU a ≠ 0 then -1 else if what = 0 then nI (1 - e % 2) else if what = 1 then nI (q_tm (aV a) (e / 2)) else if what = 2 then nI ((6 * aV a * q_tm (aV a) (e / 2) + 200) / 400) else nI (e / 2)
theorem q_rounded {x y : Nat} (hy : 0 < y) (hx : x < 2 ^ 28) (hy2 : y < 2 ^ 28) : mX0_rounded (nI x) (nI y) = some (nI ((2 * x + y) / (2 * y))) := by
  unfold mX0_rounded
  rw [if_neg (nI_nle hy (by omega)), show (2 : Int32) * nI y = nI (2 * y) from pk_mul 2 y, show (2 : Int32) * nI x = nI (2 * x) from pk_mul 2 x, nI_add, if_pos (nI_ne0 (by omega) (by omega)), pk_div (by omega) (by omega) (by omega)]
theorem q_tm_le {v p : Nat} (hv : 50 ≤ v) (hp : p ≤ 999) : q_tm v p ≤ 1333 := by
  unfold q_tm
  have : 400 * p + 3 * v < 1334 * (6 * v) := by omega
  have := (Nat.div_lt_iff_lt_mul (show 0 < 6 * v by omega)).mpr this
  omega
theorem q_echoAt {a : AS} {S : CS} (r : RC a S) (v : Va a) {n : Nat} (hn : 10 < n) {p what : Nat} (hp : p < 8) (hwh : what < 4) : mX0_echoAt n S (nI p) (nI what) = some (q_ech a (q_ev a (aT a) (aW a p) (aF a).length) what) := by
  have hT := q_T v
  have hL : aL a ≤ 999 := v.2.1
  have hL2 : 2 ≤ aL a := v.1
  have hV1 : 50 ≤ aV a := v.2.2.1
  have hV2 : aV a ≤ 99 := v.2.2.2.1
  have hU : aU a ≤ 99 := v.2.2.2.2.1
  have h10 := q_F10 v
  have w0 := q_wireAt r (e := 0) (by decide) hp
  rw [Nat.mul_zero, Nat.zero_add] at w0
  have fin : ∀ (pl : Nat) (x3 x4 : Int32) (b : Bool), pl ≤ 999 → x4 = bI b → (b = true → R1 (bn (mJx4a65c_get_915e3 S x3) fun r14 => bn (mX2_isShort r14) fun r18 => if r18 = 0 then some (0 : Int32) else some 1) (fun z => z = nI (1 - q_ev a (aT a) (aW a p) (aF a).length % 2))) → (b = false → q_ev a (aT a) (aW a p) (aF a).length % 2 = 1) → pl = q_ev a (aT a) (aW a p) (aF a).length / 2 → ¬ (pl = aL a ∧ aU a ≠ 0) → mX0_echoAt_81 n S (nI what) x3 x4 (nI pl) = some (q_ech a (q_ev a (aT a) (aW a p) (aF a).length) what) := by
    intro pl x3 x4 b hpl hx4 hb1 hb0 hpe hno
    have htm := q_tm_le hV1 hpl
    unfold mX0_echoAt_81 q_ech
    have t1 : mX0_rounded ((200 : Int32) * nI pl) ((3 : Int32) * (S.1 1)) = some (nI (q_tm (aV a) pl)) := by
      rw [r.2.1, show (200 : Int32) * nI pl = nI (200 * pl) from pk_mul 200 pl, show (3 : Int32) * nI (aV a) = nI (3 * aV a) from pk_mul 3 (aV a), q_rounded (by omega) (by omega) (by omega)]
      unfold q_tm
      rw [show 2 * (200 * pl) = 400 * pl by omega, show 2 * (3 * aV a) = 6 * aV a by omega]
    have t2 : mX0_rounded (((3 : Int32) * (S.1 1)) * nI (q_tm (aV a) pl)) (200 : Int32) = some (nI ((6 * aV a * q_tm (aV a) pl + 200) / 400)) := by
      have hm : 3 * aV a * q_tm (aV a) pl ≤ 297 * 1333 := Nat.mul_le_mul (by omega) htm
      rw [r.2.1, show (3 : Int32) * nI (aV a) = nI (3 * aV a) from pk_mul 3 (aV a), pk_mul, show (200 : Int32) = nI 200 from rfl, q_rounded (by omega) (by omega) (by omega)]
      rw [show 2 * (3 * aV a * q_tm (aV a) pl) = 6 * aV a * q_tm (aV a) pl by rw [← Nat.mul_assoc, ← Nat.mul_assoc]]
    rw [bn_eq t1, bn_eq t2, ← hpe, if_neg hno]
    by_cases a0 : what = 0
    · subst a0
      rw [if_pos (show nI 0 = 0 from rfl), if_pos rfl, hx4]
      cases b
      · rw [if_pos (bI_0.mpr rfl), hb0 rfl]; rfl
      · rw [if_neg (show ¬ bI true = 0 by decide)]
        obtain ⟨z, e, rfl⟩ := hb1 rfl
        exact e
    · rw [if_neg (nI_ne0 (by omega) (by omega)), if_neg a0]
      by_cases a1 : what = 1
      · subst a1
        rw [if_pos (show nI 1 = 1 from rfl), if_pos rfl]
      · rw [if_neg (show ¬ nI what = 1 from fun e => a1 ((nI_eq (by omega) (by omega)).mp e)), if_neg a1]
        by_cases a2 : what = 2
        · subst a2
          rw [if_pos (show nI 2 = 2 from rfl), if_pos rfl]
        · rw [if_neg (show ¬ nI what = 2 from fun e => a2 ((nI_eq (by omega) (by omega)).mp e)), if_neg a2]
  unfold mX0_echoAt
  rw [bn_eq (show mX0_wireAt S (0 : Int32) (nI p) = _ from w0), r.2.2.2.1, bn_eq (q_presentFaults r v hn (by omega))]
  obtain ⟨z, ez, hz⟩ := q_firstEvent r v hn (t := aT a) (q_Wlt v (show p < 16 by omega))
  rw [bn_eq ez]
  unfold mX0_echoAt_33 mX0_echoAt_52
  rw [bn_eq (q_size r)]
  rcases hz with ⟨hz, he⟩ | ⟨f, hf, hz, he⟩
  · rw [hz, if_pos rfl, r.2.2.1]
    have e2 : q_ev a (aT a) (aW a p) (aF a).length / 2 = aL a := by omega
    by_cases c : aU a = 0
    · rw [c, if_pos (show nI 0 = 0 from rfl), if_pos (show (-1 : Int32) < 0 by decide)]
      unfold mX0_echoAt_53
      rw [if_pos rfl, r.1]
      exact fin (aL a) (-1) 0 false hL rfl (fun h => by cases h) (fun _ => by omega) e2.symm (fun h => h.2 c)
    · rw [if_neg (nI_ne0 (by omega) (by omega))]
      unfold q_ech
      rw [if_pos ⟨e2, c⟩]
  · have okf := q_okat v (q_atk hf)
    obtain ⟨g, hg, _, g0, g1, g2, g3, g4⟩ := q_get r v (q_atk hf)
    have hne : ¬ nI f = -1 := by
      intro e
      have := congrArg Int32.toInt e
      rw [nI_toInt (by omega), show (-1 : Int32).toInt = -1 by decide] at this
      omega
    have hkf := q_key_lt okf
    have e2 : q_ev a (aT a) (aW a p) (aF a).length / 2 = (q_at (aF a) f).2.2.1 := by
      rw [← he]; unfold q_key; split <;> omega
    rw [hz, if_neg hne, if_neg (nI_pos (by omega)), if_neg (nI_ge hf (by omega))]
    unfold mX0_echoAt_53
    rw [if_neg (by decide), bn_eq hg, g2]
    refine fin _ (nI f) 1 true (by have := okf.2.2.2.2.1; omega) rfl (fun _ => ?_) (fun h => by cases h) e2.symm (fun h => by have := okf.2.2.2.2.1; omega)
    rw [bn_eq hg, bn_eq (q_isShort okf g1)]
    have hk : q_ev a (aT a) (aW a p) (aF a).length % 2 = if (q_at (aF a) f).2.1 = 0 then 1 else 0 := by rw [← he]; unfold q_key; split <;> omega
    rw [hk]
    by_cases c : (q_at (aF a) f).2.1 = 0
    · rw [if_pos (bI_0.mpr (decide_eq_false (by simp [c]))), if_pos c]; exact R1.ret rfl
    · rw [if_neg (show ¬ bI (decide ((q_at (aF a) f).2.1 ≠ 0)) = 0 from fun h => c (by simpa using bI_0.mp h)), if_neg c]; exact R1.ret rfl
theorem q_event {a : AS} {M : MS} (r : RM a M) (v : Va a) {n : Nat} (hn : 10 < n) {w : Nat} (hw : w < 8) : mX8_event n M (nI w) = some (nI (q_ev a (aT a) w (aF a).length)) := by
  have hT := q_T v
  have hL : aL a ≤ 999 := v.2.1
  have h10 := q_F10 v
  obtain ⟨k', e⟩ := q_fun (f := fun k z i => mX8_event_11 n M (nI w) k z i) (aF a).length (fun i => nI (q_ev a (aT a) w i)) (by
    intro i k hi
    show mX8_event_11 n M (nI w) (k + 1) _ (nI i) = mX8_event_11 n M (nI w) k (nI (if (q_on (q_at (aF a) i) w && q_pr (q_at (aF a) i) (aT a)) = true ∧ q_key (q_at (aF a) i) < q_ev a (aT a) w i then q_key (q_at (aF a) i) else q_ev a (aT a) w i)) _
    have hx0 := q_atk hi
    have ok := q_okat v hx0
    have hk := q_key_lt ok
    have hle := q_ev_le a (aT a) w i
    obtain ⟨x, hx⟩ : ∃ x, x = q_at (aF a) i := ⟨_, rfl⟩
    rw [← hx] at hx0 ok hk ⊢
    have o1 := ok.1
    have o2 := ok.2.1
    have E44 : ∀ b : Bool, mX8_event_44 n (mX8_event_11 n M (nI w) k) M (nI w) (nI (q_ev a (aT a) w i)) (nI i) (bI b) = mX8_event_11 n M (nI w) k (nI (if (b && q_pr x (aT a)) = true ∧ q_key x < q_ev a (aT a) w i then q_key x else q_ev a (aT a) w i)) (nI (i + 1)) := by
      intro b
      unfold mX8_event_44
      rw [bn_eq (show mX8_of M (nI i) (3 : Int32) = some (nI x.2.2.1) from q_of r v hx0 (by decide)), bn_eq (show mX8_of M (nI i) (0 : Int32) = some (dI6 x 0) from q_of r v hx0 (by decide)), show (2 : Int32) * nI x.2.2.1 = nI (2 * x.2.2.1) from pk_mul 2 _]
      have key : ∀ c : Nat, q_key x = 2 * x.2.2.1 + c → mX8_event_68 n (mX8_event_11 n M (nI w) k) M (nI w) (nI (q_ev a (aT a) w i)) (nI i) (bI b) (nI c) (nI (2 * x.2.2.1)) = mX8_event_11 n M (nI w) k (nI (if (b && q_pr x (aT a)) = true ∧ q_key x < q_ev a (aT a) w i then q_key x else q_ev a (aT a) w i)) (nI (i + 1)) := by
        intro c hc
        unfold mX8_event_68 mX8_event_99 mX8_event_100
        rw [r.2.2.2.1, bn_eq (q_isPresent8 r v hx0 (by omega)), nI_add, ← hc, q_i1]
        cases b
        · rw [if_pos (bI_0.mpr rfl), if_neg (fun h => by cases h.1)]
        · rw [if_neg (show ¬ bI true = 0 by decide)]
          cases c2 : q_pr x (aT a)
          · rw [if_pos (bI_0.mpr rfl), if_neg (fun h => by cases h.1)]
          · rw [if_neg (show ¬ bI true = 0 by decide)]
            by_cases c3 : q_key x < q_ev a (aT a) w i
            · rw [if_neg (nI_ge c3 (by omega)), if_pos ⟨rfl, c3⟩]
            · rw [if_pos (nI_le (by omega) (by omega)), if_neg (fun h => c3 h.2)]
      by_cases c1 : x.2.1 = 0
      · rw [if_pos (show dI6 x 0 = 0 from if_pos c1)]
        exact key 1 (by unfold q_key; rw [if_pos c1])
      · rw [if_neg (show ¬ dI6 x 0 = 0 from by show ¬ (if x.2.1 = 0 then (0 : Int32) else 1) = 0; rw [if_neg c1]; decide)]
        exact key 0 (by unfold q_key; rw [if_neg c1])
    rw [mX8_event_11, r.2.2.2.2.2.1, if_neg (nI_ge hi (by omega)), bn_eq (show mX8_of M (nI i) (1 : Int32) = some (nI x.1) from q_of r v hx0 (by decide)), bn_eq (show mX8_of M (nI i) (2 : Int32) = some (oI x.2.1) from q_of r v hx0 (by decide))]
    unfold mX8_event_39
    by_cases c : x.1 = w
    · rw [if_pos (congrArg nI c)]
      have : q_on x w = true := by unfold q_on; rw [decide_eq_true c]; rfl
      rw [this]; exact E44 true
    · rw [if_neg (fun e => c ((nI_eq (by omega) (by omega)).mp e))]
      by_cases c2 : x.2.1 = w + 1
      · rw [if_pos ((oI_n _ o2 _ hw).mpr c2)]
        have : q_on x w = true := by unfold q_on; rw [decide_eq_true c2, Bool.or_true]
        rw [this]; exact E44 true
      · rw [if_neg (fun e => c2 ((oI_n _ o2 _ hw).mp e))]
        have : q_on x w = false := by unfold q_on; rw [decide_eq_false c, decide_eq_false c2]; rfl
        rw [this]; exact E44 false) (by omega : (aF a).length < n)
  have e0 : mX8_event n M (nI w) = mX8_event_11 n M (nI w) n (nI (q_ev a (aT a) w 0)) (nI 0) := by
    unfold mX8_event
    rw [r.1, show (2 : Int32) * nI (aL a) = nI (2 * aL a) from pk_mul 2 _, q_i1]; rfl
  rw [e0, e, mX8_event_11, r.2.2.2.2.2.1, if_pos (nI_le (Nat.le_refl _) (by omega))]
theorem q_echoNow {a : AS} {M : MS} (r : RM a M) (v : Va a) {n : Nat} (hn : 10 < n) {p what : Nat} (hp : p < 8) (hwh : what < 4) : mX8_echoNow n M (nI p) (nI what) = some (q_ech a (q_ev a (aT a) (aW a p) (aF a).length) what) := by
  have hL : aL a ≤ 999 := v.2.1
  have hV1 : 50 ≤ aV a := v.2.2.1
  have hV2 : aV a ≤ 99 := v.2.2.2.1
  have hU : aU a ≤ 99 := v.2.2.2.2.1
  have hle := q_ev_le a (aT a) (aW a p) (aF a).length
  obtain ⟨e, he⟩ : ∃ e, e = q_ev a (aT a) (aW a p) (aF a).length := ⟨_, rfl⟩
  have htm := q_tm_le (p := e / 2) hV1 (by omega)
  unfold mX8_echoNow
  rw [if_pos (inb_n (show p < 16 by omega) (by decide)), nI_clamp (by omega), r.2.2.2.2.1 p (by omega), bn_eq (q_event r v hn (q_Wlt v (by omega))), ← he, r.2.1, show (6 : Int32) * nI (aV a) = nI (6 * aV a) from pk_mul 6 _, if_pos (nI_ne0 (by omega) (by omega)), q_div2 (by omega), show (400 : Int32) * nI (e / 2) = nI (400 * (e / 2)) from pk_mul 400 _, show (3 : Int32) * nI (aV a) = nI (3 * aV a) from pk_mul 3 _, nI_add, pk_div (by omega) (by omega) (by omega), r.1, r.2.2.1]
  have fin : ¬ (e / 2 = aL a ∧ aU a ≠ 0) → mX8_echoNow_57 n M (nI what) (nI e) (nI (e / 2)) (nI ((400 * (e / 2) + 3 * aV a) / (6 * aV a))) = some (q_ech a e what) := by
    intro hno
    unfold mX8_echoNow_57 q_ech
    rw [if_neg hno, r.2.1, show (6 : Int32) * nI (aV a) = nI (6 * aV a) from pk_mul 6 _, show nI e - nI e / (2 : Int32) * (2 : Int32) = nI (e % 2) from pk_rem (by omega) (by decide) (by decide), show (1 : Int32) - nI (e % 2) = nI (1 - e % 2) from pk_sub (a := 1) (by omega)]
    have hm : 6 * aV a * q_tm (aV a) (e / 2) ≤ 594 * 1333 := Nat.mul_le_mul (by omega) htm
    show (if nI what = 0 then _ else if nI what = 1 then some (nI (q_tm (aV a) (e / 2))) else if nI what = 2 then some ((nI (6 * aV a) * nI (q_tm (aV a) (e / 2)) + (200 : Int32)) / (400 : Int32)) else _) = _
    rw [pk_mul, show nI (6 * aV a * q_tm (aV a) (e / 2)) + (200 : Int32) = nI (6 * aV a * q_tm (aV a) (e / 2) + 200) from nI_add _ 200, show nI (6 * aV a * q_tm (aV a) (e / 2) + 200) / (400 : Int32) = nI ((6 * aV a * q_tm (aV a) (e / 2) + 200) / 400) from pk_div (by omega) (by decide) (by decide)]
    by_cases a0 : what = 0
    · subst a0
      rw [if_pos (show nI 0 = 0 from rfl), if_pos rfl]
    · rw [if_neg (nI_ne0 (by omega) (by omega)), if_neg a0]
      by_cases a1 : what = 1
      · subst a1
        rw [if_pos (show nI 1 = 1 from rfl), if_pos rfl]
      · rw [if_neg (show ¬ nI what = 1 from fun e => a1 ((nI_eq (by omega) (by omega)).mp e)), if_neg a1]
        by_cases a2 : what = 2
        · subst a2
          rw [if_pos (show nI 2 = 2 from rfl), if_pos rfl]
        · rw [if_neg (show ¬ nI what = 2 from fun e => a2 ((nI_eq (by omega) (by omega)).mp e)), if_neg a2]
  by_cases c1 : e / 2 = aL a
  · rw [if_pos (congrArg nI c1)]
    by_cases c2 : aU a = 0
    · rw [if_pos (by rw [c2]; decide)]
      exact fin (fun h => h.2 c2)
    · rw [if_neg (nI_nle (by omega) (by omega))]
      unfold q_ech
      rw [if_pos ⟨c1, c2⟩]
  · rw [if_neg (fun h => c1 ((nI_eq (by omega) (by omega)).mp h))]
    exact fin (fun h => c1 h.1)
