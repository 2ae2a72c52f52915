/-! the reference's search through the permutations -/
def q_cu (J : Nat → Nat → Bool) (l : List Nat) : Nat := fb_ct (fun p => !(J p (8 + q_nth l p))) l.length
def q_GV (M : MS) (l : List Nat) : Prop := ∀ i, i < l.length → M.2.1 31 i = nI (q_nth l i)
theorem q_cutsUntil {a : AS} {M : MS} {t n : Nat} (h : q_N8 a t M) (hn : 8 < n) {l : List Nat} (hv : q_vl l) (h8 : l.length ≤ 8) (hg : q_GV M l) : mX8_cutsUntil n M (nI l.length) = some (nI (q_cu (q_J a t) l)) := by
  obtain ⟨k', e⟩ := q_fun (f := fun k x i => mX8_cutsUntil_4 n M (nI l.length) k x i) l.length (fun i => nI (fb_ct (fun p => !(q_J a t p (8 + q_nth l p))) i)) (by
    intro i k hi
    show mX8_cutsUntil_4 n M (nI l.length) (k + 1) _ (nI i) = mX8_cutsUntil_4 n M (nI l.length) k _ _
    have hx := hv.1 i hi
    rw [mX8_cutsUntil_4, if_neg (nI_ge hi (by omega)), if_pos (inb_n (show i < 16 by omega) (by decide)), if_pos (inb_n (show i < 8 by omega) (by decide)), nI_clamp (by omega), hg i hi, show (8 : Int32) + nI (q_nth l i) = nI (8 + q_nth l i) from nI_add 8 _, if_pos (inb_n (show 8 + q_nth l i < 16 by omega) (by decide)), nI_clamp (by omega), fb_ct_succ]
    have hh := h i (8 + q_nth l i) (by omega) (by omega)
    unfold mX8_cutsUntil_38
    rw [q_i1]
    cases c : q_J a t i (8 + q_nth l i)
    · rw [if_neg (fun e => by have := hh.mp e; rw [c] at this; cases this), q_i1]; rfl
    · rw [if_pos (hh.mpr c)]; exact congrArg (fun z => mX8_cutsUntil_4 n M (nI l.length) k z _) (nI_add _ 0)) (by omega : l.length < n)
  show mX8_cutsUntil_4 n M (nI l.length) n (nI 0) (nI 0) = _
  refine e.trans ?_
  show mX8_cutsUntil_4 n M (nI l.length) (k' + 1) _ (nI l.length) = _
  rw [mX8_cutsUntil_4, if_pos (nI_le (Nat.le_refl _) (by omega))]; rfl
def q_mu (ps : Nat) : Nat := fb_ct (fun i => !ps.testBit i) 8
theorem q_mu_s {ps x : Nat} (hx : x < 8) (hb : ps.testBit x = false) : q_mu (ps ||| 2 ^ x) < q_mu ps := by
  unfold q_mu
  refine q_ct_lt (j := x) (fun k _ h => ?_) hx ?_ (by rw [hb]; rfl)
  · rw [fb_bit_set] at h
    cases hk : ps.testBit k
    · rfl
    · rw [hk] at h; simp at h
  · rw [fb_bit_set, decide_eq_true rfl, Bool.or_true]; rfl
theorem q_wk_fuel {l : List Nat} (hv : q_vl l) (hl : l.length = 8) : ∀ f f' ps x, x < 8 → q_mu ps < f → q_mu ps < f' → q_wk l f ps x = q_wk l f' ps x
  | 0, _, _, _, _, h, _ => absurd h (Nat.not_lt_zero _)
  | _, 0, _, _, _, _, h => absurd h (Nat.not_lt_zero _)
  | f + 1, f' + 1, ps, x, hx, h, h' => by
    show (if ps.testBit x then ps else q_wk l f (ps ||| 2 ^ x) (q_nth l x)) = (if ps.testBit x then ps else q_wk l f' (ps ||| 2 ^ x) (q_nth l x))
    cases hb : ps.testBit x
    · have := q_mu_s hx hb
      rw [if_neg (by decide), if_neg (by decide)]
      exact q_wk_fuel hv hl f f' _ _ (hv.1 x (by omega)) (by omega) (by omega)
    · rw [if_pos rfl, if_pos rfl]
theorem q_or_lt {ps x : Nat} (hp : ps < 256) (hx : x < 8) : ps ||| 2 ^ x < 256 := Nat.or_lt_two_pow (n := 8) hp (Nat.pow_lt_pow_right (by decide) hx)
theorem q_wk_lt {l : List Nat} (hv : q_vl l) (hl : l.length = 8) : ∀ f ps x, ps < 256 → x < 8 → q_wk l f ps x < 256
  | 0, _, _, h, _ => h
  | f + 1, ps, x, h, hx => by
    show (if ps.testBit x then ps else q_wk l f (ps ||| 2 ^ x) (q_nth l x)) < 256
    split
    · exact h
    · exact q_wk_lt hv hl f _ _ (q_or_lt h hx) (hv.1 x (by omega))
theorem q_rcy_lt {l : List Nat} (hv : q_vl l) (hl : l.length = 8) : ∀ k, k ≤ 8 → (q_rcy l k).2 < 256
  | 0, _ => by show (0 : Nat) < 256; decide
  | k + 1, h => q_wk_lt hv hl 9 _ _ (q_rcy_lt hv hl k (by omega)) (by omega)
theorem q_cycles8 {M : MS} {n : Nat} (hn : 9 < n) {l : List Nat} (hv : q_vl l) (hl : l.length = 8) (hg : q_GV M l) : mX8_cycles n M = some (nI (q_rcy l 8).1) := by
  have inner : ∀ (m : Nat) (K : Int32 → Int32 → Int32 → Option Int32) (x1 x3 : Int32) (ps x k : Nat), q_mu ps ≤ m → ps < 256 → x < 8 → q_mu ps < k → mX8_cycles_25 n K M x1 x3 k (nI ps) (nI x) = K x1 (nI (q_wk l 9 ps x)) (x3 + 1) := by
    intro m
    induction m with
    | zero =>
      intro K x1 x3 ps x k hm hp hx hk
      obtain ⟨k, rfl⟩ : ∃ k', k = k' + 1 := ⟨k - 1, by omega⟩
      have hb : ps.testBit x = true := by
        cases hb : ps.testBit x
        · have := q_mu_s hx hb; omega
        · rfl
      rw [mX8_cycles_25, q_bitB (by omega) (by omega), hb, if_neg (by decide)]
      show _ = K x1 (nI (if ps.testBit x then ps else _)) _
      rw [if_pos hb]
    | succ m ih =>
      intro K x1 x3 ps x k hm hp hx hk
      obtain ⟨k, rfl⟩ : ∃ k', k = k' + 1 := ⟨k - 1, by omega⟩
      rw [mX8_cycles_25, q_bitB (by omega) (by omega)]
      show _ = K x1 (nI (if ps.testBit x then ps else q_wk l 8 (ps ||| 2 ^ x) (q_nth l x))) _
      cases hb : ps.testBit x
      · have hmu := q_mu_s hx hb
        have h8 : q_mu ps ≤ 8 := fb_ct_le _ _
        have hnx := hv.1 x (by omega)
        rw [if_pos (bI_0.mpr rfl), if_pos (inb_n hx (by decide)), q_or1 (by omega), nI_clamp (by omega), hg x (by omega), ih K x1 x3 _ _ k (by omega) (q_or_lt hp hx) hnx (by omega), if_neg (by decide), q_wk_fuel hv hl 9 8 _ _ hnx (by omega) (by omega)]
      · rw [if_neg (by decide), if_pos rfl]
  obtain ⟨k', e⟩ := q_fun (f := fun k (s : Int32 × Int32) i => mX8_cycles_6 n M k s.1 s.2 i) 8 (fun i => (nI (q_rcy l i).1, nI (q_rcy l i).2)) (by
    intro i k hi
    show mX8_cycles_6 n M (k + 1) (nI (q_rcy l i).1) (nI (q_rcy l i).2) (nI i) = mX8_cycles_6 n M k (nI ((q_rcy l i).1 + (if (q_rcy l i).2.testBit i then 0 else 1))) (nI (q_wk l 9 (q_rcy l i).2 i)) (nI (i + 1))
    have hlt := q_rcy_lt hv hl i (by omega)
    have h8 : q_mu (q_rcy l i).2 ≤ 8 := fb_ct_le _ _
    rw [mX8_cycles_6, if_neg (show ¬ (8 : Int32) ≤ nI i from nI_ge hi (by decide)), inner 8 _ _ _ _ _ n h8 hlt hi (by omega), q_i1, q_bitB (by omega) (by omega)]
    cases (q_rcy l i).2.testBit i
    · rw [show bI false ^^^ (1 : Int32) = 1 by decide, q_i1]; rfl
    · rw [show bI true ^^^ (1 : Int32) = 0 by decide]; exact congrArg (fun z => mX8_cycles_6 n M k z _ _) (nI_add _ 0)) (by omega : 8 < n)
  show mX8_cycles_6 n M n (nI 0) (nI 0) (nI 0) = _
  refine e.trans ?_
  show mX8_cycles_6 n M (k' + 1) _ _ (nI 8) = _
  rw [mX8_cycles_6, if_pos (show (8 : Int32) ≤ nI 8 from nI_le (Nat.le_refl _) (by decide))]
def q_k1 (J : Nat → Nat → Bool) (σ : List Nat) : Nat := 9 * q_cu J σ + (8 - q_cyc σ)
def q_RB (M : MS) (b : Nat × List Nat) : Prop := ∃ c e, M.1 23 = nI c ∧ M.1 24 = nI e ∧ b.1 = 9 * c + e ∧ ((c ≤ 8 ∧ e ≤ 8) ∨ (c = 9 ∧ e = 9)) ∧ (c ≤ 8 → ∀ i, i < 8 → M.2.1 30 i = nI (q_nth b.2 i))
def q_FM (M M' : MS) (k : Nat) : Prop := Km M M' ∧ M'.2.1 28 = M.2.1 28 ∧ ∀ i, i < k → M'.2.1 31 i = M.2.1 31 i ∧ M'.2.1 32 i = M.2.1 32 i
theorem q_FM.rf (M : MS) (k : Nat) : q_FM M M k := ⟨Km.rf M, rfl, fun _ _ => ⟨rfl, rfl⟩⟩
theorem q_FM.tr {M M1 M2 : MS} {k k' : Nat} (hk : k ≤ k') (h : q_FM M M1 k) (h2 : q_FM M1 M2 k') : q_FM M M2 k := ⟨h.1.tr h2.1, h2.2.1.trans h.2.1, fun i hi => ⟨(h2.2.2 i (by omega)).1.trans (h.2.2 i hi).1, (h2.2.2 i (by omega)).2.trans (h.2.2 i hi).2⟩⟩
theorem q_FM.n8 {a : AS} {t : Nat} {M M' : MS} {k : Nat} (h : q_FM M M' k) (hn : q_N8 a t M) : q_N8 a t M' := by
  unfold q_N8 at hn ⊢
  rw [h.2.1]; exact hn
theorem q_FM.gv {M M' : MS} {l : List Nat} {k : Nat} (hk : l.length ≤ k) (h : q_FM M M' k) (hg : q_GV M l) : q_GV M' l := fun i hi => ((h.2.2 i (by omega)).1).trans (hg i hi)
theorem q_arrive {a : AS} {M : MS} {t n : Nat} (h : q_N8 a t M) (hn : 9 < n) {l : List Nat} (hv : q_vl l) (hl : l.length = 8) (hg : q_GV M l) (hgc : q_gc l) {b : Nat × List Nat} (hB : q_RB M b) : R1 (mX8_arrive n M) (fun M' => q_FM M M' 8 ∧ q_RB M' (q_fs (q_k1 (q_J a t)) b l)) := by
  obtain ⟨c, e, h23, h24, hb, hce, h30⟩ := hB
  have hcu : q_cu (q_J a t) l ≤ 8 := by
    have := fb_ct_le (fun p => !(q_J a t p (8 + q_nth l p))) l.length
    unfold q_cu; omega
  have hcy : q_cyc l ≤ 8 := by
    have := fb_ct_le (q_cls l) l.length
    unfold q_cyc; omega
  unfold mX8_arrive
  have hcut := q_cutsUntil h (by omega : 8 < n) hv (by omega) hg
  rw [hl] at hcut
  rw [bn_eq (show mX8_cutsUntil n M (8 : Int32) = _ from hcut), bn_eq (q_cycles8 hn hv hl hg), hgc.1, h23, h24, show (8 : Int32) - nI (q_cyc l) = nI (8 - q_cyc l) from pk_sub (a := 8) hcy]
  have keep : ¬ (q_cu (q_J a t) l < c ∨ (q_cu (q_J a t) l = c ∧ 8 - q_cyc l < e)) → R1 (some M) (fun M' => q_FM M M' 8 ∧ q_RB M' (q_fs (q_k1 (q_J a t)) b l)) := by
    intro hno
    refine R1.ret ⟨q_FM.rf M 8, ?_⟩
    unfold q_fs
    rw [if_neg (by unfold q_k1; omega)]
    exact ⟨c, e, h23, h24, hb, hce, h30⟩
  have take : (q_cu (q_J a t) l < c ∨ (q_cu (q_J a t) l = c ∧ 8 - q_cyc l < e)) → R1 (mX8_arrive_39 n M (nI (q_cu (q_J a t) l)) (nI (8 - q_cyc l))) (fun M' => q_FM M M' 8 ∧ q_RB M' (q_fs (q_k1 (q_J a t)) b l)) := by
    intro hyes
    have hk : q_fs (q_k1 (q_J a t)) b l = (q_k1 (q_J a t) l, l) := by
      unfold q_fs
      rw [if_pos (by unfold q_k1; omega)]
    rw [hk]
    unfold mX8_arrive_39
    refine q_lp (f := fun k s i => mX8_arrive_51 n k s i) (N := 8) (inv := fun i M' => q_FM M M' 8 ∧ M'.2.1 31 = M.2.1 31 ∧ M'.1 23 = nI (q_cu (q_J a t) l) ∧ M'.1 24 = nI (8 - q_cyc l) ∧ ∀ j, j < i → M'.2.1 30 j = nI (q_nth l j)) ?_ ?_ 8 0 n (sG (sG M 23 (nI (q_cu (q_J a t) l))) 24 (nI (8 - q_cyc l))) rfl ⟨⟨(Km.sG M 23 _ (Or.inr (by decide))).tr (Km.sG _ 24 _ (Or.inr (by decide))), rfl, fun i hi => ⟨rfl, rfl⟩⟩, rfl, (sG_n _ _ (by decide)).trans (sG_s M 23 _), sG_s _ 24 _, fun j hj => absurd hj (Nat.not_lt_zero j)⟩ (by omega)
    · rintro k s ⟨hF, h31, g23, g24, g30⟩
      show R1 (mX8_arrive_51 n (k + 1) s (nI 8)) _
      rw [mX8_arrive_51, if_pos (show (8 : Int32) ≤ nI 8 from nI_le (Nat.le_refl _) (by decide))]
      exact R1.ret ⟨hF, _, _, g23, g24, rfl, Or.inl ⟨hcu, by omega⟩, fun _ => g30⟩
    · rintro i k s hi ⟨hF, h31, g23, g24, g30⟩
      right
      refine ⟨sB s 30 i (nI (q_nth l i)), ⟨⟨hF.1.tr (Km.sB s 30 i _ (by decide)), (sB_o s _ _ (by decide)).trans hF.2.1, fun j hj => ⟨by rw [sB_o s _ _ (by decide)]; exact (hF.2.2 j hj).1, by rw [sB_o s _ _ (by decide)]; exact (hF.2.2 j hj).2⟩⟩, (sB_o s _ _ (by decide)).trans h31, g23, g24, fun j hj => ?_⟩, ?_⟩
      · rw [sB_r]
        by_cases ej : j = i
        · rw [ej]; exact pk_us
        · rw [pk_un ej]; exact g30 j (by omega)
      · show mX8_arrive_51 n (k + 1) s (nI i) = _
        rw [mX8_arrive_51, if_neg (show ¬ (8 : Int32) ≤ nI i from nI_ge hi (by decide)), if_pos (inb_n hi (by decide)), if_pos (inb_n hi (by decide)), nI_clamp (by omega), h31, hg i (by omega), q_i1]
  by_cases c1 : q_cu (q_J a t) l < c
  · rw [if_pos (nI_lt c1 (by omega))]; exact take (Or.inl c1)
  · rw [if_neg (nI_nlt (by omega) (by omega))]
    by_cases c2 : q_cu (q_J a t) l = c
    · rw [if_pos (congrArg nI c2)]
      by_cases c3 : 8 - q_cyc l < e
      · rw [if_neg (nI_ge c3 (by omega))]; exact take (Or.inr ⟨c2, c3⟩)
      · rw [if_pos (nI_le (by omega) (by omega))]; exact keep (fun h => h.elim c1 (fun h => c3 h.2))
    · rw [if_neg (fun h => c2 ((nI_eq (by omega) (by omega)).mp h))]; exact keep (fun h => h.elim c1 (fun h => c2 h.1))
def q_pp (l : List Nat) : Int32 := if l.length = 0 then nI (q_ms l) &&& (-1) else nI (q_ms l) &&& (((1 : Int32) <<< (nI (q_nth l (l.length - 1)) &&& 31)) ^^^ (-1 : Int32))
theorem q_pp1 : ∀ m, m < 256 → ∀ x, x < 8 → m.testBit x = false → nI (m ||| 2 ^ x) &&& (((1 : Int32) <<< (nI x &&& 31)) ^^^ (-1 : Int32)) = nI m := by decide +kernel
theorem q_pp_s {l : List Nat} {x : Nat} (hx : x < 8) (hn : q_has l x = false) : q_pp (l ++ [x]) = nI (q_ms l) := by
  have hlen : (l ++ [x]).length = l.length + 1 := by simp
  unfold q_pp
  rw [if_neg (by omega), hlen, show l.length + 1 - 1 = l.length by omega, q_nth_e, q_ms_s l hx]
  exact q_pp1 _ (q_ms_lt l) x hx (by rw [q_ms_bit l hx]; exact hn)
theorem q_102 {n : Nat} {K : MS → Int32 → Int32 → Option MS} {M : MS} {l : List Nat} (hv : q_vl l) (h8 : l.length ≤ 8) (hg : q_GV M l) : mX8_findBest_102 n K M (nI (q_ms l)) (nI l.length) = K M (q_pp l) (nI l.length + (-1)) := by
  unfold mX8_findBest_102 mX8_findBest_124 mX8_findBest_161 q_pp
  by_cases c : l.length = 0
  · rw [c, if_pos (show nI 0 + (-1 : Int32) < 0 by decide), if_pos rfl]
  · obtain ⟨k, hk⟩ : ∃ k, l.length = k + 1 := ⟨l.length - 1, by omega⟩
    have e : nI l.length + (-1 : Int32) = nI k := by rw [hk]; exact pk_m1 k
    rw [e, if_neg (nI_pos (by omega)), if_pos (inb_n (show k < 8 by omega) (by decide)), nI_clamp (by omega), hg k (by omega), if_neg c, hk, show k + 1 - 1 = k by omega]
def q_nx (l : List Nat) : Nat → Nat → Nat
  | 0, f => f
  | j + 1, f => if q_has l f then q_nx l j (f + 1) else f
theorem q_nx_ok (E : List Nat → List (List Nat)) (l : List Nat) : ∀ j f, f + j = 8 → f ≤ q_nx l j f ∧ q_nx l j f ≤ 8 ∧ (q_nx l j f < 8 → q_has l (q_nx l j f) = false) ∧ q_rs E l (8 - f) = q_rs E l (8 - q_nx l j f)
  | 0, f, h => ⟨Nat.le_refl _, by show f ≤ 8; omega, fun hh => by have : f < 8 := hh; omega, rfl⟩
  | j + 1, f, h => by
    show f ≤ (if q_has l f then q_nx l j (f + 1) else f) ∧ (if q_has l f then q_nx l j (f + 1) else f) ≤ 8 ∧ ((if q_has l f then q_nx l j (f + 1) else f) < 8 → q_has l (if q_has l f then q_nx l j (f + 1) else f) = false) ∧ q_rs E l (8 - f) = q_rs E l (8 - (if q_has l f then q_nx l j (f + 1) else f))
    cases hb : q_has l f
    · rw [if_neg (by decide)]
      exact ⟨Nat.le_refl _, by omega, fun _ => hb, rfl⟩
    · rw [if_pos rfl]
      obtain ⟨h1, h2, h3, h4⟩ := q_nx_ok E l j (f + 1) (by omega)
      refine ⟨by omega, h2, h3, ?_⟩
      rw [← h4, show 8 - f = (8 - (f + 1)) + 1 by omega]
      show (if q_has l (7 - (8 - (f + 1))) then [] else _) ++ q_rs E l (8 - (f + 1)) = _
      rw [show 7 - (8 - (f + 1)) = f by omega, hb]; rfl
theorem q_skip {n : Nat} {K : MS → Int32 → Int32 → Option MS} {M : MS} {l : List Nat} {x2 : Int32} : ∀ j f k, f + j = 8 → j < k → mX8_findBest_53 n K (nI (q_ms l)) x2 k M (nI f) = mX8_findBest_74 n K M (nI (q_ms l)) x2 (nI (q_nx l j f))
  | 0, f, k, h, hk => by
    obtain ⟨k, rfl⟩ : ∃ k', k = k' + 1 := ⟨k - 1, by omega⟩
    have : f = 8 := by omega
    subst this
    rw [mX8_findBest_53, if_pos (show (8 : Int32) ≤ nI 8 from nI_le (Nat.le_refl _) (by decide))]; rfl
  | j + 1, f, k, h, hk => by
    obtain ⟨k, rfl⟩ : ∃ k', k = k' + 1 := ⟨k - 1, by omega⟩
    have hlt := q_ms_lt l
    rw [mX8_findBest_53, if_neg (show ¬ (8 : Int32) ≤ nI f from nI_ge (b := 8) (by omega) (by decide)), q_bitB (by omega) (by omega), q_ms_bit l (by omega)]
    show _ = mX8_findBest_74 n K M (nI (q_ms l)) x2 (nI (if q_has l f then q_nx l j (f + 1) else f))
    cases hb : q_has l f
    · rw [if_neg (by decide), if_neg (by decide)]
    · rw [if_pos (bI_1.mpr rfl), if_pos rfl, q_i1]
      exact q_skip j (f + 1) k (by omega) (by omega)
def q_Nn : Nat → Nat
  | 0 => 1
  | d + 1 => 8 * (1 + q_Nn d) + 1
theorem q_search {a : AS} {t n : Nat} (hn : 9 < n) (hgc : ∀ σ ∈ q_en 8 [], q_gc σ) : ∀ (d : Nat) (l : List Nat) (b : Nat × List Nat) (M : MS), l.length + d = 8 → q_vl l → (∀ σ ∈ q_en d l, σ ∈ q_en 8 []) → q_GV M l → q_N8 a t M → q_RB M b → (0 < d → M.2.1 32 l.length = 0) → ∃ M' c, q_FM M M' l.length ∧ q_RB M' ((q_en d l).foldl (q_fs (q_k1 (q_J a t))) b) ∧ c ≤ q_Nn d ∧ ∀ F, mX8_findBest_31 n (F + c) M (nI (q_ms l)) (nI l.length) = mX8_findBest_31 n F M' (q_pp l) (nI l.length + (-1)) := by
  intro d
  induction d with
  | zero =>
    intro l b M hl hv hin hg h8 hB _
    have hl8 : l.length = 8 := by omega
    obtain ⟨M1, e1, hF, hB1⟩ := q_arrive h8 hn hv hl8 hg (hgc l (hin l (List.mem_singleton.mpr rfl))) hB
    refine ⟨M1, 1, by rw [hl8]; exact hF, hB1, Nat.le_refl 1, fun F => ?_⟩
    rw [mX8_findBest_31, if_neg (nI_pos (by omega)), if_pos (show (8 : Int32) ≤ nI l.length from nI_le (a := 8) (by omega) (by omega))]
    unfold mX8_findBest_52
    rw [show (8 : Int32) = nI 8 from rfl, q_skip 0 8 n rfl (by omega)]
    unfold mX8_findBest_74 mX8_findBest_84
    rw [if_pos (show nI l.length = (8 : Int32) by rw [hl8]; rfl), bn_eq e1]
    show (if nI 8 = (8 : Int32) then _ else _) = _
    rw [if_pos (show nI 8 = (8 : Int32) from rfl)]
    exact q_102 hv (by omega) (hF.gv (by omega) hg)
  | succ d ih =>
    intro l b M hl hv hin hg h8 hB h0
    have node : ∀ (j f : Nat) (b : Nat × List Nat) (M : MS), f + j = 8 → q_GV M l → q_N8 a t M → q_RB M b → M.2.1 32 l.length = nI f → ∃ M' c, q_FM M M' l.length ∧ q_RB M' ((q_rs (q_en d) l (8 - f)).foldl (q_fs (q_k1 (q_J a t))) b) ∧ c ≤ j * (1 + q_Nn d) + 1 ∧ ∀ F, mX8_findBest_31 n (F + c) M (nI (q_ms l)) (nI l.length) = mX8_findBest_31 n F M' (q_pp l) (nI l.length + (-1)) := by
      intro j
      induction j using Nat.strongRecOn with
      | ind j ihj =>
      intro f b M hf hg h8 hB h32
      obtain ⟨n1, n2, n3, n4⟩ := q_nx_ok (q_en d) l j f hf
      obtain ⟨f', hf'⟩ : ∃ f', f' = q_nx l j f := ⟨_, rfl⟩
      rw [← hf'] at n1 n2 n3 n4
      have step : ∀ F, mX8_findBest_31 n (F + 1) M (nI (q_ms l)) (nI l.length) = mX8_findBest_84 n (mX8_findBest_31 n F) M (nI (q_ms l)) (nI l.length) (nI f') := by
        intro F
        rw [mX8_findBest_31, if_neg (nI_pos (by omega)), if_neg (show ¬ (8 : Int32) ≤ nI l.length from nI_ge (b := 8) (by omega) (by decide)), if_pos (inb_n (show l.length < 9 by omega) (by decide)), nI_clamp (by omega), h32]
        unfold mX8_findBest_52
        rw [q_skip j f n hf (by omega), ← hf']
        unfold mX8_findBest_74
        rw [if_neg (show ¬ nI l.length = (8 : Int32) from fun e => by have := (nI_eq (a := l.length) (b := 8) (by omega) (by decide)).mp e; omega)]
      rw [n4]
      have popped : ∀ (b2 : Nat × List Nat), b2 = b → (∀ F, mX8_findBest_84 n (mX8_findBest_31 n F) M (nI (q_ms l)) (nI l.length) (nI f') = mX8_findBest_102 n (mX8_findBest_31 n F) M (nI (q_ms l)) (nI l.length)) → ∃ M' c, q_FM M M' l.length ∧ q_RB M' b2 ∧ c ≤ j * (1 + q_Nn d) + 1 ∧ ∀ F, mX8_findBest_31 n (F + c) M (nI (q_ms l)) (nI l.length) = mX8_findBest_31 n F M' (q_pp l) (nI l.length + (-1)) := by
        intro b2 hb2 hh
        refine ⟨M, 1, q_FM.rf M _, by rw [hb2]; exact hB, by omega, fun F => ?_⟩
        rw [step F, hh F]
        exact q_102 hv (by omega) hg
      by_cases c8 : f' = 8
      · refine popped _ (by rw [c8]; rfl) (fun F => ?_)
        unfold mX8_findBest_84
        rw [if_pos (show nI f' = (8 : Int32) by rw [c8]; rfl)]
      · have hf8 : f' < 8 := by omega
        have hno := n3 hf8
        obtain ⟨c, e, h23, h24, hb, hce, h30⟩ := hB
        have hcu : q_cu (q_J a t) l ≤ 8 := by
          have := fb_ct_le (fun p => !(q_J a t p (8 + q_nth l p))) l.length
          unfold q_cu; omega
        have h84 : ∀ F, mX8_findBest_84 n (mX8_findBest_31 n F) M (nI (q_ms l)) (nI l.length) (nI f') = if q_cu (q_J a t) l ≤ c then mX8_findBest_31 n F (sB (sB (sB M 32 l.length (nI (f' + 1))) 31 l.length (nI f')) 32 (l.length + 1) 0) (nI (q_ms (l ++ [f']))) (nI (l ++ [f']).length) else mX8_findBest_102 n (mX8_findBest_31 n F) M (nI (q_ms l)) (nI l.length) := by
          intro F
          have hlen : (l ++ [f']).length = l.length + 1 := by simp
          unfold mX8_findBest_84 mX8_findBest_161
          rw [if_neg (show ¬ nI f' = (8 : Int32) from fun e => by have := (nI_eq (a := f') (b := 8) (by omega) (by decide)).mp e; omega), bn_eq (q_cutsUntil h8 (by omega) hv (by omega) hg), h23]
          by_cases cc : q_cu (q_J a t) l ≤ c
          · rw [if_pos (nI_le cc (by omega)), if_pos cc, if_pos (inb_n (show l.length < 9 by omega) (by decide)), if_pos (inb_n (show l.length < 8 by omega) (by decide)), q_i1, if_pos (inb_n (show l.length + 1 < 9 by omega) (by decide)), nI_clamp (by omega), nI_clamp (by omega), q_or1 (by omega), q_i1, q_ms_s l hf8, hlen]
          · rw [if_neg (nI_ge (by omega) (by omega)), if_neg cc]
        by_cases cc : q_cu (q_J a t) l ≤ c
        · -- into the child, and on
          have hlen : (l ++ [f']).length = l.length + 1 := by simp
          have hv2 := q_vl_s hv hf8 hno
          obtain ⟨M1, hM1⟩ : ∃ M1, M1 = sB (sB (sB M 32 l.length (nI (f' + 1))) 31 l.length (nI f')) 32 (l.length + 1) 0 := ⟨_, rfl⟩
          have F1 : q_FM M M1 l.length := by
            rw [hM1]
            refine ⟨((Km.sB M 32 _ _ (by decide)).tr (Km.sB _ 31 _ _ (by decide))).tr (Km.sB _ 32 _ _ (by decide)), ?_, fun i hi => ⟨?_, ?_⟩⟩
            · rw [sB_o _ _ _ (by decide), sB_o _ _ _ (by decide), sB_o _ _ _ (by decide)]
            · rw [sB_o _ _ _ (by decide), sB_r, pk_un (by omega), sB_o _ _ _ (by decide)]
            · rw [sB_r, pk_un (by omega), sB_o _ _ _ (by decide), sB_r, pk_un (by omega)]
          have g1 : q_GV M1 (l ++ [f']) := by
            intro i hi
            rw [hM1, sB_o _ _ _ (by decide), sB_r]
            by_cases ei : i = l.length
            · rw [ei, q_nth_e]; exact pk_us
            · rw [pk_un ei, sB_o _ _ _ (by decide), hg i (by omega), q_nth_l l _ i (by omega)]
          have B1 : q_RB M1 b := by
            refine ⟨c, e, ?_, ?_, hb, hce, fun hc i hi => ?_⟩
            · rw [hM1]; exact h23
            · rw [hM1]; exact h24
            · rw [hM1, sB_o _ _ _ (by decide), sB_o _ _ _ (by decide), sB_o _ _ _ (by decide)]; exact h30 hc i hi
          have t1 : M1.2.1 32 (l ++ [f']).length = 0 := by rw [hM1, hlen, sB_r]; exact pk_us
          have t0 : M1.2.1 32 l.length = nI (f' + 1) := by rw [hM1, sB_r, pk_un (by omega), sB_o _ _ _ (by decide), sB_r]; exact pk_us
          obtain ⟨M2, c2, F2, B2, hc2, e2⟩ := ih (l ++ [f']) b M1 (by omega) hv2 (fun σ hσ => hin σ ((q_rs_mem (q_en d) l σ 8 (by decide)).mpr ⟨f', by omega, hf8, hno, hσ⟩)) g1 (F1.n8 h8) B1 (fun _ => t1)
          obtain ⟨M3, c3, F3, B3, hc3, e3⟩ := ihj (8 - (f' + 1)) (by omega) (f' + 1) _ M2 (by omega) (fun i hi => ((F2.2.2 i (by omega)).1).trans ((F1.2.2 i hi).1.trans (hg i hi))) (F2.n8 (F1.n8 h8)) B2 ((F2.2.2 l.length (by omega)).2.trans t0)
          have hrs : q_rs (q_en d) l (8 - f') = q_en d (l ++ [f']) ++ q_rs (q_en d) l (8 - (f' + 1)) := by
            rw [show 8 - f' = (8 - (f' + 1)) + 1 by omega]
            show (if q_has l (7 - (8 - (f' + 1))) then [] else q_en d (l ++ [7 - (8 - (f' + 1))])) ++ _ = _
            rw [show 7 - (8 - (f' + 1)) = f' by omega, hno]; rfl
          refine ⟨M3, 1 + c2 + c3, F1.tr (show l.length ≤ (l ++ [f']).length by omega) F2 |>.tr (Nat.le_refl _) F3, ?_, ?_, fun F => ?_⟩
          · rw [hrs, List.foldl_append]; exact B3
          · have m1 : (8 - (f' + 1)) * (1 + q_Nn d) + (1 + q_Nn d) = (8 - f') * (1 + q_Nn d) := by rw [show 8 - f' = (8 - (f' + 1)) + 1 by omega, Nat.add_mul, Nat.one_mul]
            have m2 : (8 - f') * (1 + q_Nn d) ≤ j * (1 + q_Nn d) := Nat.mul_le_mul_right _ (by omega)
            omega
          · rw [show F + (1 + c2 + c3) = (F + c3 + c2) + 1 by omega, step, h84, if_pos cc, ← hM1, e2, q_pp_s hf8 hno, hlen, pk_m1, e3]
        · -- nothing better below
          refine popped _ ?_ (fun F => by rw [h84 F, if_neg cc])
          refine q_fs_no _ _ _ (fun σ hσ => ?_)
          obtain ⟨x, _, x2, x3, x4⟩ := (q_rs_mem (q_en d) l σ (8 - f') (by omega)).mp hσ
          obtain ⟨v1, v2, m, hm⟩ := q_en_sub d (l ++ [x]) σ x4 (q_vl_s hv x2 x3) (by simp; omega)
          have hge : q_cu (q_J a t) l ≤ q_cu (q_J a t) σ := by
            have e1 : fb_ct (fun p => !(q_J a t p (8 + q_nth l p))) l.length = fb_ct (fun p => !(q_J a t p (8 + q_nth σ p))) l.length := fb_ct_cong (fun p hp => by rw [hm, List.append_assoc, q_nth_l l _ p hp])
            unfold q_cu
            rw [e1]
            exact fb_ct_mono _ (by omega)
          unfold q_k1
          omega
    obtain ⟨M', c, h1, h2, h3, h4⟩ := node 8 0 b M rfl hg h8 hB (h0 (by omega))
    exact ⟨M', c, h1, h2, h3, h4⟩
