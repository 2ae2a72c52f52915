/-! load, begin, pass: both sides -/
theorem q_loadC {a : AS} {S : CS} (r : RC a S) (v : Va a) {n : Nat} (hn : 52 < n) : Ok (fun or => mX7_load n or S) (fun rs => (∃ al S', tq_cp (aX a) al ∧ tq_fit (aL a) (aF a).length al ∧ rs = (.ok (nI al.length), S') ∧ RC (aCl (q_ld a al)) S' ∧ Va (aCl (q_ld a al))) ∨ (∃ S', (∀ al, ¬ tq_cp (aX a) al) ∧ rs = (.error 1, S') ∧ RC a S') ∨ ∃ al S', tq_cp (aX a) al ∧ ¬ tq_fit (aL a) (aF a).length al ∧ rs = (.error 3, S') ∧ RC a S') := by
  have hc := tq_chV v
  intro or
  show R1 (mX7_load n or S) _
  unfold mX7_load
  refine R1.bm (tq_comp7 (tq_txR r) hc (by omega)) ?_
  rintro c S1 ⟨hK, hcs⟩
  have hK : Kr S S1 := hK
  have r1 := hK.ke.rc r
  rcases hcs with ⟨h1, al, hA⟩ | ⟨h0, hno⟩
  · rw [if_neg (by rw [show c = 1 from h1]; decide)]
    refine R1.bm (tq_fits r1 v hA hn) ?_
    rintro f S2 ⟨hK2, hf⟩
    have hK2 : Kr S1 S2 := hK2
    have r2 := hK2.ke.rc r1
    rcases hf with ⟨h1', hfit⟩ | ⟨h0', hnf⟩
    · rw [if_neg (by rw [show f = 1 from h1']; decide)]
      obtain ⟨_, _, c2, _⟩ := tq_cpI hA hc
      refine R1.bm (P := fun z => z.1 = nI al.length ∧ RC (q_ld a (al.drop 0)) z.2 ∧ Va (q_ld a (al.drop 0))) ?_ ?_
      · unfold mX7_carryOutText mX6_rewind
        show R1 (mX7_carryOutText_11 n n or (sF (sF S2 11 0) 12 0) (nI 0) (nI 0)) _
        exact q_carry hc hA hn hfit al.length 0 n or _ a (by omega) (by omega) ((((Kr.rf S2).sF _ (by decide)).sF _ (by decide)).ke.rc r2) v rfl rfl rfl (tq_At0 hA hc S2)
      · rintro x S3 ⟨hx, r3, v3⟩
        have hx : x = nI al.length := hx
        have r3 : RC (q_ld a al) S3 := r3
        exact R1.ret (Or.inl ⟨al, _, hA, hfit, by rw [hx], q_clC r3, q_clV v3⟩)
    · rw [if_pos (show f = 0 from h0')]
      exact R1.ret (Or.inr (Or.inr ⟨al, S2, hA, hnf, rfl, r2⟩))
  · rw [if_pos (show c = 0 from h0)]
    exact R1.ret (Or.inr (Or.inl ⟨S1, hno, rfl, r1⟩))
theorem tq_Ms0 {s : Rs} {M : MS} (h : tq_M s M) (v : Int32) : tq_M s (sG M 0 v) := h
theorem q_s0 {a : AS} {M : MS} (r : RM a M) (v : Int32) : RM a (sG M 0 v) := (Km.sG M 0 v (Or.inl rfl)).rm r
theorem q_loadM {a : AS} {M : MS} (r : RM a M) (v : Va a) {n : Nat} (hn : 52 < n) : R1 (mX8_load n M) (fun z => (∃ al, tq_cp (aX a) al ∧ tq_fit (aL a) (aF a).length al ∧ z.1 = nI al.length ∧ z.2.1 0 = 0 ∧ RM (aCl (q_ld a al)) z.2) ∨ ((∀ al, ¬ tq_cp (aX a) al) ∧ z.2.1 0 = 1 ∧ RM a z.2) ∨ ∃ al, tq_cp (aX a) al ∧ ¬ tq_fit (aL a) (aF a).length al ∧ z.2.1 0 = 2 ∧ RM a z.2) := by
  have hc := tq_chV v
  have h50 := hc.1
  unfold mX8_load
  refine R1.bm (tq_err8 (tq_tmR r) hc (by omega)) ?_
  rintro x M1 ⟨hK, e, he, hx, hs⟩
  have hK : Kt M M1 := hK
  have hx : x = nI e := hx
  have r1 := hK.1.rm r
  have hs : e = (aX a).length → ∃ s its, tq_ps (aX a) (aX a).length = some (s, its) ∧ tq_M s M1 ∧ tq_It its M1 := hs
  have no : (∀ al, ¬ tq_cp (aX a) al) → R1 (mX8_load_22 n M1) (fun z => (∃ al, tq_cp (aX a) al ∧ tq_fit (aL a) (aF a).length al ∧ z.1 = nI al.length ∧ z.2.1 0 = 0 ∧ RM (aCl (q_ld a al)) z.2) ∨ ((∀ al, ¬ tq_cp (aX a) al) ∧ z.2.1 0 = 1 ∧ RM a z.2) ∨ ∃ al, tq_cp (aX a) al ∧ ¬ tq_fit (aL a) (aF a).length al ∧ z.2.1 0 = 2 ∧ RM a z.2) := by
    intro hno
    unfold mX8_load_22 mX8_load_23 mX8_load_34
    rw [if_pos rfl, sG_s, if_neg (by decide)]
    exact R1.ret (Or.inr (Or.inl ⟨hno, sG_s _ _ _, q_s0 r1 1⟩))
  rw [(hK.tm (tq_tmR r)).1, hx]
  by_cases c : e = (aX a).length
  · obtain ⟨s, its, hp, hM, hI⟩ := hs c
    have ok := (tq_ps_inv hp).1
    rw [if_pos (congrArg nI c), bn_eq (tq_ce ok hM)]
    rcases Bool.eq_false_or_eq_true (tq_wh s) with w | w
    · rw [w, if_neg (by decide)]
      unfold mX8_load_23 mX8_load_34
      rw [if_neg (by decide), sG_s, if_pos (by decide)]
      have hl := tq_it25 hc (Nat.le_refl _) hp
      have hA : tq_cp (aX a) (its ++ [s.2]) := ⟨s, its, hp, w, rfl⟩
      obtain ⟨c0, c1, c2, c3⟩ := tq_cpI hA hc
      refine R1.bn (tq_end ok (tq_Ms0 hM 0) (hI.sG 0 (by decide)) (by omega) w) ?_
      rintro M2 ⟨k2, h14, hI2⟩
      have r2 := k2.1.rm (q_s0 r1 0)
      refine R1.bn (tq_canLoad r2 v hA hI2 hn) ?_
      rintro f hf
      rcases hf with ⟨h1, hfit⟩ | ⟨h0, hnf⟩
      · rw [if_neg (by rw [h1]; decide)]
        unfold mX8_load_63
        rw [sG_s, if_pos (by decide)]
        refine (q_carry8 c2 c3 hfit (its ++ [s.2]).length 0 n (sG M2 0 0) a (by omega) (by omega) (q_s0 r2 0) v rfl rfl (hI2.sG 0 (by decide)) (sG_s _ _ _)).mono ?_
        rintro z ⟨z1, z2, z3⟩
        exact Or.inl ⟨_, hA, hfit, z1, z3, z2⟩
      · rw [if_pos h0]
        unfold mX8_load_63
        rw [sG_s, if_neg (by decide)]
        exact R1.ret (Or.inr (Or.inr ⟨_, hA, hnf, sG_s _ _ _, q_s0 r2 2⟩))
    · rw [w, if_pos (by decide)]
      refine no ?_
      rintro al ⟨s', its', e', w', _⟩
      rw [hp] at e'
      injection e' with e'
      injection e' with h1 h2
      rw [← h1, w] at w'
      cases w'
  · have := he.1
    rw [if_neg (tq_z (by omega) (by omega) c)]
    refine no ?_
    rintro al ⟨s', its', e', w', _⟩
    rw [tq_er_no he c] at e'
    cases e'
/-! begin -/
def aBg (a : AS) (L V : Nat) : AS := ((L, V, 0, 0), (fun i => i % 8), [], [], aX a)
theorem q_bgV {a : AS} (v : Va a) {L V : Nat} (h1 : 2 ≤ L) (h2 : L ≤ 999) (h3 : 50 ≤ V) (h4 : V ≤ 99) : Va (aBg a L V) := by
  obtain ⟨_, _, _, _, _, _, _, _, _, _, _, _, _, v14, v15⟩ := v
  refine ⟨h1, h2, h3, h4, Nat.zero_le _, Nat.zero_le _, fun i _ => Nat.mod_lt _ (by decide), ?_, ?_, Nat.zero_le _, fun x hx => absurd hx List.not_mem_nil, Nat.zero_le _, fun x hx => absurd hx List.not_mem_nil, v14, v15⟩
  · intro i j hi hj h
    have h : i % 8 = j % 8 := h
    omega
  · intro i j hi hj h
    have h : (8 + i) % 8 = (8 + j) % 8 := h
    omega
theorem q_clear {S : CS} (h1 : S.2.2.2.2 = none → S.2.2.2.1.length = 0) (h2 : S.2.2.2.1.length ≤ 10) : mJx4a65c_clear_da8c8 S = some (clr S) := by
  unfold mJx4a65c_clear_da8c8
  split
  · rename_i h
    rw [if_pos (h1 h)]
  · rw [if_pos h2]
theorem q_layC {a : AS} {S : CS} (r : RC a S) (v : Va a) {n : Nat} (hn : 16 < n) (L V : Int32) : R1 (mX0_lay n S L V) (fun S' => (S'.1 0 = L ∧ S'.1 1 = V ∧ S'.1 2 = 0 ∧ S'.1 3 = 0 ∧ S'.1 10 = S.1 10) ∧ (∀ i, i < 16 → S'.2.1 2 i = nI (i % 8)) ∧ S'.2.1 21 = S.2.1 21 ∧ S'.2.2.2.1 = []) := by
  have h10 := q_F10 v
  unfold mX0_lay
  show R1 (mX0_lay_22 n n (sF (sF (sF (sF S 0 L) 1 V) 2 0) 3 0) (nI 0)) _
  refine q_lp (f := fun k s i => mX0_lay_22 n k s i) (N := 16) (inv := fun i S' => S'.1 = (sF (sF (sF (sF S 0 L) 1 V) 2 0) 3 0).1 ∧ S'.2.2 = S.2.2 ∧ S'.2.1 21 = S.2.1 21 ∧ ∀ j, j < i → S'.2.1 2 j = nI (j % 8)) ?_ ?_ 16 0 n _ rfl ⟨rfl, rfl, rfl, fun j hj => absurd hj (Nat.not_lt_zero j)⟩ hn
  · intro k s ⟨g, o, x, w⟩
    show R1 (mX0_lay_22 n (k + 1) s (nI 16)) _
    rw [mX0_lay_22, if_pos (show (16 : Int32) ≤ nI 16 from nI_le (Nat.le_refl _) (by decide)), bn_eq (q_clear (S := s) (by rw [o]; intro h; rw [q_len r, r.2.2.2.2.2.2.1 h]; rfl) (by rw [o, q_len r]; exact h10))]
    have gg : ∀ k, k ≠ 4 → (clr s).1 k = (sF (sF (sF (sF S 0 L) 1 V) 2 0) 3 0).1 k := fun k hk => (pk_un hk).trans (by rw [g])
    exact R1.ret ⟨⟨gg 0 (by decide), gg 1 (by decide), gg 2 (by decide), gg 3 (by decide), gg 10 (by decide)⟩, w, x, rfl⟩
  · intro i k s hi ⟨g, o, x, w⟩
    right
    refine ⟨sA s 2 i (nI (i % 8)), ⟨g, o, (sA_o _ _ _ (by decide)).trans x, fun j hj => ?_⟩, ?_⟩
    · rw [sA_r]
      by_cases c : j = i
      · rw [c]; exact pk_us
      · rw [pk_un c]; exact w j (by omega)
    · show mX0_lay_22 n (k + 1) s (nI i) = _
      rw [mX0_lay_22, if_neg (show ¬ (16 : Int32) ≤ nI i from nI_ge hi (by decide)), if_pos (inb_n hi (by decide)), nI_clamp (by omega), show nI i - nI i / (8 : Int32) * (8 : Int32) = nI (i % 8) from q_remI (by omega) (by decide) (by decide), q_i1]
theorem q_forgetC {S : CS} {n : Nat} (hn : 8 < n) : R1 (mX4_forget n S) (fun S' => S'.1 = (sF S 9 0).1 ∧ S'.2.1 = S.2.1 ∧ S'.2.2.2 = S.2.2.2 ∧ ∀ p, p < 8 → S'.2.2.1 p = 0) := by
  unfold mX4_forget
  show R1 (mX4_forget_7 n n (sF S 9 0) (nI 0)) _
  refine q_lp (f := fun k s i => mX4_forget_7 n k s i) (N := 8) (inv := fun i S' => S'.1 = (sF S 9 0).1 ∧ S'.2.1 = S.2.1 ∧ S'.2.2.2 = S.2.2.2 ∧ ∀ p, p < i → S'.2.2.1 p = 0) ?_ ?_ 8 0 n _ rfl ⟨rfl, rfl, rfl, fun j hj => absurd hj (Nat.not_lt_zero j)⟩ hn
  · intro k s h
    show R1 (mX4_forget_7 n (k + 1) s (nI 8)) _
    rw [mX4_forget_7, if_pos (show (8 : Int32) ≤ nI 8 from nI_le (Nat.le_refl _) (by decide))]
    exact R1.ret h
  · intro i k s hi ⟨g, o, x, w⟩
    right
    refine ⟨sL s i 0, ⟨g, o, x, fun j hj => ?_⟩, ?_⟩
    · show vp_updL s.2.2.1 i 0 j = 0
      by_cases c : j = i
      · rw [c]; exact pk_uLs
      · rw [pk_uLn c]; exact w j (by omega)
    · show mX4_forget_7 n (k + 1) s (nI i) = _
      rw [mX4_forget_7, if_neg (show ¬ (8 : Int32) ≤ nI i from nI_ge hi (by decide)), if_pos (inb_n hi (by decide)), nI_clamp (by omega), q_i1]
theorem q_bgC {a : AS} {S : CS} (r : RC a S) (v : Va a) {n : Nat} (hn : 16 < n) (L V : Nat) : R1 (bn (mX0_lay n S (nI L) (nI V)) fun S9 => mX4_forget n S9) (fun S' => RC (aBg a L V) S') := by
  refine R1.bn (q_layC r v hn (nI L) (nI V)) ?_
  rintro S9 ⟨⟨h0, h1, h2, h3, h10⟩, hw, hx, hf⟩
  refine (q_forgetC (S := S9) (by omega)).mono ?_
  rintro S' ⟨g, o, f, z⟩
  have gg : ∀ k, k ≠ 9 → S'.1 k = S9.1 k := fun k hk => by rw [g]; exact sF_n _ _ hk
  refine ⟨(gg 0 (by decide)).trans h0, (gg 1 (by decide)).trans h1, (gg 2 (by decide)).trans h2, (gg 3 (by decide)).trans h3, ?_, ?_, fun _ => rfl, ?_, ?_, ((gg 10 (by decide)).trans h10).trans r.2.2.2.2.2.2.2.2.2.1, ?_⟩
  · rw [o]; exact hw
  · rw [f, hf]; rfl
  · rw [g]; exact sF_s _ _ _
  · intro p hp i hi
    rw [z p hp]
    show (0 : Int64).toBitVec.getLsbD i = ((([] : List Nat).reverse[i]?).getD 0).testBit p
    simp
  · rw [o, hx]; exact r.2.2.2.2.2.2.2.2.2.2
theorem q_bgM {a : AS} {M : MS} (r : RM a M) {n : Nat} (hn : 16 < n) (L V : Nat) : R1 (mX8_fresh n M (nI L) (nI V)) (fun M' => RM (aBg a L V) M' ∧ M'.1 0 = M.1 0) := by
  unfold mX8_fresh
  show R1 (mX8_fresh_32 n n (sG (sG (sG (sG (sG (sG M 1 (nI L)) 2 (nI V)) 3 0) 4 0) 7 0) 9 0) (nI 0)) _
  refine q_lp (f := fun k s i => mX8_fresh_32 n k s i) (N := 16) (inv := fun i M' => M'.1 = (sG (sG (sG (sG (sG (sG M 1 (nI L)) 2 (nI V)) 3 0) 4 0) 7 0) 9 0).1 ∧ (∀ k, k ≠ 23 → M'.2.1 k = M.2.1 k) ∧ ∀ j, j < i → M'.2.1 23 j = nI (j % 8)) ?_ ?_ 16 0 n _ rfl ⟨rfl, fun _ _ => rfl, fun j hj => absurd hj (Nat.not_lt_zero j)⟩ hn
  · intro k s ⟨g, o, w⟩
    show R1 (mX8_fresh_32 n (k + 1) s (nI 16)) _
    rw [mX8_fresh_32, if_pos (show (16 : Int32) ≤ nI 16 from nI_le (Nat.le_refl _) (by decide))]
    refine R1.ret ⟨⟨by rw [g]; rfl, by rw [g]; rfl, by rw [g]; rfl, by rw [g]; rfl, w, by rw [g]; rfl, fun k x hx => absurd hx (by show ¬ ([] : List Ft)[k]? = some x; simp), by rw [g]; rfl, fun i hi => absurd hi (Nat.not_lt_zero i), by rw [g]; exact r.2.2.2.2.2.2.2.2.2.1, by rw [o 26 (by decide)]; exact r.2.2.2.2.2.2.2.2.2.2⟩, by rw [g]; rfl⟩
  · intro i k s hi ⟨g, o, w⟩
    right
    refine ⟨sB s 23 i (nI (i % 8)), ⟨g, fun k hk => (sB_o _ _ _ hk).trans (o k hk), fun j hj => ?_⟩, ?_⟩
    · rw [sB_r]
      by_cases c : j = i
      · rw [c]; exact pk_us
      · rw [pk_un c]; exact w j (by omega)
    · show mX8_fresh_32 n (k + 1) s (nI i) = _
      rw [mX8_fresh_32, if_neg (show ¬ (16 : Int32) ≤ nI i from nI_ge hi (by decide)), if_pos (inb_n hi (by decide)), nI_clamp (by omega), show nI i - nI i / (8 : Int32) * (8 : Int32) = nI (i % 8) from q_remI (by omega) (by decide) (by decide), q_i1]
/-! pass -/
def aTk (a : AS) (t : Nat) : AS := ((aL a, aV a, aU a, t), a.2)
def aRc (a : AS) (w : Nat) : AS := (a.1, aW a, aF a, (aR a).drop ((aR a).length - 63) ++ [w], aX a)
theorem q_pz_cg {fs : List Ft} {t t' : Nat} (h : ∀ k, k < fs.length → q_pr (q_at fs k) t = q_pr (q_at fs k) t') (w p : Nat) : q_pz fs t w p = q_pz fs t' w p := by
  unfold q_pz
  congr 1
  refine fb_ct_cong (fun k hk => ?_)
  unfold q_cb
  rw [h k hk]
theorem q_pm_cg {fs : List Ft} {t t' : Nat} (h : q_pm fs t = q_pm fs t') : ∀ k, k < fs.length → q_pr (q_at fs k) t = q_pr (q_at fs k) t' := by
  intro k hk
  have e := congrArg (fun m => m.testBit k) h
  unfold q_pm at e
  simp only [q_mk_bit, decide_eq_true hk, Bool.true_and] at e
  exact e
theorem q_G_cg {fs : List Ft} {t t' : Nat} (h : ∀ k, k < fs.length → q_pr (q_at fs k) t = q_pr (q_at fs k) t') : ∀ i, i ≤ fs.length → q_G fs t i = q_G fs t' i
  | 0, _ => rfl
  | i + 1, hi => by
    have ih := q_G_cg h i (by omega)
    unfold q_G
    rw [ih, h i (by omega), q_pz_cg h, q_pz_cg h]
theorem q_J_cg {a : AS} {t t' : Nat} (h : q_pm (aF a) t = q_pm (aF a) t') : q_J a t = q_J a t' := by
  funext i j
  unfold q_J q_pi
  rw [q_G_cg (q_pm_cg h) _ (Nat.le_refl _), q_pz_cg (q_pm_cg h), q_pz_cg (q_pm_cg h)]
theorem q_onw {a : AS} {S : CS} (r : RC a S) (v : Va a) {n : Nat} (hn : 18 < n) {t t' : Nat} (h : q_Mz a t S) (ht : t' < 2 ^ 31) : R1 (mX7_measureOnwards n S (nI t')) (fun S' => Ke S S' ∧ q_Mz a t' S') := by
  have b1 := q_pm_lt v t
  have b2 := q_pm_lt v t'
  unfold mX7_measureOnwards
  rw [bn_eq (q_presentFaults r v (by omega) ht), h.1]
  by_cases c : q_pm (aF a) t' = q_pm (aF a) t
  · rw [if_pos (congrArg nI c)]
    refine R1.ret ⟨Ke.rf S, ?_⟩
    unfold q_Mz
    rw [c, q_J_cg c]
    exact h
  · rw [if_neg (tq_z (by omega) (by omega) c)]
    refine R1.bn (q_measure r v hn) ?_
    intro S' h
    exact R1.ret h
theorem q_ms7 {a : AS} {S : CS} (r : RC a S) (v : Va a) {n : Nat} (hn : 18 < n) : R1 (mX7_measure n S) (fun S' => Ke S S' ∧ q_Mz a (aT a) S') := by
  have ht := q_T v
  unfold mX7_measure
  rw [r.2.2.2.1, bn_eq (q_presentFaults r v (by omega) (by omega))]
  refine R1.bn (q_measure r v hn) ?_
  intro S' h
  exact R1.ret h
theorem q_rb_s (rs : List Nat) (w p : Nat) {i : Nat} (hi : i < 64) (hl : rs.length ≤ 64) : q_rb (rs.drop (rs.length - 63) ++ [w]) p i = if i = 0 then w.testBit p else q_rb rs p (i - 1) := by
  unfold q_rb
  rw [List.reverse_append]
  show (((w :: (rs.drop (rs.length - 63)).reverse)[i]?).getD 0).testBit p = _
  cases i with
  | zero => rfl
  | succ i =>
    rw [if_neg (by omega)]
    show ((((rs.drop (rs.length - 63)).reverse)[i]?).getD 0).testBit p = ((rs.reverse[i]?).getD 0).testBit p
    rw [List.reverse_drop, show rs.length - (rs.length - 63) = min rs.length 63 by omega, List.getElem?_take]
    by_cases c : i < min rs.length 63
    · rw [if_pos c]
    · rw [if_neg c, List.getElem?_eq_none (by rw [List.length_reverse]; omega)]
theorem q_note {a : AS} {S : CS} (r : RC a S) (v : Va a) {n : Nat} (hn : 8 < n) {w : Nat} (hw : w < 256) : R1 (mX4_note n S (nI w)) (fun S' => RC (aRc a w) S' ∧ (∀ k, k ≠ 9 → S'.1 k = S.1 k) ∧ S'.2.1 = S.2.1) := by
  have h64 := q_R64 v
  have nb : ∀ p, p < 8 → ∀ i, i < 64 → ((S.2.2.1 p <<< ((1 : Int32).toInt64 &&& 63)) ||| (((nI w >>> (nI p &&& 31)) &&& (1 : Int32)).toInt64)).toBitVec.getLsbD i = q_rb (aR (aRc a w)) p i := by
    intro p hp i hi
    obtain ⟨m, hm, e, hb⟩ := q_Lm r hp
    rw [e, show lN m <<< ((1 : Int32).toInt64 &&& 63) = lN (m * 2 ^ 1) from wb_shl _ (k := 1) (by decide), q_bit (by omega) (by omega), nI_l (by split <;> decide), fb_orL, wb_tb, BitVec.getLsbD_ofNat, decide_eq_true hi, Bool.true_and, Nat.testBit_or, Nat.testBit_mul_two_pow]
    show _ = q_rb ((aR a).drop ((aR a).length - 63) ++ [w]) p i
    rw [q_rb_s (aR a) w p hi h64]
    cases i with
    | zero =>
      rw [if_pos rfl]
      cases w.testBit p <;> simp
    | succ i =>
      have t1 : (1 : Nat).testBit (i + 1) = false := Nat.testBit_lt_two_pow (Nat.lt_of_lt_of_le (by decide : 1 < 2 ^ 1) (Nat.pow_le_pow_right (by decide) (by omega)))
      rw [if_neg (show ¬ i + 1 = 0 by omega), hb (i + 1 - 1) (by omega)]
      cases w.testBit p <;> simp [t1]
  unfold mX4_note
  show R1 (mX4_note_2 n (nI w) n S (nI 0)) _
  refine q_lp (f := fun k s i => mX4_note_2 n (nI w) k s i) (N := 8) (inv := fun i S' => S'.1 = S.1 ∧ S'.2.1 = S.2.1 ∧ S'.2.2.2 = S.2.2.2 ∧ (∀ p, p < i → S'.2.2.1 p = (S.2.2.1 p <<< ((1 : Int32).toInt64 &&& 63)) ||| (((nI w >>> (nI p &&& 31)) &&& (1 : Int32)).toInt64)) ∧ ∀ p, i ≤ p → S'.2.2.1 p = S.2.2.1 p) ?_ ?_ 8 0 n _ rfl ⟨rfl, rfl, rfl, fun j hj => absurd hj (Nat.not_lt_zero j), fun _ _ => rfl⟩ hn
  · intro k s ⟨g, o, x, z, _⟩
    show R1 (mX4_note_2 n (nI w) (k + 1) s (nI 8)) _
    have g9 : s.1 9 = nI (aR a).length := by rw [g]; exact r.2.2.2.2.2.2.2.1
    rw [mX4_note_2, if_pos (show (8 : Int32) ≤ nI 8 from nI_le (Nat.le_refl _) (by decide)), g9, q_i1]
    have e9 : (if (64 : Int32) < nI ((aR a).length + 1) then (64 : Int32) else nI ((aR a).length + 1)) = nI (aR (aRc a w)).length := by
      show _ = nI ((aR a).drop ((aR a).length - 63) ++ [w]).length
      rw [List.length_append, List.length_drop]
      show _ = nI ((aR a).length - ((aR a).length - 63) + 1)
      by_cases c : 64 < (aR a).length + 1
      · rw [if_pos (show (64 : Int32) < nI ((aR a).length + 1) from nI_lt c (by omega)), show (aR a).length - ((aR a).length - 63) + 1 = 64 by omega]
        rfl
      · rw [if_neg (show ¬ (64 : Int32) < nI ((aR a).length + 1) from nI_nlt (a := 64) (by omega) (by decide)), show (aR a).length - ((aR a).length - 63) + 1 = (aR a).length + 1 by omega]
    rw [e9]
    obtain ⟨r0, r1, r2, r3, r4, r5, r6, r7, r8, r9, r10⟩ := r
    have gg : ∀ k, k ≠ 9 → (sF s 9 (nI (aR (aRc a w)).length)).1 k = S.1 k := fun k hk => (sF_n _ _ hk).trans (by rw [g])
    refine R1.ret ⟨⟨(gg 0 (by decide)).trans r0, (gg 1 (by decide)).trans r1, (gg 2 (by decide)).trans r2, (gg 3 (by decide)).trans r3, ?_, ?_, ?_, sF_s _ _ _, ?_, (gg 10 (by decide)).trans r9, ?_⟩, gg, o⟩
    · show ∀ i, i < 16 → s.2.1 2 i = _
      rw [o]; exact r4
    · show s.2.2.2.1.map e5 = _
      rw [x]; exact r5
    · show s.2.2.2.2 = none → _
      rw [x]; exact r6
    · intro p hp i hi
      show (s.2.2.1 p).toBitVec.getLsbD i = _
      rw [z p hp]
      exact nb p hp i hi
    · show ∀ i, i < (aX a).length → s.2.1 21 i = _
      rw [o]; exact r10
  · intro i k s hi ⟨g, o, x, z, y⟩
    right
    refine ⟨sL s i ((S.2.2.1 i <<< ((1 : Int32).toInt64 &&& 63)) ||| (((nI w >>> (nI i &&& 31)) &&& (1 : Int32)).toInt64)), ⟨g, o, x, fun j hj => ?_, fun j hj => ?_⟩, ?_⟩
    · show vp_updL s.2.2.1 i _ j = _
      by_cases c : j = i
      · rw [c]; exact pk_uLs
      · rw [pk_uLn c]; exact z j (by omega)
    · show vp_updL s.2.2.1 i _ j = _
      rw [pk_uLn (by omega)]; exact y j (by omega)
    · show mX4_note_2 n (nI w) (k + 1) s (nI i) = _
      rw [mX4_note_2, if_neg (show ¬ (8 : Int32) ≤ nI i from nI_ge hi (by decide)), if_pos (inb_n hi (by decide)), if_pos (inb_n hi (by decide)), nI_clamp (by omega), q_i1, y i (Nat.le_refl _)]
