/-! the reference's digest -/
def D8 (a : AS) (h : Int64) (M : MS) : Prop := RM a M ∧ M.1 0 = 0 ∧ M.2.2 = h
theorem D8.mx {a : AS} {h : Int64} {M : MS} (d : D8 a h M) (x : Int32) : D8 a (mxi h x) (sH M (31 * M.2.2 + x.toInt64)) := by
  refine ⟨(Km.sH M _).rm d.1, d.2.1, ?_⟩
  show 31 * M.2.2 + x.toInt64 = _
  rw [d.2.2]
  rfl
theorem D8.fm {a : AS} {h : Int64} {M M' : MS} (d : D8 a h M) (f : Fm M M') : D8 a h M' := ⟨f.km.rm d.1, f.s0.trans d.2.1, f.2.1.trans d.2.2⟩
def E8 (a : AS) (h : Int64) (M : MS) : Prop := D8 a h M ∧ q_Ex8 a (aT a) M
theorem E8.mx {a : AS} {h : Int64} {M : MS} (d : E8 a h M) (x : Int32) : E8 a (mxi h x) (sH M (31 * M.2.2 + x.toInt64)) := ⟨d.1.mx x, d.2⟩
theorem E8.fm {a : AS} {h : Int64} {M M' : MS} (d : E8 a h M) (f : Fm M M') : E8 a h M' := ⟨d.1.fm f, by rw [f.1]; exact d.2.1, by rw [f.1]; exact d.2.2.1, by rw [f.2.2 30 (by decide) (by decide)]; exact d.2.2.2⟩
def F8 (a : AS) (h : Int64) (M : MS) : Prop := E8 a h M ∧ q_N8 a (aT a) M
theorem F8.mx {a : AS} {h : Int64} {M : MS} (d : F8 a h M) (x : Int32) : F8 a (mxi h x) (sH M (31 * M.2.2 + x.toInt64)) := ⟨d.1.mx x, d.2⟩
theorem mxD {a : AS} {h : Int64} {M : MS} (d : D8 a h M) (x : Int32) : R1 (mX8_mix M x.toInt64) (fun M' => D8 a (mxi h x) M') := R1.of rfl (d.mx x)
theorem mxE {a : AS} {h : Int64} {M : MS} (d : E8 a h M) (x : Int32) : R1 (mX8_mix M x.toInt64) (fun M' => E8 a (mxi h x) M') := R1.of rfl (d.mx x)
theorem mxF {a : AS} {h : Int64} {M : MS} (d : F8 a h M) (x : Int32) : R1 (mX8_mix M x.toInt64) (fun M' => F8 a (mxi h x) M') := R1.of rfl (d.mx x)
theorem q_mp8c {a : AS} {h : Int64} {M : MS} (d : E8 a h M) (v : Va a) {n : Nat} (hn : 88 < n) {p : Nat} (hp : p < 8) : R1 (mX8_mixPin_97 n (nI p) n M (nI 0)) (fun M' => E8 a (mxi (q_hs (q_rv (aR a) p) 5 h) (nI (q_nth (q_bst a (aT a)) p))) M') := by
  refine q_lp (f := fun k s i => mX8_mixPin_97 n (nI p) k s i) (N := 5) (inv := fun i M' => E8 a (q_hs (q_rv (aR a) p) i h) M') ?_ ?_ 5 0 n M rfl d (by omega)
  · intro k s e
    have e : E8 a (q_hs (q_rv (aR a) p) 5 h) s := e
    show R1 (mX8_mixPin_97 n (nI p) (k + 1) s (nI 5)) _
    rw [mX8_mixPin_97, if_pos (show (5 : Int32) ≤ nI 5 by decide), if_pos (inb_n hp (by decide)), nI_clamp (by omega), e.2.2.2 p hp]
    exact R1.bn (mxE e _) (fun M' h => R1.ret h)
  · intro i k s hi e
    right
    have e : E8 a (q_hs (q_rv (aR a) p) i h) s := e
    refine ⟨_, e.mx (q_rv (aR a) p i), ?_⟩
    show mX8_mixPin_97 n (nI p) (k + 1) s (nI i) = _
    rw [mX8_mixPin_97, if_neg (show ¬ (5 : Int32) ≤ nI i from nI_ge (b := 5) hi (by decide)), bn_eq (q_rv8 e.1.1 v hn hp hi), q_i1]
    rfl
theorem q_mp8b {a : AS} {h : Int64} {M : MS} (d : E8 a h M) (v : Va a) {n : Nat} (hn : 88 < n) {p : Nat} (hp : p < 8) : R1 (mX8_mixPin_73 n (nI p) n M (nI 0)) (fun M' => E8 a (mxi (q_hs (q_rv (aR a) p) 5 (q_hs (q_ech a (q_ev a (aT a) (aW a p) (aF a).length)) 4 h)) (nI (q_nth (q_bst a (aT a)) p))) M') := by
  refine q_lp (f := fun k s i => mX8_mixPin_73 n (nI p) k s i) (N := 4) (inv := fun i M' => E8 a (q_hs (q_ech a (q_ev a (aT a) (aW a p) (aF a).length)) i h) M') ?_ ?_ 4 0 n M rfl d (by omega)
  · intro k s e
    have e : E8 a (q_hs (q_ech a (q_ev a (aT a) (aW a p) (aF a).length)) 4 h) s := e
    show R1 (mX8_mixPin_73 n (nI p) (k + 1) s (nI 4)) _
    rw [mX8_mixPin_73, if_pos (show (4 : Int32) ≤ nI 4 by decide)]
    exact q_mp8c e v hn hp
  · intro i k s hi e
    right
    have e : E8 a (q_hs (q_ech a (q_ev a (aT a) (aW a p) (aF a).length)) i h) s := e
    refine ⟨_, e.mx (q_ech a (q_ev a (aT a) (aW a p) (aF a).length) i), ?_⟩
    show mX8_mixPin_73 n (nI p) (k + 1) s (nI i) = _
    rw [mX8_mixPin_73, if_neg (show ¬ (4 : Int32) ≤ nI i from nI_ge (b := 4) hi (by decide)), bn_eq (q_echoNow e.1.1 v (by omega) hp hi), q_i1]
    rfl
theorem q_jnE {a : AS} {h : Int64} {M : MS} (d : E8 a h M) (v : Va a) {n : Nat} (hn : 88 < n) {e p to : Nat} (he : e < 2) (hp : p < 8) (ht : to < 2) : R1 (mX8_joinedNow n M (nI e) (nI p) (nI to)) (fun z => z.1 = q_jn (q_J a (aT a)) e p to ∧ F8 a h z.2) := (q_jn8 d.1.1 v hn he hp ht).mono (fun z q => ⟨q.1, d.fm q.2.2, q.2.1⟩)
theorem q_mp8 {a : AS} {h : Int64} {M : MS} (d : E8 a h M) (v : Va a) {n : Nat} (hn : 88 < n) {p : Nat} (hp : p < 8) : R1 (mX8_mixPin n M (nI p)) (fun M' => E8 a (q_hp a p h) M') := by
  have e8 : (8 : Int32) + nI p = nI (8 + p) := nI_add 8 p
  have e6 : mxi (mxi (mxi (mxi (mxi (mxi h (nI (aW a p))) (nI (aW a (8 + p)))) (q_jn (q_J a (aT a)) 0 p 0)) (q_jn (q_J a (aT a)) 0 p 1)) (q_jn (q_J a (aT a)) 1 p 1)) (nI (q_st (q_J a (aT a)) p)) = q_hs (q_pA a p) 6 h := q_hs6 (q_pA a p) h
  unfold mX8_mixPin q_hp
  rw [← e6, if_pos (inb_n (by omega) (by decide)), nI_clamp (by omega), d.1.1.2.2.2.2.1 p (by omega)]
  refine R1.bn (mxE d _) ?_
  intro M4 d4
  rw [e8, if_pos (inb_n (by omega) (by decide)), nI_clamp (by omega), d4.1.1.2.2.2.2.1 (8 + p) (by omega)]
  refine R1.bn (mxE d4 _) ?_
  intro M8 d8
  refine R1.bm (q_jnE d8 v hn (e := 0) (to := 0) (by decide) hp (by decide)) ?_
  rintro w M11 ⟨hw, d11⟩
  have hw : w = _ := hw
  rw [hw]
  refine R1.bn (mxE d11.1 _) ?_
  intro M14 d14
  refine R1.bm (q_jnE d14 v hn (e := 0) (to := 1) (by decide) hp (by decide)) ?_
  rintro w M17 ⟨hw, d17⟩
  have hw : w = _ := hw
  rw [hw]
  refine R1.bn (mxE d17.1 _) ?_
  intro M20 d20
  refine R1.bm (q_jnE d20 v hn (e := 1) (to := 1) (by decide) hp (by decide)) ?_
  rintro w M23 ⟨hw, d23⟩
  have hw : w = _ := hw
  rw [hw]
  refine R1.bn (mxF d23 _) ?_
  intro M26 d26
  rw [bn_eq (q_statusNow d26.2 (by omega) hp)]
  refine R1.bn (mxE d26.1 _) ?_
  intro M31 d31
  exact q_mp8b d31 v hn hp
theorem q_dg223 {a : AS} {h : Int64} {M : MS} (d : D8 a h M) (v : Va a) {n : Nat} (hn : 88 < n) : R1 (mX8_digest_223 n n M (nI 0)) (fun z => z.1 = q_hs (fun k => nI ((aX a).getD k 0)) (aX a).length h ∧ RM a z.2) := by
  have h50 := (tq_chV v).1
  refine q_lp (f := fun k s i => mX8_digest_223 n k s i) (N := (aX a).length) (inv := fun i M' => D8 a (q_hs (fun k => nI ((aX a).getD k 0)) i h) M') ?_ ?_ (aX a).length 0 n M (by omega) d (by omega)
  · intro k s e
    have e : D8 a (q_hs (fun k => nI ((aX a).getD k 0)) (aX a).length h) s := e
    show R1 (mX8_digest_223 n (k + 1) s (nI (aX a).length)) _
    rw [mX8_digest_223, (tq_tmR e.1).1, if_pos (nI_le (Nat.le_refl _) (by omega))]
    exact R1.ret ⟨e.2.2, e.1⟩
  · intro i k s hi e
    right
    have e : D8 a (q_hs (fun k => nI ((aX a).getD k 0)) i h) s := e
    refine ⟨_, e.mx (nI ((aX a).getD i 0)), ?_⟩
    show mX8_digest_223 n (k + 1) s (nI i) = _
    rw [mX8_digest_223, (tq_tmR e.1).1, if_neg (nI_ge hi (by omega)), if_pos (inb_n (by omega) (by decide)), nI_clamp (by omega), (tq_tmR e.1).2 i hi, q_i1]
    rfl
theorem q_xs5 (f : Nat → Int32) (h : Int64) : mxi (mxi (mxi (mxi (mxi h (f 0)) (f 1)) (f 2)) (f 3)) (f 4) = q_hs f 5 h := rfl
theorem q_dgEnd {a : AS} {M : MS} (d : E8 a (q_hk (q_tF a) 4 (q_h3 a)) M) (v : Va a) {n : Nat} (hn : 88 < n) {k : Nat} : R1 (mX8_digest_97 n (k + 1) M (nI 4)) (fun z => z.1 = q_dg a ∧ RM a z.2) := by
  have e5 : mxi (mxi (mxi (mxi (mxi (q_h5 a) (nI (q_cu (q_J a (aT a)) (q_bst a (aT a))))) (q_sh (q_J a (aT a)) 16)) (nI (8 - q_cyc (q_bst a (aT a))))) (nI (q_spM (q_b a)))) (((nI (q_cu (q_J a (aT a)) (q_bst a (aT a))) + q_sh (q_J a (aT a)) 16) + nI (8 - q_cyc (q_bst a (aT a)))) + nI (q_spM (q_b a))) = q_hs (q_xn a) 5 (q_h5 a) := q_xs5 (q_xn a) (q_h5 a)
  unfold q_dg
  rw [← e5, mX8_digest_97, if_pos (show (4 : Int32) ≤ nI 4 by decide)]
  refine R1.bm ((q_identified d.1.1 v hn).fr (fq_ident n M)) ?_
  rintro w M10 ⟨⟨hw, _, hN⟩, hF⟩
  have hw : w = q_idn a (aT a) := hw
  have d10 : F8 a (q_hk (q_tF a) 4 (q_h3 a)) M10 := ⟨d.fm hF, hN⟩
  rw [hw]
  refine R1.bn (mxF d10 _) ?_
  intro M13 d13
  rw [bn_eq (q_suspected d13.1.1.1 v (by omega))]
  refine R1.bn (mxF d13 _) ?_
  intro M18 d18
  rw [d18.1.2.1]
  refine R1.bn (mxF d18 _) ?_
  intro M21 d21
  rw [bn_eq (q_netShorts d21.2 (by omega))]
  refine R1.bn (mxF d21 _) ?_
  intro M26 d26
  rw [d26.1.2.2.1]
  refine R1.bn (mxF d26 _) ?_
  intro M29 d29
  rw [bn_eq (q_splitsM d29.1.1.1 v (by omega))]
  refine R1.bn (mxF d29 _) ?_
  intro M34 d34
  rw [bn_eq (q_netShorts d34.2 (by omega)), bn_eq (q_splitsM d34.1.1.1 v (by omega)), d34.1.2.1, d34.1.2.2.1]
  refine R1.bn (mxF d34 _) ?_
  intro M41 d41
  rw [(tq_tmR d41.1.1.1).1]
  refine R1.bn (mxF d41 _) ?_
  intro M44 d44
  exact q_dg223 d44.1.1 v hn
theorem q_dg97 {a : AS} {M : MS} (d : E8 a (q_h3 a) M) (v : Va a) {n : Nat} (hn : 88 < n) : R1 (mX8_digest_97 n n M (nI 0)) (fun z => z.1 = q_dg a ∧ RM a z.2) := by
  refine q_lp (f := fun k s i => mX8_digest_97 n k s i) (N := 4) (inv := fun i M' => E8 a (q_hk (q_tF a) i (q_h3 a)) M') ?_ ?_ 4 0 n M rfl d (by omega)
  · intro k s e
    exact q_dgEnd e v hn
  · intro p k s hp e
    right
    have e : E8 a (q_hk (q_tF a) p (q_h3 a)) s := e
    show ∃ s', E8 a (q_tF a p (q_hk (q_tF a) p (q_h3 a))) s' ∧ mX8_digest_97 n (k + 1) s (nI p) = mX8_digest_97 n k s' (nI (p + 1))
    rw [mX8_digest_97, if_neg (show ¬ (4 : Int32) ≤ nI p from nI_ge (b := 4) hp (by decide)), q_i1]
    generalize q_hk (q_tF a) p (q_h3 a) = h at e ⊢
    obtain ⟨s', k', ⟨_, hs⟩, e'⟩ := q_run (f := fun k9 x i => mX8_digest_106 n (mX8_digest_97 n k) (nI p) k9 x i) (N := 4) (inv := fun i s => p + 1 ≤ i ∧ E8 a (q_hs (fun j => nI (q_tk a p (p + 1 + j))) (i - (p + 1)) h) s) (by
      intro i k2 s hi ⟨hi1, hs⟩
      refine ⟨sH s (31 * s.2.2 + (nI (q_tk a p i)).toInt64), ⟨by omega, ?_⟩, ?_⟩
      · rw [show i + 1 - (p + 1) = i - (p + 1) + 1 by omega]
        show E8 a (mxi _ (nI (q_tk a p (p + 1 + (i - (p + 1)))))) _
        rw [show p + 1 + (i - (p + 1)) = i by omega]
        exact hs.mx _
      · show mX8_digest_106 n _ (nI p) (k2 + 1) s (nI i) = _
        rw [mX8_digest_106, if_neg (show ¬ (4 : Int32) ≤ nI i from nI_ge (b := 4) hi (by decide)), bn_eq (q_talk hs.1.1 v (by omega) hp hi), q_i1]
        rfl) (4 - (p + 1)) (p + 1) n s (by omega) ⟨Nat.le_refl _, by rw [Nat.sub_self]; exact e⟩ (by omega)
    refine ⟨s', ?_, Eq.trans e' ?_⟩
    · rw [show 4 - (p + 1) = 3 - p by omega] at hs
      exact hs
    · show mX8_digest_106 n _ (nI p) (k' + 1) s' (nI 4) = _
      rw [mX8_digest_106, if_pos (show (4 : Int32) ≤ nI 4 by decide), q_i1]
theorem q_dg8 {a : AS} {M : MS} (m : RM a M) (v : Va a) {n : Nat} (hn : 40000000 < n) : R1 (mX8_digest n M) (fun z => z.1 = q_dg a ∧ RM a z.2) := by
  have h10 := q_F10 v
  have d0 : D8 a 2011 (sH (sG M 0 0) 2011) := ⟨(Km.sH _ _).rm (q_s0 m 0), show (sG M 0 0).1 0 = 0 from sq_one, rfl⟩
  have go : ∀ h2 M, h2 = q_hs (fun k => q_fp a (k / 7) (k % 7)) (7 * (aF a).length) (q_hs (q_cn a) 9 2011) → E8 a h2 M → R1 (mX8_digest_78 n n M (nI 0)) (fun z => z.1 = q_dg a ∧ RM a z.2) := by
    intro h2 M eh d
    refine q_lp (f := fun k s i => mX8_digest_78 n k s i) (N := 8) (inv := fun i M' => E8 a (q_hk (q_hp a) i h2) M') ?_ ?_ 8 0 n M rfl d (by omega)
    · intro k s e
      have e : E8 a (q_hk (q_hp a) 8 h2) s := e
      rw [eh] at e
      show R1 (mX8_digest_78 n (k + 1) s (nI 8)) _
      rw [mX8_digest_78, if_pos (show (8 : Int32) ≤ nI 8 by decide)]
      exact q_dg97 e v (by omega)
    · intro i k s hi e
      right
      obtain ⟨M', e8, d8⟩ := q_mp8 e v (n := n) (by omega) hi
      refine ⟨M', d8, ?_⟩
      show mX8_digest_78 n (k + 1) s (nI i) = _
      rw [mX8_digest_78, if_neg (show ¬ (8 : Int32) ≤ nI i from nI_ge (b := 8) hi (by decide)), bn_eq e8, q_i1]
  have go2 : ∀ h1 M, h1 = q_hs (q_cn a) 9 2011 → D8 a h1 M → R1 (mX8_digest_38 n n M (nI 0)) (fun z => z.1 = q_dg a ∧ RM a z.2) := by
    intro h1 M eh d
    refine q_lp (f := fun k s i => mX8_digest_38 n k s i) (N := 7 * (aF a).length) (inv := fun i M' => D8 a (q_hs (fun k => q_fp a (k / 7) (k % 7)) i h1) M') ?_ ?_ (7 * (aF a).length) 0 n M (by omega) d (by omega)
    · intro k s e
      have e : D8 a (q_hs (fun k => q_fp a (k / 7) (k % 7)) (7 * (aF a).length) h1) s := e
      show R1 (mX8_digest_38 n (k + 1) s (nI (7 * (aF a).length))) _
      rw [mX8_digest_38, e.1.2.2.2.2.2.1, show (7 : Int32) * nI (aF a).length = nI (7 * (aF a).length) from pk_mul 7 _, if_pos (nI_le (Nat.le_refl _) (by omega))]
      refine R1.bn ((q_findBest8 e.1 v hn).fr (fq_fb n s)) ?_
      rintro M5 ⟨⟨hK, _, hE⟩, hB⟩
      exact go _ M5 (by rw [eh]) ⟨⟨hK.rm e.1, hB.1.trans e.2.1, hB.2.trans e.2.2⟩, hE⟩
    · intro i k s hi e
      right
      have e : D8 a (q_hs (fun k => q_fp a (k / 7) (k % 7)) i h1) s := e
      refine ⟨_, e.mx (q_fp a (i / 7) (i % 7)), ?_⟩
      show mX8_digest_38 n (k + 1) s (nI i) = _
      rw [mX8_digest_38, e.1.2.2.2.2.2.1, show (7 : Int32) * nI (aF a).length = nI (7 * (aF a).length) from pk_mul 7 _, if_neg (nI_ge hi (by omega)), show nI i / (7 : Int32) = nI (i / 7) from pk_div (by omega) (by decide) (by decide), show nI i - nI (i / 7) * (7 : Int32) = nI (i % 7) by rw [show nI (i / 7) = nI i / (7 : Int32) from (pk_div (by omega) (by decide) (by decide)).symm]; exact q_remI (by omega) (by decide) (by decide), bn_eq (q_fp8 e.1 v (by omega) (Nat.mod_lt _ (by decide))), q_i1]
      rfl
  unfold mX8_digest
  show R1 (mX8_digest_14 n n (sH (sG M 0 0) 2011) (nI 0)) _
  refine q_lp (f := fun k s i => mX8_digest_14 n k s i) (N := 9) (inv := fun i M' => D8 a (q_hs (q_cn a) i 2011) M') ?_ ?_ 9 0 n _ rfl d0 (by omega)
  · intro k s e
    show R1 (mX8_digest_14 n (k + 1) s (nI 9)) _
    rw [mX8_digest_14, if_pos (show (9 : Int32) ≤ nI 9 by decide)]
    exact go2 _ s rfl e
  · intro i k s hi e
    right
    have e : D8 a (q_hs (q_cn a) i 2011) s := e
    obtain ⟨⟨w, M'⟩, e8, hw, hF⟩ := q_no8 e.1 v (n := n) (by omega) hi
    have hw : w = q_cn a i := hw
    have hF : Fm s M' := hF
    refine ⟨_, (e.fm hF).mx (q_cn a i), ?_⟩
    show mX8_digest_14 n (k + 1) s (nI i) = _
    rw [mX8_digest_14, if_neg (show ¬ (9 : Int32) ≤ nI i from nI_ge (b := 9) hi (by decide)), bm_eq e8, hw, q_i1]
    rfl
theorem sq_digest {S : CS} {M : MS} (h : Rel S M) {n : Nat} (hn : 40000000 < n) : Sqq (mX7_digest n S) (mX8_digest n M) := by
  obtain ⟨a, v, r, m⟩ := h
  obtain ⟨⟨w, S'⟩, e7, hw, rS⟩ := q_dg7 r v (n := n) (by omega)
  obtain ⟨⟨w', M'⟩, e8, hw', rM⟩ := q_dg8 m v hn
  have hw : w = q_dg a := hw
  have hw' : w' = q_dg a := hw'
  exact ⟨q_dg a, S', M', by rw [e7, hw], by rw [e8, hw'], a, v, rS, rM⟩
