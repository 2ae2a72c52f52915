/-! the digest, on both sides -/
def mxi (h : Int64) (x : Int32) : Int64 := 31 * h + x.toInt64
def q_hs (f : Nat → Int32) : Nat → Int64 → Int64
  | 0, h => h
  | k + 1, h => mxi (q_hs f k h) (f k)
def q_hk (g : Nat → Int64 → Int64) : Nat → Int64 → Int64
  | 0, h => h
  | k + 1, h => g k (q_hk g k h)
noncomputable def q_rv (rs : List Nat) (p w : Nat) : Int32 := Classical.epsilon (q_abt rs p w)
theorem q_rv_ok {rs : List Nat} {p w : Nat} {z : Int32} (h : q_abt rs p w z) : z = q_rv rs p w := q_abt_one h (Classical.epsilon_spec ⟨z, h⟩)
theorem q_rv7 {a : AS} {S : CS} (r : RC a S) (v : Va a) {n : Nat} (hn : 88 < n) {p w : Nat} (hp : p < 8) (hw : w < 5) : mX4_numberAbout n S (nI p) (nI w) = some (q_rv (aR a) p w) := by
  obtain ⟨z, ez, hz⟩ := q_numberAbout r v (n := n) (by omega) hp hw
  rw [ez, q_rv_ok hz]
theorem q_rv8 {a : AS} {M : MS} (m : RM a M) (v : Va a) {n : Nat} (hn : 88 < n) {p w : Nat} (hp : p < 8) (hw : w < 5) : mX8_recordsNow n M (nI p) (nI w) = some (q_rv (aR a) p w) := by
  obtain ⟨z, ez, hz⟩ := q_recordsNow m v (n := n) (by omega) hp hw
  rw [ez, q_rv_ok hz]
def q_pA (a : AS) (p : Nat) : Nat → Int32 := fun j => match j with
  | 0 => nI (aW a p)
  | 1 => nI (aW a (8 + p))
  | 2 => q_jn (q_J a (aT a)) 0 p 0
  | 3 => q_jn (q_J a (aT a)) 0 p 1
  | 4 => q_jn (q_J a (aT a)) 1 p 1
  | _ => nI (q_st (q_J a (aT a)) p)
noncomputable def q_hp (a : AS) (p : Nat) (h : Int64) : Int64 := mxi (q_hs (q_rv (aR a) p) 5 (q_hs (q_ech a (q_ev a (aT a) (aW a p) (aF a).length)) 4 (q_hs (q_pA a p) 6 h))) (nI (q_nth (q_bst a (aT a)) p))
theorem mxe (h : Int64) (x : Int32) : mX7_mix h x = some (mxi h x) := rfl
def C7 (a : AS) (S : CS) : Prop := RC a S ∧ q_Mz a (aT a) S ∧ q_Ex a (aT a) S
theorem q_hs6 (f : Nat → Int32) (h : Int64) : mxi (mxi (mxi (mxi (mxi (mxi h (f 0)) (f 1)) (f 2)) (f 3)) (f 4)) (f 5) = q_hs f 6 h := rfl
theorem q_mp7a {a : AS} {S : CS} (c : C7 a S) {n : Nat} {p : Nat} (hp : p < 8) (h : Int64) : mX7_mixPin n S h (nI p) = mX7_mixPin_100 n S (nI p) n (q_hs (q_pA a p) 6 h) (nI 0) := by
  obtain ⟨r, mz, ex⟩ := c
  have w0 := q_wireAt r (e := 0) (by decide) hp
  have w1 := q_wireAt r (e := 1) (by decide) hp
  rw [Nat.mul_zero, Nat.zero_add] at w0
  rw [Nat.mul_one] at w1
  have j0 : mX5_joinedPins S (0 : Int32) (nI p) (0 : Int32) = some (q_jn (q_J a (aT a)) 0 p 0) := q_joinedPins mz.2.1 (e := 0) (to := 0) (by decide) hp (by decide)
  have j1 : mX5_joinedPins S (0 : Int32) (nI p) (1 : Int32) = some (q_jn (q_J a (aT a)) 0 p 1) := q_joinedPins mz.2.1 (e := 0) (to := 1) (by decide) hp (by decide)
  have j2 : mX5_joinedPins S (1 : Int32) (nI p) (1 : Int32) = some (q_jn (q_J a (aT a)) 1 p 1) := q_joinedPins mz.2.1 (e := 1) (to := 1) (by decide) hp (by decide)
  have e6 : mxi (mxi (mxi (mxi (mxi (mxi h (nI (aW a p))) (nI (aW a (8 + p)))) (q_jn (q_J a (aT a)) 0 p 0)) (q_jn (q_J a (aT a)) 0 p 1)) (q_jn (q_J a (aT a)) 1 p 1)) (nI (q_st (q_J a (aT a)) p)) = q_hs (q_pA a p) 6 h := q_hs6 (q_pA a p) h
  rw [← e6]
  unfold mX7_mixPin
  rw [bn_eq (show mX0_wireAt S (0 : Int32) (nI p) = _ from w0), bn_eq (mxe _ _), bn_eq (show mX0_wireAt S (1 : Int32) (nI p) = _ from w1), bn_eq (mxe _ _), bn_eq j0, bn_eq (mxe _ _), bn_eq j1, bn_eq (mxe _ _), bn_eq j2, bn_eq (mxe _ _), bn_eq (q_statusOf mz.2.1 (q_J_rf a _) hp), bn_eq (mxe _ _)]
  rfl
theorem q_mp7b {a : AS} {S : CS} (c : C7 a S) (v : Va a) {n : Nat} (hn : 88 < n) {p : Nat} (hp : p < 8) (h6 : Int64) : mX7_mixPin_100 n S (nI p) n h6 (nI 0) = mX7_mixPin_132 n S (nI p) n (q_hs (q_ech a (q_ev a (aT a) (aW a p) (aF a).length)) 4 h6) (nI 0) := by
  obtain ⟨r, mz, ex⟩ := c
  obtain ⟨k1, e1⟩ := q_fun (f := fun k x i => mX7_mixPin_100 n S (nI p) k x i) 4 (fun i => q_hs (q_ech a (q_ev a (aT a) (aW a p) (aF a).length)) i h6) (by
    intro i k hi
    show mX7_mixPin_100 n S (nI p) (k + 1) _ (nI i) = _
    rw [mX7_mixPin_100, if_neg (show ¬ (3 : Int32) < nI i from nI_nlt (a := 3) (by omega) (by decide)), bn_eq (q_echoAt r v (by omega) hp hi), bn_eq (mxe _ _), q_i1]
    rfl) (k := n) (by omega)
  refine Eq.trans e1 ?_
  show mX7_mixPin_100 n S (nI p) (k1 + 1) _ (nI 4) = _
  rw [mX7_mixPin_100, if_pos (show (3 : Int32) < nI 4 by decide)]
  rfl
theorem q_mp7c {a : AS} {S : CS} (c : C7 a S) (v : Va a) {n : Nat} (hn : 88 < n) {p : Nat} (hp : p < 8) (h10 : Int64) : mX7_mixPin_132 n S (nI p) n h10 (nI 0) = some (mxi (q_hs (q_rv (aR a) p) 5 h10) (nI (q_nth (q_bst a (aT a)) p))) := by
  obtain ⟨r, mz, ex⟩ := c
  obtain ⟨k2, e2⟩ := q_fun (f := fun k x i => mX7_mixPin_132 n S (nI p) k x i) 5 (fun i => q_hs (q_rv (aR a) p) i h10) (by
    intro i k hi
    show mX7_mixPin_132 n S (nI p) (k + 1) _ (nI i) = _
    rw [mX7_mixPin_132, if_neg (show ¬ (4 : Int32) < nI i from nI_nlt (a := 4) (by omega) (by decide)), bn_eq (q_rv7 r v hn hp hi), bn_eq (mxe _ _), q_i1]
    rfl) (k := n) (by omega)
  refine Eq.trans e2 ?_
  show mX7_mixPin_132 n S (nI p) (k2 + 1) _ (nI 5) = _
  rw [mX7_mixPin_132, if_pos (show (4 : Int32) < nI 5 by decide), bn_eq (q_farPin ex hp), bn_eq (mxe _ _)]
theorem q_mp7 {a : AS} {S : CS} (c : C7 a S) (v : Va a) {n : Nat} (hn : 88 < n) {p : Nat} (hp : p < 8) (h : Int64) : mX7_mixPin n S h (nI p) = some (q_hp a p h) := (q_mp7a c hp h).trans ((q_mp7b c v hn hp _).trans (q_mp7c c v hn hp _))
def q_tF (a : AS) (p : Nat) (h : Int64) : Int64 := q_hs (fun j => nI (q_tk a p (p + 1 + j))) (3 - p) h
noncomputable def q_h3 (a : AS) : Int64 := q_hk (q_hp a) 8 (q_hs (fun k => q_fp a (k / 7) (k % 7)) (7 * (aF a).length) (q_hs (q_cn a) 9 2011))
noncomputable def q_h5 (a : AS) : Int64 := mxi (mxi (q_hk (q_tF a) 4 (q_h3 a)) (q_idn a (aT a))) (q_mw (q_wc (aR a)) 8).1
noncomputable def q_dg (a : AS) : Int64 := q_hs (fun k => nI ((aX a).getD k 0)) (aX a).length (mxi (q_hs (q_xn a) 5 (q_h5 a)) (nI (aX a).length))
theorem q_dg236 {a : AS} {S : CS} (r : RC a S) (v : Va a) {n : Nat} (hn : 88 < n) (h : Int64) : mX7_digest_236 n n S h (nI 0) = some (q_hs (fun k => nI ((aX a).getD k 0)) (aX a).length h, S) := by
  have hc := tq_chV v
  have h50 := hc.1
  obtain ⟨k1, e1⟩ := q_fun (f := fun k x i => mX7_digest_236 n k S x i) (aX a).length (fun i => q_hs (fun k => nI ((aX a).getD k 0)) i h) (by
    intro i k hi
    show mX7_digest_236 n (k + 1) S _ (nI i) = _
    rw [mX7_digest_236, (tq_txR r).1, if_neg (nI_ge hi (by omega)), bn_eq (tq_code (tq_txR r) hc hi), bn_eq (mxe _ _), q_i1]
    rfl) (k := n) (by omega)
  refine Eq.trans e1 ?_
  show mX7_digest_236 n (k1 + 1) S _ (nI (aX a).length) = _
  rw [mX7_digest_236, (tq_txR r).1, if_pos (nI_le (Nat.le_refl _) (by omega))]
theorem C7.fr {a : AS} {S S' : CS} (c : C7 a S) (h : Fr (fun k => k ≠ 5) S S') : C7 a S' := by
  obtain ⟨r, mz, ex⟩ := c
  refine ⟨(h.ke (by decide) (by decide)).rc r, ⟨by rw [h.1]; exact mz.1, ?_, by rw [h.1]; exact mz.2.2⟩, ?_, by rw [h.1]; exact ex.2.1, ?_⟩
  · unfold q_MB
    rw [h.2.2 12 (by decide)]
    exact mz.2.1
  · rw [h.2.2 14 (by decide)]
    exact ex.1
  · rw [h.2.2 17 (by decide)]
    exact ex.2.2
theorem q_dg201 {a : AS} {S : CS} (c : C7 a S) (v : Va a) {n : Nat} (hn : 88 < n) : R1 (mX7_digest_201 n n S (q_h5 a) (nI 0)) (fun z => z.1 = q_dg a ∧ RC a z.2) := by
  refine q_lp (f := fun k (s : CS × Int64) i => mX7_digest_201 n k s.1 s.2 i) (N := 5) (inv := fun i s => C7 a s.1 ∧ s.2 = q_hs (q_xn a) i (q_h5 a)) ?_ ?_ 5 0 n (S, q_h5 a) rfl ⟨c, rfl⟩ (by omega)
  · rintro k ⟨s, x⟩ ⟨c, hx⟩
    have c : C7 a s := c
    have hx : x = q_hs (q_xn a) 5 (q_h5 a) := hx
    show R1 (mX7_digest_201 n (k + 1) s x (nI 5)) _
    rw [mX7_digest_201, if_pos (show (4 : Int32) < nI 5 by decide), (tq_txR c.1).1, bn_eq (mxe _ _)]
    refine R1.of (q_dg236 c.1 v hn _) ⟨?_, c.1⟩
    rw [hx]
    rfl
  · rintro i k ⟨s, x⟩ hi ⟨c, hx⟩
    right
    have c : C7 a s := c
    have hx : x = q_hs (q_xn a) i (q_h5 a) := hx
    obtain ⟨⟨w, S'⟩, e, hw, hF⟩ := q_xn7 c.1 v c.2.1 c.2.2 hn hi
    have hw : w = q_xn a i := hw
    refine ⟨(S', mxi x w), ⟨c.fr hF, ?_⟩, ?_⟩
    · show mxi x w = _
      rw [hx, hw]
      rfl
    · show mX7_digest_201 n (k + 1) s x (nI i) = _
      rw [mX7_digest_201, if_neg (show ¬ (4 : Int32) < nI i from nI_nlt (a := 4) (by omega) (by decide)), bm_eq e, bn_eq (mxe _ _), q_i1]
theorem q_dg135 {a : AS} {S : CS} (c : C7 a S) (v : Va a) {n : Nat} (hn : 88 < n) : mX7_digest_135 n n S (q_h3 a) (nI 0) = mX7_digest_201 n n S (q_h5 a) (nI 0) := by
  have r := c.1
  obtain ⟨k1, e1⟩ := q_fun (f := fun k x i => mX7_digest_135 n k S x i) 4 (fun i => q_hk (q_tF a) i (q_h3 a)) (by
    intro p k hp
    show mX7_digest_135 n (k + 1) S _ (nI p) = _
    rw [mX7_digest_135, if_neg (show ¬ (4 : Int32) ≤ nI p from nI_ge (b := 4) hp (by decide)), q_i1]
    show _ = mX7_digest_135 n k S (q_tF a p (q_hk (q_tF a) p (q_h3 a))) _
    generalize q_hk (q_tF a) p (q_h3 a) = h
    obtain ⟨s', k', ⟨_, hs⟩, e⟩ := q_run (f := fun k9 x i => mX7_digest_145 n (mX7_digest_135 n k) (nI p) k9 S x i) (N := 4) (inv := fun i s => p + 1 ≤ i ∧ s = q_hs (fun j => nI (q_tk a p (p + 1 + j))) (i - (p + 1)) h) (by
      intro i k2 s hi ⟨hi1, hs⟩
      refine ⟨mxi s (nI (q_tk a p i)), ⟨by omega, ?_⟩, ?_⟩
      · rw [hs, show i + 1 - (p + 1) = i - (p + 1) + 1 by omega]
        show _ = mxi _ (nI (q_tk a p (p + 1 + (i - (p + 1)))))
        rw [show p + 1 + (i - (p + 1)) = i by omega]
      · show mX7_digest_145 n _ (nI p) (k2 + 1) S s (nI i) = _
        rw [mX7_digest_145, if_neg (show ¬ (4 : Int32) ≤ nI i from nI_ge (b := 4) hi (by decide)), bn_eq (q_crosstalkOf r v (by omega) hp hi), bn_eq (mxe _ _), q_i1]) (4 - (p + 1)) (p + 1) n h (by omega) ⟨Nat.le_refl _, by rw [Nat.sub_self]; rfl⟩ (by omega)
    refine Eq.trans e ?_
    show mX7_digest_145 n _ (nI p) (k' + 1) S s' (nI 4) = _
    rw [mX7_digest_145, if_pos (show (4 : Int32) ≤ nI 4 by decide), q_i1, hs, show 4 - (p + 1) = 3 - p by omega]
    rfl) (k := n) (by omega)
  refine Eq.trans e1 ?_
  show mX7_digest_135 n (k1 + 1) S _ (nI 4) = _
  rw [mX7_digest_135, if_pos (show (4 : Int32) ≤ nI 4 by decide), bn_eq (q_identU r v c.2.1.2.1 (by omega)), bn_eq (mxe _ _), bn_eq (q_mostWrong r v (by omega)), bn_eq (mxe _ _)]
  rfl
theorem q_dg7 {a : AS} {S : CS} (r : RC a S) (v : Va a) {n : Nat} (hn : 88 < n) : R1 (mX7_digest n S) (fun z => z.1 = q_dg a ∧ RC a z.2) := by
  have h10 := q_F10 v
  obtain ⟨S6, S9, e6, e9, r9, m9, x9⟩ := q_best7 r v hn
  have c : C7 a S9 := ⟨r9, m9, x9⟩
  unfold mX7_digest
  rw [bn_eq e6, bn_eq e9]
  show R1 (mX7_digest_21 n n S9 2011 (nI 0)) _
  obtain ⟨k1, e1⟩ := q_fun (f := fun k x i => mX7_digest_21 n k S9 x i) 9 (fun i => q_hs (q_cn a) i 2011) (by
    intro i k hi
    show mX7_digest_21 n (k + 1) S9 _ (nI i) = _
    rw [mX7_digest_21, if_neg (show ¬ (8 : Int32) < nI i from nI_nlt (a := 8) (by omega) (by decide)), bn_eq (q_no7 r9 v m9 hn hi), bn_eq (mxe _ _), q_i1]
    rfl) (k := n) (by omega)
  refine R1.eqv e1 ?_
  show R1 (mX7_digest_21 n (k1 + 1) S9 (q_hs (q_cn a) 9 2011) (nI 9)) _
  rw [mX7_digest_21, if_pos (show (8 : Int32) < nI 9 by decide)]
  show R1 (mX7_digest_45 n n S9 (q_hs (q_cn a) 9 2011) (nI 0)) _
  have go : ∀ h3, h3 = q_h3 a → R1 (mX7_digest_135 n n S9 h3 (nI 0)) (fun z => z.1 = q_dg a ∧ RC a z.2) := by
    intro h3 e
    rw [e, q_dg135 c v hn]
    exact q_dg201 c v hn
  have eh : q_h3 a = q_hk (q_hp a) 8 (q_hs (fun k => q_fp a (k / 7) (k % 7)) (7 * (aF a).length) (q_hs (q_cn a) 9 2011)) := rfl
  rw [eh] at go
  generalize q_hs (q_cn a) 9 2011 = h1 at go ⊢
  obtain ⟨k2, e2⟩ := q_fun (f := fun k x i => mX7_digest_45 n k S9 x i) (aF a).length (fun i => q_hs (fun k => q_fp a (k / 7) (k % 7)) (7 * i) h1) (by
    intro i k hi
    obtain ⟨f, hf, hp⟩ := q_fp7 r9 v hi
    show mX7_digest_45 n (k + 1) S9 _ (nI i) = _
    rw [mX7_digest_45, bn_eq (q_size r9), if_neg (nI_ge hi (by omega))]
    obtain ⟨k3, e3⟩ := q_fun (f := fun k9 x j => mX7_digest_62 n (mX7_digest_45 n k) (nI i) k9 S9 x j) 7 (fun j => q_hs (fun k => q_fp a (k / 7) (k % 7)) (7 * i + j) h1) (by
      intro j k9 hj
      show mX7_digest_62 n _ (nI i) (k9 + 1) S9 _ (nI j) = _
      rw [mX7_digest_62, if_neg (show ¬ (6 : Int32) < nI j from nI_nlt (a := 6) (by omega) (by decide)), bn_eq hf, r9.2.2.2.1, bn_eq (hp j hj), bn_eq (mxe _ _), q_i1]
      show _ = mX7_digest_62 n _ (nI i) k9 S9 (mxi _ (q_fp a ((7 * i + j) / 7) ((7 * i + j) % 7))) _
      rw [show (7 * i + j) / 7 = i by omega, show (7 * i + j) % 7 = j by omega]
      rfl) (k := n) (by omega)
    refine Eq.trans e3 ?_
    show mX7_digest_62 n _ (nI i) (k3 + 1) S9 _ (nI 7) = _
    rw [mX7_digest_62, if_pos (show (6 : Int32) < nI 7 by decide), q_i1, show 7 * i + 7 = 7 * (i + 1) by omega]) (k := n) (by omega)
  refine R1.eqv e2 ?_
  show R1 (mX7_digest_45 n (k2 + 1) S9 (q_hs (fun k => q_fp a (k / 7) (k % 7)) (7 * (aF a).length) h1) (nI (aF a).length)) _
  rw [mX7_digest_45, bn_eq (q_size r9), if_pos (nI_le (Nat.le_refl _) (by omega))]
  generalize q_hs (fun k => q_fp a (k / 7) (k % 7)) (7 * (aF a).length) h1 = h2 at go ⊢
  obtain ⟨k4, e4⟩ := q_fun (f := fun k x i => mX7_digest_114 n k S9 x i) 8 (fun i => q_hk (q_hp a) i h2) (by
    intro i k hi
    show mX7_digest_114 n (k + 1) S9 _ (nI i) = _
    rw [mX7_digest_114, if_neg (show ¬ (8 : Int32) ≤ nI i from nI_ge (b := 8) hi (by decide)), bn_eq (q_mp7 c v hn hi _), q_i1]
    rfl) (k := n) (by omega)
  refine R1.eqv e4 ?_
  show R1 (mX7_digest_114 n (k4 + 1) S9 (q_hk (q_hp a) 8 h2) (nI 8)) _
  rw [mX7_digest_114, if_pos (show (8 : Int32) ≤ nI 8 by decide)]
  exact go _ rfl
