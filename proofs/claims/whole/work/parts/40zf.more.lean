/-! what there is; explanations -/
def q_cn (a : AS) (k : Nat) : Int32 := match k with
  | 0 => nI (aL a)
  | 1 => nI (aV a)
  | 2 => nI (aU a)
  | 3 => nI (aT a)
  | 4 => nI (aF a).length
  | 5 => nI (fb_ct (fun k => q_pr (q_at (aF a) k) (aT a)) (aF a).length)
  | 6 => nI (fb_ct (q_first (q_J a (aT a))) 16)
  | 7 => nI (q_pc (q_wm (q_J a (aT a))))
  | _ => nI (q_mk (q_spl a) 4)
theorem q_no7 {a : AS} {S : CS} (r : RC a S) (v : Va a) (mz : q_Mz a (aT a) S) {n : Nat} (hn : 88 < n) {k : Nat} (hk : k < 9) : mX7_numberOf n S (nI k) = some (q_cn a k) := by
  have h10 := q_F10 v
  unfold mX7_numberOf
  rcases (by omega : k = 0 ∨ k = 1 ∨ k = 2 ∨ k = 3 ∨ k = 4 ∨ k = 5 ∨ k = 6 ∨ k = 7 ∨ k = 8) with rfl | rfl | rfl | rfl | rfl | rfl | rfl | rfl | rfl
  · rw [if_pos (show nI 0 = (0 : Int32) from rfl), r.1]; rfl
  · rw [if_neg (show ¬ nI 1 = (0 : Int32) by decide), if_pos (show nI 1 = (1 : Int32) from rfl), r.2.1]; rfl
  · rw [if_neg (show ¬ nI 2 = (0 : Int32) by decide), if_neg (show ¬ nI 2 = (1 : Int32) by decide), if_pos (show nI 2 = (2 : Int32) from rfl), r.2.2.1]; rfl
  · rw [if_neg (show ¬ nI 3 = (0 : Int32) by decide), if_neg (show ¬ nI 3 = (1 : Int32) by decide), if_neg (show ¬ nI 3 = (2 : Int32) by decide), if_pos (show nI 3 = (3 : Int32) from rfl), r.2.2.2.1]; rfl
  · rw [if_neg (show ¬ nI 4 = (0 : Int32) by decide), if_neg (show ¬ nI 4 = (1 : Int32) by decide), if_neg (show ¬ nI 4 = (2 : Int32) by decide), if_neg (show ¬ nI 4 = (3 : Int32) by decide), if_pos (show nI 4 = (4 : Int32) from rfl), bn_eq (q_size r)]; rfl
  · rw [if_neg (show ¬ nI 5 = (0 : Int32) by decide), if_neg (show ¬ nI 5 = (1 : Int32) by decide), if_neg (show ¬ nI 5 = (2 : Int32) by decide), if_neg (show ¬ nI 5 = (3 : Int32) by decide), if_neg (show ¬ nI 5 = (4 : Int32) by decide), if_pos (show nI 5 = (5 : Int32) from rfl), mz.1, bn_eq (q_bitCount _ (q_pm_lt v _))]
    show some (nI (q_pc (q_mk (fun k => q_pr (q_at (aF a) k) (aT a)) (aF a).length))) = _
    rw [q_pc_mk (by omega)]
    rfl
  · rw [if_neg (show ¬ nI 6 = (0 : Int32) by decide), if_neg (show ¬ nI 6 = (1 : Int32) by decide), if_neg (show ¬ nI 6 = (2 : Int32) by decide), if_neg (show ¬ nI 6 = (3 : Int32) by decide), if_neg (show ¬ nI 6 = (4 : Int32) by decide), if_neg (show ¬ nI 6 = (5 : Int32) by decide), if_pos (show nI 6 = (6 : Int32) from rfl), bn_eq (q_size5 mz.2.1 (by omega))]; rfl
  · rw [if_neg (show ¬ nI 7 = (0 : Int32) by decide), if_neg (show ¬ nI 7 = (1 : Int32) by decide), if_neg (show ¬ nI 7 = (2 : Int32) by decide), if_neg (show ¬ nI 7 = (3 : Int32) by decide), if_neg (show ¬ nI 7 = (4 : Int32) by decide), if_neg (show ¬ nI 7 = (5 : Int32) by decide), if_neg (show ¬ nI 7 = (6 : Int32) by decide), if_pos (show nI 7 = (7 : Int32) from rfl), mz.2.2, bn_eq (q_bitCount _ (by have := q_wm_lt (q_J a (aT a)); omega))]; rfl
  · rw [if_neg (show ¬ nI 8 = (0 : Int32) by decide), if_neg (show ¬ nI 8 = (1 : Int32) by decide), if_neg (show ¬ nI 8 = (2 : Int32) by decide), if_neg (show ¬ nI 8 = (3 : Int32) by decide), if_neg (show ¬ nI 8 = (4 : Int32) by decide), if_neg (show ¬ nI 8 = (5 : Int32) by decide), if_neg (show ¬ nI 8 = (6 : Int32) by decide), if_neg (show ¬ nI 8 = (7 : Int32) by decide), bn_eq (q_splitPairs r v (by omega))]; rfl
theorem q_no8 {a : AS} {M : MS} (m : RM a M) (v : Va a) {n : Nat} (hn : 88 < n) {k : Nat} (hk : k < 9) : R1 (mX8_counted n M (nI k)) (fun z => z.1 = q_cn a k ∧ Fm M z.2) := by
  have hT := q_T v
  unfold mX8_counted
  rcases (by omega : k = 0 ∨ k = 1 ∨ k = 2 ∨ k = 3 ∨ k = 4 ∨ k = 5 ∨ k = 6 ∨ k = 7 ∨ k = 8) with rfl | rfl | rfl | rfl | rfl | rfl | rfl | rfl | rfl
  · rw [if_pos (show nI 0 = (0 : Int32) from rfl)]
    exact R1.ret ⟨m.1, Fm.rf M⟩
  · rw [if_neg (show ¬ nI 1 = (0 : Int32) by decide), if_pos (show nI 1 = (1 : Int32) from rfl)]
    exact R1.ret ⟨m.2.1, Fm.rf M⟩
  · rw [if_neg (show ¬ nI 2 = (0 : Int32) by decide), if_neg (show ¬ nI 2 = (1 : Int32) by decide), if_pos (show nI 2 = (2 : Int32) from rfl)]
    exact R1.ret ⟨m.2.2.1, Fm.rf M⟩
  · rw [if_neg (show ¬ nI 3 = (0 : Int32) by decide), if_neg (show ¬ nI 3 = (1 : Int32) by decide), if_neg (show ¬ nI 3 = (2 : Int32) by decide), if_pos (show nI 3 = (3 : Int32) from rfl)]
    exact R1.ret ⟨m.2.2.2.1, Fm.rf M⟩
  · rw [if_neg (show ¬ nI 4 = (0 : Int32) by decide), if_neg (show ¬ nI 4 = (1 : Int32) by decide), if_neg (show ¬ nI 4 = (2 : Int32) by decide), if_neg (show ¬ nI 4 = (3 : Int32) by decide), if_pos (show nI 4 = (4 : Int32) from rfl)]
    exact R1.ret ⟨m.2.2.2.2.2.1, Fm.rf M⟩
  · rw [if_neg (show ¬ nI 5 = (0 : Int32) by decide), if_neg (show ¬ nI 5 = (1 : Int32) by decide), if_neg (show ¬ nI 5 = (2 : Int32) by decide), if_neg (show ¬ nI 5 = (3 : Int32) by decide), if_neg (show ¬ nI 5 = (4 : Int32) by decide), if_pos (show nI 5 = (5 : Int32) from rfl), bn_eq (q_presentFaults8 m v (by omega))]
    exact R1.ret ⟨rfl, Fm.rf M⟩
  · rw [if_neg (show ¬ nI 6 = (0 : Int32) by decide), if_neg (show ¬ nI 6 = (1 : Int32) by decide), if_neg (show ¬ nI 6 = (2 : Int32) by decide), if_neg (show ¬ nI 6 = (3 : Int32) by decide), if_neg (show ¬ nI 6 = (4 : Int32) by decide), if_neg (show ¬ nI 6 = (5 : Int32) by decide), if_pos (show nI 6 = (6 : Int32) from rfl)]
    refine R1.bm ((q_allNets m v hn).fr (fq_all n M)) ?_
    rintro w M1 ⟨⟨h1, _⟩, h2⟩
    exact R1.ret ⟨h1, h2⟩
  · rw [if_neg (show ¬ nI 7 = (0 : Int32) by decide), if_neg (show ¬ nI 7 = (1 : Int32) by decide), if_neg (show ¬ nI 7 = (2 : Int32) by decide), if_neg (show ¬ nI 7 = (3 : Int32) by decide), if_neg (show ¬ nI 7 = (4 : Int32) by decide), if_neg (show ¬ nI 7 = (5 : Int32) by decide), if_neg (show ¬ nI 7 = (6 : Int32) by decide), if_pos (show nI 7 = (7 : Int32) from rfl), m.2.2.2.1]
    refine R1.bm (q_wr2 m v hn (by omega)) ?_
    rintro w M1 ⟨h1, _, h2⟩
    have h1 : w = nI (q_wm (q_J a (aT a))) := h1
    rw [h1, bn_eq (q_bits n (by omega) (by have := q_wm_lt (q_J a (aT a)); omega))]
    exact R1.ret ⟨rfl, h2⟩
  · rw [if_neg (show ¬ nI 8 = (0 : Int32) by decide), if_neg (show ¬ nI 8 = (1 : Int32) by decide), if_neg (show ¬ nI 8 = (2 : Int32) by decide), if_neg (show ¬ nI 8 = (3 : Int32) by decide), if_neg (show ¬ nI 8 = (4 : Int32) by decide), if_neg (show ¬ nI 8 = (5 : Int32) by decide), if_neg (show ¬ nI 8 = (6 : Int32) by decide), if_neg (show ¬ nI 8 = (7 : Int32) by decide), bn_eq (q_splitPairs8 m v (by omega))]
    exact R1.ret ⟨rfl, Fm.rf M⟩
theorem sq_count {S : CS} {M : MS} (h : Rel S M) {n : Nat} (hn : 88 < n) (x1 : Int32) : Sqp (mX7_count n S x1) (mX8_count n M x1) cdL_count (fun e => e = 1) := by
  have hh := h
  obtain ⟨a, v, r, m⟩ := h
  unfold mX7_count mX8_count mX8_count_16
  rcases sq_in (lo := 0) (hi := 8) x1 (by decide) (by decide) with ⟨w, w1, w2, rfl⟩ | c1
  · rw [bt_eq (show mX7_needRange S (nI w) (0 : Int32) (8 : Int32) = _ from sq_rgY S w1 w2 (by decide)), bn_eq (show mX8_within (nI w) (0 : Int32) (8 : Int32) = _ from sq_wiY w1 w2 (by decide)), if_neg (show ¬ (1 : Int32) = 0 by decide), sG_s, if_pos (show (0 : Int32) ≤ 0 by decide)]
    obtain ⟨S7, e7, k7, m7⟩ := q_ms7 r v (n := n) (by omega)
    obtain ⟨⟨u, M'⟩, e8, hu, hF⟩ := q_no8 (q_s0 m 0) v hn (k := w) (by omega)
    have hu : u = q_cn a w := hu
    have hF : Fm (sG M 0 0) M' := hF
    exact Sqp.ok (a := a) (w := q_cn a w) (by rw [bn_eq e7, bn_eq (q_no7 (k7.rc r) v m7 hn (by omega))]) (by rw [bm_eq e8, hu]) (hF.s0.trans sq_one) v (k7.rc r) (hF.km.rm (q_s0 m 0))
  · rw [bt_er (show mX7_needRange S x1 (0 : Int32) (8 : Int32) = _ from sq_rgN S c1), bn_eq (show mX8_within x1 (0 : Int32) (8 : Int32) = _ from sq_wiN c1), if_pos rfl, sG_s, if_neg (show ¬ (1 : Int32) ≤ 0 by decide)]
    exact Sqp.er hh rfl rfl rfl rfl (by decide)
/-! explanations -/
noncomputable def q_xn (a : AS) (k : Nat) : Int32 := match k with
  | 0 => nI (q_cu (q_J a (aT a)) (q_bst a (aT a)))
  | 1 => q_sh (q_J a (aT a)) 16
  | 2 => nI (8 - q_cyc (q_bst a (aT a)))
  | 3 => nI (q_spM (q_b a))
  | _ => ((nI (q_cu (q_J a (aT a)) (q_bst a (aT a))) + q_sh (q_J a (aT a)) 16) + nI (8 - q_cyc (q_bst a (aT a)))) + nI (q_spM (q_b a))
theorem q_xn7 {a : AS} {S : CS} (r : RC a S) (v : Va a) (mz : q_Mz a (aT a) S) (ex : q_Ex a (aT a) S) {n : Nat} (hn : 88 < n) {k : Nat} (hk : k < 5) : R1 (mX7_explanationNumber n S (nI k)) (fun z => z.1 = q_xn a k ∧ Fr (fun k => k ≠ 5) S z.2) := by
  unfold mX7_explanationNumber
  rw [bn_eq (q_cuts7 ex (by omega)), bn_eq (q_shorts mz.2.1 (by omega)), bn_eq (q_exch7 ex)]
  refine R1.bm (q_splitsC r v (by omega)) ?_
  rintro w S9 ⟨h1, h2⟩
  have h1 : w = nI (q_spM (q_b a)) := by
    rw [← q_spCM]
    exact h1
  rw [h1]
  rcases (by omega : k = 0 ∨ k = 1 ∨ k = 2 ∨ k = 3 ∨ k = 4) with rfl | rfl | rfl | rfl | rfl
  · rw [if_pos (show nI 0 = (0 : Int32) from rfl)]
    exact R1.ret ⟨rfl, h2⟩
  · rw [if_neg (show ¬ nI 1 = (0 : Int32) by decide), if_pos (show nI 1 = (1 : Int32) from rfl)]
    exact R1.ret ⟨rfl, h2⟩
  · rw [if_neg (show ¬ nI 2 = (0 : Int32) by decide), if_neg (show ¬ nI 2 = (1 : Int32) by decide), if_pos (show nI 2 = (2 : Int32) from rfl)]
    exact R1.ret ⟨rfl, h2⟩
  · rw [if_neg (show ¬ nI 3 = (0 : Int32) by decide), if_neg (show ¬ nI 3 = (1 : Int32) by decide), if_neg (show ¬ nI 3 = (2 : Int32) by decide), if_pos (show nI 3 = (3 : Int32) from rfl)]
    exact R1.ret ⟨rfl, h2⟩
  · rw [if_neg (show ¬ nI 4 = (0 : Int32) by decide), if_neg (show ¬ nI 4 = (1 : Int32) by decide), if_neg (show ¬ nI 4 = (2 : Int32) by decide), if_neg (show ¬ nI 4 = (3 : Int32) by decide)]
    exact R1.ret ⟨rfl, h2⟩
theorem q_xn8 {a : AS} {M : MS} (m : RM a M) (v : Va a) {n : Nat} (hn : 40000000 < n) {k : Nat} (hk : k < 5) : R1 (mX8_explanation n M (nI k)) (fun z => z.1 = q_xn a k ∧ Km M z.2 ∧ Fb M z.2) := by
  unfold mX8_explanation
  refine R1.bn ((q_findBest8 m v hn).fr (fq_fb n M)) ?_
  rintro M3 ⟨⟨hK, hN, hE⟩, hB⟩
  have m3 := hK.rm m
  rw [hE.1, hE.2.1]
  rcases (by omega : k = 0 ∨ k = 1 ∨ k = 2 ∨ k = 3 ∨ k = 4) with rfl | rfl | rfl | rfl | rfl
  · rw [if_pos (show nI 0 = (0 : Int32) from rfl)]
    exact R1.ret ⟨rfl, hK, hB⟩
  · rw [if_neg (show ¬ nI 1 = (0 : Int32) by decide), if_pos (show nI 1 = (1 : Int32) from rfl), bn_eq (q_netShorts hN (by omega))]
    exact R1.ret ⟨rfl, hK, hB⟩
  · rw [if_neg (show ¬ nI 2 = (0 : Int32) by decide), if_neg (show ¬ nI 2 = (1 : Int32) by decide), if_pos (show nI 2 = (2 : Int32) from rfl)]
    exact R1.ret ⟨rfl, hK, hB⟩
  · rw [if_neg (show ¬ nI 3 = (0 : Int32) by decide), if_neg (show ¬ nI 3 = (1 : Int32) by decide), if_neg (show ¬ nI 3 = (2 : Int32) by decide), if_pos (show nI 3 = (3 : Int32) from rfl), bn_eq (q_splitsM m3 v (by omega))]
    exact R1.ret ⟨rfl, hK, hB⟩
  · rw [if_neg (show ¬ nI 4 = (0 : Int32) by decide), if_neg (show ¬ nI 4 = (1 : Int32) by decide), if_neg (show ¬ nI 4 = (2 : Int32) by decide), if_neg (show ¬ nI 4 = (3 : Int32) by decide), bn_eq (q_netShorts hN (by omega)), bn_eq (q_splitsM m3 v (by omega))]
    exact R1.ret ⟨rfl, hK, hB⟩
theorem q_best7 {a : AS} {S : CS} (r : RC a S) (v : Va a) {n : Nat} (hn : 88 < n) : ∃ S6 S9, mX7_measure n S = some S6 ∧ mX1_findBest n S6 = some S9 ∧ RC a S9 ∧ q_Mz a (aT a) S9 ∧ q_Ex a (aT a) S9 := by
  obtain ⟨S6, e6, k6, m6⟩ := q_ms7 r v (n := n) (by omega)
  obtain ⟨S9, e9, k9, m9, x9⟩ := q_findBest7 m6 (n := n) (by omega)
  exact ⟨S6, S9, e6, e9, k9.rc (k6.rc r), m9, x9⟩
theorem sq_explain {S : CS} {M : MS} (h : Rel S M) {n : Nat} (hn : 40000000 < n) (x1 : Int32) : Sqp (mX7_explain n S x1) (mX8_explain n M x1) cdL_explain (fun e => e = 1) := by
  have hh := h
  obtain ⟨a, v, r, m⟩ := h
  unfold mX7_explain mX8_explain mX8_explain_15
  rcases sq_in (lo := 0) (hi := 4) x1 (by decide) (by decide) with ⟨w, w1, w2, rfl⟩ | c1
  · rw [bt_eq (show mX7_needRange S (nI w) (0 : Int32) (4 : Int32) = _ from sq_rgY S w1 w2 (by decide)), bn_eq (show mX8_within (nI w) (0 : Int32) (4 : Int32) = _ from sq_wiY w1 w2 (by decide)), if_neg (show ¬ (1 : Int32) = 0 by decide), sG_s, if_pos (show (0 : Int32) ≤ 0 by decide)]
    obtain ⟨S6, S9, e6, e9, r9, m9, x9⟩ := q_best7 r v (n := n) (by omega)
    obtain ⟨⟨u, S'⟩, e12, hu, hF⟩ := q_xn7 r9 v m9 x9 (n := n) (by omega) (k := w) (by omega)
    obtain ⟨⟨u', M'⟩, e8, hu', hK, hB⟩ := q_xn8 (q_s0 m 0) v hn (k := w) (by omega)
    have hu : u = q_xn a w := hu
    have hu' : u' = q_xn a w := hu'
    have hF : Fr (fun k => k ≠ 5) S9 S' := hF
    have hK : Km (sG M 0 0) M' := hK
    have hB : Fb (sG M 0 0) M' := hB
    exact Sqp.ok (a := a) (w := q_xn a w) (by rw [bn_eq e6, bn_eq e9, bm_eq e12, hu]) (by rw [bm_eq e8, hu']) (hB.1.trans sq_one) v ((hF.ke (by decide) (by decide)).rc r9) (hK.rm (q_s0 m 0))
  · rw [bt_er (show mX7_needRange S x1 (0 : Int32) (4 : Int32) = _ from sq_rgN S c1), bn_eq (show mX8_within x1 (0 : Int32) (4 : Int32) = _ from sq_wiN c1), if_pos rfl, sG_s, if_neg (show ¬ (1 : Int32) ≤ 0 by decide)]
    exact Sqp.er hh rfl rfl rfl rfl (by decide)
theorem sq_explained {S : CS} {M : MS} (h : Rel S M) {n : Nat} (hn : 40000000 < n) (x1 : Int32) : Sqp (mX7_explained n S x1) (mX8_explained n M x1) cdL_explained (fun e => e = 2) := by
  have hh := h
  obtain ⟨a, v, r, m⟩ := h
  unfold mX7_explained mX8_explained mX8_explained_13
  rcases sq_ix x1 (m := 8) (by decide) with ⟨p, hp, rfl⟩ | c2
  · rw [bt_eq (show mX7_needIndex S (nI p) (8 : Int32) = _ from sq_ixY S hp (by decide)), bn_eq (sq_wrY hp), if_neg (show ¬ (1 : Int32) = 0 by decide), sG_s, if_pos (show (0 : Int32) ≤ 0 by decide)]
    obtain ⟨S6, S9, e6, e9, r9, m9, x9⟩ := q_best7 r v (n := n) (by omega)
    obtain ⟨M', e8, ⟨hK, hN, hE⟩, hB⟩ := (q_findBest8 (q_s0 m 0) v hn).fr (fq_fb n _)
    exact Sqp.ok (a := a) (w := nI (q_nth (q_bst a (aT a)) p)) (by rw [bn_eq e6, bn_eq e9, bn_eq (q_farPin x9 hp)]) (by rw [bn_eq e8, if_pos (inb_n hp (by decide)), nI_clamp (by omega), hE.2.2 p hp]) (hB.1.trans sq_one) v r9 (hK.rm (q_s0 m 0))
  · rw [bt_er (show mX7_needIndex S x1 (8 : Int32) = _ from sq_ixN S c2), bn_eq (sq_wrN c2), if_pos rfl, sG_s, if_neg (show ¬ (1 : Int32) ≤ 0 by decide)]
    exact Sqp.er hh rfl rfl rfl rfl (by decide)
/-! a fault's properties; wires -/
def q_fp (a : AS) (i w : Nat) : Int32 := if w < 6 then dI6 (q_at (aF a) i) w else bI (q_pr (q_at (aF a) i) (aT a))
theorem q_fp7 {a : AS} {S : CS} (r : RC a S) (v : Va a) {i : Nat} (hi : i < (aF a).length) : ∃ f : FT, mJx4a65c_get_915e3 S (nI i) = some f ∧ ∀ w, w < 7 → mX2_property f (nI w) (nI (aT a)) = some (q_fp a i w) := by
  have hT := q_T v
  obtain ⟨f, hf, _, f0, f1, f2, f3, f4⟩ := q_get r v (q_atk hi)
  have ok := q_okat v (q_atk hi)
  refine ⟨f, hf, fun w hw => ?_⟩
  unfold mX2_property q_fp
  rcases (by omega : w = 0 ∨ w = 1 ∨ w = 2 ∨ w = 3 ∨ w = 4 ∨ w = 5 ∨ w = 6) with rfl | rfl | rfl | rfl | rfl | rfl | rfl
  · rw [if_pos (show nI 0 = (0 : Int32) from rfl), bn_eq (q_isShort ok f1), if_pos (show 0 < 6 by decide)]
    show _ = some (if (q_at (aF a) i).2.1 = 0 then (0 : Int32) else 1)
    by_cases c : (q_at (aF a) i).2.1 = 0
    · rw [decide_eq_false (show ¬ ((q_at (aF a) i).2.1 ≠ 0) from fun h => h c), if_pos (show bI false = (0 : Int32) from rfl), if_pos c]
    · rw [decide_eq_true c, if_neg (show ¬ bI true = (0 : Int32) by decide), if_neg c]
  · rw [if_neg (show ¬ nI 1 = (0 : Int32) by decide), if_pos (show nI 1 = (1 : Int32) from rfl), f0, if_pos (by decide)]; rfl
  · rw [if_neg (show ¬ nI 2 = (0 : Int32) by decide), if_neg (show ¬ nI 2 = (1 : Int32) by decide), if_pos (show nI 2 = (2 : Int32) from rfl), f1, if_pos (by decide)]; rfl
  · rw [if_neg (show ¬ nI 3 = (0 : Int32) by decide), if_neg (show ¬ nI 3 = (1 : Int32) by decide), if_neg (show ¬ nI 3 = (2 : Int32) by decide), if_pos (show nI 3 = (3 : Int32) from rfl), f2, if_pos (by decide)]; rfl
  · rw [if_neg (show ¬ nI 4 = (0 : Int32) by decide), if_neg (show ¬ nI 4 = (1 : Int32) by decide), if_neg (show ¬ nI 4 = (2 : Int32) by decide), if_neg (show ¬ nI 4 = (3 : Int32) by decide), if_pos (show nI 4 = (4 : Int32) from rfl), f3, if_pos (by decide)]; rfl
  · rw [if_neg (show ¬ nI 5 = (0 : Int32) by decide), if_neg (show ¬ nI 5 = (1 : Int32) by decide), if_neg (show ¬ nI 5 = (2 : Int32) by decide), if_neg (show ¬ nI 5 = (3 : Int32) by decide), if_neg (show ¬ nI 5 = (4 : Int32) by decide), if_pos (show nI 5 = (5 : Int32) from rfl), f4, if_pos (by decide)]; rfl
  · rw [if_neg (show ¬ nI 6 = (0 : Int32) by decide), if_neg (show ¬ nI 6 = (1 : Int32) by decide), if_neg (show ¬ nI 6 = (2 : Int32) by decide), if_neg (show ¬ nI 6 = (3 : Int32) by decide), if_neg (show ¬ nI 6 = (4 : Int32) by decide), if_neg (show ¬ nI 6 = (5 : Int32) by decide), bn_eq (q_isPresent ok f3 f4 (by omega)), if_neg (show ¬ 6 < 6 by decide)]
    cases q_pr (q_at (aF a) i) (aT a)
    · rw [if_pos (show bI false = (0 : Int32) from rfl)]; rfl
    · rw [if_neg (show ¬ bI true = (0 : Int32) by decide)]; rfl
theorem q_fp8 {a : AS} {M : MS} (m : RM a M) (v : Va a) {i w : Nat} (hi : i < (aF a).length) (hw : w < 7) : mX8_faultNow M (nI i) (nI w) = some (q_fp a i w) := by
  have hT := q_T v
  unfold mX8_faultNow q_fp
  by_cases c : w < 6
  · rw [if_neg (show ¬ (6 : Int32) ≤ nI w from nI_ge (b := 6) c (by decide)), bn_eq (q_of m v (q_atk hi) c), if_pos c]
  · rw [if_pos (show (6 : Int32) ≤ nI w from nI_le (a := 6) (by omega) (by omega)), m.2.2.2.1, bn_eq (q_isPresent8 m v (q_atk hi) (by omega)), if_neg c]
    cases q_pr (q_at (aF a) i) (aT a)
    · rw [if_pos (show bI false = (0 : Int32) from rfl)]; rfl
    · rw [if_neg (show ¬ bI true = (0 : Int32) by decide)]; rfl
theorem sq_fault {S : CS} {M : MS} (h : Rel S M) (x1 x2 : Int32) : Sqp (mX7_fault S x1 x2) (mX8_fault M x1 x2) cdL_fault (fun e => e = 1 ∨ e = 2) := by
  have hh := h
  obtain ⟨a, v, r, m⟩ := h
  have h10 := q_F10 v
  have er : ∀ t : Int32, ¬ t ≤ 0 → mX8_fault_34 M x1 x2 t = some (0, sG M 0 t) := by
    intro t ht
    unfold mX8_fault_34
    rw [sG_s, if_neg ht]
  unfold mX7_fault mX8_fault
  rw [bn_eq (q_size r), m.2.2.2.2.2.1]
  rcases sq_ix x1 (m := (aF a).length) (by omega) with ⟨i, hi, rfl⟩ | c1
  · rw [bt_eq (sq_ixY S hi (by omega)), bn_eq (sq_wmY hi (by omega)), if_neg (show ¬ (1 : Int32) = 0 by decide)]
    rcases sq_in (lo := 0) (hi := 6) x2 (by decide) (by decide) with ⟨w, w1, w2, rfl⟩ | c2
    · rw [bt_eq (show mX7_needRange S (nI w) (0 : Int32) (6 : Int32) = _ from sq_rgY S w1 w2 (by decide)), bn_eq (show mX8_within (nI w) (0 : Int32) (6 : Int32) = _ from sq_wiY w1 w2 (by decide)), if_neg (show ¬ (1 : Int32) = 0 by decide)]
      obtain ⟨f, hf, hp⟩ := q_fp7 r v hi
      refine Sqp.ok (a := a) (M := sG M 0 0) (w := q_fp a i w) (by rw [bn_eq hf, r.2.2.2.1, bn_eq (hp w (by omega))]) ?_ sq_one v r (q_s0 m 0)
      unfold mX8_fault_34
      rw [sG_s, if_pos (show (0 : Int32) ≤ 0 by decide), bn_eq (q_fp8 (q_s0 m 0) v hi (by omega))]
    · rw [bt_er (show mX7_needRange S x2 (0 : Int32) (6 : Int32) = _ from sq_rgN S c2), bn_eq (show mX8_within x2 (0 : Int32) (6 : Int32) = _ from sq_wiN c2), if_pos rfl]
      exact Sqp.er hh rfl (er 2 (by decide)) (Or.inl rfl) rfl (by decide)
  · rw [bt_er (sq_ixN S c1), bn_eq (sq_wmN (by omega) c1), if_pos rfl]
    exact Sqp.er hh rfl (er 1 (by decide)) (Or.inr rfl) rfl (by decide)
theorem sq_wire {S : CS} {M : MS} (h : Rel S M) (x1 x2 : Int32) : Sqp (mX7_wire S x1 x2) (mX8_wire M x1 x2) cdL_wire (fun e => e = 1 ∨ e = 2) := by
  have hh := h
  obtain ⟨a, v, r, m⟩ := h
  have er : ∀ t : Int32, ¬ t ≤ 0 → mX8_wire_24 M x1 x2 t = some (0, sG M 0 t) := by
    intro t ht
    unfold mX8_wire_24
    rw [sG_s, if_neg ht]
  unfold mX7_wire mX8_wire
  rcases sq_ix x1 (m := 2) (by decide) with ⟨e, he, rfl⟩ | c1
  · rw [bt_eq (sq_enY S he), bn_eq (sq_ieY he), if_neg (show ¬ (1 : Int32) = 0 by decide)]
    rcases sq_ix x2 (m := 8) (by decide) with ⟨p, hp, rfl⟩ | c2
    · rw [bt_eq (show mX7_needIndex S (nI p) (8 : Int32) = _ from sq_ixY S hp (by decide)), bn_eq (sq_wrY hp), if_neg (show ¬ (1 : Int32) = 0 by decide)]
      have e8 : ((8 : Int32) * nI e) + nI p = nI (8 * e + p) := by rw [show (8 : Int32) = nI 8 from rfl, pk_mul, nI_add]
      refine Sqp.ok (a := a) (M := sG M 0 0) (w := nI (aW a (8 * e + p))) (by rw [bn_eq (q_wireAt r he hp)]) ?_ sq_one v r (q_s0 m 0)
      unfold mX8_wire_24
      rw [sG_s, if_pos (show (0 : Int32) ≤ 0 by decide), e8, if_pos (inb_n (by omega) (by decide)), nI_clamp (by omega), (q_s0 m 0).2.2.2.2.1 _ (by omega)]
    · rw [bt_er (show mX7_needIndex S x2 (8 : Int32) = _ from sq_ixN S c2), bn_eq (sq_wrN c2), if_pos rfl]
      exact Sqp.er hh rfl (er 2 (by decide)) (Or.inr rfl) rfl (by decide)
  · rw [bt_er (sq_enN S c1), bn_eq (sq_ieN c1), if_pos rfl]
    exact Sqp.er hh rfl (er 1 (by decide)) (Or.inl rfl) rfl (by decide)
