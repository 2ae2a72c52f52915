/-! the reader of texts: a character of the reference's; whole texts -/
theorem tq_fin8 {x : Option (Int32 × MS)} {P : Int32 × MS → Prop} (h : R1 x (fun z => bz z.1 = true ∧ P z)) : R1 (bm x fun r M' => if bz r then some (r, M') else none) P := by
  obtain ⟨⟨r, M'⟩, rfl, hb, hp⟩ := h
  show R1 (if bz r = true then some (r, M') else none) P
  rw [if_pos hb]
  exact R1.ret hp
theorem tq_or1 {M' : MS} {P : Int32 × MS → Prop} (h : P (1, M')) : R1 (bm (some ((1 : Int32), M')) fun r25 M27 => if r25 = (0 : Int32) then some ((0 : Int32), M27) else some ((1 : Int32), M27)) P := by
  show R1 (if (1 : Int32) = 0 then some ((0 : Int32), M') else some ((1 : Int32), M')) P
  rw [if_neg (by decide)]
  exact R1.ret h
theorem tq_or0 {M' : MS} {P : Int32 × MS → Prop} (h : P (0, M')) : R1 (bm (some ((0 : Int32), M')) fun r25 M27 => if r25 = (0 : Int32) then some ((0 : Int32), M27) else some ((1 : Int32), M27)) P := by
  show R1 (if (0 : Int32) = 0 then some ((0 : Int32), M') else some ((1 : Int32), M')) P
  rw [if_pos rfl]
  exact R1.ret h
theorem tq_tsg (M : MS) {c : Nat} (hc : c < 127) : mX8_takesSign M (nI c) = if c = 99 ∨ c = 115 ∨ c = 110 ∨ c = 102 then some (1, sG (sG (sG (sG (sG (sG M 15 (nI c)) 17 (-1)) 19 0) 20 0) 18 0) 14 1) else some (0, M) := by
  have ye : mX8_takesSign_24 M (nI c) = some (1, sG (sG (sG (sG (sG (sG M 15 (nI c)) 17 (-1)) 19 0) 20 0) 18 0) 14 1) := by
    unfold mX8_takesSign_24 mX8_takesSign_29
    rw [if_neg (by decide), if_pos bz_1]
  unfold mX8_takesSign
  rw [ye]
  by_cases h1 : c = 99
  · rw [if_pos (show nI c = (99 : Int32) from congrArg nI h1), if_pos (by omega)]
  · rw [if_neg (show ¬ nI c = (99 : Int32) from tq_z (by omega) (by decide) h1)]
    by_cases h2 : c = 115
    · rw [if_pos (show nI c = (115 : Int32) from congrArg nI h2), if_pos (by omega)]
    · rw [if_neg (show ¬ nI c = (115 : Int32) from tq_z (by omega) (by decide) h2)]
      by_cases h3 : c = 110
      · rw [if_pos (show nI c = (110 : Int32) from congrArg nI h3), if_pos (by omega)]
      · rw [if_neg (show ¬ nI c = (110 : Int32) from tq_z (by omega) (by decide) h3)]
        by_cases h4 : c = 102
        · rw [if_pos (show nI c = (102 : Int32) from congrArg nI h4), if_pos (by omega)]
        · rw [if_neg (show ¬ nI c = (102 : Int32) from tq_z (by omega) (by decide) h4), if_neg (by omega)]
          unfold mX8_takesSign_29
          rw [if_pos rfl, if_pos bz_0]
def tq_P8 (M : MS) (r : Option Rs) (its : List It) (z : Int32 × MS) : Prop := Kt M z.2 ∧ ((∃ s', r = some s' ∧ z.1 = 1 ∧ tq_M s' z.2 ∧ tq_It its z.2) ∨ (r = none ∧ z.1 = 0))
theorem tq_19 {s : Rs} {M : MS} {its : List It} {c : Nat} (hc : c < 127) (ok : tq_ok s) (h : tq_M s M) (hi : tq_It its M) : R1 (mX8_takes_19 M (nI c)) (tq_P8 M (tq_r0 s c) its) := by
  obtain ⟨st, l, f, o, p, pe, d⟩ := s
  obtain ⟨h14, h2, h3, h4, h5, h6, h7, h8⟩ := h
  unfold tq_ok tq_ok7 tq_two at ok
  dsimp only at h14 h2 h3 h4 h5 h6 h7 h8 ok
  have K0 := Kt.rf M
  unfold tq_P8
  unfold mX8_takes_19
  rw [h14]
  rcases (by omega : st = 0 ∨ st = 1 ∨ st = 2 ∨ st = 3 ∨ st = 4 ∨ st = 5 ∨ st = 6 ∨ st = 7) with rfl | rfl | rfl | rfl | rfl | rfl | rfl | rfl
  · rw [if_pos (show nI 0 = (0 : Int32) from rfl)]
    refine tq_fin8 ?_
    rw [tq_tsg M hc, tq_r_0]
    by_cases k : c = 99 ∨ c = 115 ∨ c = 110 ∨ c = 102
    · rw [if_pos k, if_pos k]
      refine R1.ret ⟨bz_1, (((((K0.sG _ (by decide)).sG _ (by decide)).sG _ (by decide)).sG _ (by decide)).sG _ (by decide)).sG _ (by decide), Or.inl ⟨_, rfl, rfl, ⟨rfl, fun _ => ⟨rfl, oI_0.symm⟩, fun _ h => absurd rfl h, fun _ => rfl, fun _ => rfl, fun h => absurd h (by simp), fun h => absurd h (by simp), fun h => absurd h (by simp)⟩, ?_⟩⟩
      exact (((((hi.sG _ (by decide)).sG _ (by decide)).sG _ (by decide)).sG _ (by decide)).sG _ (by decide)).sG _ (by decide)
    · rw [if_neg k, if_neg k]
      exact R1.ret ⟨bz_0, K0, Or.inr ⟨rfl, rfl⟩⟩
  · obtain ⟨a15, a17⟩ := h2 (by decide)
    have a19 := h4 (by decide)
    have a18 := h5 (by decide)
    rw [if_neg (show ¬ nI 1 = (0 : Int32) by decide), if_pos (show nI 1 = (1 : Int32) from rfl)]
    unfold mX8_takes_70
    refine tq_fin8 ?_
    rw [tq_p1 hc (by omega) h14 a15, tq_r_1]
    by_cases k : 48 ≤ c ∧ c < 56
    · rw [if_pos k, if_pos k]
      by_cases h9 : l = 99
      · rw [if_pos h9, if_pos h9]
        exact R1.ret ⟨bz_1, (K0.sG _ (by decide)).sG _ (by decide), Or.inl ⟨_, rfl, rfl, ⟨rfl, fun _ => ⟨a15, a17⟩, fun _ _ => tq_d3 k.1, fun _ => a19, fun _ => a18, fun h => absurd h (by simp), fun h => absurd h (by simp), fun h => absurd h (by simp)⟩, (hi.sG _ (by decide)).sG _ (by decide)⟩⟩
      · rw [if_neg h9, if_neg h9]
        exact R1.ret ⟨bz_1, (K0.sG _ (by decide)).sG _ (by decide), Or.inl ⟨_, rfl, rfl, ⟨rfl, fun _ => ⟨a15, a17⟩, fun _ _ => tq_d3 k.1, fun _ => a19, fun _ => a18, fun h => absurd h (by simp), fun h => absurd h (by simp), fun h => absurd h (by simp)⟩, (hi.sG _ (by decide)).sG _ (by decide)⟩⟩
    · rw [if_neg k, if_neg k]
      exact R1.ret ⟨bz_0, K0, Or.inr ⟨rfl, rfl⟩⟩
  · obtain ⟨a15, a17⟩ := h2 (by decide)
    have a16 := h3 (by decide) (by decide)
    have a19 := h4 (by decide)
    have a18 := h5 (by decide)
    rw [if_neg (show ¬ nI 2 = (0 : Int32) by decide), if_neg (show ¬ nI 2 = (1 : Int32) by decide), if_pos (show nI 2 = (2 : Int32) from rfl)]
    unfold mX8_takes_70
    refine tq_fin8 ?_
    rw [tq_p2 hc (by omega) (by omega) h14 a15 a16, tq_r_2]
    by_cases k : 48 ≤ c ∧ c < 56 ∧ c - 48 ≠ f
    · rw [if_pos k, if_pos k]
      by_cases h9 : l = 115
      · rw [if_pos h9, if_pos h9]
        exact R1.ret ⟨bz_1, (K0.sG _ (by decide)).sG _ (by decide), Or.inl ⟨_, rfl, rfl, ⟨rfl, fun _ => ⟨a15, (tq_d3 k.1).trans (oI_s _).symm⟩, fun _ _ => a16, fun _ => a19, fun _ => a18, fun h => absurd h (by simp), fun h => absurd h (by simp), fun h => absurd h (by simp)⟩, (hi.sG _ (by decide)).sG _ (by decide)⟩⟩
      · rw [if_neg h9, if_neg h9]
        exact R1.ret ⟨bz_1, (K0.sG _ (by decide)).sG _ (by decide), Or.inl ⟨_, rfl, rfl, ⟨rfl, fun _ => ⟨a15, (tq_d3 k.1).trans (oI_s _).symm⟩, fun _ _ => a16, fun _ => a19, fun h => absurd h (by simp), fun h => absurd h (by simp), fun h => absurd h (by simp), fun h => absurd h (by simp)⟩, (hi.sG _ (by decide)).sG _ (by decide)⟩⟩
    · rw [if_neg k, if_neg k]
      exact R1.ret ⟨bz_0, K0, Or.inr ⟨rfl, rfl⟩⟩
  · obtain ⟨a15, a17⟩ := h2 (by decide)
    have a16 := h3 (by decide) (by decide)
    have a18 := h5 (by decide)
    rw [if_neg (show ¬ nI 3 = (0 : Int32) by decide), if_neg (show ¬ nI 3 = (1 : Int32) by decide), if_neg (show ¬ nI 3 = (2 : Int32) by decide), if_pos (show nI 3 = (3 : Int32) from rfl), tq_r_3]
    unfold mX8_takes_88
    by_cases k : c = 64
    · rw [if_pos (show nI c = (64 : Int32) from congrArg nI k), if_pos k]
      refine tq_fin8 (R1.of (tq_g1 M 4) ⟨bz_1, (K0.sG _ (by decide)).sG _ (by decide), Or.inl ⟨_, rfl, rfl, ⟨rfl, fun _ => ⟨a15, a17⟩, fun _ _ => a16, fun h => absurd h (by simp), fun h => absurd h (by simp), fun _ => ?_, fun h => absurd h (by simp), fun h => absurd h (by simp)⟩, (hi.sG _ (by decide)).sG _ (by decide)⟩⟩)
      show (0 : Int32) = nI p
      rw [show p = 0 by omega]; rfl
    · rw [if_neg (show ¬ nI c = (64 : Int32) from tq_z (by omega) (by decide) k), if_neg k]
      exact tq_fin8 (R1.of (tq_g0 M 4) ⟨bz_0, K0, Or.inr ⟨rfl, rfl⟩⟩)
  · obtain ⟨a15, a17⟩ := h2 (by decide)
    have a16 := h3 (by decide) (by decide)
    have a18 := h6 rfl
    rw [if_neg (show ¬ nI 4 = (0 : Int32) by decide), if_neg (show ¬ nI 4 = (1 : Int32) by decide), if_neg (show ¬ nI 4 = (2 : Int32) by decide), if_neg (show ¬ nI 4 = (3 : Int32) by decide), if_pos (show nI 4 = (4 : Int32) from rfl), tq_r_4]
    have K1 : Kt M (sG M 19 (M.1 18)) := K0.sG _ (by decide)
    have i1 : tq_It its (sG M 19 (M.1 18)) := hi.sG _ (by decide)
    have no : ¬ (c = 47 ∧ 0 < p) → R1 (mX8_takes_119 (sG M 19 (M.1 18)) (nI c)) (tq_P8 M (if tq_dc p c 998 then some (4, l, f, o, 10 * p + (c - 48), pe, d) else none) its) := by
      intro k
      unfold mX8_takes_119 mX8_takes_120 mX8_takes_135 tq_P8
      rw [bm_eq (tq_g0 _ 5), if_pos rfl, tq_tdg (M := sG M 19 (M.1 18)) (v := p) (most := 998) hc (by omega) (by decide) a18 (by
        unfold mX8_limit
        rw [if_pos (show (sG M 19 (M.1 18)).1 14 = (4 : Int32) from h14)]
        rfl)]
      by_cases k2 : tq_dc p c 998
      · rw [if_pos k2, if_pos k2]
        exact tq_or1 ⟨K1.sG _ (by decide), Or.inl ⟨_, rfl, rfl, ⟨h14, fun _ => ⟨a15, a17⟩, fun _ _ => a16, fun h => absurd h (by simp), fun h => absurd h (by simp), fun _ => rfl, fun h => absurd h (by simp), fun h => absurd h (by simp)⟩, i1.sG _ (by decide)⟩⟩
      · rw [if_neg k2, if_neg k2]
        exact tq_or0 ⟨K1, Or.inr ⟨rfl, rfl⟩⟩
    have e18 : (sG M 19 (M.1 18)).1 18 = nI p := a18
    rw [e18]
    by_cases k : c = 47 ∧ 0 < p
    · rw [if_pos (show nI c = (47 : Int32) from congrArg nI k.1), if_neg (nI_nle k.2 (by omega)), if_pos k]
      unfold mX8_takes_120 mX8_takes_135
      rw [bm_eq (tq_g1 _ 5), if_neg (by decide)]
      exact R1.ret ⟨(K1.sG _ (by decide)).sG _ (by decide), Or.inl ⟨_, rfl, rfl, ⟨rfl, fun _ => ⟨a15, a17⟩, fun _ _ => a16, fun h => absurd h (by simp), fun h => absurd h (by simp), fun h => absurd h (by simp), fun _ => ⟨a18, rfl⟩, fun h => absurd h (by simp)⟩, (i1.sG _ (by decide)).sG _ (by decide)⟩⟩
    · rw [if_neg k]
      have n2 := no k
      unfold tq_P8 at n2
      by_cases k2 : c = 47
      · rw [if_pos (show nI c = (47 : Int32) from congrArg nI k2), if_pos (show nI p ≤ (0 : Int32) from nI_le (by omega : p ≤ 0) (by decide))]
        exact n2
      · rw [if_neg (show ¬ nI c = (47 : Int32) from tq_z (by omega) (by decide) k2)]
        exact n2
  · obtain ⟨a15, a17⟩ := h2 (by decide)
    have a16 := h3 (by decide) (by decide)
    obtain ⟨a19, a18⟩ := h7 rfl
    rw [if_neg (show ¬ nI 5 = (0 : Int32) by decide), if_neg (show ¬ nI 5 = (1 : Int32) by decide), if_neg (show ¬ nI 5 = (2 : Int32) by decide), if_neg (show ¬ nI 5 = (3 : Int32) by decide), if_neg (show ¬ nI 5 = (4 : Int32) by decide), if_pos (show nI 5 = (5 : Int32) from rfl), tq_r_5]
    have K1 : Kt M (sG M 20 (M.1 18)) := K0.sG _ (by decide)
    have i1 : tq_It its (sG M 20 (M.1 18)) := hi.sG _ (by decide)
    have no : ¬ (c = 58 ∧ 0 < pe) → R1 (mX8_takes_167 (sG M 20 (M.1 18)) (nI c)) (tq_P8 M (if tq_dc pe c 32 then some (5, l, f, o, p, 10 * pe + (c - 48), d) else none) its) := by
      intro k
      unfold mX8_takes_167 mX8_takes_168 mX8_takes_184 tq_P8
      rw [bm_eq (tq_g0 _ 6), if_pos rfl, tq_tdg (M := sG M 20 (M.1 18)) (v := pe) (most := 32) hc (by omega) (by decide) a18 (by
        unfold mX8_limit
        rw [if_neg (show ¬ (sG M 20 (M.1 18)).1 14 = (4 : Int32) from fun e => (by decide : ¬ nI 5 = (4 : Int32)) (h14.symm.trans e)), if_pos (show (sG M 20 (M.1 18)).1 14 = (5 : Int32) from h14)]
        rfl)]
      by_cases k2 : tq_dc pe c 32
      · rw [if_pos k2, if_pos k2]
        exact tq_or1 ⟨K1.sG _ (by decide), Or.inl ⟨_, rfl, rfl, ⟨h14, fun _ => ⟨a15, a17⟩, fun _ _ => a16, fun h => absurd h (by simp), fun h => absurd h (by simp), fun h => absurd h (by simp), fun _ => ⟨a19, rfl⟩, fun h => absurd h (by simp)⟩, i1.sG _ (by decide)⟩⟩
      · rw [if_neg k2, if_neg k2]
        exact tq_or0 ⟨K1, Or.inr ⟨rfl, rfl⟩⟩
    have e18 : (sG M 20 (M.1 18)).1 18 = nI pe := a18
    rw [e18]
    by_cases k : c = 58 ∧ 0 < pe
    · rw [if_pos (show nI c = (58 : Int32) from congrArg nI k.1), if_neg (nI_nle k.2 (by omega)), if_pos k]
      unfold mX8_takes_168 mX8_takes_184
      rw [bm_eq (tq_g1 _ 6), if_neg (by decide)]
      refine R1.ret ⟨(K1.sG _ (by decide)).sG _ (by decide), Or.inl ⟨_, rfl, rfl, ⟨rfl, fun _ => ⟨a15, a17⟩, fun _ _ => a16, fun h => absurd h (by simp), fun h => absurd h (by simp), fun h => absurd h (by simp), fun h => absurd h (by simp), fun _ => ⟨a19, a18, ?_⟩⟩, (i1.sG _ (by decide)).sG _ (by decide)⟩⟩
      show (0 : Int32) = nI d
      rw [show d = 0 by omega]; rfl
    · rw [if_neg k]
      have n2 := no k
      unfold tq_P8 at n2
      by_cases k2 : c = 58
      · rw [if_pos (show nI c = (58 : Int32) from congrArg nI k2), if_pos (show nI pe ≤ (0 : Int32) from nI_le (by omega : pe ≤ 0) (by decide))]
        exact n2
      · rw [if_neg (show ¬ nI c = (58 : Int32) from tq_z (by omega) (by decide) k2)]
        exact n2
  · obtain ⟨a15, a17⟩ := h2 (by decide)
    have a16 := h3 (by decide) (by decide)
    obtain ⟨a19, a20, a18⟩ := h8 rfl
    rw [if_neg (show ¬ nI 6 = (0 : Int32) by decide), if_neg (show ¬ nI 6 = (1 : Int32) by decide), if_neg (show ¬ nI 6 = (2 : Int32) by decide), if_neg (show ¬ nI 6 = (3 : Int32) by decide), if_neg (show ¬ nI 6 = (4 : Int32) by decide), if_neg (show ¬ nI 6 = (5 : Int32) by decide), if_pos (show nI 6 = (6 : Int32) from rfl), tq_r_6]
    refine tq_fin8 ?_
    rw [tq_tdg (v := d) (most := pe) hc (by omega) (by omega) a18 (by
      unfold mX8_limit
      rw [if_neg (fun e => (by decide : ¬ nI 6 = (4 : Int32)) (h14.symm.trans e)), if_neg (fun e => (by decide : ¬ nI 6 = (5 : Int32)) (h14.symm.trans e)), a20])]
    by_cases k2 : tq_dc d c pe
    · rw [if_pos k2, if_pos k2]
      exact R1.ret ⟨bz_1, K0.sG _ (by decide), Or.inl ⟨_, rfl, rfl, ⟨h14, fun _ => ⟨a15, a17⟩, fun _ _ => a16, fun h => absurd h (by simp), fun h => absurd h (by simp), fun h => absurd h (by simp), fun h => absurd h (by simp), fun _ => ⟨a19, a20, rfl⟩⟩, hi.sG _ (by decide)⟩⟩
    · rw [if_neg k2, if_neg k2]
      exact R1.ret ⟨bz_0, K0, Or.inr ⟨rfl, rfl⟩⟩
  · rw [if_neg (show ¬ nI 7 = (0 : Int32) by decide), if_neg (show ¬ nI 7 = (1 : Int32) by decide), if_neg (show ¬ nI 7 = (2 : Int32) by decide), if_neg (show ¬ nI 7 = (3 : Int32) by decide), if_neg (show ¬ nI 7 = (4 : Int32) by decide), if_neg (show ¬ nI 7 = (5 : Int32) by decide), if_neg (show ¬ nI 7 = (6 : Int32) by decide)]
    exact R1.ret ⟨K0, Or.inr ⟨tq_r_7, rfl⟩⟩
theorem tq_takes {s : Rs} {M : MS} {its : List It} {c : Nat} (hc : c < 127) (ok : tq_ok s) (h : tq_M s M) (hi : tq_It its M) (hl : its.length < 25) : R1 (mX8_takes M (nI c)) (tq_P8 M (tq_rd s c) (if c = 59 then its ++ [s.2] else its)) := by
  unfold mX8_takes
  by_cases h59 : c = 59
  · rw [if_pos (show nI c = (59 : Int32) from congrArg nI h59), bn_eq (tq_ce ok h), if_pos h59]
    by_cases w : tq_wh s = true
    · rw [w, if_neg (show ¬ bI true = (0 : Int32) by decide), tq_rd_w h59 w]
      refine R1.bn (tq_end ok h hi hl w) ?_
      intro M' ⟨k1, k2, k3⟩
      exact R1.ret ⟨k1, Or.inl ⟨_, rfl, rfl, ⟨k2, fun h => absurd rfl h, fun h => absurd rfl h, fun h => absurd h (by simp), fun h => absurd h (by simp), fun h => absurd h (by simp), fun h => absurd h (by simp), fun h => absurd h (by simp)⟩, k3⟩⟩
    · rw [Bool.eq_false_iff.mpr w, if_pos (show bI false = (0 : Int32) from rfl), tq_rd_n h59 w]
      have q := tq_19 hc ok h hi
      rw [h59, tq_r59] at q
      rw [h59]
      refine q.mono (fun z hz => ⟨hz.1, Or.inr ?_⟩)
      rcases hz.2 with ⟨s', e, _⟩ | e
      · cases e
      · exact e
  · rw [if_neg (show ¬ nI c = (59 : Int32) from tq_z (by omega) (by decide) h59), if_neg h59, tq_rd_0 h59]
    exact tq_19 hc ok h hi
