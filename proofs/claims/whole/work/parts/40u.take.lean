/-! the reader of texts: one character, the reference's -/
def Kt (M M' : MS) : Prop := Km M M' ∧ M'.1 0 = M.1 0
theorem Kt.rf (M : MS) : Kt M M := ⟨Km.rf M, rfl⟩
theorem Kt.tr {M M1 M2 : MS} (h : Kt M M1) (h2 : Kt M1 M2) : Kt M M2 := ⟨h.1.tr h2.1, h2.2.trans h.2⟩
theorem Kt.sG {M M' : MS} (h : Kt M M') {k : Nat} (v : Int32) (hk : 11 ≤ k) : Kt M (sG M' k v) := ⟨h.1.tr (Km.sG M' k v (Or.inr hk)), (sG_n M' v (by omega)).trans h.2⟩
theorem Kt.sB {M M' : MS} (h : Kt M M') {k : Nat} (i : Nat) (v : Int32) (hk : 27 ≤ k) : Kt M (sB M' k i v) := ⟨h.1.tr (Km.sB M' k i v hk), h.2⟩
theorem sG_id (M : MS) (k : Nat) : sG M k (M.1 k) = M := by
  unfold sG
  rw [fa_upd_same rfl]
def tq_M7 (st l f o p pe d : Nat) (M : MS) : Prop := M.1 14 = nI st ∧ (st ≠ 0 → M.1 15 = nI l ∧ M.1 17 = oI o) ∧ (st ≠ 0 → st ≠ 1 → M.1 16 = nI f) ∧ (st = 1 ∨ st = 2 ∨ st = 3 ∨ st = 7 → M.1 19 = 0) ∧ (st = 1 ∨ st = 2 ∨ st = 3 → M.1 18 = 0) ∧ (st = 4 → M.1 18 = nI p) ∧ (st = 5 → M.1 19 = nI p ∧ M.1 18 = nI pe) ∧ (st = 6 → M.1 19 = nI p ∧ M.1 20 = nI pe ∧ M.1 18 = nI d)
def tq_M (s : Rs) (M : MS) : Prop := tq_M7 s.1 s.2.1 s.2.2.1 s.2.2.2.1 s.2.2.2.2.1 s.2.2.2.2.2.1 s.2.2.2.2.2.2 M
def tq_i6 (x : It) : Nat → Int32 := fun j => match j with
  | 0 => nI x.1
  | 1 => nI x.2.1
  | 2 => oI x.2.2.1
  | 3 => nI x.2.2.2.1
  | 4 => nI x.2.2.2.2.1
  | _ => nI x.2.2.2.2.2
def tq_It (its : List It) (M : MS) : Prop := M.1 21 = nI its.length ∧ ∀ k x, its[k]? = some x → ∀ j, j < 6 → M.2.1 29 (6 * k + j) = tq_i6 x j
theorem tq_It.sG {its : List It} {M : MS} (h : tq_It its M) {k : Nat} (v : Int32) (hk : 21 ≠ k) : tq_It its (sG M k v) := ⟨(sG_n M v hk).trans h.1, h.2⟩
theorem tq_wi {x lo hi : Nat} (hx : x < 2 ^ 31) (hl : lo < 2 ^ 31) (hh : hi < 2 ^ 31) : mX8_within (nI x) (nI lo) (nI hi) = some (bI (decide (lo ≤ x ∧ x ≤ hi))) := by
  unfold mX8_within
  by_cases h1 : x < lo
  · rw [if_pos (nI_lt h1 hl), decide_eq_false (by omega)]; rfl
  · rw [if_neg (nI_nlt (by omega) hx)]
    by_cases h2 : hi < x
    · rw [if_pos (nI_lt h2 hx), decide_eq_false (by omega)]; rfl
    · rw [if_neg (nI_nlt (by omega) hh), decide_eq_true (by omega)]; rfl
theorem tq_p1 {M : MS} {c l : Nat} (hc : c < 127) (hl : l < 2 ^ 31) (h14 : M.1 14 = nI 1) (h15 : M.1 15 = nI l) : mX8_takesPin M (nI c) = if 48 ≤ c ∧ c < 56 then some (1, sG (sG M 16 (nI c - 48)) 14 (nI (if l = 99 then 3 else 2))) else some (0, M) := by
  unfold mX8_takesPin
  rw [bn_eq (show mX8_within (nI c) (48 : Int32) (55 : Int32) = _ from tq_wi (by omega) (by decide) (by decide))]
  by_cases k : 48 ≤ c ∧ c < 56
  · rw [decide_eq_true (show 48 ≤ c ∧ c ≤ 55 by omega), if_neg (show ¬ bI true = (0 : Int32) by decide), h14, if_pos (show nI 1 = (1 : Int32) from rfl), if_pos k]
    unfold mX8_takesPin_30 mX8_takesPin_35 mX8_takesPin_71
    have e15 : (sG M 16 (nI c - (48 : Int32))).1 15 = nI l := h15
    rw [if_neg (show ¬ (1 : Int32) = 0 by decide), h14, if_pos (show nI 1 = (1 : Int32) from rfl), e15]
    by_cases h9 : l = 99
    · rw [if_pos (show nI l = (99 : Int32) from congrArg nI h9), if_pos bz_1, if_pos h9]; rfl
    · rw [if_neg (show ¬ nI l = (99 : Int32) from tq_z hl (by decide) h9), if_pos bz_1, if_neg h9]; rfl
  · rw [decide_eq_false (show ¬ (48 ≤ c ∧ c ≤ 55) by omega), if_pos (show bI false = (0 : Int32) from rfl), if_neg k]
    unfold mX8_takesPin_34 mX8_takesPin_35 mX8_takesPin_77
    rw [if_pos rfl, if_pos rfl, if_pos bz_0]
theorem tq_p2 {M : MS} {c l f : Nat} (hc : c < 127) (hl : l < 2 ^ 31) (hf : f < 2 ^ 31) (h14 : M.1 14 = nI 2) (h15 : M.1 15 = nI l) (h16 : M.1 16 = nI f) : mX8_takesPin M (nI c) = if 48 ≤ c ∧ c < 56 ∧ c - 48 ≠ f then some (1, sG (sG M 17 (nI c - 48)) 14 (nI (if l = 115 then 3 else 7))) else some (0, M) := by
  have no : mX8_takesPin_34 M (nI c) = some (0, M) := by
    unfold mX8_takesPin_34 mX8_takesPin_35 mX8_takesPin_77
    rw [if_pos rfl, if_pos rfl, if_pos bz_0]
  unfold mX8_takesPin
  rw [bn_eq (show mX8_within (nI c) (48 : Int32) (55 : Int32) = _ from tq_wi (by omega) (by decide) (by decide)), no]
  by_cases k : 48 ≤ c ∧ c < 56
  · rw [decide_eq_true (show 48 ≤ c ∧ c ≤ 55 by omega), if_neg (show ¬ bI true = (0 : Int32) by decide), h14, if_neg (show ¬ nI 2 = (1 : Int32) by decide), h16]
    by_cases k2 : c - 48 = f
    · rw [if_pos ((tq_d3 k.1).trans (congrArg nI k2)), if_neg (fun h => h.2.2 k2)]
    · rw [if_neg (fun e => k2 ((nI_eq (by omega) hf).mp ((tq_d3 k.1).symm.trans e))), if_pos ⟨k.1, k.2, k2⟩]
      unfold mX8_takesPin_30 mX8_takesPin_35 mX8_takesPin_77 mX8_takesPin_105
      have e15 : (sG M 17 (nI c - (48 : Int32))).1 15 = nI l := h15
      rw [if_neg (show ¬ (1 : Int32) = 0 by decide), h14, if_neg (show ¬ nI 2 = (1 : Int32) by decide), if_neg (show ¬ (1 : Int32) = 0 by decide), e15]
      by_cases h9 : l = 115
      · rw [if_pos (show nI l = (115 : Int32) from congrArg nI h9), if_pos bz_1, if_pos h9]; rfl
      · rw [if_neg (show ¬ nI l = (115 : Int32) from tq_z hl (by decide) h9), if_pos bz_1, if_neg h9]; rfl
  · rw [decide_eq_false (show ¬ (48 ≤ c ∧ c ≤ 55) by omega), if_pos (show bI false = (0 : Int32) from rfl), if_neg (fun h => k ⟨h.1, h.2.1⟩)]
theorem tq_tdg {M : MS} {c v most : Nat} (hc : c < 127) (hv : v ≤ 998) (hm : most ≤ 998) (h18 : M.1 18 = nI v) (hlim : mX8_limit M = some (nI most)) : mX8_takesDigit M (nI c) = if tq_dc v c most then some (1, sG M 18 (nI (10 * v + (c - 48)))) else some (0, M) := by
  have no : ∀ x, mX8_takesDigit_40 M x = some (0, M) := by
    intro x
    unfold mX8_takesDigit_40 mX8_takesDigit_41 mX8_takesDigit_55
    rw [if_pos rfl, if_pos bz_0, sG_id]
  unfold mX8_takesDigit
  rw [bn_eq (show mX8_within (nI c) (48 : Int32) (57 : Int32) = _ from tq_wi (by omega) (by decide) (by decide)), no, bn_eq hlim, h18]
  by_cases k : 48 ≤ c ∧ c ≤ 57
  · have e : (((10 : Int32) * nI v) + nI c) - (48 : Int32) = nI (10 * v + (c - 48)) := by
      rw [show (10 : Int32) = nI 10 from rfl, pk_mul, nI_add, show (48 : Int32) = nI 48 from rfl, pk_sub (by omega), Nat.add_sub_assoc (by omega)]
    rw [decide_eq_true k, if_neg (show ¬ bI true = (0 : Int32) by decide), e, bn_eq (show mX8_within (nI (10 * v + (c - 48))) (1 : Int32) (nI most) = _ from tq_wi (by omega) (by decide) (by omega))]
    by_cases k2 : 1 ≤ 10 * v + (c - 48) ∧ 10 * v + (c - 48) ≤ most
    · rw [decide_eq_true k2, if_neg (show ¬ bI true = (0 : Int32) by decide), if_pos (show tq_dc v c most from ⟨k.1, k.2, k2.1, k2.2⟩)]
      unfold mX8_takesDigit_41 mX8_takesDigit_55
      rw [if_neg (show ¬ (1 : Int32) = 0 by decide), if_pos bz_1]
    · rw [decide_eq_false k2, if_pos (show bI false = (0 : Int32) from rfl), if_neg (show ¬ tq_dc v c most from fun h => k2 h.2.2)]
  · rw [decide_eq_false k, if_pos (show bI false = (0 : Int32) from rfl), if_neg (show ¬ tq_dc v c most from fun h => k ⟨h.1, h.2.1⟩)]
theorem tq_g0 (M : MS) (k : Int32) : mX8_goes M 0 k = some (0, M) := by
  unfold mX8_goes mX8_goes_13 mX8_goes_29
  rw [if_pos rfl, if_pos rfl, if_pos bz_0, sG_id, sG_id]
theorem tq_g1 (M : MS) (k : Int32) : mX8_goes M 1 k = some (1, sG (sG M 14 k) 18 0) := by
  unfold mX8_goes mX8_goes_13 mX8_goes_29
  rw [if_neg (by decide), if_neg (by decide), if_pos bz_1]
theorem tq_ce {s : Rs} {M : MS} (ok : tq_ok s) (h : tq_M s M) : mX8_canEnd M = some (bI (tq_wh s)) := by
  obtain ⟨st, l, f, o, p, pe, d⟩ := s
  obtain ⟨h14, h2, h3, h4, h5, h6, h7, h8⟩ := h
  unfold tq_ok tq_ok7 tq_two at ok
  dsimp only at *
  have no : ¬ (st = 7 ∨ (st = 4 ∧ 0 < p) ∨ (st = 6 ∧ 0 < d)) → bI (tq_wh (st, l, f, o, p, pe, d)) = 0 := fun hn => by
    rw [show tq_wh (st, l, f, o, p, pe, d) = false from decide_eq_false hn]; rfl
  have ye : (st = 7 ∨ (st = 4 ∧ 0 < p) ∨ (st = 6 ∧ 0 < d)) → bI (tq_wh (st, l, f, o, p, pe, d)) = 1 := fun hy => by
    rw [show tq_wh (st, l, f, o, p, pe, d) = true from decide_eq_true hy]; rfl
  unfold mX8_canEnd mX8_canEnd_26 mX8_canEnd_33
  rw [h14]
  by_cases k7 : st = 7
  · rw [if_pos (show nI st = (7 : Int32) from congrArg nI k7), ye (Or.inl k7)]
  · rw [if_neg (show ¬ nI st = (7 : Int32) from tq_z (by omega) (by decide) k7)]
    by_cases k4 : st = 4
    · rw [if_pos (show nI st = (4 : Int32) from congrArg nI k4), h6 k4]
      by_cases hp : 0 < p
      · rw [if_neg (nI_nle hp (by omega)), ye (Or.inr (Or.inl ⟨k4, hp⟩))]
      · rw [if_pos (show nI p ≤ (0 : Int32) from nI_le (by omega : p ≤ 0) (by decide)), no (by omega)]
    · rw [if_neg (show ¬ nI st = (4 : Int32) from tq_z (by omega) (by decide) k4)]
      by_cases k6 : st = 6
      · rw [if_pos (show nI st = (6 : Int32) from congrArg nI k6), (h8 k6).2.2]
        by_cases hp : 0 < d
        · rw [if_neg (nI_nle hp (by omega)), ye (Or.inr (Or.inr ⟨k6, hp⟩))]
        · rw [if_pos (show nI d ≤ (0 : Int32) from nI_le (by omega : d ≤ 0) (by decide)), no (by omega)]
      · rw [if_neg (show ¬ nI st = (6 : Int32) from tq_z (by omega) (by decide) k6), no (by omega)]
/-- six cells of the row, written one behind the other -/
def tq_w6 (f : Nat → Int32) (k : Nat) (x : It) : Nat → Int32 := upd (upd (upd (upd (upd (upd f (6 * k) (nI x.1)) (6 * k + 1) (nI x.2.1)) (6 * k + 2) (oI x.2.2.1)) (6 * k + 3) (nI x.2.2.2.1)) (6 * k + 4) (nI x.2.2.2.2.1)) (6 * k + 5) (nI x.2.2.2.2.2)
theorem tq_w6_in (f : Nat → Int32) (k : Nat) (x : It) : ∀ j, j < 6 → tq_w6 f k x (6 * k + j) = tq_i6 x j := by
  intro j hj
  unfold tq_w6
  rcases (by omega : j = 0 ∨ j = 1 ∨ j = 2 ∨ j = 3 ∨ j = 4 ∨ j = 5) with rfl | rfl | rfl | rfl | rfl | rfl
  · rw [pk_un (by omega), pk_un (by omega), pk_un (by omega), pk_un (by omega), pk_un (by omega)]; exact pk_us
  · rw [pk_un (by omega), pk_un (by omega), pk_un (by omega), pk_un (by omega)]; exact pk_us
  · rw [pk_un (by omega), pk_un (by omega), pk_un (by omega)]; exact pk_us
  · rw [pk_un (by omega), pk_un (by omega)]; exact pk_us
  · rw [pk_un (by omega)]; exact pk_us
  · exact pk_us
theorem tq_w6_out (f : Nat → Int32) (k : Nat) (x : It) {i : Nat} (h : i < 6 * k) : tq_w6 f k x i = f i := by
  unfold tq_w6
  rw [pk_un (by omega), pk_un (by omega), pk_un (by omega), pk_un (by omega), pk_un (by omega), pk_un (by omega)]
theorem tq_e68 {MA : MS} {k st : Nat} {X Y Z : Int32} (hk : k < 25) (hst : st < 2 ^ 31) (h14 : MA.1 14 = nI st) (hY : Y = if st = 6 then MA.1 20 else 1) (hZ : Z = if st = 6 then MA.1 18 else 1) : mX8_endItem_68 MA (nI (6 * k)) X (nI (6 * k) + 3) = some (sG (sG (sB (sB (sB MA 29 (6 * k + 3) X) 29 (6 * k + 4) Y) 29 (6 * k + 5) Z) 21 (MA.1 21 + 1)) 14 0) := by
  have e3 : nI (6 * k) + (3 : Int32) = nI (6 * k + 3) := nI_add _ 3
  have e4 : nI (6 * k) + (4 : Int32) = nI (6 * k + 4) := nI_add _ 4
  have e5 : nI (6 * k) + (5 : Int32) = nI (6 * k + 5) := nI_add _ 5
  unfold mX8_endItem_68
  rw [e3, e4, if_pos (inb_n (by omega) (by decide)), nI_clamp (by omega)]
  show (if MA.1 14 = (6 : Int32) then mX8_endItem_93 _ _ (MA.1 20) _ else _) = _
  rw [h14]
  by_cases h6 : st = 6
  · rw [if_pos (show nI st = (6 : Int32) from congrArg nI h6)]
    rw [if_pos h6] at hY hZ
    unfold mX8_endItem_93
    rw [if_pos (inb_n (by omega) (by decide)), nI_clamp (by omega), e5]
    show (if MA.1 14 = (6 : Int32) then mX8_endItem_118 _ (MA.1 18) _ else _) = _
    rw [h14, if_pos (show nI st = (6 : Int32) from congrArg nI h6)]
    unfold mX8_endItem_118
    rw [if_pos (inb_n (by omega) (by decide)), nI_clamp (by omega), hY, hZ]
    rfl
  · rw [if_neg (show ¬ nI st = (6 : Int32) from tq_z hst (by decide) h6)]
    rw [if_neg h6] at hY hZ
    unfold mX8_endItem_93
    rw [if_pos (inb_n (by omega) (by decide)), nI_clamp (by omega), e5]
    show (if MA.1 14 = (6 : Int32) then _ else mX8_endItem_118 _ (1 : Int32) _) = _
    rw [h14, if_neg (show ¬ nI st = (6 : Int32) from tq_z hst (by decide) h6)]
    unfold mX8_endItem_118
    rw [if_pos (inb_n (by omega) (by decide)), nI_clamp (by omega), hY, hZ]
    rfl
theorem tq_end {s : Rs} {M : MS} {its : List It} (ok : tq_ok s) (h : tq_M s M) (hi : tq_It its M) (hl : its.length < 25) (w : tq_wh s = true) : R1 (mX8_endItem M) (fun M' => Kt M M' ∧ M'.1 14 = 0 ∧ tq_It (its ++ [s.2]) M') := by
  obtain ⟨st, l, f, o, p, pe, d⟩ := s
  obtain ⟨h14, h2, h3, h4, h5, h6, h7, h8⟩ := h
  rw [tq_whd] at w
  unfold tq_ok tq_ok7 tq_two at ok
  dsimp only at h14 h2 h3 h4 h5 h6 h7 h8 w ok
  obtain ⟨a15, a17⟩ := h2 (by omega)
  have a16 := h3 (by omega) (by omega)
  have e0 : (6 : Int32) * nI its.length = nI (6 * its.length) := pk_mul 6 _
  have e1 : nI (6 * its.length) + (1 : Int32) = nI (6 * its.length + 1) := nI_add _ 1
  have e2 : nI (6 * its.length) + (2 : Int32) = nI (6 * its.length + 2) := nI_add _ 2
  unfold mX8_endItem
  rw [hi.1, e0, e1, e2, if_pos (inb_n (by omega) (by decide)), if_pos (inb_n (by omega) (by decide)), if_pos (inb_n (by omega) (by decide)), nI_clamp (by omega), nI_clamp (by omega), nI_clamp (by omega)]
  have key : ∀ X : Int32, X = nI p → R1 (mX8_endItem_68 (sB (sB (sB M 29 (6 * its.length) (M.1 15)) 29 (6 * its.length + 1) (M.1 16)) 29 (6 * its.length + 2) (M.1 17)) (nI (6 * its.length)) X (nI (6 * its.length) + 3)) (fun M' => Kt M M' ∧ M'.1 14 = 0 ∧ tq_It (its ++ [(l, f, o, p, pe, d)]) M') := by
    intro X hX
    refine R1.of (tq_e68 (st := st) (Y := nI pe) (Z := nI d) hl (by omega) h14 ?_ ?_) ⟨?_, rfl, ?_, ?_⟩
    · by_cases k6 : st = 6
      · rw [if_pos k6]; exact (h8 k6).2.1.symm
      · rw [if_neg k6, show pe = 1 by omega]; rfl
    · by_cases k6 : st = 6
      · rw [if_pos k6]; exact (h8 k6).2.2.symm
      · rw [if_neg k6, show d = 1 by omega]; rfl
    · exact ((((((((Kt.rf M).sB _ _ (by decide)).sB _ _ (by decide)).sB _ _ (by decide)).sB _ _ (by decide)).sB _ _ (by decide)).sB _ _ (by decide)).sG _ (by decide)).sG _ (by decide)
    · show M.1 21 + 1 = nI (its ++ [(l, f, o, p, pe, d)]).length
      rw [hi.1, List.length_append]; exact nI_1 _
    · intro k x hx j hj
      have er : (sG (sG (sB (sB (sB (sB (sB (sB M 29 (6 * its.length) (M.1 15)) 29 (6 * its.length + 1) (M.1 16)) 29 (6 * its.length + 2) (M.1 17)) 29 (6 * its.length + 3) X) 29 (6 * its.length + 4) (nI pe)) 29 (6 * its.length + 5) (nI d)) 21 (M.1 21 + 1)) 14 0).2.1 29 = tq_w6 (M.2.1 29) its.length (l, f, o, p, pe, d) := by
        show (sB (sB (sB (sB (sB (sB M 29 (6 * its.length) (M.1 15)) 29 (6 * its.length + 1) (M.1 16)) 29 (6 * its.length + 2) (M.1 17)) 29 (6 * its.length + 3) X) 29 (6 * its.length + 4) (nI pe)) 29 (6 * its.length + 5) (nI d)).2.1 29 = _
        rw [sB_r, sB_r, sB_r, sB_r, sB_r, sB_r, a15, a16, a17, hX]
        rfl
      have e21 : (sB (sB (sB M 29 (6 * its.length) (M.1 15)) 29 (6 * its.length + 1) (M.1 16)) 29 (6 * its.length + 2) (M.1 17)).1 21 = M.1 21 := rfl
      rw [e21, er]
      by_cases hk : k < its.length
      · rw [List.getElem?_append_left hk] at hx
        rw [tq_w6_out _ _ _ (by omega)]
        exact hi.2 k x hx j hj
      · rw [List.getElem?_append_right (by omega)] at hx
        have hk2 : k = its.length := by
          rcases Nat.lt_or_ge its.length k with c | c
          · rw [List.getElem?_eq_none (by simp; omega)] at hx; cases hx
          · omega
        subst hk2
        rw [Nat.sub_self] at hx
        have hx2 : (l, f, o, p, pe, d) = x := Option.some.inj hx
        rw [← hx2]
        exact tq_w6_in _ _ _ j hj
  show R1 (if M.1 14 = (4 : Int32) then mX8_endItem_68 _ _ (M.1 18) _ else mX8_endItem_68 _ _ (M.1 19) _) _
  rw [h14]
  by_cases k4 : st = 4
  · rw [if_pos (show nI st = (4 : Int32) from congrArg nI k4)]
    exact key _ (h6 k4)
  · rw [if_neg (show ¬ nI st = (4 : Int32) from tq_z (by omega) (by decide) k4)]
    refine key _ ?_
    by_cases k7 : st = 7
    · rw [h4 (by omega), show p = 0 by omega]; rfl
    · exact (h8 (by omega)).1
