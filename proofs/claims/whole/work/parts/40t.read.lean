/-! the reader of texts: one character, on both sides -/
/-- what is being read: state, letter (0: none yet), first, 0 or 1 + second, place, period, duration -/
abbrev Rs : Type := Nat × Nat × Nat × Nat × Nat × Nat × Nat
abbrev It : Type := Nat × Nat × Nat × Nat × Nat × Nat
def tq_wh (s : Rs) : Bool := decide (s.1 = 7 ∨ (s.1 = 4 ∧ 0 < s.2.2.2.2.1) ∨ (s.1 = 6 ∧ 0 < s.2.2.2.2.2.2))
abbrev tq_dc (v c most : Nat) : Prop := 48 ≤ c ∧ c ≤ 57 ∧ 1 ≤ 10 * v + (c - 48) ∧ 10 * v + (c - 48) ≤ most
def tq_r0 (s : Rs) (c : Nat) : Option Rs :=
  if s.1 = 0 then (if c = 99 ∨ c = 115 ∨ c = 110 ∨ c = 102 then some (1, c, 0, 0, 0, 1, 1) else none)
  else if s.1 = 1 then (if 48 ≤ c ∧ c < 56 then (if s.2.1 = 99 then some (3, s.2.1, c - 48, s.2.2.2) else some (2, s.2.1, c - 48, s.2.2.2)) else none)
  else if s.1 = 2 then (if 48 ≤ c ∧ c < 56 ∧ c - 48 ≠ s.2.2.1 then (if s.2.1 = 115 then some (3, s.2.1, s.2.2.1, c - 48 + 1, s.2.2.2.2) else some (7, s.2.1, s.2.2.1, c - 48 + 1, s.2.2.2.2)) else none)
  else if s.1 = 3 then (if c = 64 then some (4, s.2) else none)
  else if s.1 = 4 then (if c = 47 ∧ 0 < s.2.2.2.2.1 then some (5, s.2.1, s.2.2.1, s.2.2.2.1, s.2.2.2.2.1, 0, 0) else if tq_dc s.2.2.2.2.1 c 998 then some (4, s.2.1, s.2.2.1, s.2.2.2.1, 10 * s.2.2.2.2.1 + (c - 48), s.2.2.2.2.2) else none)
  else if s.1 = 5 then (if c = 58 ∧ 0 < s.2.2.2.2.2.1 then some (6, s.2) else if tq_dc s.2.2.2.2.2.1 c 32 then some (5, s.2.1, s.2.2.1, s.2.2.2.1, s.2.2.2.2.1, 10 * s.2.2.2.2.2.1 + (c - 48), s.2.2.2.2.2.2) else none)
  else if s.1 = 6 then (if tq_dc s.2.2.2.2.2.2 c s.2.2.2.2.2.1 then some (6, s.2.1, s.2.2.1, s.2.2.2.1, s.2.2.2.2.1, s.2.2.2.2.2.1, 10 * s.2.2.2.2.2.2 + (c - 48)) else none)
  else none
def tq_rd (s : Rs) (c : Nat) : Option Rs := if c = 59 then (if tq_wh s = true then some (0, s.2) else none) else tq_r0 s c
def tq_two (l f o : Nat) : Prop := f < 8 ∧ ((l = 99 ∧ o = 0) ∨ (l = 115 ∧ 1 ≤ o ∧ o ≤ 8 ∧ o ≠ f + 1))
def tq_ok7 (st l f o p pe d : Nat) : Prop := (l = 0 → st = 0) ∧ (st = 1 → (l = 99 ∨ l = 115 ∨ l = 110 ∨ l = 102) ∧ o = 0 ∧ p = 0 ∧ pe = 1 ∧ d = 1) ∧ (st = 2 → (l = 115 ∨ l = 110 ∨ l = 102) ∧ f < 8 ∧ o = 0 ∧ p = 0 ∧ pe = 1 ∧ d = 1) ∧ (st = 3 → tq_two l f o ∧ p = 0 ∧ pe = 1 ∧ d = 1) ∧ (st = 4 → tq_two l f o ∧ p ≤ 998 ∧ pe = 1 ∧ d = 1) ∧ (st = 5 → tq_two l f o ∧ 1 ≤ p ∧ p ≤ 998 ∧ pe ≤ 32 ∧ d = 0) ∧ (st = 6 → tq_two l f o ∧ 1 ≤ p ∧ p ≤ 998 ∧ 1 ≤ pe ∧ pe ≤ 32 ∧ d ≤ pe) ∧ (st = 7 → (l = 110 ∨ l = 102) ∧ f < 8 ∧ 1 ≤ o ∧ o ≤ 8 ∧ o ≠ f + 1 ∧ p = 0 ∧ pe = 1 ∧ d = 1) ∧ st ≤ 7
def tq_ok (s : Rs) : Prop := tq_ok7 s.1 s.2.1 s.2.2.1 s.2.2.2.1 s.2.2.2.2.1 s.2.2.2.2.2.1 s.2.2.2.2.2.2
def tq_iv6 (l f o p pe d : Nat) : Prop := f < 8 ∧ ((((l = 99 ∧ o = 0) ∨ (l = 115 ∧ 1 ≤ o ∧ o ≤ 8 ∧ o ≠ f + 1)) ∧ 1 ≤ p ∧ p ≤ 998 ∧ 1 ≤ pe ∧ pe ≤ 32 ∧ 1 ≤ d ∧ d ≤ pe) ∨ ((l = 110 ∨ l = 102) ∧ 1 ≤ o ∧ o ≤ 8 ∧ o ≠ f + 1))
def tq_iv (i : It) : Prop := tq_iv6 i.1 i.2.1 i.2.2.1 i.2.2.2.1 i.2.2.2.2.1 i.2.2.2.2.2
theorem tq_whd {s : Rs} : tq_wh s = true ↔ (s.1 = 7 ∨ (s.1 = 4 ∧ 0 < s.2.2.2.2.1) ∨ (s.1 = 6 ∧ 0 < s.2.2.2.2.2.2)) := decide_eq_true_iff
theorem tq_wh_iv {s : Rs} (h : tq_ok s) (w : tq_wh s = true) : tq_iv s.2 := by
  obtain ⟨st, l, f, o, p, pe, d⟩ := s
  rw [tq_whd] at w
  unfold tq_ok tq_ok7 tq_two at h
  unfold tq_iv tq_iv6
  dsimp only at *
  omega
theorem tq_rd_ok {s s' : Rs} {c : Nat} (h : tq_ok s) (e : tq_rd s c = some s') : tq_ok s' := by
  obtain ⟨st, l, f, o, p, pe, d⟩ := s
  unfold tq_rd tq_r0 at e
  unfold tq_ok tq_ok7 tq_two at h
  dsimp only at e h
  repeat' split at e
  all_goals cases e
  all_goals (unfold tq_ok tq_ok7 tq_two; dsimp only; omega)
/-- how many characters an item has at least -/
def tq_wt (st : Nat) : Nat := if st = 0 then 0 else if st = 1 then 1 else if st = 2 then 2 else if st = 3 then 2 else 3
theorem tq_wt_s (st : Nat) : (st = 0 → tq_wt st = 0) ∧ (st = 1 → tq_wt st = 1) ∧ (st = 2 → tq_wt st = 2) ∧ (st = 3 → tq_wt st = 2) ∧ (4 ≤ st → tq_wt st = 3) := by
  unfold tq_wt
  refine ⟨?_, ?_, ?_, ?_, ?_⟩
  all_goals intro h
  all_goals repeat' split
  all_goals omega
theorem tq_wt_v : tq_wt 0 = 0 ∧ tq_wt 1 = 1 ∧ tq_wt 2 = 2 ∧ tq_wt 3 = 2 ∧ tq_wt 4 = 3 ∧ tq_wt 5 = 3 ∧ tq_wt 6 = 3 ∧ tq_wt 7 = 3 := by decide
theorem tq_rd_wt {s s' : Rs} {c : Nat} (e : tq_rd s c = some s') : (c = 59 → tq_wt s.1 = 3 ∧ s'.1 = 0) ∧ (c ≠ 59 → tq_wt s'.1 ≤ tq_wt s.1 + 1) := by
  obtain ⟨st, l, f, o, p, pe, d⟩ := s
  have hs := tq_wt_s st
  have hv := tq_wt_v
  unfold tq_rd tq_r0 at e
  dsimp only at e ⊢
  by_cases h59 : c = 59
  · rw [if_pos h59] at e
    split at e
    · rename_i w
      rw [tq_whd] at w
      injection e with e
      subst e
      dsimp only at w ⊢
      exact ⟨fun _ => ⟨by omega, rfl⟩, fun h => absurd h59 h⟩
    · cases e
  · refine ⟨fun h => absurd h h59, fun _ => ?_⟩
    rw [if_neg h59] at e
    repeat' split at e
    all_goals cases e
    all_goals (dsimp only; omega)
theorem tq_z {c k : Nat} (hc : c < 2 ^ 31) (hk : k < 2 ^ 31) (h : c ≠ k) : ¬ nI c = nI k := fun e => h ((nI_eq hc hk).mp e)
theorem tq_d1 : ∀ c, c < 127 → (nI c - (48 : Int32) < 0 ↔ c < 48) := by decide +kernel
theorem tq_d2 : ∀ c, c < 127 → ((8 : Int32) ≤ nI c - (48 : Int32) ↔ 56 ≤ c) := by decide +kernel
theorem tq_d3 {c : Nat} (h : 48 ≤ c) : nI c - (48 : Int32) = nI (c - 48) := pk_sub h
theorem tq_m1 {w : Nat} (h : w < 2 ^ 31) : ¬ nI w = (-1 : Int32) := fun e => by
  have h1 := congrArg Int32.toInt e
  rw [nI_toInt h] at h1
  have h2 : (-1 : Int32).toInt = -1 := by decide
  omega
/-- all but the reader's own fields as before -/
def Kx (S S' : CS) : Prop := (∀ k, k < 12 → S'.1 k = S.1 k) ∧ S'.2 = S.2
theorem Kx.rf (S : CS) : Kx S S := ⟨fun _ _ => rfl, rfl⟩
theorem Kx.tr {S S1 S2 : CS} (h : Kx S S1) (h2 : Kx S1 S2) : Kx S S2 := ⟨fun k a => (h2.1 k a).trans (h.1 k a), h2.2.trans h.2⟩
theorem Kx.sF {S S' : CS} (h : Kx S S') {k : Nat} (v : Int32) (hk : 12 ≤ k) : Kx S (sF S' k v) := ⟨fun j hj => (sF_n S' v (by omega)).trans (h.1 j hj), h.2⟩
def tq_C (s : Rs) (S : CS) : Prop := S.1 12 = nI s.1 ∧ (s.2.1 ≠ 0 → S.1 13 = nI s.2.1 ∧ S.1 15 = oI s.2.2.2.1 ∧ S.1 16 = nI s.2.2.2.2.1 ∧ S.1 17 = nI s.2.2.2.2.2.1 ∧ S.1 18 = nI s.2.2.2.2.2.2 ∧ (s.1 ≠ 1 → S.1 14 = nI s.2.2.1))
theorem tq_fin {x : Option (Int32 × CS)} {P : Int32 × CS → Prop} (h : R1 x (fun z => bz z.1 = true ∧ P z)) : R1 (bm x fun r S' => if bz r then some (r, S') else none) P := by
  obtain ⟨⟨r, S'⟩, rfl, hb, hp⟩ := h
  show R1 (if bz r = true then some (r, S') else none) P
  rw [if_pos hb]
  exact R1.ret hp
theorem tq_if {S : CS} {l : Nat} (hl : l < 2 ^ 31) (h : S.1 13 = nI l) : mX6_itemIsFault S = some (bI (decide (l = 99 ∨ l = 115))) := by
  unfold mX6_itemIsFault mX6_itemIsFault_18
  rw [h]
  by_cases h1 : l = 99
  · rw [if_pos (show nI l = (99 : Int32) from congrArg nI h1), decide_eq_true (Or.inl h1)]; rfl
  · rw [if_neg (show ¬ nI l = (99 : Int32) from tq_z hl (by decide) h1)]
    by_cases h2 : l = 115
    · rw [if_pos (show nI l = (115 : Int32) from congrArg nI h2), decide_eq_true (Or.inr h2)]; rfl
    · rw [if_neg (show ¬ nI l = (115 : Int32) from tq_z hl (by decide) h2), decide_eq_false (by omega)]; rfl
theorem tq_rl {S : CS} {c : Nat} (hc : c < 127) : mX6_readLetter S (nI c) = some (bI (decide (c = 99 ∨ c = 115 ∨ c = 110 ∨ c = 102)), sF (sF (sF (sF (sF (sF S 13 (nI c)) 15 (-1)) 16 0) 17 1) 18 1) 12 1) := by
  unfold mX6_readLetter
  rw [bn_eq (tq_if (l := c) (by omega) rfl)]
  show (if bI (decide (c = 99 ∨ c = 115)) = (0 : Int32) then (if nI c = (110 : Int32) then mX6_readLetter_55 _ else (if nI c = (102 : Int32) then mX6_readLetter_55 _ else some ((0 : Int32), _))) else mX6_readLetter_55 _) = _
  unfold mX6_readLetter_55
  by_cases h1 : c = 99 ∨ c = 115
  · rw [decide_eq_true h1, if_neg (by decide), decide_eq_true (by omega)]; rfl
  · rw [decide_eq_false h1, if_pos (by decide)]
    by_cases h2 : c = 110
    · rw [if_pos (show nI c = (110 : Int32) from congrArg nI h2), decide_eq_true (by omega)]; rfl
    · rw [if_neg (show ¬ nI c = (110 : Int32) from tq_z (by omega) (by decide) h2)]
      by_cases h3 : c = 102
      · rw [if_pos (show nI c = (102 : Int32) from congrArg nI h3), decide_eq_true (by omega)]; rfl
      · rw [if_neg (show ¬ nI c = (102 : Int32) from tq_z (by omega) (by decide) h3), decide_eq_false (by omega)]; rfl
theorem tq_rf {S : CS} {c l : Nat} (hc : c < 127) (hl : l < 2 ^ 31) (h : S.1 13 = nI l) : mX6_readFirst S (nI c) = some (bI (decide (48 ≤ c ∧ c < 56)), sF (sF S 14 (nI c - 48)) 12 (nI (if l = 99 then 3 else 2))) := by
  have key : ∀ t : Int32, mX6_readFirst_23 (sF S 14 (nI c - 48)) t = some (bI (decide (48 ≤ c ∧ c < 56)), sF (sF S 14 (nI c - 48)) 12 t) := by
    intro t
    unfold mX6_readFirst_23
    show (if nI c - (48 : Int32) < (0 : Int32) then some ((0 : Int32), _) else (if (8 : Int32) ≤ nI c - (48 : Int32) then some ((0 : Int32), _) else some ((1 : Int32), _))) = _
    by_cases h1 : c < 48
    · rw [if_pos ((tq_d1 c hc).mpr h1), decide_eq_false (by omega)]; rfl
    · rw [if_neg (fun e => h1 ((tq_d1 c hc).mp e))]
      by_cases h2 : 56 ≤ c
      · rw [if_pos ((tq_d2 c hc).mpr h2), decide_eq_false (by omega)]; rfl
      · rw [if_neg (fun e => h2 ((tq_d2 c hc).mp e)), decide_eq_true (by omega)]; rfl
  unfold mX6_readFirst
  have e13 : (sF S 14 (nI c - (48 : Int32))).1 13 = nI l := h
  rw [e13]
  by_cases h1 : l = 99
  · rw [if_pos (show nI l = (99 : Int32) from congrArg nI h1), if_pos h1]; exact key 3
  · rw [if_neg (show ¬ nI l = (99 : Int32) from tq_z hl (by decide) h1), if_neg h1]; exact key 2
theorem tq_rs {S : CS} {c l f : Nat} (hc : c < 127) (hl : l < 2 ^ 31) (hf : f < 2 ^ 31) (h : S.1 13 = nI l) (h4 : S.1 14 = nI f) : mX6_readSecond S (nI c) = some (bI (decide (48 ≤ c ∧ c < 56 ∧ c - 48 ≠ f)), sF (sF S 15 (nI c - 48)) 12 (nI (if l = 115 then 3 else 7))) := by
  have key : ∀ t : Int32, mX6_readSecond_24 (sF S 15 (nI c - 48)) t = some (bI (decide (48 ≤ c ∧ c < 56 ∧ c - 48 ≠ f)), sF (sF S 15 (nI c - 48)) 12 t) := by
    intro t
    unfold mX6_readSecond_24
    show (if nI c - (48 : Int32) < (0 : Int32) then some ((0 : Int32), _) else (if (8 : Int32) ≤ nI c - (48 : Int32) then some ((0 : Int32), _) else (if nI c - (48 : Int32) = S.1 14 then some ((0 : Int32), _) else some ((1 : Int32), _)))) = _
    by_cases h1 : c < 48
    · rw [if_pos ((tq_d1 c hc).mpr h1), decide_eq_false (by omega)]; rfl
    · rw [if_neg (fun e => h1 ((tq_d1 c hc).mp e))]
      by_cases h2 : 56 ≤ c
      · rw [if_pos ((tq_d2 c hc).mpr h2), decide_eq_false (by omega)]; rfl
      · rw [if_neg (fun e => h2 ((tq_d2 c hc).mp e)), h4, tq_d3 (by omega)]
        by_cases h3 : c - 48 = f
        · rw [if_pos (congrArg nI h3), decide_eq_false (by omega)]; rfl
        · rw [if_neg (tq_z (by omega) hf h3), decide_eq_true (by omega)]; rfl
  unfold mX6_readSecond
  have e13 : (sF S 15 (nI c - (48 : Int32))).1 13 = nI l := h
  rw [e13]
  by_cases h1 : l = 115
  · rw [if_pos (show nI l = (115 : Int32) from congrArg nI h1), if_pos h1]; exact key 3
  · rw [if_neg (show ¬ nI l = (115 : Int32) from tq_z hl (by decide) h1), if_neg h1]; exact key 7
theorem tq_ln {v c most : Nat} (hv : v ≤ 998) (hm : most ≤ 998) (hc : c < 127) : mX6_longerNumber (nI v) (nI c) (nI most) = some (if tq_dc v c most then nI (10 * v + (c - 48)) else -1) := by
  unfold mX6_longerNumber
  by_cases h1 : c < 48
  · rw [if_pos (show nI c < (48 : Int32) from nI_lt h1 (by decide)), if_neg (by omega)]
  · rw [if_neg (show ¬ nI c < (48 : Int32) from nI_nlt (b := 48) (by omega) (by omega))]
    by_cases h2 : c ≤ 57
    · have e : (((10 : Int32) * nI v) + nI c) - (48 : Int32) = nI (10 * v + (c - 48)) := by
        rw [show (10 : Int32) = nI 10 from rfl, pk_mul, nI_add, show (48 : Int32) = nI 48 from rfl, pk_sub (by omega), Nat.add_sub_assoc (by omega)]
      rw [if_pos (show nI c ≤ (57 : Int32) from nI_le h2 (by decide)), e]
      by_cases h3 : 10 * v + (c - 48) < 1
      · rw [if_pos (show nI (10 * v + (c - 48)) < (1 : Int32) from nI_lt h3 (by decide)), if_neg (by omega)]
      · rw [if_neg (show ¬ nI (10 * v + (c - 48)) < (1 : Int32) from nI_nlt (b := 1) (by omega) (by omega))]
        by_cases h4 : most < 10 * v + (c - 48)
        · rw [if_pos (nI_lt h4 (by omega)), if_neg (by omega)]
        · rw [if_neg (nI_nlt (by omega) (by omega)), if_pos (by omega)]
    · rw [if_neg (show ¬ nI c ≤ (57 : Int32) from nI_ge (a := 57) (by omega) (by omega)), if_neg (by omega)]
theorem tq_rp {S : CS} {c p : Nat} (hc : c < 127) (hp : p ≤ 998) (h : S.1 16 = nI p) : mX6_readPlace S (nI c) = if c = 47 ∧ 0 < p then some (1, sF (sF (sF S 12 5) 17 0) 18 0) else if tq_dc p c 998 then some (1, sF S 16 (nI (10 * p + (c - 48)))) else some (0, sF S 16 (-1)) := by
  have key : mX6_readPlace_30 S (nI c) = if tq_dc p c 998 then some (1, sF S 16 (nI (10 * p + (c - 48)))) else some (0, sF S 16 (-1)) := by
    unfold mX6_readPlace_30
    rw [h, bn_eq (show mX6_longerNumber (nI p) (nI c) (998 : Int32) = _ from tq_ln hp (by decide) hc)]
    show (if (if tq_dc p c 998 then nI (10 * p + (c - 48)) else (-1 : Int32)) = (-1 : Int32) then _ else _) = _
    by_cases hd : tq_dc p c 998
    · rw [if_pos hd, if_pos hd, if_neg (tq_m1 (by omega))]
    · rw [if_neg hd, if_neg hd, if_pos rfl]
  unfold mX6_readPlace
  rw [key, h]
  by_cases h1 : c = 47
  · rw [if_pos (show nI c = (47 : Int32) from congrArg nI h1)]
    by_cases h2 : 0 < p
    · rw [if_neg (nI_nle h2 (by omega)), if_pos ⟨h1, h2⟩]
    · rw [if_pos (show nI p ≤ (0 : Int32) from nI_le (by omega : p ≤ 0) (by decide)), if_neg (show ¬ (c = 47 ∧ 0 < p) from fun h => h2 h.2)]
  · rw [if_neg (show ¬ nI c = (47 : Int32) from tq_z (by omega) (by decide) h1), if_neg (show ¬ (c = 47 ∧ 0 < p) from fun h => h1 h.1)]
theorem tq_re {S : CS} {c p : Nat} (hc : c < 127) (hp : p ≤ 32) (h : S.1 17 = nI p) : mX6_readPeriod S (nI c) = if c = 58 ∧ 0 < p then some (1, sF S 12 6) else if tq_dc p c 32 then some (1, sF S 17 (nI (10 * p + (c - 48)))) else some (0, sF S 17 (-1)) := by
  have key : mX6_readPeriod_21 S (nI c) = if tq_dc p c 32 then some (1, sF S 17 (nI (10 * p + (c - 48)))) else some (0, sF S 17 (-1)) := by
    unfold mX6_readPeriod_21
    rw [h, bn_eq (show mX6_longerNumber (nI p) (nI c) (32 : Int32) = _ from tq_ln (by omega) (by decide) hc)]
    show (if (if tq_dc p c 32 then nI (10 * p + (c - 48)) else (-1 : Int32)) = (-1 : Int32) then _ else _) = _
    by_cases hd : tq_dc p c 32
    · rw [if_pos hd, if_pos hd, if_neg (tq_m1 (by omega))]
    · rw [if_neg hd, if_neg hd, if_pos rfl]
  unfold mX6_readPeriod
  rw [key, h]
  by_cases h1 : c = 58
  · rw [if_pos (show nI c = (58 : Int32) from congrArg nI h1)]
    by_cases h2 : 0 < p
    · rw [if_neg (nI_nle h2 (by omega)), if_pos ⟨h1, h2⟩]
    · rw [if_pos (show nI p ≤ (0 : Int32) from nI_le (by omega : p ≤ 0) (by decide)), if_neg (show ¬ (c = 58 ∧ 0 < p) from fun h => h2 h.2)]
  · rw [if_neg (show ¬ nI c = (58 : Int32) from tq_z (by omega) (by decide) h1), if_neg (show ¬ (c = 58 ∧ 0 < p) from fun h => h1 h.1)]
theorem tq_ru {S : CS} {c p d : Nat} (hc : c < 127) (hp : p ≤ 32) (hd : d ≤ p) (h : S.1 17 = nI p) (h8 : S.1 18 = nI d) : mX6_readDuration S (nI c) = if tq_dc d c p then some (1, sF S 18 (nI (10 * d + (c - 48)))) else some (0, sF S 18 (-1)) := by
  unfold mX6_readDuration
  rw [h, h8, bn_eq (tq_ln (by omega) (by omega) hc)]
  show (if (if tq_dc d c p then nI (10 * d + (c - 48)) else (-1 : Int32)) = (-1 : Int32) then _ else _) = _
  by_cases hd : tq_dc d c p
  · rw [if_pos hd, if_pos hd, if_neg (tq_m1 (by omega))]
  · rw [if_neg hd, if_neg hd, if_pos rfl]
theorem tq_iw {s : Rs} {S : CS} (ok : tq_ok s) (h : tq_C s S) : mX6_isItemWhole S = some (bI (tq_wh s)) := by
  obtain ⟨st, l, f, o, p, pe, d⟩ := s
  obtain ⟨h12, hF⟩ := h
  unfold tq_ok tq_ok7 tq_two at ok
  dsimp only at *
  unfold mX6_isItemWhole mX6_isItemWhole_24 mX6_isItemWhole_40
  rw [h12]
  have no : ∀ x : Bool, ¬ (st = 7 ∨ (st = 4 ∧ 0 < p) ∨ (st = 6 ∧ 0 < d)) → bI (tq_wh (st, l, f, o, p, pe, d)) = 0 := fun _ hn => by
    rw [show tq_wh (st, l, f, o, p, pe, d) = false from decide_eq_false hn]; rfl
  have ye : (st = 7 ∨ (st = 4 ∧ 0 < p) ∨ (st = 6 ∧ 0 < d)) → bI (tq_wh (st, l, f, o, p, pe, d)) = 1 := fun hy => by
    rw [show tq_wh (st, l, f, o, p, pe, d) = true from decide_eq_true hy]; rfl
  by_cases h7 : st = 7
  · rw [if_pos (show nI st = (7 : Int32) from congrArg nI h7), ye (Or.inl h7)]
  · rw [if_neg (show ¬ nI st = (7 : Int32) from tq_z (by omega) (by decide) h7)]
    by_cases h6 : st = 6
    · have hl : l ≠ 0 := by omega
      rw [if_neg (show ¬ nI st = (4 : Int32) from tq_z (k := 4) (by omega) (by decide) (by omega)), if_pos (show nI st = (6 : Int32) from congrArg nI h6), (hF hl).2.2.2.2.1]
      by_cases hd : 0 < d
      · rw [if_neg (nI_nle hd (by omega)), ye (Or.inr (Or.inr ⟨h6, hd⟩))]
      · rw [if_pos (show nI d ≤ (0 : Int32) from nI_le (by omega : d ≤ 0) (by decide)), no true (by omega)]
    · rw [if_neg (show ¬ nI st = (6 : Int32) from tq_z (by omega) (by decide) h6)]
      by_cases h4 : st = 4
      · have hl : l ≠ 0 := by omega
        rw [if_pos (show nI st = (4 : Int32) from congrArg nI h4), (hF hl).2.2.1]
        by_cases hp : 0 < p
        · rw [if_pos (show (0 : Int32) < nI p from nI_lt hp (by omega)), ye (Or.inr (Or.inl ⟨h4, hp⟩))]
        · rw [if_neg (show ¬ (0 : Int32) < nI p from nI_nlt (a := 0) (by omega : p ≤ 0) (by decide)), no true (by omega)]
      · rw [if_neg (show ¬ nI st = (4 : Int32) from tq_z (by omega) (by decide) h4), no true (by omega)]
theorem tq_r59 (s : Rs) : tq_r0 s 59 = none := by
  obtain ⟨st, l, f, o, p, pe, d⟩ := s
  unfold tq_r0
  dsimp only
  repeat' split
  all_goals first
    | rfl
    | (exfalso; omega)
theorem tq_rd_w {s : Rs} {c : Nat} (h : c = 59) (w : tq_wh s = true) : tq_rd s c = some (0, s.2) := by unfold tq_rd; rw [if_pos h, if_pos w]
theorem tq_rd_n {s : Rs} {c : Nat} (h : c = 59) (w : ¬ tq_wh s = true) : tq_rd s c = none := by unfold tq_rd; rw [if_pos h, if_neg w]
theorem tq_rd_0 {s : Rs} {c : Nat} (h : c ≠ 59) : tq_rd s c = tq_r0 s c := by unfold tq_rd; rw [if_neg h]
theorem tq_r_0 {r : It} {c : Nat} : tq_r0 (0, r) c = if c = 99 ∨ c = 115 ∨ c = 110 ∨ c = 102 then some (1, c, 0, 0, 0, 1, 1) else none := rfl
theorem tq_r_1 {l f o p pe d c : Nat} : tq_r0 (1, l, f, o, p, pe, d) c = if 48 ≤ c ∧ c < 56 then (if l = 99 then some (3, l, c - 48, o, p, pe, d) else some (2, l, c - 48, o, p, pe, d)) else none := rfl
theorem tq_r_2 {l f o p pe d c : Nat} : tq_r0 (2, l, f, o, p, pe, d) c = if 48 ≤ c ∧ c < 56 ∧ c - 48 ≠ f then (if l = 115 then some (3, l, f, c - 48 + 1, p, pe, d) else some (7, l, f, c - 48 + 1, p, pe, d)) else none := rfl
theorem tq_r_3 {r : It} {c : Nat} : tq_r0 (3, r) c = if c = 64 then some (4, r) else none := rfl
theorem tq_r_4 {l f o p pe d c : Nat} : tq_r0 (4, l, f, o, p, pe, d) c = if c = 47 ∧ 0 < p then some (5, l, f, o, p, 0, 0) else if tq_dc p c 998 then some (4, l, f, o, 10 * p + (c - 48), pe, d) else none := rfl
theorem tq_r_5 {l f o p pe d c : Nat} : tq_r0 (5, l, f, o, p, pe, d) c = if c = 58 ∧ 0 < pe then some (6, l, f, o, p, pe, d) else if tq_dc pe c 32 then some (5, l, f, o, p, 10 * pe + (c - 48), d) else none := rfl
theorem tq_r_6 {l f o p pe d c : Nat} : tq_r0 (6, l, f, o, p, pe, d) c = if tq_dc d c pe then some (6, l, f, o, p, pe, 10 * d + (c - 48)) else none := rfl
theorem tq_r_7 {r : It} {c : Nat} : tq_r0 (7, r) c = none := rfl
theorem oI_0 : oI 0 = (-1 : Int32) := by decide +kernel
theorem tq_rsg (S : CS) {c : Nat} (hc : c < 127) : mX6_readSign S (nI c) = some (bI (decide (c = 64)), sF S 12 4) := by
  unfold mX6_readSign
  by_cases h : c = 64
  · rw [if_pos (show nI c = (64 : Int32) from congrArg nI h), decide_eq_true h]; rfl
  · rw [if_neg (show ¬ nI c = (64 : Int32) from tq_z (by omega) (by decide) h), decide_eq_false h]; rfl
def tq_PC (S : CS) (s : Rs) (c : Nat) (z : Int32 × CS) : Prop := Kx S z.2 ∧ ((∃ s', tq_rd s c = some s' ∧ z.1 = 1 ∧ tq_C s' z.2) ∨ (tq_rd s c = none ∧ z.1 = 0))
theorem tq_read {S : CS} {s : Rs} {c : Nat} (hc : c < 127) (ok : tq_ok s) (h : tq_C s S) : R1 (mX6_read S (nI c)) (tq_PC S s c) := by
  have iw := tq_iw ok h
  obtain ⟨st, l, f, o, p, pe, d⟩ := s
  obtain ⟨h12, hF⟩ := h
  unfold tq_ok tq_ok7 tq_two at ok
  dsimp only at h12 hF ok
  unfold mX6_read
  by_cases h59 : c = 59
  · rw [if_pos (show nI c = (59 : Int32) from congrArg nI h59), bn_eq iw, if_pos (bI_z _)]
    refine R1.ret ⟨(Kx.rf S).sF _ (by decide), ?_⟩
    by_cases w : tq_wh (st, l, f, o, p, pe, d) = true
    · refine Or.inl ⟨(0, l, f, o, p, pe, d), tq_rd_w h59 w, by rw [w]; rfl, rfl, fun hl => ?_⟩
      obtain ⟨a1, a2, a3, a4, a5, a6⟩ := hF hl
      rw [tq_whd] at w
      exact ⟨a1, a2, a3, a4, a5, fun _ => a6 (by dsimp only at w; omega)⟩
    · refine Or.inr ⟨tq_rd_n h59 w, ?_⟩
      rw [Bool.eq_false_iff.mpr w]; rfl
  · rw [if_neg (show ¬ nI c = (59 : Int32) from tq_z (by omega) (by decide) h59), h12]
    have K0 := Kx.rf S
    unfold tq_PC
    rw [tq_rd_0 h59]
    rcases (by omega : st = 0 ∨ st = 1 ∨ st = 2 ∨ st = 3 ∨ st = 4 ∨ st = 5 ∨ st = 6 ∨ st = 7) with rfl | rfl | rfl | rfl | rfl | rfl | rfl | rfl
    · rw [if_pos (show nI 0 = (0 : Int32) from rfl)]
      refine tq_fin (R1.of (tq_rl hc) ⟨bI_z _, (((((K0.sF _ (by decide)).sF _ (by decide)).sF _ (by decide)).sF _ (by decide)).sF _ (by decide)).sF _ (by decide), ?_⟩)
      rw [tq_r_0]
      by_cases k : c = 99 ∨ c = 115 ∨ c = 110 ∨ c = 102
      · rw [if_pos k, decide_eq_true k]
        exact Or.inl ⟨_, rfl, rfl, rfl, fun _ => ⟨rfl, oI_0.symm, rfl, rfl, rfl, fun h => absurd rfl h⟩⟩
      · rw [if_neg k, decide_eq_false k]
        exact Or.inr ⟨rfl, rfl⟩
    · have hl : l ≠ 0 := by omega
      obtain ⟨a1, a2, a3, a4, a5, a6⟩ := hF hl
      rw [if_neg (show ¬ nI 1 = (0 : Int32) by decide), if_pos (show nI 1 = (1 : Int32) from rfl)]
      refine tq_fin (R1.of (tq_rf hc (by omega) a1) ⟨bI_z _, (K0.sF _ (by decide)).sF _ (by decide), ?_⟩)
      rw [tq_r_1]
      by_cases k : 48 ≤ c ∧ c < 56
      · rw [if_pos k, decide_eq_true k]
        by_cases h9 : l = 99
        · rw [if_pos h9, if_pos h9]
          exact Or.inl ⟨_, rfl, rfl, rfl, fun _ => ⟨a1, a2, a3, a4, a5, fun _ => tq_d3 k.1⟩⟩
        · rw [if_neg h9, if_neg h9]
          exact Or.inl ⟨_, rfl, rfl, rfl, fun _ => ⟨a1, a2, a3, a4, a5, fun _ => tq_d3 k.1⟩⟩
      · rw [if_neg k, decide_eq_false k]
        exact Or.inr ⟨rfl, rfl⟩
    · have hl : l ≠ 0 := by omega
      obtain ⟨a1, a2, a3, a4, a5, a6⟩ := hF hl
      rw [if_neg (show ¬ nI 2 = (0 : Int32) by decide), if_neg (show ¬ nI 2 = (1 : Int32) by decide), if_pos (show nI 2 = (2 : Int32) from rfl)]
      refine tq_fin (R1.of (tq_rs hc (by omega) (by omega) a1 (a6 (by decide))) ⟨bI_z _, (K0.sF _ (by decide)).sF _ (by decide), ?_⟩)
      rw [tq_r_2]
      by_cases k : 48 ≤ c ∧ c < 56 ∧ c - 48 ≠ f
      · rw [if_pos k, decide_eq_true k]
        by_cases h9 : l = 115
        · rw [if_pos h9, if_pos h9]
          exact Or.inl ⟨_, rfl, rfl, rfl, fun _ => ⟨a1, (tq_d3 k.1).trans (oI_s _).symm, a3, a4, a5, fun _ => a6 (by decide)⟩⟩
        · rw [if_neg h9, if_neg h9]
          exact Or.inl ⟨_, rfl, rfl, rfl, fun _ => ⟨a1, (tq_d3 k.1).trans (oI_s _).symm, a3, a4, a5, fun _ => a6 (by decide)⟩⟩
      · rw [if_neg k, decide_eq_false k]
        exact Or.inr ⟨rfl, rfl⟩
    · have hl : l ≠ 0 := by omega
      obtain ⟨a1, a2, a3, a4, a5, a6⟩ := hF hl
      rw [if_neg (show ¬ nI 3 = (0 : Int32) by decide), if_neg (show ¬ nI 3 = (1 : Int32) by decide), if_neg (show ¬ nI 3 = (2 : Int32) by decide), if_pos (show nI 3 = (3 : Int32) from rfl)]
      refine tq_fin (R1.of (tq_rsg S hc) ⟨bI_z _, K0.sF _ (by decide), ?_⟩)
      rw [tq_r_3]
      by_cases k : c = 64
      · rw [if_pos k, decide_eq_true k]
        exact Or.inl ⟨_, rfl, rfl, rfl, fun _ => ⟨a1, a2, a3, a4, a5, fun _ => a6 (by decide)⟩⟩
      · rw [if_neg k, decide_eq_false k]
        exact Or.inr ⟨rfl, rfl⟩
    · have hl : l ≠ 0 := by omega
      obtain ⟨a1, a2, a3, a4, a5, a6⟩ := hF hl
      rw [if_neg (show ¬ nI 4 = (0 : Int32) by decide), if_neg (show ¬ nI 4 = (1 : Int32) by decide), if_neg (show ¬ nI 4 = (2 : Int32) by decide), if_neg (show ¬ nI 4 = (3 : Int32) by decide), if_pos (show nI 4 = (4 : Int32) from rfl)]
      refine tq_fin ?_
      rw [tq_rp hc (by omega) a3, tq_r_4]
      by_cases k : c = 47 ∧ 0 < p
      · rw [if_pos k, if_pos k]
        exact R1.ret ⟨bz_1, ((K0.sF _ (by decide)).sF _ (by decide)).sF _ (by decide), Or.inl ⟨_, rfl, rfl, rfl, fun _ => ⟨a1, a2, a3, rfl, rfl, fun _ => a6 (by decide)⟩⟩⟩
      · rw [if_neg k, if_neg k]
        by_cases k2 : tq_dc p c 998
        · rw [if_pos k2, if_pos k2]
          exact R1.ret ⟨bz_1, K0.sF _ (by decide), Or.inl ⟨_, rfl, rfl, h12, fun _ => ⟨a1, a2, rfl, a4, a5, fun _ => a6 (by decide)⟩⟩⟩
        · rw [if_neg k2, if_neg k2]
          exact R1.ret ⟨bz_0, K0.sF _ (by decide), Or.inr ⟨rfl, rfl⟩⟩
    · have hl : l ≠ 0 := by omega
      obtain ⟨a1, a2, a3, a4, a5, a6⟩ := hF hl
      rw [if_neg (show ¬ nI 5 = (0 : Int32) by decide), if_neg (show ¬ nI 5 = (1 : Int32) by decide), if_neg (show ¬ nI 5 = (2 : Int32) by decide), if_neg (show ¬ nI 5 = (3 : Int32) by decide), if_neg (show ¬ nI 5 = (4 : Int32) by decide), if_pos (show nI 5 = (5 : Int32) from rfl)]
      refine tq_fin ?_
      rw [tq_re hc (by omega) a4, tq_r_5]
      by_cases k : c = 58 ∧ 0 < pe
      · rw [if_pos k, if_pos k]
        exact R1.ret ⟨bz_1, K0.sF _ (by decide), Or.inl ⟨_, rfl, rfl, rfl, fun _ => ⟨a1, a2, a3, a4, a5, fun _ => a6 (by decide)⟩⟩⟩
      · rw [if_neg k, if_neg k]
        by_cases k2 : tq_dc pe c 32
        · rw [if_pos k2, if_pos k2]
          exact R1.ret ⟨bz_1, K0.sF _ (by decide), Or.inl ⟨_, rfl, rfl, h12, fun _ => ⟨a1, a2, a3, rfl, a5, fun _ => a6 (by decide)⟩⟩⟩
        · rw [if_neg k2, if_neg k2]
          exact R1.ret ⟨bz_0, K0.sF _ (by decide), Or.inr ⟨rfl, rfl⟩⟩
    · have hl : l ≠ 0 := by omega
      obtain ⟨a1, a2, a3, a4, a5, a6⟩ := hF hl
      rw [if_neg (show ¬ nI 6 = (0 : Int32) by decide), if_neg (show ¬ nI 6 = (1 : Int32) by decide), if_neg (show ¬ nI 6 = (2 : Int32) by decide), if_neg (show ¬ nI 6 = (3 : Int32) by decide), if_neg (show ¬ nI 6 = (4 : Int32) by decide), if_neg (show ¬ nI 6 = (5 : Int32) by decide), if_pos (show nI 6 = (6 : Int32) from rfl)]
      refine tq_fin ?_
      rw [tq_ru hc (by omega) (by omega) a4 a5, tq_r_6]
      by_cases k2 : tq_dc d c pe
      · rw [if_pos k2, if_pos k2]
        exact R1.ret ⟨bz_1, K0.sF _ (by decide), Or.inl ⟨_, rfl, rfl, h12, fun _ => ⟨a1, a2, a3, a4, rfl, fun _ => a6 (by decide)⟩⟩⟩
      · rw [if_neg k2, if_neg k2]
        exact R1.ret ⟨bz_0, K0.sF _ (by decide), Or.inr ⟨rfl, rfl⟩⟩
    · rw [if_neg (show ¬ nI 7 = (0 : Int32) by decide), if_neg (show ¬ nI 7 = (1 : Int32) by decide), if_neg (show ¬ nI 7 = (2 : Int32) by decide), if_neg (show ¬ nI 7 = (3 : Int32) by decide), if_neg (show ¬ nI 7 = (4 : Int32) by decide), if_neg (show ¬ nI 7 = (5 : Int32) by decide), if_neg (show ¬ nI 7 = (6 : Int32) by decide)]
      exact R1.ret ⟨K0, Or.inr ⟨tq_r_7, rfl⟩⟩
