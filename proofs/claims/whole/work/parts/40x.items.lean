/-! the items of a complete text, read again one by one -/
theorem tq_wh_l {s : Rs} (h : tq_ok s) (w : tq_wh s = true) : s.2.1 ≠ 0 ∧ s.1 ≠ 1 ∧ s.1 ≠ 0 := by
  rw [tq_whd] at w
  unfold tq_ok tq_ok7 at h
  omega
theorem tq_loop {xs : List Nat} (hc : tq_Ch xs) {n : Nat} {zE : Rs × List It} (hE : tq_ps xs xs.length = some zE) : ∀ d pos k (S : CS) (s : Rs) (its : List It), pos + d = xs.length → tq_Tx xs S → S.1 11 = nI pos → tq_ps xs pos = some (s, its) → tq_C s S → d + 1 < k → R1 (mX6_readItem_15 n k S 0) (fun z => z.1 = 1 ∧ Kr S z.2 ∧ ∃ pos' s' its', z.2.1 11 = nI pos' ∧ pos' ≤ xs.length ∧ tq_ps xs pos' = some (s', its') ∧ tq_C s' z.2 ∧ ((s'.1 = 0 ∧ its' = its ++ [s'.2] ∧ s'.2.1 ≠ 0) ∨ (pos' = xs.length ∧ its' = its))) := by
  have h50 := hc.1
  intro d
  induction d with
  | zero =>
    intro pos k S s its hd hT h11 hp hC hk
    obtain ⟨k, rfl⟩ : ∃ k', k = k' + 1 := ⟨k - 1, by omega⟩
    have hpos : pos = xs.length := by omega
    rw [mX6_readItem_15, hT.1, h11, if_pos (nI_le (by omega) (by omega))]
    exact R1.ret ⟨rfl, Kr.rf S, pos, s, its, h11, by omega, hp, hC, Or.inr ⟨hpos, rfl⟩⟩
  | succ d ih =>
    intro pos k S s its hd hT h11 hp hC hk
    obtain ⟨k, rfl⟩ : ∃ k', k = k' + 1 := ⟨k - 1, by omega⟩
    have hi : pos < xs.length := by omega
    have ok := (tq_ps_inv hp).1
    obtain ⟨⟨r, S8⟩, er, kx, hz⟩ := tq_read (hc.2 pos hi) ok hC
    have kx : Kx S S8 := kx
    rw [mX6_readItem_15, hT.1, h11, if_neg (nI_ge hi (by omega)), if_pos rfl, bn_eq (tq_code hT hc hi), bm_eq er, (kx.1 11 (by decide)).trans h11, bn_eq (tq_code (kx.kr.tx hT) hc hi)]
    rcases hz with ⟨s', e, _, hC'⟩ | ⟨e, _⟩
    · have hC' : tq_C s' S8 := hC'
      have hp' := tq_ps_s hp e
      have e11 : (sF S8 11 (S8.1 11 + 1)).1 11 = nI (pos + 1) := by rw [sF_s, (kx.1 11 (by decide)).trans h11, q_i1]
      have K9 : Kr S (sF S8 11 (S8.1 11 + 1)) := kx.kr.sF _ (by decide)
      have C9 : tq_C s' (sF S8 11 (S8.1 11 + 1)) := hC'
      unfold mX6_readItem_61
      by_cases c : xs.getD pos 0 = 59
      · rw [if_pos (show nI (xs.getD pos 0) = (59 : Int32) from congrArg nI c)]
        rw [if_pos c] at hp'
        have w : tq_wh s = true := by
          rcases Bool.eq_false_or_eq_true (tq_wh s) with w | w
          · exact w
          · rw [tq_rd_n c (by rw [w]; decide)] at e
            cases e
        have es : s' = (0, s.2) := by
          rw [tq_rd_w c w] at e
          exact (Option.some.inj e).symm
        have fin : R1 (mX6_readItem_15 n k (sF S8 11 (S8.1 11 + 1)) 1) (fun z => z = ((1 : Int32), sF S8 11 (S8.1 11 + 1))) := by
          obtain ⟨k, rfl⟩ : ∃ k', k = k' + 1 := ⟨k - 1, by omega⟩
          rw [mX6_readItem_15]
          exact R1.ite (fun _ => R1.ret rfl) (fun _ => by rw [if_neg (by decide)]; exact R1.ret rfl)
        refine fin.mono (fun z hz => ?_)
        rw [hz]
        exact ⟨rfl, K9, pos + 1, s', _, e11, by omega, hp', C9, Or.inl ⟨by rw [es], by rw [es], by rw [es]; exact (tq_wh_l ok w).1⟩⟩
      · rw [if_neg (show ¬ nI (xs.getD pos 0) = (59 : Int32) from tq_z (by have := hc.2 pos hi; omega) (by decide) c)]
        rw [if_neg c] at hp'
        refine (ih (pos + 1) k _ s' its (by omega) (K9.tx hT) e11 hp' C9 (by omega)).mono (fun z hz => ⟨hz.1, K9.tr hz.2.1, hz.2.2⟩)
    · exfalso
      have n1 := tq_ps_no (tq_ps_n hp e) (xs.length - (pos + 1))
      rw [show pos + 1 + (xs.length - (pos + 1)) = xs.length by omega, hE] at n1
      cases n1
/-- the class stands ahead of item j -/
def tq_At (xs : List Nat) (m : Nat) (S : CS) (j : Nat) : Prop := ∃ pos s its, S.1 11 = nI pos ∧ pos ≤ xs.length ∧ tq_ps xs pos = some (s, its) ∧ tq_C s S ∧ ((pos < xs.length ∧ s.1 = 0 ∧ its.length = j) ∨ (pos = xs.length ∧ j = m))
theorem tq_At.cg {xs : List Nat} {m j : Nat} {S S' : CS} (h : tq_At xs m S j) (k : ∀ i, 11 ≤ i → i ≤ 18 → S'.1 i = S.1 i) : tq_At xs m S' j := by
  obtain ⟨pos, s, its, h1, h2, h3, h4, h5⟩ := h
  refine ⟨pos, s, its, (k 11 (by decide) (by decide)).trans h1, h2, h3, ?_, h5⟩
  unfold tq_C at h4 ⊢
  rw [k 12 (by decide) (by decide), k 13 (by decide) (by decide), k 14 (by decide) (by decide), k 15 (by decide) (by decide), k 16 (by decide) (by decide), k 17 (by decide) (by decide), k 18 (by decide) (by decide)]
  exact h4
def tq_F (x : It) (S : CS) : Prop := S.1 13 = nI x.1 ∧ S.1 14 = nI x.2.1 ∧ S.1 15 = oI x.2.2.1 ∧ S.1 16 = nI x.2.2.2.1 ∧ S.1 17 = nI x.2.2.2.2.1 ∧ S.1 18 = nI x.2.2.2.2.2
theorem tq_CF {s : Rs} {S : CS} (h : tq_C s S) (hl : s.2.1 ≠ 0) (h1 : s.1 ≠ 1) : tq_F s.2 S := by
  obtain ⟨a1, a2, a3, a4, a5, a6⟩ := h.2 hl
  exact ⟨a1, a6 h1, a2, a3, a4, a5⟩
def tq_at (al : List It) (k : Nat) : It := al.getD k (0, 0, 0, 0, 0, 0)
theorem tq_atk {al : List It} {k : Nat} (h : k < al.length) : al[k]? = some (tq_at al k) := by
  unfold tq_at
  rw [List.getD_eq_getElem?_getD, List.getElem?_eq_getElem h]
  rfl
theorem tq_atE {al : List It} {k : Nat} {x : It} (h : al[k]? = some x) : tq_at al k = x := by
  unfold tq_at
  rw [List.getD_eq_getElem?_getD, h]
  rfl
theorem tq_next {xs : List Nat} (hc : tq_Ch xs) {n : Nat} (hn : 52 < n) {al : List It} (hA : tq_cp xs al) {S : CS} (hT : tq_Tx xs S) {j : Nat} (h : tq_At xs al.length S j) : (j < al.length ∧ R1 (mX6_readItem n S) (fun z => z.1 = 1 ∧ Kr S z.2 ∧ tq_At xs al.length z.2 (j + 1) ∧ tq_F (tq_at al j) z.2)) ∨ (j = al.length ∧ mX6_readItem n S = some (0, S)) := by
  have h50 := hc.1
  obtain ⟨sE, iE, hE, hw, hal⟩ := hA
  obtain ⟨pos, s, its, h11, hle, hp, hC, hcs⟩ := h
  have hlen : al.length = iE.length + 1 := by rw [hal, List.length_append]; rfl
  rcases hcs with ⟨hlt, h0, hj⟩ | ⟨heq, hj⟩
  · have pre : ∀ {pos' : Nat} {s' : Rs} {its' : List It}, pos' ≤ xs.length → tq_ps xs pos' = some (s', its') → ∃ r, iE = its' ++ r := by
      intro pos' s' its' hle' hp'
      refine tq_ps_pre hp' (xs.length - pos') sE iE ?_
      rw [show pos' + (xs.length - pos') = xs.length by omega]
      exact hE
    obtain ⟨r0, hr0⟩ := pre hle hp
    have hjl : its.length ≤ iE.length := by rw [hr0, List.length_append]; omega
    refine Or.inl ⟨by omega, ?_⟩
    unfold mX6_readItem
    rw [h11, hT.1, if_pos (nI_lt hlt (by omega))]
    refine (tq_loop hc hE (xs.length - pos) pos n S s its (by omega) hT h11 hp hC (by omega)).mono ?_
    rintro ⟨r, S'⟩ ⟨h1, hK, pos', s', its', a1, a2, a3, a4, a5⟩
    refine ⟨h1, hK, ?_⟩
    have a4 : tq_C s' S' := a4
    have a1 : S'.1 11 = nI pos' := a1
    have same : pos' = xs.length → s' = sE ∧ its' = iE := by
      intro e
      rw [e, hE] at a3
      injection a3 with a3
      injection a3 with b1 b2
      exact ⟨b1.symm, b2.symm⟩
    rcases a5 with ⟨b1, b3, b4⟩ | ⟨b1, b2⟩
    · have hlt' : pos' < xs.length := by
        rcases Nat.lt_or_ge pos' xs.length with c | c
        · exact c
        · exfalso
          have := (same (by omega)).1
          rw [this] at b1
          exact (tq_wh_l (tq_ps_inv hE).1 hw).2.2 b1
      refine ⟨⟨pos', s', its', a1, a2, a3, a4, Or.inl ⟨hlt', b1, ?_⟩⟩, ?_⟩
      · rw [b3, List.length_append, hj]; rfl
      · obtain ⟨r1, hr1⟩ := pre a2 a3
        have : tq_at al j = s'.2 := by
          refine tq_atE ?_
          rw [hal, hr1, b3, ← hj]
          simp
        rw [this]
        exact tq_CF a4 b4 (by omega)
    · obtain ⟨c1, c2⟩ := same b1
      refine ⟨⟨pos', s', its', a1, a2, a3, a4, Or.inr ⟨b1, ?_⟩⟩, ?_⟩
      · rw [hlen, ← c2, b2, hj]
      · have : tq_at al j = s'.2 := by
          refine tq_atE ?_
          rw [hal, c1, ← hj, ← b2, c2]
          simp
        rw [this, c1]
        rw [c1] at a4
        have wl := tq_wh_l (tq_ps_inv hE).1 hw
        exact tq_CF a4 wl.1 wl.2.1
  · refine Or.inr ⟨hj, ?_⟩
    unfold mX6_readItem
    rw [h11, hT.1, if_neg (nI_nlt (by omega) (by omega))]
theorem tq_cpI {xs : List Nat} {al : List It} (hA : tq_cp xs al) (hc : tq_Ch xs) : 0 < xs.length ∧ 0 < al.length ∧ al.length ≤ 13 ∧ ∀ k, k < al.length → tq_iv (tq_at al k) := by
  obtain ⟨s, its, e, w, ha⟩ := hA
  have h1 := tq_it25 hc (Nat.le_refl _) e
  have iv := tq_ps_inv e
  have hlen : al.length = its.length + 1 := by rw [ha, List.length_append]; rfl
  refine ⟨?_, by omega, by omega, ?_⟩
  · rcases Nat.eq_zero_or_pos xs.length with c | c
    · exfalso
      rw [c] at e
      injection e with e
      injection e with e1 e2
      rw [← e1] at w
      exact absurd w (by decide)
    · exact c
  · intro k hk
    have m := List.mem_of_getElem? (tq_atk hk)
    generalize tq_at al k = x at m
    rw [ha] at m
    rcases List.mem_append.mp m with m | m
    · exact iv.2.2 x m
    · rw [List.mem_singleton.mp m]
      exact tq_wh_iv iv.1 w
def tq_isF (x : It) : Bool := decide (x.1 = 99 ∨ x.1 = 115)
def tq_nF (al : List It) (j : Nat) : Nat := fb_ct (fun k => tq_isF (tq_at al k)) j
def tq_fit (L F : Nat) (al : List It) : Prop := (∀ k, k < al.length → tq_isF (tq_at al k) = true → (tq_at al k).2.2.2.1 < L) ∧ F + tq_nF al al.length ≤ 10
theorem tq_At0 {xs : List Nat} {al : List It} (hA : tq_cp xs al) (hc : tq_Ch xs) (S : CS) : tq_At xs al.length (sF (sF S 11 0) 12 0) 0 := ⟨0, _, _, rfl, by omega, rfl, ⟨rfl, fun h => absurd rfl h⟩, Or.inl ⟨(tq_cpI hA hc).1, rfl, rfl⟩⟩
theorem tq_iv_lt {x : It} (h : tq_iv x) : x.1 < 2 ^ 31 ∧ x.2.2.2.1 ≤ 998 ∨ x.1 < 2 ^ 31 ∧ (x.1 = 110 ∨ x.1 = 102) := by
  unfold tq_iv tq_iv6 at h
  omega
theorem tq_fits {a : AS} {S : CS} (r : RC a S) (v : Va a) {al : List It} (hA : tq_cp (aX a) al) {n : Nat} (hn : 52 < n) : R1 (mX7_textFitsCable n S) (fun z => Kr S z.2 ∧ ((z.1 = 1 ∧ tq_fit (aL a) (aF a).length al) ∨ (z.1 = 0 ∧ ¬ tq_fit (aL a) (aF a).length al))) := by
  have hc := tq_chV v
  have h10 := q_F10 v
  obtain ⟨c0, c1, c2, c3⟩ := tq_cpI hA hc
  have hL : aL a ≤ 999 := v.2.1
  unfold mX7_textFitsCable
  rw [bn_eq (q_size r)]
  unfold mX6_rewind
  show R1 (mX7_textFitsCable_20 n n (sF (sF S 11 0) 12 0) (nI (aF a).length) (nI 0)) _
  refine q_lp (f := fun k (s : CS × Nat) i => mX7_textFitsCable_20 n k s.1 (nI s.2) i) (N := al.length) (inv := fun i s => Kr S s.1 ∧ tq_At (aX a) al.length s.1 i ∧ s.2 = (aF a).length + tq_nF al i ∧ ∀ k, k < i → tq_isF (tq_at al k) = true → (tq_at al k).2.2.2.1 < aL a) ?_ ?_ al.length 0 n (sF (sF S 11 0) 12 0, (aF a).length) (by omega) ⟨((Kr.rf S).sF _ (by decide)).sF _ (by decide), tq_At0 hA hc S, rfl, fun k hk => absurd hk (by omega)⟩ (by omega)
  · rintro k ⟨s, ct⟩ ⟨hK, hAt, hct, hall⟩
    have hK : Kr S s := hK
    have hct : ct = (aF a).length + tq_nF al al.length := hct
    have b1 : tq_nF al al.length ≤ al.length := fb_ct_le _ _
    show R1 (mX7_textFitsCable_20 n (k + 1) s (nI ct) (nI al.length)) _
    rcases tq_next hc hn hA (hK.tx (tq_txR r)) hAt with ⟨c, _⟩ | ⟨_, e⟩
    · exact absurd c (by omega)
    · rw [mX7_textFitsCable_20, if_neg (show ¬ (50 : Int32) ≤ nI al.length from nI_ge (b := 50) (by omega) (by decide)), bm_eq e, if_pos rfl]
      unfold mX7_textFitsCable_74
      by_cases q : 10 < ct
      · rw [if_pos (show (10 : Int32) < nI ct from nI_lt q (by omega))]
        exact R1.ret ⟨hK, Or.inr ⟨rfl, fun h => by have := h.2; omega⟩⟩
      · rw [if_neg (show ¬ (10 : Int32) < nI ct from nI_nlt (a := 10) (by omega) (by decide))]
        exact R1.ret ⟨hK, Or.inl ⟨rfl, hall, by omega⟩⟩
  · rintro i k ⟨s, ct⟩ hi ⟨hK, hAt, hct, hall⟩
    have hK : Kr S s := hK
    have hct : ct = (aF a).length + tq_nF al i := hct
    have b1 : tq_nF al i ≤ i := fb_ct_le _ _
    rcases tq_next hc hn hA (hK.tx (tq_txR r)) hAt with ⟨_, ⟨r1, S1⟩, e, h1, hK1, hAt1, hF⟩ | ⟨c, _⟩
    · have h1 : r1 = 1 := h1
      have hK1 : Kr s S1 := hK1
      have iv := c3 i hi
      have lt := tq_iv_lt iv
      have hF : tq_F (tq_at al i) S1 := hF
      have e0 : S1.1 0 = nI (aL a) := ((hK.tr hK1).1 0 (by decide)).trans r.1
      have ns : tq_nF al (i + 1) = tq_nF al i + (if tq_isF (tq_at al i) = true then 1 else 0) := rfl
      have e1 : mX7_textFitsCable_20 n (k + 1) s (nI ct) (nI i) = if bI (tq_isF (tq_at al i)) = 0 then mX7_textFitsCable_20 n k S1 (nI ct) (nI (i + 1)) else (if nI (tq_at al i).2.2.2.1 < nI (aL a) then mX7_textFitsCable_20 n k S1 (nI (ct + 1)) (nI (i + 1)) else some ((0 : Int32), S1)) := by
        rw [mX7_textFitsCable_20, if_neg (show ¬ (50 : Int32) ≤ nI i from nI_ge (b := 50) (by omega) (by decide)), bm_eq e, if_neg (by rw [h1]; decide), bn_eq (tq_if (l := (tq_at al i).1) (by omega) hF.1), hF.2.2.2.1, e0]
        unfold mX7_textFitsCable_68
        rw [q_i1, q_i1]
        rfl
      rcases Bool.eq_false_or_eq_true (tq_isF (tq_at al i)) with w | w
      · have hp : (tq_at al i).2.2.2.1 ≤ 998 := by
          have := of_decide_eq_true w
          omega
        rw [w, if_neg (show ¬ bI true = (0 : Int32) by decide)] at e1
        by_cases q : (tq_at al i).2.2.2.1 < aL a
        · right
          refine ⟨(S1, ct + 1), ⟨hK.tr hK1, hAt1, ?_, ?_⟩, ?_⟩
          · show ct + 1 = _
            rw [ns, w, if_pos rfl]; omega
          · intro k hk hw
            rcases Nat.lt_or_ge k i with c | c
            · exact hall k c hw
            · rw [show k = i by omega]; exact q
          · show mX7_textFitsCable_20 n (k + 1) s (nI ct) (nI i) = _
            rw [e1, if_pos (nI_lt q (by omega))]
        · left
          show R1 (mX7_textFitsCable_20 n (k + 1) s (nI ct) (nI i)) _
          rw [e1, if_neg (nI_nlt (by omega) (by omega))]
          exact R1.ret ⟨hK.tr hK1, Or.inr ⟨rfl, fun h => q (h.1 i hi w)⟩⟩
      · right
        rw [w, if_pos (show bI false = (0 : Int32) from rfl)] at e1
        refine ⟨(S1, ct), ⟨hK.tr hK1, hAt1, ?_, ?_⟩, e1⟩
        · show ct = _
          rw [ns, w, if_neg (by decide)]; omega
        · intro k hk hw
          rcases Nat.lt_or_ge k i with c | c
          · exact hall k c hw
          · rw [show k = i by omega, w] at hw
            cases hw
    · exact absurd c (by omega)
theorem tq_canLoad {a : AS} {M : MS} (r : RM a M) (v : Va a) {al : List It} (hA : tq_cp (aX a) al) (hi : tq_It al M) {n : Nat} (hn : 52 < n) : R1 (mX8_canLoad n M) (fun z => (z = 1 ∧ tq_fit (aL a) (aF a).length al) ∨ (z = 0 ∧ ¬ tq_fit (aL a) (aF a).length al)) := by
  have hc := tq_chV v
  have h10 := q_F10 v
  obtain ⟨c0, c1, c2, c3⟩ := tq_cpI hA hc
  have hL : aL a ≤ 999 := v.2.1
  unfold mX8_canLoad
  show R1 (mX8_canLoad_6 n M n (nI 0) (bI true) (nI 0)) _
  refine q_lp (f := fun k (s : Nat × Bool) i => mX8_canLoad_6 n M k (nI s.1) (bI s.2) i) (N := al.length) (inv := fun i s => s.1 = tq_nF al i ∧ (s.2 = true ↔ ∀ k, k < i → tq_isF (tq_at al k) = true → (tq_at al k).2.2.2.1 < aL a)) ?_ ?_ al.length 0 n (0, true) (by omega) ⟨rfl, ⟨fun _ k hk => absurd hk (by omega), fun _ => rfl⟩⟩ (by omega)
  · rintro k ⟨ct, b⟩ ⟨hct, hb⟩
    have hct : ct = tq_nF al al.length := hct
    have b1 : tq_nF al al.length ≤ al.length := fb_ct_le _ _
    show R1 (mX8_canLoad_6 n M (k + 1) (nI ct) (bI b) (nI al.length)) _
    rw [mX8_canLoad_6, hi.1, if_pos (nI_le (Nat.le_refl _) (by omega)), r.2.2.2.2.2.1, nI_add]
    cases b
    · rw [if_pos (show bI false = (0 : Int32) from rfl)]
      exact R1.ret (Or.inr ⟨rfl, fun h => by have := hb.mpr h.1; cases this⟩)
    · rw [if_neg (show ¬ bI true = (0 : Int32) by decide)]
      by_cases q : 10 < (aF a).length + ct
      · rw [if_pos (show (10 : Int32) < nI ((aF a).length + ct) from nI_lt q (by omega))]
        exact R1.ret (Or.inr ⟨rfl, fun h => by have := h.2; omega⟩)
      · rw [if_neg (show ¬ (10 : Int32) < nI ((aF a).length + ct) from nI_nlt (a := 10) (by omega) (by decide))]
        exact R1.ret (Or.inl ⟨rfl, hb.mp rfl, by omega⟩)
  · rintro i k ⟨ct, b⟩ hil ⟨hct, hb⟩
    right
    have hct : ct = tq_nF al i := hct
    have hb : b = true ↔ ∀ k, k < i → tq_isF (tq_at al k) = true → (tq_at al k).2.2.2.1 < aL a := hb
    have iv := c3 i hil
    have lt := tq_iv_lt iv
    have r0 : M.2.1 29 (6 * i) = nI (tq_at al i).1 := hi.2 i _ (tq_atk hil) 0 (by decide)
    have r3 : M.2.1 29 (6 * i + 3) = nI (tq_at al i).2.2.2.1 := hi.2 i _ (tq_atk hil) 3 (by decide)
    have ns : tq_nF al (i + 1) = tq_nF al i + (if tq_isF (tq_at al i) = true then 1 else 0) := rfl
    have e6 : (6 : Int32) * nI i = nI (6 * i) := pk_mul 6 i
    have e63 : nI (6 * i) + (3 : Int32) = nI (6 * i + 3) := nI_add _ 3
    have nb : ∀ b' : Bool, (b' = true ↔ (b = true ∧ (tq_isF (tq_at al i) = true → (tq_at al i).2.2.2.1 < aL a))) → (b' = true ↔ ∀ k, k < i + 1 → tq_isF (tq_at al k) = true → (tq_at al k).2.2.2.1 < aL a) := by
      intro b' h
      rw [h, hb]
      constructor
      · rintro ⟨h1, h2⟩ k hk hw
        rcases Nat.lt_or_ge k i with c | c
        · exact h1 k c hw
        · have : k = i := by omega
          subst this
          exact h2 hw
      · intro h1
        exact ⟨fun k hk => h1 k (by omega), h1 i (by omega)⟩
    have f60 : ∀ t0 t1 x4 : Int32, ∀ ct' : Nat, t1 + t0 = nI ct' → (x4 = 0 ↔ tq_isF (tq_at al i) = false) → ∃ b', (b' = true ↔ (b = true ∧ (tq_isF (tq_at al i) = true → (tq_at al i).2.2.2.1 < aL a))) ∧ mX8_canLoad_60 n (mX8_canLoad_6 n M k) M (bI b) (nI i) x4 t0 t1 = mX8_canLoad_6 n M k (nI ct') (bI b') (nI (i + 1)) := by
      intro t0 t1 x4 ct' ht hx
      unfold mX8_canLoad_60 mX8_canLoad_93 mX8_canLoad_89 mX8_canLoad_94
      rw [ht, q_i1]
      cases b
      · exact ⟨false, ⟨fun h => (by cases h), fun h => (by cases h.1)⟩, by rw [if_pos (show bI false = (0 : Int32) from rfl)]; rfl⟩
      · rw [if_neg (show ¬ bI true = (0 : Int32) by decide)]
        rcases Bool.eq_false_or_eq_true (tq_isF (tq_at al i)) with w | w
        · have hp : (tq_at al i).2.2.2.1 ≤ 998 := by
            have := of_decide_eq_true w
            omega
          rw [if_neg (fun h => by have := hx.mp h; rw [w] at this; cases this), e6, e63, if_pos (inb_n (by omega) (by decide)), nI_clamp (by omega), r3, r.1]
          by_cases q : (tq_at al i).2.2.2.1 < aL a
          · exact ⟨true, ⟨fun _ => ⟨rfl, fun _ => q⟩, fun _ => rfl⟩, by rw [if_neg (nI_ge q (by omega))]; rfl⟩
          · exact ⟨false, ⟨fun h => (by cases h), fun h => absurd (h.2 w) q⟩, by rw [if_pos (nI_le (by omega) (by omega))]; rfl⟩
        · exact ⟨true, ⟨fun _ => ⟨rfl, fun h => by rw [w] at h; cases h⟩, fun _ => rfl⟩, by rw [if_pos (hx.mpr w)]; rfl⟩
    rcases Bool.eq_false_or_eq_true (tq_isF (tq_at al i)) with w | w
    · obtain ⟨b', hb', e'⟩ := f60 1 (nI ct) 1 (ct + 1) (nI_1 ct) ⟨fun h => absurd h (by decide), fun h => by rw [w] at h; cases h⟩
      refine ⟨(ct + 1, b'), ⟨?_, nb b' hb'⟩, ?_⟩
      · show ct + 1 = _
        rw [ns, w, if_pos rfl, hct]
      · show mX8_canLoad_6 n M (k + 1) (nI ct) (bI b) (nI i) = _
        rw [mX8_canLoad_6, hi.1, if_neg (nI_ge hil (by omega)), e6, if_pos (inb_n (by omega) (by decide)), if_pos (inb_n (by omega) (by decide)), nI_clamp (by omega), r0]
        unfold mX8_canLoad_42 mX8_canLoad_47
        rw [if_neg (show ¬ (1 : Int32) = 0 by decide), e']
        by_cases q : (tq_at al i).1 = 99
        · rw [if_pos (show nI (tq_at al i).1 = (99 : Int32) from congrArg nI q)]
        · have q2 : (tq_at al i).1 = 115 := by
            have := of_decide_eq_true w
            omega
          rw [if_neg (show ¬ nI (tq_at al i).1 = (99 : Int32) from tq_z (by omega) (by decide) q), if_pos (show nI (tq_at al i).1 = (115 : Int32) from congrArg nI q2)]
    · obtain ⟨b', hb', e'⟩ := f60 0 (nI ct) 0 ct (nI_add ct 0) ⟨fun _ => w, fun _ => rfl⟩
      refine ⟨(ct, b'), ⟨?_, nb b' hb'⟩, ?_⟩
      · show ct = _
        rw [ns, w, if_neg (by decide), hct]; rfl
      · show mX8_canLoad_6 n M (k + 1) (nI ct) (bI b) (nI i) = _
        have q := of_decide_eq_false w
        rw [mX8_canLoad_6, hi.1, if_neg (nI_ge hil (by omega)), e6, if_pos (inb_n (by omega) (by decide)), if_pos (inb_n (by omega) (by decide)), nI_clamp (by omega), r0, if_neg (show ¬ nI (tq_at al i).1 = (99 : Int32) from tq_z (k := 99) (by omega) (by decide) (by omega)), if_neg (show ¬ nI (tq_at al i).1 = (115 : Int32) from tq_z (k := 115) (by omega) (by decide) (by omega))]
        unfold mX8_canLoad_47
        rw [if_pos rfl, e']
