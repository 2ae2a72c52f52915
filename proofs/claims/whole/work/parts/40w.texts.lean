/-! whole texts: the first error, the items -/
/-- what is read of a text behind so many characters -/
def tq_ps (xs : List Nat) : Nat → Option (Rs × List It)
  | 0 => some ((0, 0, 0, 0, 0, 0, 0), [])
  | i + 1 => (tq_ps xs i).bind fun z => (tq_rd z.1 (xs.getD i 0)).map fun s' => (s', if xs.getD i 0 = 59 then z.2 ++ [z.1.2] else z.2)
theorem tq_ps_s {xs : List Nat} {i : Nat} {s s' : Rs} {its : List It} (h : tq_ps xs i = some (s, its)) (e : tq_rd s (xs.getD i 0) = some s') : tq_ps xs (i + 1) = some (s', if xs.getD i 0 = 59 then its ++ [s.2] else its) := by
  show (tq_ps xs i).bind _ = _
  rw [h]
  show (tq_rd s (xs.getD i 0)).map _ = _
  rw [e]
  rfl
theorem tq_ps_n {xs : List Nat} {i : Nat} {s : Rs} {its : List It} (h : tq_ps xs i = some (s, its)) (e : tq_rd s (xs.getD i 0) = none) : tq_ps xs (i + 1) = none := by
  show (tq_ps xs i).bind _ = _
  rw [h]
  show (tq_rd s (xs.getD i 0)).map _ = _
  rw [e]
  rfl
theorem tq_ps_i {xs : List Nat} {i : Nat} {s' : Rs} {its' : List It} (h : tq_ps xs (i + 1) = some (s', its')) : ∃ s its, tq_ps xs i = some (s, its) ∧ tq_rd s (xs.getD i 0) = some s' ∧ its' = if xs.getD i 0 = 59 then its ++ [s.2] else its := by
  cases e : tq_ps xs i with
  | none =>
    have h0 : tq_ps xs (i + 1) = none := by
      show (tq_ps xs i).bind _ = _
      rw [e]
      rfl
    rw [h0] at h
    cases h
  | some z =>
    obtain ⟨s, its⟩ := z
    cases e2 : tq_rd s (xs.getD i 0) with
    | none =>
      rw [tq_ps_n e e2] at h
      cases h
    | some s0 =>
      rw [tq_ps_s e e2] at h
      injection h with h
      injection h with h1 h2
      exact ⟨s, its, rfl, by rw [e2, h1], h2.symm⟩
theorem tq_ps_no {xs : List Nat} {i : Nat} (h : tq_ps xs i = none) : ∀ d, tq_ps xs (i + d) = none
  | 0 => h
  | d + 1 => by
    show (tq_ps xs (i + d)).bind _ = _
    rw [tq_ps_no h d]
    rfl
theorem tq_ps_pre {xs : List Nat} {i : Nat} {s : Rs} {its : List It} (h : tq_ps xs i = some (s, its)) : ∀ d s2 its2, tq_ps xs (i + d) = some (s2, its2) → ∃ r, its2 = its ++ r
  | 0, s2, its2, h2 => by
    rw [Nat.add_zero, h] at h2
    injection h2 with h2
    injection h2 with h3 h4
    exact ⟨[], by rw [List.append_nil, h4]⟩
  | d + 1, s2, its2, h2 => by
    obtain ⟨s1, its1, h3, _, h5⟩ := tq_ps_i (i := i + d) h2
    obtain ⟨r, hr⟩ := tq_ps_pre h d s1 its1 h3
    rw [h5]
    split
    · exact ⟨r ++ [s1.2], by rw [hr, List.append_assoc]⟩
    · exact ⟨r, hr⟩
theorem tq_ok0 : tq_ok (0, 0, 0, 0, 0, 0, 0) := by
  unfold tq_ok tq_ok7 tq_two
  dsimp only
  omega
theorem tq_ps_inv {xs : List Nat} : ∀ {i : Nat} {s : Rs} {its : List It}, tq_ps xs i = some (s, its) → tq_ok s ∧ 4 * its.length + tq_wt s.1 ≤ i ∧ ∀ x ∈ its, tq_iv x
  | 0, s, its, h => by
    injection h with h
    injection h with h1 h2
    subst h1 h2
    exact ⟨tq_ok0, by decide, fun x hx => absurd hx List.not_mem_nil⟩
  | i + 1, s, its, h => by
    obtain ⟨s1, its1, h3, h4, h5⟩ := tq_ps_i h
    obtain ⟨k1, k2, k3⟩ := tq_ps_inv h3
    obtain ⟨w1, w2⟩ := tq_rd_wt h4
    refine ⟨tq_rd_ok k1 h4, ?_, ?_⟩
    · rw [h5]
      by_cases c : xs.getD i 0 = 59
      · rw [if_pos c, List.length_append]
        obtain ⟨u1, u2⟩ := w1 c
        rw [u2, tq_wt_v.1]
        show 4 * (its1.length + 1) + 0 ≤ i + 1
        omega
      · rw [if_neg c]
        have := w2 c
        omega
    · rw [h5]
      by_cases c : xs.getD i 0 = 59
      · rw [if_pos c]
        intro x hx
        rcases List.mem_append.mp hx with hx | hx
        · exact k3 x hx
        · rw [List.mem_singleton.mp hx]
          refine tq_wh_iv k1 ?_
          rcases Bool.eq_false_or_eq_true (tq_wh s1) with w | w
          · exact w
          · rw [tq_rd_n c (by rw [w]; decide)] at h4
            cases h4
      · rw [if_neg c]
        exact k3
def tq_er (xs : List Nat) (e : Nat) : Prop := e ≤ xs.length ∧ (∃ z, tq_ps xs e = some z) ∧ (e = xs.length ∨ tq_ps xs (e + 1) = none)
theorem tq_er_le {xs : List Nat} {e e' : Nat} (h : tq_er xs e) (h' : tq_er xs e') : ¬ e < e' := by
  intro hlt
  obtain ⟨z, hz⟩ := h'.2.1
  rcases h.2.2 with c | c
  · have := h'.1
    omega
  · have n := tq_ps_no c (e' - (e + 1))
    rw [show e + 1 + (e' - (e + 1)) = e' by omega, hz] at n
    cases n
theorem tq_er_one {xs : List Nat} {e e' : Nat} (h : tq_er xs e) (h' : tq_er xs e') : e = e' := by
  have := tq_er_le h h'
  have := tq_er_le h' h
  omega
def Kr (S S' : CS) : Prop := (∀ k, k < 11 → S'.1 k = S.1 k) ∧ S'.2 = S.2
theorem Kr.rf (S : CS) : Kr S S := ⟨fun _ _ => rfl, rfl⟩
theorem Kr.tr {S S1 S2 : CS} (h : Kr S S1) (h2 : Kr S1 S2) : Kr S S2 := ⟨fun k a => (h2.1 k a).trans (h.1 k a), h2.2.trans h.2⟩
theorem Kr.sF {S S' : CS} (h : Kr S S') {k : Nat} (v : Int32) (hk : 11 ≤ k) : Kr S (sF S' k v) := ⟨fun j hj => (sF_n S' v (by omega)).trans (h.1 j hj), h.2⟩
theorem Kx.kr {S S' : CS} (h : Kx S S') : Kr S S' := ⟨fun k a => h.1 k (by omega), h.2⟩
theorem Kr.ke {S S' : CS} (h : Kr S S') : Ke S S' := ⟨h.1 0 (by decide), h.1 1 (by decide), h.1 2 (by decide), h.1 3 (by decide), h.1 9 (by decide), h.1 10 (by decide), by rw [h.2], by rw [h.2], by rw [h.2]⟩
def tq_Tx (xs : List Nat) (S : CS) : Prop := S.1 10 = nI xs.length ∧ ∀ i, i < xs.length → S.2.1 21 i = nI (xs.getD i 0)
theorem Kr.tx {xs : List Nat} {S S' : CS} (h : Kr S S') (t : tq_Tx xs S) : tq_Tx xs S' := ⟨(h.1 10 (by decide)).trans t.1, by rw [h.2]; exact t.2⟩
def tq_Ch (xs : List Nat) : Prop := xs.length ≤ 50 ∧ ∀ i, i < xs.length → xs.getD i 0 < 127
theorem tq_chV {a : AS} (v : Va a) : tq_Ch (aX a) := by
  obtain ⟨_, _, _, _, _, _, _, _, _, _, _, _, _, h, h2⟩ := v
  refine ⟨h, fun i hi => ?_⟩
  rw [List.getD_eq_getElem?_getD, List.getElem?_eq_getElem hi]
  have := h2 _ (List.getElem_mem hi)
  show (aX a)[i] < 127
  omega
theorem tq_txR {a : AS} {S : CS} (r : RC a S) : tq_Tx (aX a) S := r.2.2.2.2.2.2.2.2.2
theorem tq_code {xs : List Nat} {S : CS} (h : tq_Tx xs S) (hc : tq_Ch xs) {i : Nat} (hi : i < xs.length) : mX6_codeAt S (nI i) = some (nI (xs.getD i 0)) := by
  have := hc.1
  unfold mX6_codeAt
  rw [if_neg (nI_pos (by omega)), if_neg (show ¬ (50 : Int32) ≤ nI i from nI_ge (b := 50) (by omega) (by decide)), if_pos (inb_n (by omega) (by decide)), nI_clamp (by omega), h.2 i hi]
theorem tq_err7 {xs : List Nat} {S : CS} (hT : tq_Tx xs S) (hc : tq_Ch xs) {n : Nat} (hn : 50 < n) : R1 (mX6_errorIndex n S) (fun z => Kr S z.2 ∧ ∃ e, tq_er xs e ∧ z.1 = nI e ∧ (e = xs.length → ∃ s its, tq_ps xs xs.length = some (s, its) ∧ tq_C s z.2)) := by
  have h50 := hc.1
  unfold mX6_errorIndex mX6_rewind
  show R1 (mX6_errorIndex_6 n n (sF (sF S 11 0) 12 0) (nI 0)) _
  refine q_lp (f := fun k s i => mX6_errorIndex_6 n k s i) (N := xs.length) (inv := fun i S' => Kr S S' ∧ ∃ s its, tq_ps xs i = some (s, its) ∧ tq_C s S') ?_ ?_ xs.length 0 n _ (by omega) ⟨((Kr.rf S).sF _ (by decide)).sF _ (by decide), _, _, rfl, rfl, fun h => absurd rfl h⟩ (by omega)
  · intro k s ⟨hK, s0, its, hp, hC⟩
    show R1 (mX6_errorIndex_6 n (k + 1) s (nI xs.length)) _
    rw [mX6_errorIndex_6, (hK.tx hT).1, if_pos (nI_le (Nat.le_refl _) (by omega))]
    exact R1.ret ⟨hK, xs.length, ⟨Nat.le_refl _, ⟨_, hp⟩, Or.inl rfl⟩, rfl, fun _ => ⟨s0, its, hp, hC⟩⟩
  · intro i k s hi ⟨hK, s0, its, hp, hC⟩
    have hTx := hK.tx hT
    obtain ⟨⟨r, S'⟩, er, kx, hz⟩ := tq_read (hc.2 i hi) (tq_ps_inv hp).1 hC
    have e1 : mX6_errorIndex_6 n (k + 1) s (nI i) = if r = 0 then some (nI i, S') else mX6_errorIndex_6 n k S' (nI (i + 1)) := by
      rw [mX6_errorIndex_6, hTx.1, if_neg (nI_ge hi (by omega)), bn_eq (tq_code hTx hc hi), bm_eq er, q_i1]
    rcases hz with ⟨s', e, hr, hC'⟩ | ⟨e, hr⟩
    · right
      have hr : r = 1 := hr
      refine ⟨S', ⟨hK.tr kx.kr, s', _, tq_ps_s hp e, hC'⟩, ?_⟩
      show mX6_errorIndex_6 n (k + 1) s (nI i) = _
      rw [e1, if_neg (by rw [hr]; decide)]
    · left
      have hr : r = 0 := hr
      show R1 (mX6_errorIndex_6 n (k + 1) s (nI i)) _
      rw [e1, if_pos hr]
      exact R1.ret ⟨hK.tr kx.kr, i, ⟨by omega, ⟨_, hp⟩, Or.inr (tq_ps_n hp e)⟩, rfl, fun h => absurd h (by omega)⟩
def tq_TM (xs : List Nat) (M : MS) : Prop := M.1 10 = nI xs.length ∧ ∀ i, i < xs.length → M.2.1 26 i = nI (xs.getD i 0)
theorem Kt.tm {xs : List Nat} {M M' : MS} (h : Kt M M') (t : tq_TM xs M) : tq_TM xs M' := ⟨(h.1.1 10 (by decide) (by decide)).trans t.1, by rw [h.1.2 26 (by decide)]; exact t.2⟩
theorem tq_tmR {a : AS} {M : MS} (r : RM a M) : tq_TM (aX a) M := r.2.2.2.2.2.2.2.2.2
theorem tq_it25 {xs : List Nat} (hc : tq_Ch xs) {i : Nat} (hi : i ≤ xs.length) {s : Rs} {its : List It} (h : tq_ps xs i = some (s, its)) : its.length < 13 := by
  have := (tq_ps_inv h).2.1
  have := hc.1
  omega
theorem tq_err8 {xs : List Nat} {M : MS} (hT : tq_TM xs M) (hc : tq_Ch xs) {n : Nat} (hn : 50 < n) : R1 (mX8_readText n M) (fun z => Kt M z.2 ∧ ∃ e, tq_er xs e ∧ z.1 = nI e ∧ (e = xs.length → ∃ s its, tq_ps xs xs.length = some (s, its) ∧ tq_M s z.2 ∧ tq_It its z.2)) := by
  have h50 := hc.1
  unfold mX8_readText
  show R1 (mX8_readText_12 n n (sG (sG M 14 0) 21 0) (nI 0)) _
  refine q_lp (f := fun k s i => mX8_readText_12 n k s i) (N := xs.length) (inv := fun i M' => Kt M M' ∧ ∃ s its, tq_ps xs i = some (s, its) ∧ tq_M s M' ∧ tq_It its M') ?_ ?_ xs.length 0 n _ (by omega) ⟨((Kt.rf M).sG _ (by decide)).sG _ (by decide), _, _, rfl, ⟨rfl, fun h => absurd rfl h, fun h => absurd rfl h, fun h => absurd h (by simp), fun h => absurd h (by simp), fun h => absurd h (by simp), fun h => absurd h (by simp), fun h => absurd h (by simp)⟩, rfl, fun k x hx => absurd hx (by simp)⟩ (by omega)
  · intro k s ⟨hK, s0, its, hp, hC, hI⟩
    show R1 (mX8_readText_12 n (k + 1) s (nI xs.length)) _
    rw [mX8_readText_12, (hK.tm hT).1, if_pos (nI_le (Nat.le_refl _) (by omega))]
    exact R1.ret ⟨hK, xs.length, ⟨Nat.le_refl _, ⟨_, hp⟩, Or.inl rfl⟩, rfl, fun _ => ⟨s0, its, hp, hC, hI⟩⟩
  · intro i k s hi ⟨hK, s0, its, hp, hC, hI⟩
    have hTx := hK.tm hT
    have h25 := tq_it25 hc (by omega) hp
    obtain ⟨⟨r, M'⟩, er, kx, hz⟩ := tq_takes (hc.2 i hi) (tq_ps_inv hp).1 hC hI (by omega)
    have e1 : mX8_readText_12 n (k + 1) s (nI i) = if r = 0 then some (nI i, M') else mX8_readText_12 n k M' (nI (i + 1)) := by
      rw [mX8_readText_12, hTx.1, if_neg (nI_ge hi (by omega)), if_pos (inb_n (by omega) (by decide)), nI_clamp (by omega), hTx.2 i hi, bm_eq er, q_i1]
    rcases hz with ⟨s', e, hr, hC', hI'⟩ | ⟨e, hr⟩
    · right
      have hr : r = 1 := hr
      refine ⟨M', ⟨hK.tr kx, s', _, tq_ps_s hp e, hC', hI'⟩, ?_⟩
      show mX8_readText_12 n (k + 1) s (nI i) = _
      rw [e1, if_neg (by rw [hr]; decide)]
    · left
      have hr : r = 0 := hr
      show R1 (mX8_readText_12 n (k + 1) s (nI i)) _
      rw [e1, if_pos hr]
      exact R1.ret ⟨hK.tr kx, i, ⟨by omega, ⟨_, hp⟩, Or.inr (tq_ps_n hp e)⟩, rfl, fun h => absurd h (by omega)⟩
/-- a complete text, its items -/
def tq_cp (xs : List Nat) (al : List It) : Prop := ∃ s its, tq_ps xs xs.length = some (s, its) ∧ tq_wh s = true ∧ al = its ++ [s.2]
theorem tq_cp_one {xs : List Nat} {al al' : List It} (h : tq_cp xs al) (h' : tq_cp xs al') : al = al' := by
  obtain ⟨s, its, e, _, ha⟩ := h
  obtain ⟨s', its', e', _, ha'⟩ := h'
  rw [e] at e'
  injection e' with e'
  injection e' with h1 h2
  rw [ha, ha', h1, h2]
theorem tq_er_no {xs : List Nat} {e : Nat} (h : tq_er xs e) (hne : e ≠ xs.length) : tq_ps xs xs.length = none := by
  have c := h.2.2.resolve_left hne
  have n := tq_ps_no c (xs.length - (e + 1))
  have := h.1
  rw [show e + 1 + (xs.length - (e + 1)) = xs.length by omega] at n
  exact n
theorem tq_comp7 {xs : List Nat} {S : CS} (hT : tq_Tx xs S) (hc : tq_Ch xs) {n : Nat} (hn : 50 < n) : R1 (mX6_isComplete n S) (fun z => Kr S z.2 ∧ ((z.1 = 1 ∧ ∃ al, tq_cp xs al) ∨ (z.1 = 0 ∧ ∀ al, ¬ tq_cp xs al))) := by
  have h50 := hc.1
  unfold mX6_isComplete
  refine R1.bm (tq_err7 hT hc hn) ?_
  rintro r S1 ⟨hK, e, he, hr, hx⟩
  have hr : r = nI e := hr
  have hK : Kr S S1 := hK
  have hx : e = xs.length → ∃ s its, tq_ps xs xs.length = some (s, its) ∧ tq_C s S1 := hx
  rw [(hK.tx hT).1, hr]
  by_cases c : e = xs.length
  · obtain ⟨s, its, hp, hC⟩ := hx c
    rw [if_pos (congrArg nI c), bn_eq (tq_iw (tq_ps_inv hp).1 hC)]
    rcases Bool.eq_false_or_eq_true (tq_wh s) with w | w
    · rw [w, if_neg (by decide)]
      exact R1.ret ⟨hK, Or.inl ⟨rfl, _, s, its, hp, w, rfl⟩⟩
    · rw [w, if_pos (by decide)]
      refine R1.ret ⟨hK, Or.inr ⟨rfl, ?_⟩⟩
      rintro al ⟨s', its', e', w', _⟩
      rw [hp] at e'
      injection e' with e'
      injection e' with h1 h2
      rw [← h1, w] at w'
      cases w'
  · have := he.1
    rw [if_neg (tq_z (by omega) (by omega) c)]
    refine R1.ret ⟨hK, Or.inr ⟨rfl, ?_⟩⟩
    rintro al ⟨s', its', e', w', _⟩
    rw [tq_er_no he c] at e'
    cases e'
