/-! the permutations in their order, cycles -/
def q_nth : List Nat → Nat → Nat
  | [], _ => 0
  | x :: _, 0 => x
  | _ :: t, i + 1 => q_nth t i
theorem q_nth_l : ∀ (l m : List Nat) (i : Nat), i < l.length → q_nth (l ++ m) i = q_nth l i
  | [], _, i, h => absurd h (Nat.not_lt_zero i)
  | _ :: _, _, 0, _ => rfl
  | _ :: t, m, i + 1, h => q_nth_l t m i (by simp only [List.length_cons] at h; omega)
theorem q_nth_e : ∀ (l : List Nat) (x : Nat), q_nth (l ++ [x]) l.length = x
  | [], _ => rfl
  | _ :: t, x => q_nth_e t x
theorem q_nth_mem : ∀ (l : List Nat) (i : Nat), i < l.length → q_nth l i ∈ l
  | [], i, h => absurd h (Nat.not_lt_zero i)
  | _ :: _, 0, _ => List.mem_cons_self ..
  | _ :: t, i + 1, h => List.mem_cons_of_mem _ (q_nth_mem t i (by simp only [List.length_cons] at h; omega))
theorem q_mem_nth : ∀ (l : List Nat) (x : Nat), x ∈ l → ∃ i, i < l.length ∧ q_nth l i = x
  | [], _, h => by cases h
  | y :: t, x, h => by
    rcases List.mem_cons.mp h with h | h
    · exact ⟨0, by simp, h.symm⟩
    · obtain ⟨i, hi, e⟩ := q_mem_nth t x h
      exact ⟨i + 1, by simp only [List.length_cons]; omega, e⟩
/-- different numbers below 8 -/
def q_vl (l : List Nat) : Prop := (∀ i, i < l.length → q_nth l i < 8) ∧ ∀ i j, i < l.length → j < l.length → q_nth l i = q_nth l j → i = j
def q_has (l : List Nat) (x : Nat) : Bool := l.contains x
theorem q_has_t {l : List Nat} {x : Nat} : q_has l x = true ↔ x ∈ l := List.contains_iff_mem
theorem q_has_f {l : List Nat} {x : Nat} : q_has l x = false ↔ x ∉ l := by
  rw [← q_has_t]
  cases q_has l x <;> simp
theorem q_vl_s {l : List Nat} (h : q_vl l) {x : Nat} (hx : x < 8) (hn : q_has l x = false) : q_vl (l ++ [x]) := by
  have hn := q_has_f.mp hn
  have hlen : (l ++ [x]).length = l.length + 1 := by simp
  have hne : ∀ i, i < l.length → q_nth l i ≠ x := fun i hi e => hn (e ▸ q_nth_mem l i hi)
  refine ⟨fun i hi => ?_, fun i j hi hj e => ?_⟩
  · by_cases c : i < l.length
    · rw [q_nth_l l _ i c]; exact h.1 i c
    · rw [show i = l.length by omega, q_nth_e]; exact hx
  · by_cases c : i < l.length <;> by_cases c2 : j < l.length
    · rw [q_nth_l l _ i c, q_nth_l l _ j c2] at e
      exact h.2 i j c c2 e
    · rw [q_nth_l l _ i c, show j = l.length by omega, q_nth_e] at e
      exact absurd e (hne i c)
    · rw [q_nth_l l _ j c2, show i = l.length by omega, q_nth_e] at e
      exact absurd e.symm (hne j c2)
    · omega
def q_rs (E : List Nat → List (List Nat)) (l : List Nat) : Nat → List (List Nat)
  | 0 => []
  | g + 1 => (if q_has l (7 - g) then [] else E (l ++ [7 - g])) ++ q_rs E l g
def q_en : Nat → List Nat → List (List Nat)
  | 0, l => [l]
  | d + 1, l => q_rs (q_en d) l 8
theorem q_rs_mem (E : List Nat → List (List Nat)) (l σ : List Nat) : ∀ g, g ≤ 8 → (σ ∈ q_rs E l g ↔ ∃ x, 8 - g ≤ x ∧ x < 8 ∧ q_has l x = false ∧ σ ∈ E (l ++ [x]))
  | 0, _ => by
    constructor
    · intro h; cases h
    · rintro ⟨x, h1, h2, _⟩; omega
  | g + 1, hg => by
    show σ ∈ (if q_has l (7 - g) = true then [] else E (l ++ [7 - g])) ++ q_rs E l g ↔ _
    rw [List.mem_append, q_rs_mem E l σ g (by omega)]
    constructor
    · rintro (h | ⟨x, h1, h2, h3, h4⟩)
      · cases c : q_has l (7 - g)
        · rw [c] at h
          exact ⟨7 - g, by omega, by omega, c, h⟩
        · rw [c] at h; cases h
      · exact ⟨x, by omega, h2, h3, h4⟩
    · rintro ⟨x, h1, h2, h3, h4⟩
      by_cases e : x = 7 - g
      · left
        rw [← e, h3]; exact h4
      · right
        exact ⟨x, by omega, h2, h3, h4⟩
theorem q_en_sub : ∀ (d : Nat) (l σ : List Nat), σ ∈ q_en d l → q_vl l → l.length + d = 8 → q_vl σ ∧ σ.length = 8 ∧ ∃ m, σ = l ++ m
  | 0, l, σ, h, hv, hl => by
    have h : σ = l := List.mem_singleton.mp h
    subst h
    exact ⟨hv, by omega, [], by simp⟩
  | d + 1, l, σ, h, hv, hl => by
    obtain ⟨x, _, h2, h3, h4⟩ := (q_rs_mem (q_en d) l σ 8 (by decide)).mp h
    obtain ⟨a1, a2, m, a3⟩ := q_en_sub d (l ++ [x]) σ h4 (q_vl_s hv h2 h3) (by simp; omega)
    exact ⟨a1, a2, x :: m, by rw [a3]; simp⟩
def q_tk8 (s : Nat → Nat) (k : Nat) : List Nat := (List.range k).map s
theorem q_tk8_s (s : Nat → Nat) (k : Nat) : q_tk8 s (k + 1) = q_tk8 s k ++ [s k] := by unfold q_tk8; rw [List.range_succ, List.map_append]; rfl
theorem q_tk8_l (s : Nat → Nat) (k : Nat) : (q_tk8 s k).length = k := by unfold q_tk8; simp
theorem q_tk8_n (s : Nat → Nat) : ∀ k i, i < k → q_nth (q_tk8 s k) i = s i
  | 0, i, h => absurd h (Nat.not_lt_zero i)
  | k + 1, i, h => by
    rw [q_tk8_s]
    by_cases c : i < k
    · rw [q_nth_l _ _ i (by rw [q_tk8_l]; exact c)]; exact q_tk8_n s k i c
    · have e : i = k := by omega
      subst e
      have := q_nth_e (q_tk8 s i) (s i)
      rw [q_tk8_l] at this
      exact this
theorem q_en_all {s : Nat → Nat} (h : q_In s) : ∀ d k, k + d = 8 → q_tk8 s 8 ∈ q_en d (q_tk8 s k)
  | 0, k, e => by
    have : k = 8 := by omega
    subst this
    exact List.mem_singleton.mpr rfl
  | d + 1, k, e => by
    refine (q_rs_mem (q_en d) _ _ 8 (by decide)).mpr ⟨s k, by omega, h.1 k (by omega), ?_, ?_⟩
    · rw [q_has_f]
      intro hm
      obtain ⟨i, hi, hx⟩ := q_mem_nth _ _ hm
      rw [q_tk8_l] at hi
      rw [q_tk8_n s k i hi] at hx
      have := h.2 i k (by omega) (by omega) hx
      omega
    · rw [← q_tk8_s]
      exact q_en_all h d (k + 1) (by omega)
/-! cycles, closed at their greatest pin, or counted at their least -/
def q_chs (l : List Nat) (i : Nat) : Nat → Nat → Nat
  | 0, r => r
  | f + 1, r => if r < i then q_chs l i f (q_nth l r) else r
def q_cls (l : List Nat) (i : Nat) : Bool := decide (q_chs l i 8 (q_nth l i) = i)
def q_cyc (l : List Nat) : Nat := fb_ct (q_cls l) l.length
theorem q_chs_l {l m : List Nat} {i : Nat} (hi : i < l.length) : ∀ f r, q_chs (l ++ m) i f r = q_chs l i f r
  | 0, _ => rfl
  | f + 1, r => by
    show (if r < i then q_chs (l ++ m) i f (q_nth (l ++ m) r) else r) = (if r < i then q_chs l i f (q_nth l r) else r)
    by_cases c : r < i
    · rw [if_pos c, if_pos c, q_nth_l l m r (by omega), q_chs_l hi f]
    · rw [if_neg c, if_neg c]
theorem q_cls_l {l m : List Nat} {i : Nat} (hi : i < l.length) : q_cls (l ++ m) i = q_cls l i := by
  unfold q_cls
  rw [q_chs_l hi, q_nth_l l m i hi]
theorem q_cyc_s (l : List Nat) (x : Nat) : q_cyc (l ++ [x]) = q_cyc l + (if q_cls (l ++ [x]) l.length then 1 else 0) := by
  unfold q_cyc
  rw [show (l ++ [x]).length = l.length + 1 by simp, fb_ct_succ]
  rw [fb_ct_cong (fun k hk => q_cls_l (l := l) (m := [x]) hk)]
theorem q_cyc_le {l m : List Nat} : q_cyc (l ++ m) ≤ q_cyc l + m.length := by
  unfold q_cyc
  have e : fb_ct (q_cls (l ++ m)) l.length = fb_ct (q_cls l) l.length := fb_ct_cong (fun k hk => q_cls_l (l := l) (m := m) hk)
  rw [List.length_append, fb_ct_split, e]
  have := fb_ct_le (fun k => q_cls (l ++ m) (l.length + k)) m.length
  omega
def q_wk (l : List Nat) : Nat → Nat → Nat → Nat
  | 0, ps, _ => ps
  | f + 1, ps, at' => if ps.testBit at' then ps else q_wk l f (ps ||| 2 ^ at') (q_nth l at')
def q_rcy (l : List Nat) : Nat → Nat × Nat
  | 0 => (0, 0)
  | k + 1 => ((q_rcy l k).1 + (if (q_rcy l k).2.testBit k then 0 else 1), q_wk l 9 (q_rcy l k).2 k)
def q_rgo (l : List Nat) : Nat → Nat → Nat → Nat → Nat
  | 0, _, s, _ => s
  | g + 1, k, s, ps => q_rgo l g (k + 1) (s + (if ps.testBit k then 0 else 1)) (q_wk l 9 ps k)
theorem q_rgo_eq (l : List Nat) : ∀ g k, q_rgo l g k (q_rcy l k).1 (q_rcy l k).2 = (q_rcy l (k + g)).1
  | 0, _ => rfl
  | g + 1, k => by
    rw [show k + (g + 1) = (k + 1) + g by omega]
    exact q_rgo_eq l g (k + 1)
def q_chk (l : List Nat) : Bool := Nat.beq (q_rgo l 8 0 0 0) (fb_ct (q_cls l) 8) && Nat.ble 1 (fb_ct (q_cls l) 8)
