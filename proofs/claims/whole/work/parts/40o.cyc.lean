/-! for all permutations: as many cycles are closed as are counted; looked through by the kernel, over permutations written as numbers -/
noncomputable def q_frc {α : Type} (x : Nat) (f : Nat → α) : α := Nat.rec (f 0) (fun n _ => f (n + 1)) x
theorem q_frc_eq {α : Type} (x : Nat) (f : Nat → α) : q_frc x f = f x := by cases x <;> rfl
def q_nc (c i : Nat) : Nat := c / 8 ^ i % 8
noncomputable def q_wkF (c : Nat) : Nat → Nat → Nat → Nat
  | 0, ps, _ => ps
  | f + 1, ps, at' => bif ps.testBit at' then ps else q_frc (ps ||| 2 ^ at') fun p2 => q_frc (q_nc c at') fun a2 => q_wkF c f p2 a2
noncomputable def q_rgF (c : Nat) : Nat → Nat → Nat → Nat → Nat
  | 0, _, s, _ => s
  | g + 1, k, s, ps => bif ps.testBit k then q_frc (k + 1) fun k2 => q_rgF c g k2 s ps else q_frc (k + 1) fun k2 => q_frc (s + 1) fun s2 => q_frc (q_wkF c 9 ps k) fun p2 => q_rgF c g k2 s2 p2
noncomputable def q_chF (c i : Nat) : Nat → Nat → Nat
  | 0, r => r
  | f + 1, r => bif Nat.blt r i then q_frc (q_nc c r) fun r2 => q_chF c i f r2 else r
noncomputable def q_ccF (c : Nat) : Nat → Nat → Nat → Nat
  | 0, _, s => s
  | g + 1, k, s => q_frc (s + bif Nat.beq (q_chF c k 8 (q_nc c k)) k then 1 else 0) fun s2 => q_frc (k + 1) fun k2 => q_ccF c g k2 s2
noncomputable def q_ckF (c : Nat) : Bool := q_frc (q_ccF c 8 0 0) fun x => Nat.beq (q_rgF c 8 0 0 0) x && Nat.ble 1 x
noncomputable def q_alF (E : Nat → Nat → Nat → Bool) (c m w : Nat) : Nat → Bool
  | 0 => true
  | g + 1 => (bif m.testBit (7 - g) then true else q_frc (c + (7 - g) * w) fun c2 => q_frc (m ||| 2 ^ (7 - g)) fun m2 => q_frc (8 * w) fun w2 => E c2 m2 w2) && q_alF E c m w g
noncomputable def q_dfs : Nat → Nat → Nat → Nat → Bool
  | 0, c, _, _ => q_ckF c
  | d + 1, c, m, w => q_alF (q_dfs d) c m w 8
theorem q_cnd {α : Type} (b : Bool) (x y : α) : (bif b then x else y) = if b = true then x else y := by cases b <;> rfl
/-- a number that spells a list, digit by digit -/
def q_sp (l : List Nat) (c : Nat) : Prop := (∀ i, i < l.length → q_nc c i = q_nth l i) ∧ c < 8 ^ l.length
theorem q_sp_s {l : List Nat} {c x : Nat} (h : q_sp l c) (hx : x < 8) : q_sp (l ++ [x]) (c + x * 8 ^ l.length) := by
  obtain ⟨h1, h2⟩ := h
  have hp : 0 < 8 ^ l.length := Nat.pow_pos (by decide)
  have hlen : (l ++ [x]).length = l.length + 1 := by simp
  refine ⟨fun i hi => ?_, ?_⟩
  · by_cases ci : i < l.length
    · rw [q_nth_l l _ i ci, ← h1 i ci]
      unfold q_nc
      obtain ⟨y, hy⟩ : ∃ y, 8 ^ l.length = 8 ^ i * (8 * y) := ⟨8 ^ (l.length - i - 1), by rw [← Nat.pow_succ', ← Nat.pow_add]; congr 1; omega⟩
      rw [hy, show x * (8 ^ i * (8 * y)) = 8 ^ i * (8 * (x * y)) by rw [Nat.mul_left_comm, Nat.mul_left_comm x 8 y], Nat.add_mul_div_left _ _ (Nat.pow_pos (by decide)), Nat.add_mul_mod_self_left]
    · rw [show i = l.length by omega, q_nth_e]
      unfold q_nc
      rw [Nat.add_mul_div_right _ _ hp, Nat.div_eq_of_lt h2, Nat.zero_add, Nat.mod_eq_of_lt hx]
  · rw [hlen, Nat.pow_succ]
    have : x * 8 ^ l.length ≤ 7 * 8 ^ l.length := Nat.mul_le_mul_right _ (by omega)
    omega
theorem q_wkF_eq {l : List Nat} {c : Nat} (h : q_sp l c) (hl : l.length = 8) (hv : q_vl l) : ∀ f ps at', at' < 8 → q_wkF c f ps at' = q_wk l f ps at'
  | 0, _, _, _ => rfl
  | f + 1, ps, at', ha => by
    show (bif ps.testBit at' then ps else q_frc (ps ||| 2 ^ at') fun p2 => q_frc (q_nc c at') fun a2 => q_wkF c f p2 a2) = (if ps.testBit at' then ps else q_wk l f (ps ||| 2 ^ at') (q_nth l at'))
    rw [q_cnd, q_frc_eq, q_frc_eq, h.1 at' (by omega), q_wkF_eq h hl hv f _ _ (hv.1 at' (by omega))]
theorem q_rgF_eq {l : List Nat} {c : Nat} (h : q_sp l c) (hl : l.length = 8) (hv : q_vl l) : ∀ g k s ps, k + g ≤ 8 → q_rgF c g k s ps = q_rgo l g k s ps
  | 0, _, _, _, _ => rfl
  | g + 1, k, s, ps, hk => by
    show (bif ps.testBit k then q_frc (k + 1) fun k2 => q_rgF c g k2 s ps else q_frc (k + 1) fun k2 => q_frc (s + 1) fun s2 => q_frc (q_wkF c 9 ps k) fun p2 => q_rgF c g k2 s2 p2) = q_rgo l g (k + 1) (s + (if ps.testBit k then 0 else 1)) (q_wk l 9 ps k)
    rw [q_cnd, q_frc_eq, q_frc_eq, q_frc_eq, q_frc_eq, q_rgF_eq h hl hv g _ _ _ (by omega), q_rgF_eq h hl hv g _ _ _ (by omega), q_wkF_eq h hl hv 9 ps k (by omega)]
    by_cases b : ps.testBit k = true
    · have e : q_wk l 9 ps k = ps := by
        show (if ps.testBit k then ps else _) = ps
        rw [if_pos b]
      rw [if_pos b, if_pos b, e]
      first | done | rfl
    · rw [if_neg b, if_neg b]
theorem q_chF_eq {l : List Nat} {c i : Nat} (h : q_sp l c) (hi : i < l.length) : ∀ f r, q_chF c i f r = q_chs l i f r
  | 0, _ => rfl
  | f + 1, r => by
    show (bif Nat.blt r i then q_frc (q_nc c r) fun r2 => q_chF c i f r2 else r) = (if r < i then q_chs l i f (q_nth l r) else r)
    rw [q_cnd, q_frc_eq, q_chF_eq h hi f]
    by_cases b : r < i
    · rw [if_pos b, if_pos (Nat.blt_eq.mpr b), h.1 r (by omega)]
    · rw [if_neg b, if_neg (fun e => b (Nat.blt_eq.mp e))]
theorem q_ccF_eq {l : List Nat} {c : Nat} (h : q_sp l c) : ∀ g k, k + g ≤ l.length → q_ccF c g k (fb_ct (q_cls l) k) = fb_ct (q_cls l) (k + g)
  | 0, _, _ => rfl
  | g + 1, k, hk => by
    show (q_frc (fb_ct (q_cls l) k + bif Nat.beq (q_chF c k 8 (q_nc c k)) k then 1 else 0) fun s2 => q_frc (k + 1) fun k2 => q_ccF c g k2 s2) = _
    rw [q_frc_eq, q_frc_eq, q_chF_eq h (by omega), h.1 k (by omega)]
    have e : (fb_ct (q_cls l) k + bif Nat.beq (q_chs l k 8 (q_nth l k)) k then 1 else 0) = fb_ct (q_cls l) (k + 1) := by
      rw [fb_ct_succ, q_cnd]
      unfold q_cls
      by_cases b : q_chs l k 8 (q_nth l k) = k
      · rw [if_pos (Nat.beq_eq.mpr b ▸ rfl : Nat.beq (q_chs l k 8 (q_nth l k)) k = true), if_pos (decide_eq_true b)]
      · rw [if_neg (fun e => b (Nat.eq_of_beq_eq_true e)), if_neg (by rw [decide_eq_true_iff]; exact b)]
    rw [e, q_ccF_eq h g (k + 1) (by omega), show k + 1 + g = k + (g + 1) by omega]
/-- as many closed as counted, and one at least -/
def q_gc (l : List Nat) : Prop := (q_rcy l 8).1 = q_cyc l ∧ 1 ≤ q_cyc l
theorem q_ckF_ok {l : List Nat} {c : Nat} (h : q_sp l c) (hl : l.length = 8) (hv : q_vl l) (hc : q_ckF c = true) : q_gc l := by
  have e1 : q_ccF c 8 0 0 = q_cyc l := by
    have := q_ccF_eq h 8 0 (by omega)
    unfold q_cyc
    rw [hl]
    exact this
  unfold q_ckF at hc
  rw [q_frc_eq, e1, q_rgF_eq h hl hv 8 0 0 0 (by decide), Bool.and_eq_true] at hc
  have e2 := q_rgo_eq l 8 0
  have e3 : q_rgo l 8 0 0 0 = q_cyc l := Nat.eq_of_beq_eq_true hc.1
  exact ⟨(e2.symm.trans e3), Nat.le_of_ble_eq_true hc.2⟩
theorem q_dfs_ok : ∀ (d : Nat) (l : List Nat) (c m : Nat), l.length + d = 8 → q_vl l → q_sp l c → (∀ x, x < 8 → m.testBit x = q_has l x) → q_dfs d c m (8 ^ l.length) = true → ∀ σ ∈ q_en d l, q_gc σ
  | 0, l, c, m, hl, hv, hs, hm, h => by
    intro σ hσ
    have hσ : σ = l := List.mem_singleton.mp hσ
    subst hσ
    exact q_ckF_ok hs (by omega) hv h
  | d + 1, l, c, m, hl, hv, hs, hm, h => by
    have key : ∀ g, g ≤ 8 → q_alF (q_dfs d) c m (8 ^ l.length) g = true → ∀ σ ∈ q_rs (q_en d) l g, q_gc σ := by
      intro g
      induction g with
      | zero => intro _ _ σ hσ; cases hσ
      | succ g ih =>
        intro hg hh σ hσ
        have hh : ((bif m.testBit (7 - g) then true else q_frc (c + (7 - g) * 8 ^ l.length) fun c2 => q_frc (m ||| 2 ^ (7 - g)) fun m2 => q_frc (8 * 8 ^ l.length) fun w2 => q_dfs d c2 m2 w2) && q_alF (q_dfs d) c m (8 ^ l.length) g) = true := hh
        rw [Bool.and_eq_true, q_cnd, q_frc_eq, q_frc_eq, q_frc_eq] at hh
        have hσ : σ ∈ (if q_has l (7 - g) = true then [] else q_en d (l ++ [7 - g])) ++ q_rs (q_en d) l g := hσ
        rcases List.mem_append.mp hσ with h1 | h1
        · cases hb : q_has l (7 - g)
          · rw [hb] at h1
            have h2 := hh.1
            rw [hm (7 - g) (by omega), hb, if_neg (by decide)] at h2
            have hlen : (l ++ [7 - g]).length = l.length + 1 := by simp
            refine q_dfs_ok d (l ++ [7 - g]) _ _ (by omega) (q_vl_s hv (by omega) hb) (q_sp_s hs (by omega)) ?_ (by rw [hlen, Nat.pow_succ']; exact h2) σ h1
            intro x hx
            rw [fb_bit_set, hm x hx]
            unfold q_has
            rw [List.contains_append]
            congr 1
            by_cases e : x = 7 - g
            · rw [decide_eq_true e, e]; simp
            · rw [decide_eq_false e]; simp [e]
          · rw [hb] at h1; cases h1
        · exact ih (by omega) hh.2 σ h1
    exact key 8 (by decide) h
