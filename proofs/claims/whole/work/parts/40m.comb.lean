/-! which permutations have the fewest cuts -/
def q_In (s : Nat → Nat) : Prop := (∀ i, i < 8 → s i < 8) ∧ ∀ i j, i < 8 → j < 8 → s i = s j → i = j
def q_av (f : Nat → Nat) (v : Nat) : Nat := fb_ct (fun p => decide (f p = v)) 8
def q_mv (ln lf s : Nat → Nat) (v : Nat) : Nat := fb_ct (fun p => decide (ln p = v) && decide (lf (s p) = v)) 8
def q_mt (ln lf s : Nat → Nat) : Nat := fb_ct (fun p => decide (ln p = lf (s p))) 8
def q_Al (ln lf s : Nat → Nat) : Prop := ∀ p, p < 8 → ln p = lf (s p) ∨ (q_av lf (ln p) < q_av ln (ln p) ∧ q_av ln (lf (s p)) < q_av lf (lf (s p)))
theorem q_inj_le (s : Nat → Nat) (m : Nat) : ∀ (n : Nat) (f : Nat → Bool), (∀ i, i < n → s i < m) → (∀ i j, i < n → j < n → s i = s j → i = j) → fb_ct (fun p => f (s p)) n ≤ fb_ct f m
  | 0, _, _, _ => Nat.zero_le _
  | n + 1, f, h1, h2 => by
    rw [fb_ct_succ]
    have hx := h1 n (by omega)
    have hu := fb_ct_upd f false hx
    have ih := q_inj_le s m n (fun k => if k = s n then false else f k) (fun i hi => h1 i (by omega)) (fun i j hi hj => h2 i j (by omega) (by omega))
    have e : fb_ct (fun p => (fun k => if k = s n then false else f k) (s p)) n = fb_ct (fun p => f (s p)) n := fb_ct_cong (fun p hp => by
      show (if s p = s n then false else f (s p)) = f (s p)
      rw [if_neg (fun h => by have := h2 p n (by omega) (by omega) h; omega)])
    rw [e] at ih
    rw [if_neg (show ¬ false = true by decide)] at hu
    omega
theorem q_inj_eq {s : Nat → Nat} (h : q_In s) (f : Nat → Bool) : fb_ct (fun p => f (s p)) 8 = fb_ct f 8 := by
  have a := q_inj_le s 8 8 f h.1 h.2
  have b := q_inj_le s 8 8 (fun k => !f k) h.1 h.2
  have c := fb_ct_not f 8
  have d := fb_ct_not (fun p => f (s p)) 8
  omega
theorem q_ct_lt {f g : Nat → Bool} {n j : Nat} (h : ∀ k, k < n → f k = true → g k = true) (hj : j < n) (hf : f j = false) (hg : g j = true) : fb_ct f n < fb_ct g n := by
  have h1 : fb_ct (fun k => if k = j then true else f k) n ≤ fb_ct g n := fb_ct_sub (fun k hk hk2 => by
    by_cases e : k = j
    · rw [e]; exact hg
    · rw [if_neg e] at hk2; exact h k hk hk2)
  have h2 := fb_ct_upd f true hj
  rw [hf, if_neg (show ¬ false = true by decide), if_pos (show true = true from rfl)] at h2
  omega
theorem q_sm_lt {f g : Nat → Nat} {n j : Nat} (h : ∀ k, k < n → f k ≤ g k) (hj : j < n) (hlt : f j < g j) : fb_sm f n < fb_sm g n := by
  have h1 : fb_sm (fun k => if k = j then f j + 1 else f k) n ≤ fb_sm g n := fb_sm_le (fun k hk => by
    by_cases e : k = j
    · rw [if_pos e, e]; exact hlt
    · rw [if_neg e]; exact h k hk)
  have h2 := fb_sm_upd f (f j + 1) hj
  omega
theorem q_lab_sum (lab : Nat → Nat) (P : Nat → Bool) (V : Nat) : ∀ n, (∀ p, p < n → lab p < V) → fb_sm (fun v => fb_ct (fun p => decide (lab p = v) && P p) n) V = fb_ct P n
  | 0, _ => by
    have : fb_sm (fun _ => 0) V = V * 0 := fb_sm_const 0 V
    exact this.trans (Nat.mul_zero V)
  | n + 1, h => by
    have h1 : fb_sm (fun v => fb_ct (fun p => decide (lab p = v) && P p) (n + 1)) V = fb_sm (fun v => fb_ct (fun p => decide (lab p = v) && P p) n + (if (decide (lab n = v) && P n) = true then 1 else 0)) V := fb_sm_cong (fun v _ => fb_ct_succ _ _)
    rw [h1, fb_sm_add, q_lab_sum lab P V n (fun p hp => h p (by omega)), fb_ct_succ]
    have hz : fb_sm (fun _ : Nat => 0) V = 0 := (fb_sm_const 0 V).trans (Nat.mul_zero V)
    cases hP : P n
    · have : fb_sm (fun v => if (decide (lab n = v) && false) = true then 1 else 0) V = fb_sm (fun _ => 0) V := fb_sm_cong (fun v _ => by rw [Bool.and_false]; rfl)
      rw [this, hz]; rfl
    · have hl := h n (by omega)
      have h2 := fb_sm_upd (fun _ => 0) 1 hl
      have h3 : fb_sm (fun v => if (decide (lab n = v) && true) = true then 1 else 0) V = fb_sm (fun k => if k = lab n then 1 else 0) V := fb_sm_cong (fun v _ => by
        rw [Bool.and_true]
        by_cases e : v = lab n
        · rw [if_pos e, e, if_pos (decide_eq_true rfl)]
        · rw [if_neg e, if_neg (by rw [decide_eq_true_iff]; exact fun h => e h.symm)])
      rw [h3]
      rw [if_pos rfl]
      omega
theorem q_mt_sum {ln lf s : Nat → Nat} (hl : ∀ p, p < 8 → ln p < 16) : q_mt ln lf s = fb_sm (q_mv ln lf s) 16 := by
  unfold q_mt
  rw [← q_lab_sum ln _ 16 8 hl]
  refine fb_sm_cong (fun v _ => ?_)
  unfold q_mv
  refine fb_ct_cong (fun p _ => ?_)
  by_cases e : ln p = v
  · subst e
    rw [decide_eq_true rfl, Bool.true_and, Bool.true_and]
    exact decide_eq_decide.mpr eq_comm
  · rw [decide_eq_false e, Bool.false_and, Bool.false_and]
theorem q_mv_a (ln lf s : Nat → Nat) (v : Nat) : q_mv ln lf s v ≤ q_av ln v := fb_ct_sub (fun p _ h => (Bool.and_eq_true _ _ ▸ h : _ ∧ _).1)
theorem q_mv_b {s : Nat → Nat} (hs : q_In s) (ln lf : Nat → Nat) (v : Nat) : q_mv ln lf s v ≤ q_av lf v := by
  unfold q_av
  rw [← q_inj_eq hs (fun p => decide (lf p = v))]
  exact fb_ct_sub (fun p _ h => (Bool.and_eq_true _ _ ▸ h : _ ∧ _).2)
theorem q_mv_al {ln lf s : Nat → Nat} (hs : q_In s) (h : q_Al ln lf s) (v : Nat) : (q_av ln v ≤ q_av lf v → q_mv ln lf s v = q_av ln v) ∧ (q_av lf v ≤ q_av ln v → q_mv ln lf s v = q_av lf v) := by
  constructor
  · intro hle
    unfold q_mv q_av
    refine fb_ct_cong (fun p hp => ?_)
    by_cases e : ln p = v
    · rw [decide_eq_true e, Bool.true_and]
      rcases h p hp with h1 | ⟨h1, _⟩
      · rw [← h1]; exact decide_eq_true e
      · rw [e] at h1; omega
    · rw [decide_eq_false e, Bool.false_and]
  · intro hle
    unfold q_av
    rw [← q_inj_eq hs (fun p => decide (lf p = v))]
    unfold q_mv
    refine fb_ct_cong (fun p hp => ?_)
    show _ = decide (lf (s p) = v)
    by_cases e : lf (s p) = v
    · rw [decide_eq_true e, Bool.and_true]
      rcases h p hp with h1 | ⟨_, h1⟩
      · exact decide_eq_true (h1.trans e)
      · rw [e] at h1; omega
    · rw [decide_eq_false e, Bool.and_false]
theorem q_mv_le {ln lf s t : Nat → Nat} (hs : q_In s) (ht : q_In t) (h : q_Al ln lf s) (v : Nat) : q_mv ln lf t v ≤ q_mv ln lf s v := by
  have h1 := q_mv_a ln lf t v
  have h2 := q_mv_b ht ln lf v
  have h3 := q_mv_al hs h v
  rcases Nat.le_total (q_av ln v) (q_av lf v) with c | c
  · have := h3.1 c; omega
  · have := h3.2 c; omega
theorem q_al_min {ln lf s t : Nat → Nat} (hl : ∀ p, p < 8 → ln p < 16) (hs : q_In s) (ht : q_In t) (h : q_Al ln lf s) : q_mt ln lf t ≤ q_mt ln lf s := by
  rw [q_mt_sum hl, q_mt_sum hl]
  exact fb_sm_le (fun v _ => q_mv_le hs ht h v)
theorem q_nal {ln lf t : Nat → Nat} (h : ¬ q_Al ln lf t) : ∃ p, p < 8 ∧ ¬ ln p = lf (t p) ∧ (q_av ln (ln p) ≤ q_av lf (ln p) ∨ q_av lf (lf (t p)) ≤ q_av ln (lf (t p))) := by
  apply Classical.byContradiction
  intro hn
  apply h
  intro p hp
  apply Classical.byContradiction
  intro hc
  apply hn
  refine ⟨p, hp, fun e => hc (Or.inl e), ?_⟩
  rcases Nat.lt_or_ge (q_av lf (ln p)) (q_av ln (ln p)) with c1 | c1
  · rcases Nat.lt_or_ge (q_av ln (lf (t p))) (q_av lf (lf (t p))) with c2 | c2
    · exact absurd (Or.inr ⟨c1, c2⟩) hc
    · exact Or.inr c2
  · exact Or.inl c1
theorem q_mv_un {ln lf t : Nat → Nat} (ht : q_In t) {p : Nat} (hp : p < 8) (hne : ¬ ln p = lf (t p)) : q_mv ln lf t (ln p) < q_av ln (ln p) ∧ q_mv ln lf t (lf (t p)) < q_av lf (lf (t p)) := by
  constructor
  · exact q_ct_lt (fun k _ h => (Bool.and_eq_true _ _ ▸ h : _ ∧ _).1) hp (by rw [decide_eq_true rfl, Bool.true_and]; exact decide_eq_false (fun h => hne h.symm)) (decide_eq_true rfl)
  · unfold q_av
    rw [← q_inj_eq ht (fun x => decide (lf x = lf (t p)))]
    exact q_ct_lt (fun k _ h => (Bool.and_eq_true _ _ ▸ h : _ ∧ _).2) hp (by rw [decide_eq_false hne, Bool.false_and]) (decide_eq_true rfl)
theorem q_nal_lt {ln lf s t : Nat → Nat} (hl : ∀ p, p < 8 → ln p < 16) (hl2 : ∀ p, p < 8 → lf p < 16) (hs : q_In s) (ht : q_In t) (h : q_Al ln lf s) (hn : ¬ q_Al ln lf t) : q_mt ln lf t < q_mt ln lf s := by
  obtain ⟨p, hp, hne, hc⟩ := q_nal hn
  obtain ⟨u1, u2⟩ := q_mv_un ht hp hne
  rw [q_mt_sum hl, q_mt_sum hl]
  rcases hc with c | c
  · refine q_sm_lt (j := ln p) (fun v _ => q_mv_le hs ht h v) (hl p hp) ?_
    rw [(q_mv_al hs h (ln p)).1 c]; exact u1
  · refine q_sm_lt (j := lf (t p)) (fun v _ => q_mv_le hs ht h v) (hl2 _ (ht.1 p hp)) ?_
    rw [(q_mv_al hs h (lf (t p))).2 c]; exact u2
/-- two values of a permutation exchanged -/
def q_sw (s : Nat → Nat) (p q : Nat) : Nat → Nat := fun x => if x = p then s q else if x = q then s p else s x
theorem q_sw_in {s : Nat → Nat} (h : q_In s) {p q : Nat} (hp : p < 8) (hq : q < 8) : q_In (q_sw s p q) := by
  unfold q_sw
  refine ⟨fun i hi => ?_, fun i j hi hj e => ?_⟩
  · show (if i = p then s q else if i = q then s p else s i) < 8
    split
    · exact h.1 q hq
    · split
      · exact h.1 p hp
      · exact h.1 i hi
  · have e : (if i = p then s q else if i = q then s p else s i) = (if j = p then s q else if j = q then s p else s j) := e
    have inj := h.2
    by_cases a1 : i = p <;> by_cases a2 : j = p
    · omega
    · rw [if_pos a1, if_neg a2] at e
      by_cases a3 : j = q
      · rw [if_pos a3] at e
        have := inj q p hq hp e
        omega
      · rw [if_neg a3] at e
        exact absurd (inj q j hq hj e).symm a3
    · rw [if_neg a1, if_pos a2] at e
      by_cases a3 : i = q
      · rw [if_pos a3] at e
        have := inj p q hp hq e
        omega
      · rw [if_neg a3] at e
        exact absurd (inj i q hi hq e) a3
    · rw [if_neg a1, if_neg a2] at e
      by_cases a3 : i = q <;> by_cases a4 : j = q
      · omega
      · rw [if_pos a3, if_neg a4] at e
        exact absurd (inj p j hp hj e).symm a2
      · rw [if_neg a3, if_pos a4] at e
        exact absurd (inj i p hi hp e) a1
      · rw [if_neg a3, if_neg a4] at e
        exact inj i j hi hj e
theorem q_al_ex (ln lf : Nat → Nat) : ∀ (m : Nat) (s : Nat → Nat), q_In s → 8 - q_mt ln lf s ≤ m → ∃ t, q_In t ∧ q_Al ln lf t := by
  intro m
  induction m with
  | zero =>
    intro s hs hm
    have hle : q_mt ln lf s ≤ 8 := fb_ct_le _ _
    have h8 : q_mt ln lf s = 8 := by omega
    have := fb_ct_all.mp h8
    exact ⟨s, hs, fun p hp => Or.inl (of_decide_eq_true (this p hp))⟩
  | succ m ih =>
    intro s hs hm
    by_cases hA : q_Al ln lf s
    · exact ⟨s, hs, hA⟩
    · obtain ⟨p, hp, hne, hc⟩ := q_nal hA
      obtain ⟨u1, u2⟩ := q_mv_un hs hp hne
      have better : ∀ p q, p < 8 → q < 8 → ¬ ln p = lf (s p) → ¬ ln q = lf (s q) → ln p = lf (s q) → ∃ t, q_In t ∧ q_Al ln lf t := by
        intro p q hp hq n1 n2 e
        refine ih (q_sw s p q) (q_sw_in hs hp hq) ?_
        have : q_mt ln lf s < q_mt ln lf (q_sw s p q) := by
          refine q_ct_lt (j := p) (fun k hk h => ?_) hp (decide_eq_false n1) ?_
          · have h := of_decide_eq_true h
            refine decide_eq_true ?_
            show ln k = lf (if k = p then s q else if k = q then s p else s k)
            rw [if_neg (show ¬ k = p from fun e => n1 (by rw [← e]; exact h)), if_neg (show ¬ k = q from fun e => n2 (by rw [← e]; exact h))]
            exact h
          · refine decide_eq_true ?_
            show ln p = lf (if p = p then s q else if p = q then s p else s p)
            rw [if_pos rfl]; exact e
        omega
      rcases hc with c | c
      · -- a far pin of p's own net is held by a pin of another net
        have h1 : q_mv ln lf s (ln p) < q_av lf (ln p) := by omega
        obtain ⟨q, hq, e1, e2⟩ : ∃ q, q < 8 ∧ lf (s q) = ln p ∧ ¬ ln q = ln p := by
          apply Classical.byContradiction
          intro hn
          have : q_av lf (ln p) ≤ q_mv ln lf s (ln p) := by
            unfold q_av
            rw [← q_inj_eq hs (fun x => decide (lf x = ln p))]
            refine fb_ct_sub (fun k hk h => ?_)
            have h := of_decide_eq_true h
            rw [decide_eq_true h, Bool.and_true]
            refine decide_eq_true ?_
            apply Classical.byContradiction
            intro hh
            exact hn ⟨k, hk, h, hh⟩
          omega
        exact better p q hp hq hne (fun e => e2 (e.trans e1)) e1.symm
      · have h1 : q_mv ln lf s (lf (s p)) < q_av ln (lf (s p)) := by omega
        obtain ⟨q, hq, e1, e2⟩ : ∃ q, q < 8 ∧ ln q = lf (s p) ∧ ¬ lf (s q) = lf (s p) := by
          apply Classical.byContradiction
          intro hn
          have : q_av ln (lf (s p)) ≤ q_mv ln lf s (lf (s p)) := by
            refine fb_ct_sub (fun k hk h => ?_)
            have h := of_decide_eq_true h
            rw [decide_eq_true h, Bool.true_and]
            refine decide_eq_true ?_
            apply Classical.byContradiction
            intro hh
            exact hn ⟨k, hk, h, hh⟩
          omega
        exact better q p hq hp (fun e => e2 (e.symm.trans e1)) hne e1
/-! the first best one of a list -/
def q_fs (key : List Nat → Nat) (b : Nat × List Nat) (σ : List Nat) : Nat × List Nat := if key σ < b.1 then (key σ, σ) else b
theorem q_fs_no (key : List Nat → Nat) : ∀ (L : List (List Nat)) (b : Nat × List Nat), (∀ σ ∈ L, b.1 ≤ key σ) → L.foldl (q_fs key) b = b
  | [], _, _ => rfl
  | σ :: L, b, h => by
    show L.foldl (q_fs key) (q_fs key b σ) = b
    have : q_fs key b σ = b := by unfold q_fs; rw [if_neg (by have := h σ (List.mem_cons_self ..); omega)]
    rw [this]
    exact q_fs_no key L b (fun τ hτ => h τ (List.mem_cons_of_mem _ hτ))
theorem q_fs_gt (key : List Nat → Nat) (c : Nat) : ∀ (L : List (List Nat)) (b : Nat × List Nat), c < b.1 → (∀ σ ∈ L, c < key σ) → c < (L.foldl (q_fs key) b).1
  | [], _, hb, _ => hb
  | σ :: L, b, hb, h => by
    show c < (L.foldl (q_fs key) (q_fs key b σ)).1
    refine q_fs_gt key c L _ ?_ (fun τ hτ => h τ (List.mem_cons_of_mem _ hτ))
    unfold q_fs
    split
    · exact h σ (List.mem_cons_self ..)
    · exact hb
theorem q_fs_of (key : List Nat → Nat) {L1 L2 : List (List Nat)} {σ : List Nat} {b : Nat × List Nat} (hb : key σ < b.1) (h1 : ∀ τ ∈ L1, key σ < key τ) (h2 : ∀ τ ∈ L2, key σ ≤ key τ) : (L1 ++ σ :: L2).foldl (q_fs key) b = (key σ, σ) := by
  rw [List.foldl_append]
  have := q_fs_gt key (key σ) L1 b hb h1
  show L2.foldl (q_fs key) (q_fs key (L1.foldl (q_fs key) b) σ) = _
  have e : q_fs key (L1.foldl (q_fs key) b) σ = (key σ, σ) := if_pos this
  rw [e]
  exact q_fs_no key L2 _ h2
theorem q_fs_split (key : List Nat → Nat) : ∀ (L : List (List Nat)), L ≠ [] → ∃ L1 σ L2, L = L1 ++ σ :: L2 ∧ (∀ τ ∈ L1, key σ < key τ) ∧ ∀ τ ∈ L2, key σ ≤ key τ
  | [], h => absurd rfl h
  | [x], _ => ⟨[], x, [], rfl, (fun _ h => by cases h), (fun _ h => by cases h)⟩
  | x :: y :: L, _ => by
    obtain ⟨L1, σ, L2, e, h1, h2⟩ := q_fs_split key (y :: L) (by simp)
    by_cases c : key x ≤ key σ
    · refine ⟨[], x, y :: L, rfl, (fun _ h => by cases h), ?_⟩
      intro τ hτ
      rw [e] at hτ
      rcases List.mem_append.mp hτ with h | h
      · have := h1 τ h; omega
      · rcases List.mem_cons.mp h with h | h
        · rw [h]; exact c
        · have := h2 τ h; omega
    · refine ⟨x :: L1, σ, L2, by rw [e]; rfl, ?_, h2⟩
      intro τ hτ
      rcases List.mem_cons.mp hτ with h | h
      · rw [h]; omega
      · exact h1 τ h
/-- the first of the fewest cuts and exchanges is the first of the fewest exchanges among those allowed -/
theorem q_two {L : List (List Nat)} {A : List Nat → Prop} {cu ex : List Nat → Nat} {k1 k2 : List Nat → Nat} (hA1 : ∀ σ ∈ L, A σ → k2 σ = ex σ) (hA2 : ∀ σ ∈ L, ¬ A σ → k2 σ = 100) (hk1 : ∀ σ ∈ L, k1 σ = 9 * cu σ + ex σ) (hex : ∀ σ ∈ L, ex σ ≤ 7) (hcu : ∀ σ ∈ L, cu σ ≤ 8) (hmin : ∀ σ ∈ L, ∀ τ ∈ L, A σ → A τ → cu σ = cu τ) (hlt : ∀ σ ∈ L, ∀ τ ∈ L, A σ → ¬ A τ → cu σ < cu τ) {α : List Nat} (hα : α ∈ L) (hAα : A α) (x y : List Nat) : ∃ σ ∈ L, A σ ∧ L.foldl (q_fs k1) (90, x) = (k1 σ, σ) ∧ L.foldl (q_fs k2) (8, y) = (k2 σ, σ) := by
  obtain ⟨L1, σ, L2, e, h1, h2⟩ := q_fs_split k2 L (fun h => by rw [h] at hα; cases hα)
  have hσ : σ ∈ L := by rw [e]; exact List.mem_append.mpr (Or.inr (List.mem_cons_self ..))
  have hAσ : A σ := by
    apply Classical.byContradiction
    intro hn
    have hk := hA2 σ hσ hn
    have hkα := hA1 α hα hAα
    have hxα := hex α hα
    rw [e] at hα
    rcases List.mem_append.mp hα with h | h
    · have := h1 α h; omega
    · rcases List.mem_cons.mp h with h | h
      · rw [← h] at hn; exact hn hAα
      · have := h2 α h; omega
  have kσ := hA1 σ hσ hAσ
  have xσ := hex σ hσ
  have cσ := hcu σ hσ
  have oσ := hk1 σ hσ
  have tr : ∀ τ ∈ L, (k2 σ < k2 τ → k1 σ < k1 τ) ∧ (k2 σ ≤ k2 τ → k1 σ ≤ k1 τ) := by
    intro τ hτ
    have oτ := hk1 τ hτ
    by_cases hAτ : A τ
    · have := hmin σ hσ τ hτ hAσ hAτ
      have := hA1 τ hτ hAτ
      constructor <;> intro h <;> omega
    · have := hlt σ hσ τ hτ hAσ hAτ
      constructor <;> intro h <;> omega
  refine ⟨σ, hσ, hAσ, ?_, ?_⟩
  · conv => lhs; rw [e]
    exact q_fs_of k1 (show k1 σ < 90 by omega) (fun τ hτ => (tr τ (by rw [e]; exact List.mem_append.mpr (Or.inl hτ))).1 (h1 τ hτ)) (fun τ hτ => (tr τ (by rw [e]; exact List.mem_append.mpr (Or.inr (List.mem_cons_of_mem _ hτ)))).2 (h2 τ hτ))
  · conv => lhs; rw [e]
    exact q_fs_of k2 (show k2 σ < 8 by omega) h1 h2
