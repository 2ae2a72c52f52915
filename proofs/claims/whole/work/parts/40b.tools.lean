/-! tools for the pure side: answers in Option, counted loops, masks -/
def R1 {α : Type} (x : Option α) (P : α → Prop) : Prop := ∃ a, x = some a ∧ P a
theorem R1.ret {α : Type} {a : α} {P : α → Prop} (h : P a) : R1 (some a) P := ⟨a, rfl, h⟩
theorem R1.bn {α β : Type} {x : Option α} {f : α → Option β} {P : α → Prop} {Q : β → Prop} (h : R1 x P) (k : ∀ a, P a → R1 (f a) Q) : R1 (bn x f) Q := by
  obtain ⟨a, rfl, hp⟩ := h
  exact k a hp
theorem R1.bm {α β γ : Type} {x : Option (α × β)} {f : α → β → Option γ} {P : α × β → Prop} {Q : γ → Prop} (h : R1 x P) (k : ∀ a b, P (a, b) → R1 (f a b) Q) : R1 (bm x f) Q := by
  obtain ⟨⟨a, b⟩, rfl, hp⟩ := h
  exact k a b hp
theorem R1.mono {α : Type} {x : Option α} {P Q : α → Prop} (h : R1 x P) (k : ∀ a, P a → Q a) : R1 x Q := by
  obtain ⟨a, e, hp⟩ := h
  exact ⟨a, e, k a hp⟩
theorem R1.of {α : Type} {x : Option α} {a : α} {P : α → Prop} (e : x = some a) (h : P a) : R1 x P := ⟨a, e, h⟩
theorem R1.eqv {α : Type} {x y : Option α} {P : α → Prop} (e : x = y) (h : R1 y P) : R1 x P := e ▸ h
theorem R1.ite {α : Type} {c : Prop} {inst : Decidable c} {t e : Option α} {P : α → Prop} (h1 : c → R1 t P) (h2 : ¬ c → R1 e P) : R1 (@ite _ c inst t e) P := by
  by_cases hc : c
  · rw [if_pos hc]; exact h1 hc
  · rw [if_neg hc]; exact h2 hc
theorem bn_eq {α β : Type} {x : Option α} {a : α} {f : α → Option β} (h : x = some a) : bn x f = f a := by rw [h]; rfl
theorem bm_eq {α β γ : Type} {x : Option (α × β)} {a : α} {b : β} {f : α → β → Option γ} (h : x = some (a, b)) : bm x f = f a b := by rw [h]; rfl
/-- a counted loop runs to its end -/
theorem q_run {σ ρ : Type} {f : Nat → σ → Int32 → Option ρ} {N : Nat} {inv : Nat → σ → Prop} (hstep : ∀ i k s, i < N → inv i s → ∃ s', inv (i + 1) s' ∧ f (k + 1) s (nI i) = f k s' (nI (i + 1))) : ∀ d i k s, i + d = N → inv i s → d < k → ∃ s' k', inv N s' ∧ f k s (nI i) = f (k' + 1) s' (nI N) := by
  intro d
  induction d with
  | zero =>
    intro i k s hi hs hk
    have : i = N := by omega
    subst this
    exact ⟨s, k - 1, hs, by rw [show k - 1 + 1 = k by omega]⟩
  | succ d ih =>
    intro i k s hi hs hk
    obtain ⟨k, rfl⟩ : ∃ k', k = k' + 1 := ⟨k - 1, by omega⟩
    obtain ⟨s1, h1, e1⟩ := hstep i k s (by omega) hs
    obtain ⟨s2, k2, h2, e2⟩ := ih (i + 1) k s1 (by omega) h1 (by omega)
    exact ⟨s2, k2, h2, e1.trans e2⟩
theorem q_fun {σ ρ : Type} {f : Nat → σ → Int32 → Option ρ} (N : Nat) (acc : Nat → σ) (hstep : ∀ i k, i < N → f (k + 1) (acc i) (nI i) = f k (acc (i + 1)) (nI (i + 1))) {k : Nat} (hk : N < k) : ∃ k', f k (acc 0) (nI 0) = f (k' + 1) (acc N) (nI N) := by
  obtain ⟨s, k', h, e⟩ := q_run (f := f) (N := N) (inv := fun i s => s = acc i) (fun i k s hi hs => ⟨acc (i + 1), rfl, hs ▸ hstep i k hi⟩) N 0 k (acc 0) (by omega) rfl hk
  exact ⟨k', h ▸ e⟩
/-- a counted loop that may leave early -/
theorem q_lp {σ ρ : Type} {f : Nat → σ → Int32 → Option ρ} {N : Nat} {inv : Nat → σ → Prop} {P : ρ → Prop} (hend : ∀ k s, inv N s → R1 (f (k + 1) s (nI N)) P) (hstep : ∀ i k s, i < N → inv i s → R1 (f (k + 1) s (nI i)) P ∨ ∃ s', inv (i + 1) s' ∧ f (k + 1) s (nI i) = f k s' (nI (i + 1))) : ∀ d i k s, i + d = N → inv i s → d < k → R1 (f k s (nI i)) P := by
  intro d
  induction d with
  | zero =>
    intro i k s hi hs hk
    have : i = N := by omega
    subst this
    obtain ⟨k, rfl⟩ : ∃ k', k = k' + 1 := ⟨k - 1, by omega⟩
    exact hend k s hs
  | succ d ih =>
    intro i k s hi hs hk
    obtain ⟨k, rfl⟩ : ∃ k', k = k' + 1 := ⟨k - 1, by omega⟩
    rcases hstep i k s (by omega) hs with h | ⟨s1, h1, e1⟩
    · exact h
    · rw [e1]; exact ih (i + 1) k s1 (by omega) h1 (by omega)
theorem inb_n {i N : Nat} (h : i < N) (hN : N < 2 ^ 31) : inb (nI i) N = true := decide_eq_true (nI_in h hN)
theorem q_i1 (i : Nat) : nI i + (1 : Int32) = nI (i + 1) := nI_1 i
theorem q_shl1 : ∀ k, k < 31 → (1 : Int32) <<< (nI k &&& 31) = nI (2 ^ k) := by decide +kernel
def q_mk (f : Nat → Bool) : Nat → Nat
  | 0 => 0
  | n + 1 => q_mk f n ||| (if f n then 2 ^ n else 0)
theorem q_mk_lt (f : Nat → Bool) : ∀ n, q_mk f n < 2 ^ n
  | 0 => by show (0:Nat) < 1; omega
  | n + 1 => by
    have h := q_mk_lt f n
    have h1 : 2 ^ n < 2 ^ (n + 1) := Nat.pow_lt_pow_right (by decide) (by omega)
    show q_mk f n ||| (if f n then 2 ^ n else 0) < 2 ^ (n + 1)
    apply Nat.or_lt_two_pow (Nat.lt_trans h h1)
    split
    · exact h1
    · exact Nat.two_pow_pos _
theorem q_mk_bit (f : Nat → Bool) (i : Nat) : ∀ n, (q_mk f n).testBit i = (decide (i < n) && f i)
  | 0 => by show (0 : Nat).testBit i = _; simp
  | n + 1 => by
    show (q_mk f n ||| (if f n then 2 ^ n else 0)).testBit i = _
    rw [Nat.testBit_or, q_mk_bit f i n]
    by_cases hi : i = n
    · subst hi
      cases hf : f i
      · simp
      · simp [Nat.testBit_two_pow]
    · have h2 : (if f n = true then 2 ^ n else 0).testBit i = false := by
        split
        · rw [Nat.testBit_two_pow]; exact decide_eq_false (by omega)
        · exact Nat.zero_testBit i
      rw [h2]
      have : decide (i < n + 1) = decide (i < n) := by
        by_cases h : i < n
        · rw [decide_eq_true h, decide_eq_true (by omega)]
        · rw [decide_eq_false h, decide_eq_false (by omega)]
      rw [this, Bool.or_false]
theorem q_mk_cong {f g : Nat → Bool} : ∀ {n : Nat}, (∀ k, k < n → f k = g k) → q_mk f n = q_mk g n
  | 0, _ => rfl
  | n + 1, h => by
    show q_mk f n ||| _ = q_mk g n ||| _
    rw [q_mk_cong (fun k hk => h k (by omega)), h n (by omega)]
theorem q_mk_of (m : Nat) : ∀ n, q_mk (fun k => m.testBit k) n = m % 2 ^ n := by
  intro n
  apply Nat.eq_of_testBit_eq
  intro i
  rw [q_mk_bit, Nat.testBit_mod_two_pow]
theorem q_or1 {m k : Nat} (hk : k < 31) : nI m ||| ((1 : Int32) <<< (nI k &&& 31)) = nI (m ||| 2 ^ k) := by rw [q_shl1 k hk, fa_or]
theorem q_or0 {m : Nat} : nI m ||| (0 : Int32) = nI m := (fa_or m 0).trans (by rw [Nat.or_zero])
theorem q_bit {m i : Nat} (hm : m < 2 ^ 31) (hi : i < 31) : ((nI m >>> (nI i &&& 31)) &&& (1 : Int32)) = nI (if m.testBit i then 1 else 0) := by
  rw [pk_shrN hm (nI i &&& 31) i (s_l i (by omega))]
  refine (fa_mask (m / 2 ^ i) 1).trans ?_
  rw [Nat.testBit_eq_decide_div_mod_eq]
  have := Nat.mod_two_eq_zero_or_one (m / 2 ^ i)
  rcases this with h | h <;> simp [h]
def bI (b : Bool) : Int32 := if b then 1 else 0
theorem bI_0 {b : Bool} : bI b = 0 ↔ b = false := by cases b <;> decide
theorem bI_1 {b : Bool} : bI b = 1 ↔ b = true := by cases b <;> decide
theorem bI_n (b : Bool) : bI b = nI (if b then 1 else 0) := by cases b <;> rfl
theorem bI_z (b : Bool) : bz (bI b) = true := by cases b <;> decide +kernel
theorem bz_0 : bz (0 : Int32) = true := by decide +kernel
theorem bz_1 : bz (1 : Int32) = true := by decide +kernel
theorem q_bitB {m i : Nat} (hm : m < 2 ^ 31) (hi : i < 31) : ((nI m >>> (nI i &&& 31)) &&& (1 : Int32)) = bI (m.testBit i) := by rw [q_bit hm hi, bI_n]
/-- how many bits of a small number -/
def q_pc (m : Nat) : Nat := fb_ct (fun k => m.testBit k) 16
theorem q_bitCount : ∀ m, m < 1024 → mJ6_bitCount_0f7a4 (nI m) = some (nI (q_pc m)) := by decide +kernel
theorem q_pc_le (m : Nat) : q_pc m ≤ 16 := fb_ct_le _ _
theorem q_pc_mk {f : Nat → Bool} {n : Nat} (hn : n ≤ 16) : q_pc (q_mk f n) = fb_ct f n := by
  obtain ⟨d, hd⟩ : ∃ d, 16 = n + d := ⟨16 - n, by omega⟩
  have h1 : q_pc (q_mk f n) = fb_ct (fun k => decide (k < n) && f k) (n + d) := by
    unfold q_pc
    rw [hd]
    exact fb_ct_cong (fun k _ => q_mk_bit f k n)
  have h2 : fb_ct (fun k => decide (k < n) && f k) n = fb_ct f n := fb_ct_cong (fun k hk => by rw [decide_eq_true hk, Bool.true_and])
  have h3 : fb_ct (fun k => decide (n + k < n) && f (n + k)) d = 0 := fb_ct_zero.mpr (fun k _ => by rw [decide_eq_false (by omega), Bool.false_and])
  rw [h1, fb_ct_split, h2, h3, Nat.add_zero]
theorem q_bits (n : Nat) (hn : 16 < n) {m : Nat} (hm : m < 2 ^ 31) : mX8_bits n (nI m) = some (nI (q_pc m)) := by
  obtain ⟨k', e⟩ := q_fun (f := fun k a i => mX8_bits_4 n (nI m) k a i) 16 (fun i => nI (fb_ct (fun k => m.testBit k) i)) (by
    intro i k hi
    show mX8_bits_4 n (nI m) (k + 1) _ (nI i) = _
    rw [mX8_bits_4, if_neg (show ¬ (16 : Int32) ≤ nI i from nI_ge hi (by decide)), q_bit hm (by omega), nI_add, q_i1, fb_ct_succ]) hn
  show mX8_bits_4 n (nI m) n (nI 0) (nI 0) = _
  refine e.trans ?_
  show mX8_bits_4 n (nI m) (k' + 1) _ (nI 16) = _
  rw [mX8_bits_4, if_pos (show (16 : Int32) ≤ nI 16 from nI_le (Nat.le_refl 16) (by decide))]
  rfl
