/-! the abstract state: (length velocity unit tick), wires, faults (wire, 0 or 1 + other, place, period, duration), records (oldest first), text; how the class and the reference hold it -/
abbrev Ft : Type := Nat × Nat × Nat × Nat × Nat
abbrev AS : Type := (Nat × Nat × Nat × Nat) × (Nat → Nat) × List Ft × List Nat × List Nat
abbrev aL (a : AS) : Nat := a.1.1
abbrev aV (a : AS) : Nat := a.1.2.1
abbrev aU (a : AS) : Nat := a.1.2.2.1
abbrev aT (a : AS) : Nat := a.1.2.2.2
abbrev aW (a : AS) : Nat → Nat := a.2.1
abbrev aF (a : AS) : List Ft := a.2.2.1
abbrev aR (a : AS) : List Nat := a.2.2.2.1
abbrev aX (a : AS) : List Nat := a.2.2.2.2
def oI (o : Nat) : Int32 := nI o - 1
theorem oI_n : ∀ o, o < 9 → ∀ w, w < 8 → (oI o = nI w ↔ o = w + 1) := by decide +kernel
theorem oI_m : ∀ o, o < 9 → (oI o = (-1 : Int32) ↔ o = 0) := by decide +kernel
theorem oI_s (w : Nat) : oI (w + 1) = nI w := nI_pred w
def d5 (x : Ft) : Int32 × Int32 × Int32 × Int32 × Int32 := (nI x.1, oI x.2.1, nI x.2.2.1, nI x.2.2.2.1, nI x.2.2.2.2)
def e5 (f : FT) : Int32 × Int32 × Int32 × Int32 × Int32 := (f.2 0, f.2 1, f.2 2, f.2 3, f.2 4)
def q_pr (x : Ft) (t : Nat) : Bool := decide (t % x.2.2.2.1 < x.2.2.2.2)
def q_ok (len : Nat) (x : Ft) : Prop := x.1 < 8 ∧ x.2.1 < 9 ∧ x.2.1 ≠ x.1 + 1 ∧ 1 ≤ x.2.2.1 ∧ x.2.2.1 < len ∧ 1 ≤ x.2.2.2.1 ∧ x.2.2.2.1 ≤ 32 ∧ 1 ≤ x.2.2.2.2 ∧ x.2.2.2.2 ≤ x.2.2.2.1
def Va (a : AS) : Prop := 2 ≤ aL a ∧ aL a ≤ 999 ∧ 50 ≤ aV a ∧ aV a ≤ 99 ∧ aU a ≤ 99 ∧ aT a ≤ 100000 ∧ (∀ i, i < 16 → aW a i < 8) ∧ (∀ i j, i < 8 → j < 8 → aW a i = aW a j → i = j) ∧ (∀ i j, i < 8 → j < 8 → aW a (8 + i) = aW a (8 + j) → i = j) ∧ (aF a).length ≤ 10 ∧ (∀ x ∈ aF a, q_ok (aL a) x) ∧ (aR a).length ≤ 64 ∧ (∀ r ∈ aR a, r < 256) ∧ (aX a).length ≤ 50 ∧ ∀ c ∈ aX a, 33 ≤ c ∧ c ≤ 126
/-- the bit of a record: the latest is number 0 -/
def q_rb (rs : List Nat) (p i : Nat) : Bool := ((rs.reverse[i]?).getD 0).testBit p
def RC (a : AS) (S : CS) : Prop := S.1 0 = nI (aL a) ∧ S.1 1 = nI (aV a) ∧ S.1 2 = nI (aU a) ∧ S.1 3 = nI (aT a) ∧ (∀ i, i < 16 → S.2.1 2 i = nI (aW a i)) ∧ S.2.2.2.1.map e5 = (aF a).map d5 ∧ (S.2.2.2.2 = none → aF a = []) ∧ S.1 9 = nI (aR a).length ∧ (∀ p, p < 8 → ∀ i, i < 64 → (S.2.2.1 p).toBitVec.getLsbD i = q_rb (aR a) p i) ∧ S.1 10 = nI (aX a).length ∧ ∀ i, i < (aX a).length → S.2.1 21 i = nI ((aX a).getD i 0)
def dI6 (x : Ft) : Nat → Int32 := fun j => match j with
  | 0 => if x.2.1 = 0 then 0 else 1
  | 1 => nI x.1
  | 2 => oI x.2.1
  | 3 => nI x.2.2.1
  | 4 => nI x.2.2.2.1
  | _ => nI x.2.2.2.2
def RM (a : AS) (M : MS) : Prop := M.1 1 = nI (aL a) ∧ M.1 2 = nI (aV a) ∧ M.1 3 = nI (aU a) ∧ M.1 4 = nI (aT a) ∧ (∀ i, i < 16 → M.2.1 23 i = nI (aW a i)) ∧ M.1 7 = nI (aF a).length ∧ (∀ k x, (aF a)[k]? = some x → ∀ j, j < 6 → M.2.1 24 (6 * k + j) = dI6 x j) ∧ M.1 9 = nI (aR a).length ∧ (∀ i, i < (aR a).length → M.2.1 25 i = nI ((aR a).getD i 0)) ∧ M.1 10 = nI (aX a).length ∧ ∀ i, i < (aX a).length → M.2.1 26 i = nI ((aX a).getD i 0)
/-- the class's fields that measuring and reading leave as they were -/
def Ke (S S' : CS) : Prop := S'.1 0 = S.1 0 ∧ S'.1 1 = S.1 1 ∧ S'.1 2 = S.1 2 ∧ S'.1 3 = S.1 3 ∧ S'.1 9 = S.1 9 ∧ S'.1 10 = S.1 10 ∧ S'.2.1 2 = S.2.1 2 ∧ S'.2.1 21 = S.2.1 21 ∧ S'.2.2 = S.2.2
theorem Ke.rf (S : CS) : Ke S S := ⟨rfl, rfl, rfl, rfl, rfl, rfl, rfl, rfl, rfl⟩
theorem Ke.tr {S S1 S2 : CS} (h : Ke S S1) (h2 : Ke S1 S2) : Ke S S2 := ⟨h2.1.trans h.1, h2.2.1.trans h.2.1, h2.2.2.1.trans h.2.2.1, h2.2.2.2.1.trans h.2.2.2.1, h2.2.2.2.2.1.trans h.2.2.2.2.1, h2.2.2.2.2.2.1.trans h.2.2.2.2.2.1, h2.2.2.2.2.2.2.1.trans h.2.2.2.2.2.2.1, h2.2.2.2.2.2.2.2.1.trans h.2.2.2.2.2.2.2.1, h2.2.2.2.2.2.2.2.2.trans h.2.2.2.2.2.2.2.2⟩
theorem Ke.rc {a : AS} {S S' : CS} (h : Ke S S') (r : RC a S) : RC a S' := by
  obtain ⟨h0, h1, h2, h3, h9, h10, hA, hX, hL⟩ := h
  unfold RC at r ⊢
  rw [h0, h1, h2, h3, h9, h10, hA, hX, hL]
  exact r
theorem up_s {α : Type} (f : Nat → α) (k : Nat) (v : α) : va_up f k v k = v := by unfold va_up; exact if_pos rfl
theorem up_n {α : Type} (f : Nat → α) {k j : Nat} (v : α) (h : j ≠ k) : va_up f k v j = f j := by unfold va_up; exact if_neg h
theorem Ke.sA (S : CS) (k i : Nat) (v : Int32) (h1 : 2 ≠ k) (h2 : 21 ≠ k) : Ke S (sA S k i v) := ⟨rfl, rfl, rfl, rfl, rfl, rfl, up_n _ _ h1, up_n _ _ h2, rfl⟩
theorem Ke.sF (S : CS) (k : Nat) (v : Int32) (h0 : 0 ≠ k) (h1 : 1 ≠ k) (h2 : 2 ≠ k) (h3 : 3 ≠ k) (h9 : 9 ≠ k) (h10 : 10 ≠ k) : Ke S (sF S k v) := ⟨pk_un h0, pk_un h1, pk_un h2, pk_un h3, pk_un h9, pk_un h10, rfl, rfl, rfl⟩
/-- the reference's fields that its measuring leaves as they were -/
def Km (M M' : MS) : Prop := (∀ k, k < 11 → k ≠ 0 → M'.1 k = M.1 k) ∧ ∀ k, k < 27 → M'.2.1 k = M.2.1 k
theorem Km.rf (M : MS) : Km M M := ⟨fun _ _ _ => rfl, fun _ _ => rfl⟩
theorem Km.tr {M M1 M2 : MS} (h : Km M M1) (h2 : Km M1 M2) : Km M M2 := ⟨fun k a b => (h2.1 k a b).trans (h.1 k a b), fun k a => (h2.2 k a).trans (h.2 k a)⟩
theorem Km.rm {a : AS} {M M' : MS} (h : Km M M') (r : RM a M) : RM a M' := by
  obtain ⟨hg, hb⟩ := h
  unfold RM at r ⊢
  rw [hg 1 (by decide) (by decide), hg 2 (by decide) (by decide), hg 3 (by decide) (by decide), hg 4 (by decide) (by decide), hg 7 (by decide) (by decide), hg 9 (by decide) (by decide), hg 10 (by decide) (by decide), hb 23 (by decide), hb 24 (by decide), hb 25 (by decide), hb 26 (by decide)]
  exact r
theorem Km.sG (M : MS) (k : Nat) (v : Int32) (h : k = 0 ∨ 11 ≤ k) : Km M (sG M k v) := ⟨fun j a b => pk_un (by omega), fun _ _ => rfl⟩
theorem Km.sB (M : MS) (k i : Nat) (v : Int32) (h : 27 ≤ k) : Km M (sB M k i v) := ⟨fun _ _ _ => rfl, fun j a => up_n _ _ (by omega)⟩
theorem Km.sH (M : MS) (v : Int64) : Km M (sH M v) := ⟨fun _ _ _ => rfl, fun _ _ => rfl⟩
/-! a fault at its place -/
theorem q_len {a : AS} {S : CS} (r : RC a S) : S.2.2.2.1.length = (aF a).length := by
  have h := congrArg List.length r.2.2.2.2.2.1
  rw [List.length_map, List.length_map] at h
  exact h
theorem q_size {a : AS} {S : CS} (r : RC a S) : mJx4a65c_size_8abf5 S = some (nI (aF a).length) := by rw [← q_len r]; rfl
theorem q_get {a : AS} {S : CS} (r : RC a S) (v : Va a) {k : Nat} {x : Ft} (hx : (aF a)[k]? = some x) : ∃ f : FT, mJx4a65c_get_915e3 S (nI k) = some f ∧ S.2.2.2.1[k]? = some f ∧ f.2 0 = nI x.1 ∧ f.2 1 = oI x.2.1 ∧ f.2 2 = nI x.2.2.1 ∧ f.2 3 = nI x.2.2.2.1 ∧ f.2 4 = nI x.2.2.2.2 := by
  have hk : k < (aF a).length := (List.getElem?_eq_some_iff.mp hx).1
  have h10 : (aF a).length ≤ 10 := v.2.2.2.2.2.2.2.2.2.1
  have hl := q_len r
  have hf : S.2.2.2.1[k]? = some (S.2.2.2.1[k]'(by omega)) := List.getElem?_eq_getElem (by omega)
  refine ⟨S.2.2.2.1[k]'(by omega), ?_, hf, ?_⟩
  · have hm : ∃ z, S.2.2.2.2 = some z := by
      cases hz : S.2.2.2.2 with
      | none => have := r.2.2.2.2.2.2.1 hz; rw [this] at hk; exact absurd hk (by simp)
      | some z => exact ⟨z, rfl⟩
    obtain ⟨z, hz⟩ := hm
    unfold mJx4a65c_get_915e3 mJ15_checkIndex_7cf53 mJ3_checkIndex_8e157 alGet
    rw [if_neg (nI_pos (by omega) : ¬ nI k < 0), if_pos (nI_lt (by omega) (by omega)), hz]
    show bn (if inb (nI k) 10 = true then S.2.2.2.1[(nI k).toNatClampNeg]? else none) _ = _
    rw [if_pos (inb_n (by omega) (by decide)), nI_clamp (by omega), hf]
    rfl
  · have h := congrArg (fun z => z[k]?) r.2.2.2.2.2.1
    simp only [List.getElem?_map, hx, hf, Option.map_some] at h
    have h2 := Option.some.inj h
    unfold e5 d5 at h2
    simp only [Prod.mk.injEq] at h2
    exact h2
theorem q_isShort {f : FT} {x : Ft} {len : Nat} (ok : q_ok len x) (h : f.2 1 = oI x.2.1) : mX2_isShort f = some (bI (decide (x.2.1 ≠ 0))) := by
  unfold mX2_isShort
  rw [h]
  by_cases hz : x.2.1 = 0
  · rw [if_pos ((oI_m _ ok.2.1).mpr hz), decide_eq_false (by simp [hz])]; rfl
  · rw [if_neg (fun h => hz ((oI_m _ ok.2.1).mp h)), decide_eq_true hz]; rfl
theorem q_remI {t p : Nat} (ht : t < 2 ^ 31) (h0 : 0 < p) (hp : p < 2 ^ 31) : nI t - nI t / nI p * nI p = nI (t % p) := pk_rem ht h0 hp
theorem q_isPresent {f : FT} {x : Ft} {len t : Nat} (ok : q_ok len x) (h3 : f.2 3 = nI x.2.2.2.1) (h4 : f.2 4 = nI x.2.2.2.2) (ht : t < 2 ^ 31) : mX2_isPresent f (nI t) = some (bI (q_pr x t)) := by
  obtain ⟨_, _, _, _, _, h5, h6, h7, h8⟩ := ok
  unfold mX2_isPresent q_pr
  rw [h3, h4, if_neg (nI_nle (by omega) (by omega)), if_pos (nI_ne0 (by omega) (by omega)), q_remI ht (by omega) (by omega)]
  have hm : t % x.2.2.2.1 < x.2.2.2.1 := Nat.mod_lt _ (by omega)
  by_cases hd : t % x.2.2.2.1 < x.2.2.2.2
  · rw [if_neg (nI_ge hd (by omega)), decide_eq_true hd]; rfl
  · rw [if_pos (nI_le (by omega) (by omega)), decide_eq_false hd]; rfl
theorem q_of {a : AS} {M : MS} (r : RM a M) (v : Va a) {k : Nat} {x : Ft} (hx : (aF a)[k]? = some x) {j : Nat} (hj : j < 6) : mX8_of M (nI k) (nI j) = some (dI6 x j) := by
  have hk : k < (aF a).length := (List.getElem?_eq_some_iff.mp hx).1
  have h10 : (aF a).length ≤ 10 := v.2.2.2.2.2.2.2.2.2.1
  unfold mX8_of
  have e : ((6 : Int32) * nI k) + nI j = nI (6 * k + j) := by rw [show (6 : Int32) = nI 6 from rfl, pk_mul, nI_add]
  rw [e, if_pos (inb_n (by omega) (by decide)), nI_clamp (by omega), r.2.2.2.2.2.2.1 k x hx j hj]
theorem q_okat {a : AS} (v : Va a) {k : Nat} {x : Ft} (hx : (aF a)[k]? = some x) : q_ok (aL a) x := v.2.2.2.2.2.2.2.2.2.2.1 x (List.mem_of_getElem? hx)
theorem q_isPresent8 {a : AS} {M : MS} (r : RM a M) (v : Va a) {k : Nat} {x : Ft} (hx : (aF a)[k]? = some x) {t : Nat} (ht : t < 2 ^ 31) : mX8_isPresent M (nI k) (nI t) = some (bI (q_pr x t)) := by
  obtain ⟨_, _, _, _, _, h5, h6, h7, h8⟩ := q_okat v hx
  unfold mX8_isPresent q_pr
  rw [bn_eq (show mX8_of M (nI k) (4 : Int32) = some (nI x.2.2.2.1) from q_of r v hx (j := 4) (by decide))]
  rw [if_pos (nI_ne0 (by omega) (by omega)), bn_eq (show mX8_of M (nI k) (5 : Int32) = some (nI x.2.2.2.2) from q_of r v hx (j := 5) (by decide))]
  rw [q_remI ht (by omega) (by omega)]
  have hm : t % x.2.2.2.1 < x.2.2.2.1 := Nat.mod_lt _ (by omega)
  by_cases hd : t % x.2.2.2.1 < x.2.2.2.2
  · rw [if_neg (nI_ge hd (by omega)), decide_eq_true hd]; rfl
  · rw [if_pos (nI_le (by omega) (by omega)), decide_eq_false hd]; rfl
/-- which faults are present, as a mask -/
def q_at (fs : List Ft) (k : Nat) : Ft := fs.getD k (0, 0, 0, 0, 0)
theorem q_atk {fs : List Ft} {k : Nat} (h : k < fs.length) : fs[k]? = some (q_at fs k) := by
  unfold q_at
  rw [List.getD_eq_getElem?_getD, List.getElem?_eq_getElem h]; rfl
def q_pm (fs : List Ft) (t : Nat) : Nat := q_mk (fun k => q_pr (q_at fs k) t) fs.length
theorem q_pm_lt {a : AS} (v : Va a) (t : Nat) : q_pm (aF a) t < 1024 := Nat.lt_of_lt_of_le (q_mk_lt _ _) (Nat.pow_le_pow_right (by decide) v.2.2.2.2.2.2.2.2.2.1 : 2 ^ (aF a).length ≤ 2 ^ 10)
theorem q_presentFaults {a : AS} {S : CS} (r : RC a S) (v : Va a) {n : Nat} (hn : 10 < n) {t : Nat} (ht : t < 2 ^ 31) : mX0_presentFaults n S (nI t) = some (nI (q_pm (aF a) t)) := by
  have h10 : (aF a).length ≤ 10 := v.2.2.2.2.2.2.2.2.2.1
  obtain ⟨k', e⟩ := q_fun (f := fun k x i => mX0_presentFaults_4 n S (nI t) k x i) (aF a).length (fun i => nI (q_mk (fun k => q_pr (q_at (aF a) k) t) i)) (by
    intro i k hi
    show mX0_presentFaults_4 n S (nI t) (k + 1) _ (nI i) = _
    obtain ⟨f, hf, _, _, _, _, h3, h4⟩ := q_get r v (q_atk hi)
    rw [mX0_presentFaults_4, bn_eq (q_size r), if_neg (nI_ge hi (by omega)), bn_eq hf, bn_eq (q_isPresent (q_okat v (q_atk hi)) h3 h4 ht)]
    show (if bI (q_pr (q_at (aF a) i) t) = 0 then _ else _) = mX0_presentFaults_4 n S (nI t) k (nI (q_mk _ i ||| (if q_pr (q_at (aF a) i) t then 2 ^ i else 0))) _
    unfold mX0_presentFaults_39
    cases hp : q_pr (q_at (aF a) i) t
    · rw [if_pos (bI_0.mpr rfl), q_i1, if_neg (by decide), Nat.or_zero]
    · rw [if_neg (by decide), q_or1 (by omega), q_i1, if_pos rfl]) (by omega : (aF a).length < n)
  show mX0_presentFaults_4 n S (nI t) n (nI 0) (nI 0) = _
  refine e.trans ?_
  show mX0_presentFaults_4 n S (nI t) (k' + 1) _ (nI (aF a).length) = _
  rw [mX0_presentFaults_4, bn_eq (q_size r), if_pos (nI_le (Nat.le_refl _) (by omega))]
  rfl
theorem q_presentFaults8 {a : AS} {M : MS} (r : RM a M) (v : Va a) {n : Nat} (hn : 10 < n) : mX8_presentFaults n M = some (nI (fb_ct (fun k => q_pr (q_at (aF a) k) (aT a)) (aF a).length)) := by
  have h10 : (aF a).length ≤ 10 := v.2.2.2.2.2.2.2.2.2.1
  have ht : aT a ≤ 100000 := v.2.2.2.2.2.1
  obtain ⟨k', e⟩ := q_fun (f := fun k x i => mX8_presentFaults_4 n M k x i) (aF a).length (fun i => nI (fb_ct (fun k => q_pr (q_at (aF a) k) (aT a)) i)) (by
    intro i k hi
    show mX8_presentFaults_4 n M (k + 1) _ (nI i) = _
    rw [mX8_presentFaults_4, r.2.2.2.2.2.1, if_neg (nI_ge hi (by omega)), r.2.2.2.1, bn_eq (q_isPresent8 r v (q_atk hi) (by omega))]
    show (if bI (q_pr (q_at (aF a) i) (aT a)) = 0 then _ else _) = mX8_presentFaults_4 n M k (nI (fb_ct _ i + (if q_pr (q_at (aF a) i) (aT a) then 1 else 0))) _
    unfold mX8_presentFaults_30
    cases hp : q_pr (q_at (aF a) i) (aT a)
    · rw [if_pos (bI_0.mpr rfl), q_i1, if_neg (by decide)]; exact congrArg (fun z => mX8_presentFaults_4 n M k z _) (nI_add _ 0)
    · rw [if_neg (by decide), q_i1, if_pos rfl, q_i1]) (by omega : (aF a).length < n)
  show mX8_presentFaults_4 n M n (nI 0) (nI 0) = _
  refine e.trans ?_
  show mX8_presentFaults_4 n M (k' + 1) _ (nI (aF a).length) = _
  rw [mX8_presentFaults_4, r.2.2.2.2.2.1, if_pos (nI_le (Nat.le_refl _) (by omega))]
