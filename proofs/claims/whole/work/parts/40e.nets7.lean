/-! nets, the class's way: the present cuts collected, pieces counted through, groups relabelled -/
theorem sF_s (S : CS) (k : Nat) (v : Int32) : (sF S k v).1 k = v := pk_us
theorem sF_n (S : CS) {k j : Nat} (v : Int32) (h : j ≠ k) : (sF S k v).1 j = S.1 j := pk_un h
theorem sG_s (M : MS) (k : Nat) (v : Int32) : (sG M k v).1 k = v := pk_us
theorem sG_n (M : MS) {k j : Nat} (v : Int32) (h : j ≠ k) : (sG M k v).1 j = M.1 j := pk_un h
theorem sA_r (S : CS) (k i : Nat) (v : Int32) : (sA S k i v).2.1 k = upd (S.2.1 k) i v := up_s _ _ _
theorem sA_o (S : CS) {k j : Nat} (i : Nat) (v : Int32) (h : j ≠ k) : (sA S k i v).2.1 j = S.2.1 j := up_n _ _ h
theorem sB_r (M : MS) (k i : Nat) (v : Int32) : (sB M k i v).2.1 k = upd (M.2.1 k) i v := up_s _ _ _
theorem sB_o (M : MS) {k j : Nat} (i : Nat) (v : Int32) (h : j ≠ k) : (sB M k i v).2.1 j = M.2.1 j := up_n _ _ h
def q_pcut (fs : List Ft) (t k : Nat) : Bool := decide ((q_at fs k).2.1 = 0) && q_pr (q_at fs k) t
def q_cc (fs : List Ft) (t w p k : Nat) : Bool := q_pcut fs t k && (decide ((q_at fs k).1 < w) || (decide ((q_at fs k).1 = w) && decide ((q_at fs k).2.2.1 < p)))
def q_pa (fs : List Ft) (t w p : Nat) : Nat := w + fb_ct (q_cc fs t w p) fs.length
def q_cj (cw cp : Nat → Nat) (w p j : Nat) : Bool := decide (cw j < w) || (decide (cw j = w) && decide (cp j < p))
theorem q_cj_eq {cw cp cw' cp' : Nat → Nat} {w p j j' : Nat} (h : cw j = cw' j') (h2 : cp j = cp' j') : q_cj cw cp w p j = q_cj cw' cp' w p j' := by unfold q_cj; rw [h, h2]
def q_CT (S : CS) (fs : List Ft) (t i : Nat) : Prop := ∃ (c : Nat) (cw cp : Nat → Nat), c ≤ i ∧ S.1 7 = nI c ∧ (∀ j, j < c → S.2.1 7 j = nI (cw j) ∧ S.2.1 8 j = nI (cp j) ∧ cw j < 8 ∧ cp j < 1000) ∧ ∀ w p, fb_ct (q_cj cw cp w p) c = fb_ct (q_cc fs t w p) i
theorem q_pcbit {a : AS} (v : Va a) {t i : Nat} (hi : i < (aF a).length) : ((nI (q_pm (aF a) t) >>> (nI i &&& 31)) &&& (1 : Int32)) = bI (q_pr (q_at (aF a) i) t) := by
  have h10 := q_F10 v
  have h := q_pm_lt v t
  rw [q_bitB (by omega) (by omega)]
  unfold q_pm
  rw [q_mk_bit, decide_eq_true hi, Bool.true_and]
theorem q_collectCuts {a : AS} {S : CS} (r : RC a S) (v : Va a) {n : Nat} (hn : 10 < n) {t : Nat} (h5 : S.1 5 = nI (q_pm (aF a) t)) : R1 (mX5_collectCuts n S) (fun S' => Ke S S' ∧ S'.1 5 = S.1 5 ∧ q_CT S' (aF a) t (aF a).length) := by
  have h10 := q_F10 v
  have hL : aL a ≤ 999 := v.2.1
  refine q_lp (f := fun k s i => mX5_collectCuts_7 n k s i) (N := (aF a).length) (inv := fun i S' => Ke S S' ∧ S'.1 5 = S.1 5 ∧ q_CT S' (aF a) t i) ?_ ?_ (aF a).length 0 n (sF S 7 0) (by omega) ⟨Ke.sF S 7 0 (by decide) (by decide) (by decide) (by decide) (by decide) (by decide), sF_n S 0 (by decide), 0, fun _ => 0, fun _ => 0, Nat.le_refl 0, sF_s S 7 0, fun j h => absurd h (Nat.not_lt_zero j), fun _ _ => rfl⟩ (by omega)
  · intro k s ⟨hK, h⟩
    show R1 (mX5_collectCuts_7 n (k + 1) s (nI (aF a).length)) _
    rw [mX5_collectCuts_7, bn_eq (q_size (hK.rc r)), if_pos (nI_le (Nat.le_refl _) (by omega))]
    exact R1.ret ⟨hK, h⟩
  · intro i k s hi ⟨hK, h5s, c, cw, cp, hc, h7, hj, hct⟩
    right
    show ∃ s', (Ke S s' ∧ s'.1 5 = S.1 5 ∧ q_CT s' (aF a) t (i + 1)) ∧ mX5_collectCuts_7 n (k + 1) s (nI i) = mX5_collectCuts_7 n k s' (nI (i + 1))
    have rs := hK.rc r
    have ok := q_okat v (q_atk hi)
    obtain ⟨f, hf, _, f0, f1, f2, f3, f4⟩ := q_get rs v (q_atk hi)
    obtain ⟨x, hx⟩ : ∃ x, x = q_at (aF a) i := ⟨_, rfl⟩
    rw [← hx] at ok f0 f1 f2 f3 f4
    have hcc : ∀ w p, q_cc (aF a) t w p i = (decide (x.2.1 = 0) && q_pr x t && (decide (x.1 < w) || (decide (x.1 = w) && decide (x.2.2.1 < p)))) := by intro w p; rw [hx]; rfl
    have keep : (decide (x.2.1 = 0) && q_pr x t) = false → q_CT s (aF a) t (i + 1) := fun h => ⟨c, cw, cp, by omega, h7, hj, fun w p => by rw [fb_ct_succ, hcc, h, hct w p]; rfl⟩
    rw [mX5_collectCuts_7, bn_eq (q_size rs), if_neg (nI_ge hi (by omega)), bn_eq hf, show s.1 5 = nI (q_pm (aF a) t) from h5s.trans h5, q_pcbit v hi, ← hx]
    cases c1 : q_pr x t
    · rw [if_pos (bI_0.mpr rfl)]
      exact ⟨s, ⟨hK, h5s, keep (by rw [c1, Bool.and_false])⟩, by unfold mX5_collectCuts_93; rw [q_i1]⟩
    · rw [if_neg (show ¬ bI true = 0 by decide), bn_eq (q_isShort ok f1)]
      by_cases c2 : x.2.1 = 0
      · rw [if_pos (bI_0.mpr (decide_eq_false (by simp [c2]))), h7, if_neg (show ¬ (10 : Int32) ≤ nI c from nI_ge (b := 10) (by omega) (by decide)), if_pos (inb_n (by omega) (by decide)), show (sA s 7 (nI c).toNatClampNeg (f.2 0)).1 7 = nI c from h7, if_pos (inb_n (by omega) (by decide)), nI_clamp (by omega)]
        refine ⟨sF (sA (sA s 7 c (f.2 0)) 8 c (f.2 2)) 7 (nI (c + 1)), ⟨(hK.tr (Ke.sA s 7 c _ (by decide) (by decide))).tr ((Ke.sA _ 8 c _ (by decide) (by decide)).tr (Ke.sF _ 7 _ (by decide) (by decide) (by decide) (by decide) (by decide) (by decide))), ?_, c + 1, fun j => if j = c then x.1 else cw j, fun j => if j = c then x.2.2.1 else cp j, by omega, sF_s _ 7 _, ?_, ?_⟩, ?_⟩
        · show upd (sA (sA s 7 c (f.2 0)) 8 c (f.2 2)).1 7 (nI (c + 1)) 5 = _
          rw [pk_un (by decide)]; exact h5s
        · intro j hjc
          show va_up (va_up s.2.1 7 (upd (s.2.1 7) c (f.2 0))) 8 (upd (va_up s.2.1 7 (upd (s.2.1 7) c (f.2 0)) 8) c (f.2 2)) 7 j = nI (if j = c then x.1 else cw j) ∧ va_up (va_up s.2.1 7 (upd (s.2.1 7) c (f.2 0))) 8 (upd (va_up s.2.1 7 (upd (s.2.1 7) c (f.2 0)) 8) c (f.2 2)) 8 j = nI (if j = c then x.2.2.1 else cp j) ∧ (if j = c then x.1 else cw j) < 8 ∧ (if j = c then x.2.2.1 else cp j) < 1000
          rw [up_n _ _ (by decide), up_s, up_s, up_n _ _ (by decide)]
          by_cases e : j = c
          · subst e
            rw [if_pos rfl, if_pos rfl, f0, f2]
            exact ⟨pk_us, pk_us, ok.1, by have := ok.2.2.2.2.1; omega⟩
          · rw [if_neg e, if_neg e, pk_un e, pk_un e]
            exact hj j (by omega)
        · intro w p
          rw [fb_ct_succ, fb_ct_succ, hcc, c1, decide_eq_true c2, ← hct w p]
          have e1 : fb_ct (q_cj (fun j => if j = c then x.1 else cw j) (fun j => if j = c then x.2.2.1 else cp j) w p) c = fb_ct (q_cj cw cp w p) c := fb_ct_cong (fun j hj => q_cj_eq (show (if j = c then x.1 else cw j) = cw j from if_neg (by omega)) (show (if j = c then x.2.2.1 else cp j) = cp j from if_neg (by omega)))
          have e2 : q_cj (fun j => if j = c then x.1 else cw j) (fun j => if j = c then x.2.2.1 else cp j) w p c = (decide (x.1 < w) || (decide (x.1 = w) && decide (x.2.2.1 < p))) := q_cj_eq (cw' := fun _ => x.1) (cp' := fun _ => x.2.2.1) (j' := 0) (show (if c = c then x.1 else cw c) = x.1 from if_pos rfl) (show (if c = c then x.2.2.1 else cp c) = x.2.2.1 from if_pos rfl)
          rw [e1, e2]
          rfl
        · unfold mX5_collectCuts_93
          rw [show ((sA (sA s 7 c (f.2 0)) 8 c (f.2 2)).1 7) = nI c from h7, q_i1, q_i1]
      · rw [if_neg (fun h => c2 (by simpa using bI_0.mp h))]
        exact ⟨s, ⟨hK, h5s, keep (by rw [decide_eq_false c2, Bool.false_and])⟩, by unfold mX5_collectCuts_93; rw [q_i1]⟩
theorem q_pieceAt {a : AS} {S : CS} (v : Va a) {n : Nat} (hn : 10 < n) {t : Nat} (hT : q_CT S (aF a) t (aF a).length) {w p : Nat} (hw : w < 8) (hp : p ≤ 1000) : mX5_pieceAt n S (nI w) (nI p) = some (nI (q_pa (aF a) t w p)) := by
  have h10 := q_F10 v
  obtain ⟨c, cw, cp, hc, h7, hj, hct⟩ := hT
  obtain ⟨k', e⟩ := q_fun (f := fun k x i => mX5_pieceAt_5 n S (nI w) (nI p) k x i) c (fun i => nI (w + fb_ct (q_cj cw cp w p) i)) (by
    intro i k hi
    show mX5_pieceAt_5 n S (nI w) (nI p) (k + 1) _ (nI i) = mX5_pieceAt_5 n S (nI w) (nI p) k _ _
    obtain ⟨j1, j2, j3, j4⟩ := hj i hi
    have no : q_cj cw cp w p i = false → mX5_pieceAt_57 n (mX5_pieceAt_5 n S (nI w) (nI p) k) S (nI w) (nI p) (nI (w + fb_ct (q_cj cw cp w p) i)) (nI i) = mX5_pieceAt_5 n S (nI w) (nI p) k (nI (w + fb_ct (q_cj cw cp w p) (i + 1))) (nI (i + 1)) := by
      intro h
      unfold mX5_pieceAt_57
      rw [fb_ct_succ, h, q_i1]; rfl
    have yes : q_cj cw cp w p i = true → mX5_pieceAt_54 n (mX5_pieceAt_5 n S (nI w) (nI p) k) S (nI w) (nI p) (nI (w + fb_ct (q_cj cw cp w p) i)) (nI i) = mX5_pieceAt_5 n S (nI w) (nI p) k (nI (w + fb_ct (q_cj cw cp w p) (i + 1))) (nI (i + 1)) := by
      intro h
      unfold mX5_pieceAt_54 mX5_pieceAt_57
      rw [fb_ct_succ, h, q_i1, q_i1]; rfl
    rw [mX5_pieceAt_5, h7, if_neg (nI_ge hi (by omega)), if_neg (show ¬ (10 : Int32) ≤ nI i from nI_ge (b := 10) (by omega) (by decide)), if_pos (inb_n (by omega) (by decide)), nI_clamp (by omega), j1, j2]
    by_cases c1 : cw i < w
    · rw [if_pos (nI_lt c1 (by omega))]; exact yes (by unfold q_cj; rw [decide_eq_true c1, Bool.true_or])
    · rw [if_neg (nI_nlt (by omega) (by omega)), if_pos (inb_n (by omega) (by decide))]
      by_cases c2 : cw i = w
      · rw [if_pos (congrArg nI c2), if_pos (inb_n (by omega) (by decide))]
        by_cases c3 : cp i < p
        · rw [if_neg (nI_ge c3 (by omega))]; exact yes (by unfold q_cj; rw [decide_eq_true c2, decide_eq_true c3]; simp)
        · rw [if_pos (nI_le (by omega) (by omega))]; exact no (by unfold q_cj; rw [decide_eq_false c1, decide_eq_false c3]; simp)
      · rw [if_neg (fun h => c2 ((nI_eq (by omega) (by omega)).mp h))]; exact no (by unfold q_cj; rw [decide_eq_false c1, decide_eq_false c2]; simp)) (by omega : c < n)
  show mX5_pieceAt_5 n S (nI w) (nI p) n (nI (w + 0)) (nI 0) = _
  refine e.trans ?_
  show mX5_pieceAt_5 n S (nI w) (nI p) (k' + 1) _ (nI c) = _
  rw [mX5_pieceAt_5, h7, if_pos (nI_le (Nat.le_refl _) (by omega)), hct w p]
  rfl
theorem q_pa_lt {a : AS} (v : Va a) {w : Nat} (hw : w < 8) (t p : Nat) : q_pa (aF a) t w p < 18 := by
  have h1 := fb_ct_le (q_cc (aF a) t w p) (aF a).length
  have h2 := q_F10 v
  unfold q_pa
  omega
/-- the two numberings of the pieces tell the same pieces apart -/
theorem q_num {a : AS} (v : Va a) {t w p w' p' : Nat} : q_pa (aF a) t w p = q_pa (aF a) t w' p' ↔ q_pz (aF a) t w p = q_pz (aF a) t w' p' := by
  have h10 := q_F10 v
  have hC : ∀ w p, fb_ct (q_cc (aF a) t w p) (aF a).length = fb_ct (fun k => q_pcut (aF a) t k && decide ((q_at (aF a) k).1 < w)) (aF a).length + fb_ct (q_cb (aF a) t w p) (aF a).length := by
    intro w p
    rw [← fb_ct_or]
    · refine fb_ct_cong (fun k _ => ?_)
      unfold q_cc q_cb q_pcut
      cases decide ((q_at (aF a) k).2.1 = 0) <;> cases q_pr (q_at (aF a) k) t <;> simp
    · intro k _ h
      unfold q_cb at h
      simp only [Bool.and_eq_true, decide_eq_true_eq] at h
      omega
  have hS : ∀ w p, fb_ct (q_cc (aF a) t w p) (aF a).length ≤ fb_ct (fun k => q_pcut (aF a) t k && decide ((q_at (aF a) k).1 < w + 1)) (aF a).length := by
    intro w p
    refine fb_ct_sub (fun k _ h => ?_)
    unfold q_cc at h
    simp only [Bool.and_eq_true, Bool.or_eq_true, decide_eq_true_eq] at h ⊢
    exact ⟨h.1, by omega⟩
  have hM : ∀ w w', w ≤ w' → fb_ct (fun k => q_pcut (aF a) t k && decide ((q_at (aF a) k).1 < w)) (aF a).length ≤ fb_ct (fun k => q_pcut (aF a) t k && decide ((q_at (aF a) k).1 < w')) (aF a).length := by
    intro w w' hw
    refine fb_ct_sub (fun k _ h => ?_)
    simp only [Bool.and_eq_true, decide_eq_true_eq] at h ⊢
    exact ⟨h.1, by omega⟩
  have b1 := fb_ct_le (q_cb (aF a) t w p) (aF a).length
  have b2 := fb_ct_le (q_cb (aF a) t w' p') (aF a).length
  have s1 := hS w p
  have s2 := hS w' p'
  have c1 := hC w p
  have c2 := hC w' p'
  unfold q_pa q_pz
  rcases Nat.lt_trichotomy w w' with h | h | h
  · have m := hM (w + 1) w' h
    constructor <;> intro e <;> omega
  · subst h
    constructor <;> intro e <;> omega
  · have m := hM (w' + 1) w h
    constructor <;> intro e <;> omega
/-- only rows that p doesn't hold may have changed -/
def Fr (p : Nat → Prop) (S S' : CS) : Prop := S'.1 = S.1 ∧ S'.2.2 = S.2.2 ∧ ∀ k, p k → S'.2.1 k = S.2.1 k
theorem Fr.rf (p : Nat → Prop) (S : CS) : Fr p S S := ⟨rfl, rfl, fun _ _ => rfl⟩
theorem Fr.tr {p : Nat → Prop} {S S1 S2 : CS} (h : Fr p S S1) (h2 : Fr p S1 S2) : Fr p S S2 := ⟨h2.1.trans h.1, h2.2.1.trans h.2.1, fun k hk => (h2.2.2 k hk).trans (h.2.2 k hk)⟩
theorem Fr.sA {p : Nat → Prop} (S : CS) {k i : Nat} {v : Int32} (h : ¬ p k) : Fr p S (sA S k i v) := ⟨rfl, rfl, fun j hj => up_n _ _ (fun e => h (e ▸ hj))⟩
theorem Fr.ke {p : Nat → Prop} {S S' : CS} (h : Fr p S S') (h2 : p 2) (h21 : p 21) : Ke S S' := ⟨by rw [h.1], by rw [h.1], by rw [h.1], by rw [h.1], by rw [h.1], by rw [h.1], h.2.2 2 h2, h.2.2 21 h21, h.2.1⟩
theorem q_unite {S : CS} {n : Nat} (hn : 18 < n) {g : Nat → Nat} (hg : ∀ j, j < 18 → S.2.1 10 j = nI (g j) ∧ g j < 18) {x y : Nat} (hx : x < 18) (hy : y < 18) : R1 (mX3_unite_9 n S (nI x) (nI y)) (fun z => Fr (fun k => k ≠ 10) S z.2 ∧ ∀ j, j < 18 → z.2.2.1 10 j = nI (q_mg g x y j) ∧ q_mg g x y j < 18) := by
  have gr : ∀ x, x < 18 → mX3_groupOf_9 S (nI x) = some (nI (g x)) := by
    intro x hx
    unfold mX3_groupOf_9
    rw [if_neg (nI_pos (by omega)), if_neg (show ¬ (18 : Int32) ≤ nI x from nI_ge hx (by decide)), if_pos (inb_n hx (by decide)), nI_clamp (by omega), (hg x hx).1]
  have gx := (hg x hx).2
  have gy := (hg y hy).2
  unfold mX3_unite_9
  rw [bn_eq (gr x hx), bn_eq (gr y hy)]
  by_cases hxy : g x = g y
  · rw [if_pos (congrArg nI hxy)]
    refine R1.ret ⟨Fr.rf _ S, fun j hj => ?_⟩
    have e : q_mg g x y j = g j := by
      unfold q_mg
      by_cases h : g j = g y
      · rw [if_pos h, hxy, h]
      · rw [if_neg h]
    rw [e]; exact hg j hj
  · rw [if_neg (fun h => hxy ((nI_eq (by omega) (by omega)).mp h))]
    have mb : ∀ j, j < 18 → q_mg g x y j < 18 := by
      intro j hj
      unfold q_mg
      split
      · exact gx
      · exact (hg j hj).2
    refine q_lp (f := fun k s i => mX3_unite_9_24 n (nI (g x)) (nI (g y)) k s i) (N := 18) (inv := fun i S' => Fr (fun k => k ≠ 10) S S' ∧ ∀ j, j < 18 → S'.2.1 10 j = nI (if j < i then q_mg g x y j else g j)) ?_ ?_ 18 0 n S rfl ⟨Fr.rf _ S, fun j hj => by rw [if_neg (Nat.not_lt_zero j)]; exact (hg j hj).1⟩ (by omega)
    · intro k s ⟨hF, hA⟩
      show R1 (mX3_unite_9_24 n (nI (g x)) (nI (g y)) (k + 1) s (nI 18)) _
      rw [mX3_unite_9_24, if_pos (show (18 : Int32) ≤ nI 18 from nI_le (Nat.le_refl _) (by decide))]
      exact R1.ret ⟨hF, fun j hj => ⟨by rw [show (1, s).2 = s from rfl, hA j hj, if_pos hj], mb j hj⟩⟩
    · intro i k s hi ⟨hF, hA⟩
      right
      show ∃ s', (Fr (fun k => k ≠ 10) S s' ∧ ∀ j, j < 18 → s'.2.1 10 j = nI (if j < i + 1 then q_mg g x y j else g j)) ∧ mX3_unite_9_24 n (nI (g x)) (nI (g y)) (k + 1) s (nI i) = mX3_unite_9_24 n (nI (g x)) (nI (g y)) k s' (nI (i + 1))
      have hgi := (hg i hi).2
      rw [mX3_unite_9_24, if_neg (show ¬ (18 : Int32) ≤ nI i from nI_ge hi (by decide)), if_pos (inb_n hi (by decide)), nI_clamp (by omega), hA i hi, if_neg (Nat.lt_irrefl i)]
      have rest : ∀ j, j ≠ i → (if j < i + 1 then q_mg g x y j else g j) = (if j < i then q_mg g x y j else g j) := by
        intro j hj
        by_cases h : j < i
        · rw [if_pos h, if_pos (by omega)]
        · rw [if_neg h, if_neg (by omega)]
      by_cases c1 : g i = g y
      · rw [if_pos (congrArg nI c1), if_pos (inb_n hi (by decide))]
        refine ⟨sA s 10 i (nI (g x)), ⟨hF.tr (Fr.sA s (fun h => h rfl)), fun j hj => ?_⟩, by unfold mX3_unite_9_54; rw [q_i1]⟩
        show va_up s.2.1 10 (upd (s.2.1 10) i (nI (g x))) 10 j = _
        rw [up_s]
        by_cases e : j = i
        · rw [e, if_pos (Nat.lt_succ_self i)]
          unfold q_mg
          rw [if_pos c1]; exact pk_us
        · rw [pk_un e, rest j e]; exact hA j hj
      · rw [if_neg (fun h => c1 ((nI_eq (by omega) (by omega)).mp h))]
        refine ⟨s, ⟨hF, fun j hj => ?_⟩, by unfold mX3_unite_9_54; rw [q_i1]⟩
        by_cases e : j = i
        · rw [e, if_pos (Nat.lt_succ_self i), hA i hi, if_neg (Nat.lt_irrefl i)]
          unfold q_mg
          rw [if_neg c1]
        · rw [rest j e]; exact hA j hj
