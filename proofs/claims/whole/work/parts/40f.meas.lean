/-! measuring: members of nets, states of pins, on both sides -/
theorem q_CT.fr {p : Nat → Prop} {S S' : CS} {fs : List Ft} {t i : Nat} (h : Fr p S S') (h7 : p 7) (h8 : p 8) (c : q_CT S fs t i) : q_CT S' fs t i := by
  unfold q_CT at c ⊢
  rw [h.1, h.2.2 7 h7, h.2.2 8 h8]
  exact c
theorem q_uniteSP {a : AS} {S : CS} (r : RC a S) (v : Va a) {n : Nat} (hn : 18 < n) {t : Nat} (h5 : S.1 5 = nI (q_pm (aF a) t)) (hT : q_CT S (aF a) t (aF a).length) : R1 (mX5_uniteShortedPieces n S) (fun S' => Fr (fun k => k ≠ 10) S S' ∧ ∃ g : Nat → Nat, (∀ j, j < 18 → S'.2.1 10 j = nI (g j) ∧ g j < 18) ∧ ∀ w p w' p', w < 8 → w' < 8 → (g (q_pa (aF a) t w p) = g (q_pa (aF a) t w' p') ↔ q_G (aF a) t (aF a).length (q_pz (aF a) t w p) = q_G (aF a) t (aF a).length (q_pz (aF a) t w' p'))) := by
  have h10 := q_F10 v
  have hL : aL a ≤ 999 := v.2.1
  have hsep : R1 (mX3_separate_9 n S) (fun S' => Fr (fun k => k ≠ 10) S S' ∧ ∀ z, z < 18 → S'.2.1 10 z = nI z) := by
    refine q_lp (f := fun k s i => mX3_separate_9_2 n k s i) (N := 18) (inv := fun i S' => Fr (fun k => k ≠ 10) S S' ∧ ∀ z, z < i → S'.2.1 10 z = nI z) ?_ ?_ 18 0 n S rfl ⟨Fr.rf _ S, fun z hz => absurd hz (Nat.not_lt_zero z)⟩ hn
    · intro k s h
      show R1 (mX3_separate_9_2 n (k + 1) s (nI 18)) _
      rw [mX3_separate_9_2, if_pos (show (18 : Int32) ≤ nI 18 from nI_le (Nat.le_refl _) (by decide))]
      exact R1.ret h
    · intro i k s hi ⟨hF, hA⟩
      right
      refine ⟨sA s 10 i (nI i), ⟨hF.tr (Fr.sA s (fun h => h rfl)), fun z hz => ?_⟩, ?_⟩
      · rw [sA_r]
        by_cases e : z = i
        · rw [e]; exact pk_us
        · rw [pk_un e]; exact hA z (by omega)
      · show mX3_separate_9_2 n (k + 1) s (nI i) = _
        rw [mX3_separate_9_2, if_neg (show ¬ (18 : Int32) ≤ nI i from nI_ge hi (by decide)), if_pos (inb_n hi (by decide)), nI_clamp (by omega), q_i1]
  refine R1.bn hsep ?_
  rintro S1 ⟨hF1, hA1⟩
  refine q_lp (f := fun k s i => mX5_uniteShortedPieces_9 n k s i) (N := (aF a).length) (inv := fun i S' => Fr (fun k => k ≠ 10) S S' ∧ ∃ g : Nat → Nat, (∀ j, j < 18 → S'.2.1 10 j = nI (g j) ∧ g j < 18) ∧ ∀ w p w' p', w < 8 → w' < 8 → (g (q_pa (aF a) t w p) = g (q_pa (aF a) t w' p') ↔ q_G (aF a) t i (q_pz (aF a) t w p) = q_G (aF a) t i (q_pz (aF a) t w' p'))) ?_ ?_ (aF a).length 0 n S1 (by omega) ⟨hF1, fun z => z, fun j hj => ⟨hA1 j hj, hj⟩, fun w p w' p' _ _ => q_num v⟩ (by omega)
  · intro k s ⟨hF, h⟩
    show R1 (mX5_uniteShortedPieces_9 n (k + 1) s (nI (aF a).length)) _
    rw [mX5_uniteShortedPieces_9, bn_eq (q_size ((hF.ke (by decide) (by decide)).rc r)), if_pos (nI_le (Nat.le_refl _) (by omega))]
    exact R1.ret ⟨hF, h⟩
  · intro i k s hi ⟨hF, g, hg, hG⟩
    right
    show ∃ s', (Fr (fun k => k ≠ 10) S s' ∧ ∃ g : Nat → Nat, (∀ j, j < 18 → s'.2.1 10 j = nI (g j) ∧ g j < 18) ∧ ∀ w p w' p', w < 8 → w' < 8 → (g (q_pa (aF a) t w p) = g (q_pa (aF a) t w' p') ↔ q_G (aF a) t (i + 1) (q_pz (aF a) t w p) = q_G (aF a) t (i + 1) (q_pz (aF a) t w' p'))) ∧ mX5_uniteShortedPieces_9 n (k + 1) s (nI i) = mX5_uniteShortedPieces_9 n k s' (nI (i + 1))
    have rs := (hF.ke (by decide) (by decide)).rc r
    have hTs : q_CT s (aF a) t (aF a).length := hT.fr hF (by decide) (by decide)
    have ok := q_okat v (q_atk hi)
    obtain ⟨f, hf, _, f0, f1, f2, f3, f4⟩ := q_get rs v (q_atk hi)
    obtain ⟨x, hx⟩ : ∃ x, x = q_at (aF a) i := ⟨_, rfl⟩
    have hGi : q_G (aF a) t (i + 1) = if x.2.1 ≠ 0 ∧ q_pr x t = true then q_mg (q_G (aF a) t i) (q_pz (aF a) t x.1 x.2.2.1) (q_pz (aF a) t (x.2.1 - 1) x.2.2.1) else q_G (aF a) t i := by rw [hx]; rfl
    rw [← hx] at ok f0 f1 f2 f3 f4
    have h5s : s.1 5 = nI (q_pm (aF a) t) := by rw [hF.1]; exact h5
    have o1 := ok.1
    have o2 := ok.2.1
    have o5 := ok.2.2.2.2.1
    rw [mX5_uniteShortedPieces_9, bn_eq (q_size rs), if_neg (nI_ge hi (by omega)), bn_eq hf, h5s, q_pcbit v hi, ← hx, hGi]
    cases c1 : q_pr x t
    · rw [if_pos (bI_0.mpr rfl), if_neg (fun h => by cases h.2)]
      exact ⟨s, ⟨hF, g, hg, hG⟩, by unfold mX5_uniteShortedPieces_82; rw [q_i1]⟩
    · rw [if_neg (show ¬ bI true = 0 by decide), bn_eq (q_isShort ok f1)]
      by_cases c2 : x.2.1 = 0
      · rw [if_pos (bI_0.mpr (decide_eq_false (by simp [c2]))), if_neg (fun h => h.1 c2)]
        exact ⟨s, ⟨hF, g, hg, hG⟩, by unfold mX5_uniteShortedPieces_82; rw [q_i1]⟩
      · have hoI : oI x.2.1 = nI (x.2.1 - 1) := by
          obtain ⟨w, hw⟩ : ∃ w, x.2.1 = w + 1 := ⟨x.2.1 - 1, by omega⟩
          rw [hw, oI_s]; rfl
        rw [if_pos (⟨c2, rfl⟩ : x.2.1 ≠ 0 ∧ true = true), if_neg (show ¬ bI (decide (x.2.1 ≠ 0)) = 0 from fun h => c2 (by simpa using bI_0.mp h)), f0, f1, f2, hoI, bn_eq (q_pieceAt v (by omega) hTs o1 (by omega)), bn_eq (q_pieceAt v (by omega) hTs (show x.2.1 - 1 < 8 by omega) (by omega))]
        obtain ⟨⟨r1, s1⟩, e1, hF2, hg2⟩ := q_unite (n := n) (by omega) hg (q_pa_lt v o1 t x.2.2.1) (q_pa_lt v (show x.2.1 - 1 < 8 by omega) t x.2.2.1)
        rw [bm_eq e1]
        refine ⟨s1, ⟨hF.tr hF2, _, hg2, ?_⟩, by unfold mX5_uniteShortedPieces_82; rw [q_i1]⟩
        intro w p w' p' hw hw'
        have a1 := hG w p w' p' hw hw'
        have a2 := hG w p x.1 x.2.2.1 hw o1
        have a3 := hG w p (x.2.1 - 1) x.2.2.1 hw (by omega)
        have a4 := hG w' p' x.1 x.2.2.1 hw' o1
        have a5 := hG w' p' (x.2.1 - 1) x.2.2.1 hw' (by omega)
        unfold q_mg
        grind
theorem q_wireAt {a : AS} {S : CS} (r : RC a S) {e p : Nat} (he : e < 2) (hp : p < 8) : mX0_wireAt S (nI e) (nI p) = some (nI (aW a (8 * e + p))) := by
  have h : nI e * (8 : Int32) + nI p = nI (8 * e + p) := by rw [show (8 : Int32) = nI 8 from rfl, pk_mul, nI_add, Nat.mul_comm]
  unfold mX0_wireAt
  rw [h, if_neg (nI_pos (by omega)), if_neg (show ¬ (16 : Int32) ≤ nI (8 * e + p) from nI_ge (b := 16) (by omega) (by decide)), if_pos (inb_n (by omega) (by decide)), nI_clamp (by omega), r.2.2.2.2.1 _ (by omega)]
theorem q_collectMembers {S : CS} {n : Nat} (hn : 16 < n) {J : Nat → Nat → Bool} (hJ : ∀ i j, i < 16 → j < 16 → (S.2.1 11 i = S.2.1 11 j ↔ J i j = true)) (hr : ∀ i, J i i = true) (hs : ∀ i j, J i j = J j i) : R1 (mX5_collectMembers n S) (fun S' => Fr (fun k => k ≠ 12) S S' ∧ ∀ i, i < 16 → S'.2.1 12 i = nI (q_mk (J i) 16)) := by
  refine q_lp (f := fun k s i => mX5_collectMembers_2 n k s i) (N := 16) (inv := fun i S' => Fr (fun k => k ≠ 12) S S' ∧ ∀ l, l < i → S'.2.1 12 l = nI (q_mk (J l) i)) ?_ ?_ 16 0 n S rfl ⟨Fr.rf _ S, fun z hz => absurd hz (Nat.not_lt_zero z)⟩ hn
  · intro k s h
    show R1 (mX5_collectMembers_2 n (k + 1) s (nI 16)) _
    rw [mX5_collectMembers_2, if_pos (show (16 : Int32) ≤ nI 16 from nI_le (Nat.le_refl _) (by decide))]
    exact R1.ret h
  · intro i k s hi ⟨hF, hA⟩
    right
    show ∃ s', (Fr (fun k => k ≠ 12) S s' ∧ ∀ l, l < i + 1 → s'.2.1 12 l = nI (q_mk (J l) (i + 1))) ∧ mX5_collectMembers_2 n (k + 1) s (nI i) = mX5_collectMembers_2 n k s' (nI (i + 1))
    rw [mX5_collectMembers_2, if_neg (show ¬ (16 : Int32) ≤ nI i from nI_ge hi (by decide)), if_pos (inb_n hi (by decide)), nI_clamp (by omega), q_shl1 i (by omega)]
    obtain ⟨s', k', ⟨hF', hA1, hA2, hA3⟩, e⟩ := q_run (f := fun k' s j => mX5_collectMembers_19 n (mX5_collectMembers_2 n k) (nI i) k' s j) (N := i) (inv := fun j s' => Fr (fun k => k ≠ 12) S s' ∧ (∀ l, l < j → s'.2.1 12 l = nI (q_mk (J l) (i + 1))) ∧ (∀ l, j ≤ l → l < i → s'.2.1 12 l = nI (q_mk (J l) i)) ∧ s'.2.1 12 i = nI (q_mk (J i) j ||| 2 ^ i)) (by
      intro j k' s' hj ⟨hF', hA1, hA2, hA3⟩
      show ∃ s'', (Fr (fun k => k ≠ 12) S s'' ∧ (∀ l, l < j + 1 → s''.2.1 12 l = nI (q_mk (J l) (i + 1))) ∧ (∀ l, j + 1 ≤ l → l < i → s''.2.1 12 l = nI (q_mk (J l) i)) ∧ s''.2.1 12 i = nI (q_mk (J i) (j + 1) ||| 2 ^ i)) ∧ mX5_collectMembers_19 n (mX5_collectMembers_2 n k) (nI i) (k' + 1) s' (nI j) = mX5_collectMembers_19 n (mX5_collectMembers_2 n k) (nI i) k' s'' (nI (j + 1))
      have h11 : s'.2.1 11 = S.2.1 11 := hF'.2.2 11 (by decide)
      rw [mX5_collectMembers_19, if_neg (nI_ge hj (by omega)), if_pos (inb_n hi (by decide)), if_pos (inb_n (show j < 16 by omega) (by decide)), nI_clamp (by omega), nI_clamp (by omega), h11]
      have m1 : q_mk (J j) (i + 1) = q_mk (J j) i ||| (if J j i then 2 ^ i else 0) := rfl
      have m2 : q_mk (J i) (j + 1) = q_mk (J i) j ||| (if J i j then 2 ^ j else 0) := rfl
      by_cases c : J i j = true
      · rw [if_pos ((hJ i j hi (by omega)).mpr c), if_pos (inb_n hi (by decide)), if_pos (inb_n hi (by decide)), if_pos (inb_n (show j < 16 by omega) (by decide)), if_pos (inb_n (show j < 16 by omega) (by decide)), hA3, q_or1 (by omega), sA_r, pk_un (show j ≠ i by omega), hA2 j (Nat.le_refl j) hj, q_or1 (by omega)]
        refine ⟨_, ⟨hF'.tr ((Fr.sA s' (fun h => h rfl)).tr (Fr.sA _ (fun h => h rfl))), ?_, ?_, ?_⟩, by unfold mX5_collectMembers_63; rw [q_i1]⟩
        · intro l hl
          rw [sA_r, sA_r]
          by_cases el : l = j
          · subst el
            rw [pk_us, m1, hs l i, if_pos c]
          · rw [pk_un el, pk_un (by omega)]; exact hA1 l (by omega)
        · intro l hl hl2
          rw [sA_r, sA_r, pk_un (by omega), pk_un (by omega)]; exact hA2 l (by omega) hl2
        · rw [sA_r, sA_r, pk_un (by omega), pk_us, m2, if_pos c, Nat.or_assoc, Nat.or_assoc, Nat.or_comm (2 ^ i)]
      · rw [if_neg (fun h => c ((hJ i j hi (by omega)).mp h))]
        refine ⟨s', ⟨hF', ?_, ?_, ?_⟩, by unfold mX5_collectMembers_63; rw [q_i1]⟩
        · intro l hl
          by_cases el : l = j
          · subst el
            rw [hA2 l (Nat.le_refl l) hj, m1, hs l i, if_neg c, Nat.or_zero]
          · exact hA1 l (by omega)
        · intro l hl hl2
          exact hA2 l (by omega) hl2
        · rw [hA3, m2, if_neg c, Nat.or_zero]) i 0 n (sA s 12 i (nI (2 ^ i))) (by omega) ⟨hF.tr (Fr.sA s (fun h => h rfl)), fun l hl => absurd hl (Nat.not_lt_zero l), fun l _ hl => by rw [sA_r, pk_un (by omega)]; exact hA l hl, by rw [sA_r, pk_us]; show nI (2 ^ i) = nI (0 ||| 2 ^ i); rw [Nat.zero_or]⟩ (by omega)
    refine ⟨s', ⟨hF', fun l hl => ?_⟩, e.trans ?_⟩
    · by_cases el : l = i
      · subst el
        rw [hA3]
        show _ = nI (q_mk (J l) l ||| (if J l l then 2 ^ l else 0))
        rw [hr l, if_pos rfl]
      · exact hA1 l (by omega)
    · show mX5_collectMembers_19 n (mX5_collectMembers_2 n k) (nI i) (k' + 1) s' (nI i) = _
      rw [mX5_collectMembers_19, if_pos (nI_le (Nat.le_refl _) (by omega)), q_i1]
def q_N (J : Nat → Nat → Bool) (i : Nat) : Nat := q_mk (J i) 8
def q_F (J : Nat → Nat → Bool) (i : Nat) : Nat := q_mk (fun j => J i (8 + j)) 8
theorem q_N_lt (J : Nat → Nat → Bool) (i : Nat) : q_N J i < 256 := q_mk_lt _ 8
theorem q_F_lt (J : Nat → Nat → Bool) (i : Nat) : q_F J i < 256 := q_mk_lt _ 8
theorem q_lo (f : Nat → Bool) : q_mk f 16 % 2 ^ 8 = q_mk f 8 := by
  apply Nat.eq_of_testBit_eq
  intro i
  rw [Nat.testBit_mod_two_pow, q_mk_bit, q_mk_bit]
  by_cases h : i < 8
  · rw [decide_eq_true h, decide_eq_true (show i < 16 by omega)]; rfl
  · rw [decide_eq_false h]; rfl
theorem q_hi (f : Nat → Bool) : q_mk f 16 / 2 ^ 8 = q_mk (fun j => f (8 + j)) 8 := by
  apply Nat.eq_of_testBit_eq
  intro i
  rw [Nat.testBit_div_two_pow, q_mk_bit, q_mk_bit, Nat.add_comm i 8]
  by_cases h : i < 8
  · rw [decide_eq_true h, decide_eq_true (show 8 + i < 16 by omega)]
  · rw [decide_eq_false h, decide_eq_false (show ¬ 8 + i < 16 by omega), Bool.false_and]
def q_MB (J : Nat → Nat → Bool) (S : CS) : Prop := ∀ i, i < 16 → S.2.1 12 i = nI (q_mk (J i) 16)
theorem q_membersWith {S : CS} {J : Nat → Nat → Bool} (h : q_MB J S) {c : Nat} (hc : c < 16) : mX5_membersWith S (nI c) = some (nI (q_mk (J c) 16)) := by
  unfold mX5_membersWith
  rw [if_neg (nI_pos (by omega)), if_neg (show ¬ (16 : Int32) ≤ nI c from nI_ge hc (by decide)), if_pos (inb_n hc (by decide)), nI_clamp (by omega), h c hc]
theorem q_ct (e p : Nat) : nI e * (8 : Int32) + nI p = nI (8 * e + p) := by rw [show (8 : Int32) = nI 8 from rfl, pk_mul, nI_add, Nat.mul_comm]
theorem q_near {S : CS} {J : Nat → Nat → Bool} (h : q_MB J S) {e p : Nat} (he : e < 2) (hp : p < 8) : mX5_nearPinsWith S (nI e) (nI p) = some (nI (q_N J (8 * e + p))) := by
  unfold mX5_nearPinsWith
  rw [q_ct, bn_eq (q_membersWith h (by omega))]
  show some (nI _ &&& nI (2 ^ 8 - 1)) = _
  rw [fa_mask, q_lo]; rfl
theorem q_s8 : (((8 : Int32) &&& 31).toBitVec.smod 32).toNat = 8 := by decide +kernel
theorem q_far {S : CS} {J : Nat → Nat → Bool} (h : q_MB J S) {e p : Nat} (he : e < 2) (hp : p < 8) : mX5_farPinsWith S (nI e) (nI p) = some (nI (q_F J (8 * e + p))) := by
  unfold mX5_farPinsWith
  have hlt := q_mk_lt (J (8 * e + p)) 16
  rw [q_ct, bn_eq (q_membersWith h (by omega)), pk_shrN (by omega) _ 8 q_s8, q_hi]; rfl
/-- what joined answers -/
def q_jn (J : Nat → Nat → Bool) (e p to : Nat) : Int32 := if e = to then nI (if to = 0 then q_N J (8 * e + p) else q_F J (8 * e + p)) &&& (((1 : Int32) <<< (nI p &&& 31)) ^^^ (-1 : Int32)) else nI (if to = 0 then q_N J (8 * e + p) else q_F J (8 * e + p))
theorem q_joinedPins {S : CS} {J : Nat → Nat → Bool} (h : q_MB J S) {e p to : Nat} (he : e < 2) (hp : p < 8) (ht : to < 2) : mX5_joinedPins S (nI e) (nI p) (nI to) = some (q_jn J e p to) := by
  have fin : ∀ m : Nat, mX5_joinedPins_19 S (nI e) (nI p) (nI to) (nI m) = some (if e = to then nI m &&& (((1 : Int32) <<< (nI p &&& 31)) ^^^ (-1 : Int32)) else nI m) := by
    intro m
    unfold mX5_joinedPins_19
    by_cases c : e = to
    · rw [if_pos (congrArg nI c), if_pos c]
    · rw [if_neg (fun h => c ((nI_eq (by omega) (by omega)).mp h)), if_neg c]
  unfold mX5_joinedPins q_jn
  by_cases c : to = 0
  · subst c
    rw [if_pos (show nI 0 = 0 from rfl), bn_eq (q_near h he hp), fin, if_pos rfl]
  · rw [if_neg (show ¬ nI to = 0 from nI_ne0 (by omega) (by omega)), bn_eq (q_far h he hp), fin, if_neg c]
def q_st (J : Nat → Nat → Bool) (p : Nat) : Nat := if 1 < q_pc (q_N J p) then 3 else if 1 < q_pc (q_F J p) then 3 else if q_F J p = 0 then 1 else if q_F J p = 2 ^ p then 0 else 2
theorem q_clr : ∀ m, m < 256 → ∀ p, p < 8 → m.testBit p = true → (nI m &&& (((1 : Int32) <<< (nI p &&& 31)) ^^^ (-1 : Int32)) = 0 ↔ q_pc m ≤ 1) := by decide +kernel
theorem q_N_self {J : Nat → Nat → Bool} (hr : ∀ i, J i i = true) {p : Nat} (hp : p < 8) : (q_N J p).testBit p = true := by unfold q_N; rw [q_mk_bit, decide_eq_true hp, hr]; rfl
theorem q_statusOf {S : CS} {J : Nat → Nat → Bool} (h : q_MB J S) (_ : ∀ i, J i i = true) {p : Nat} (hp : p < 8) : mX5_statusOf S (nI p) = some (nI (q_st J p)) := by
  have h1 := q_far h (e := 0) (by decide) hp
  have h0 := q_near h (e := 0) (by decide) hp
  rw [Nat.mul_zero, Nat.zero_add] at h1 h0
  have hF := q_F_lt J p
  have hN := q_N_lt J p
  have b1 := q_pc_le (q_F J p)
  have b0 := q_pc_le (q_N J p)
  have hpow : 2 ^ p < 2 ^ 8 := Nat.pow_lt_pow_right (by decide) hp
  unfold mX5_statusOf q_st
  rw [bn_eq (show mX5_farPinsWith S (0 : Int32) (nI p) = some (nI (q_F J p)) from h1), bn_eq (show mX5_nearPinsWith S (0 : Int32) (nI p) = some (nI (q_N J p)) from h0), bn_eq (q_bitCount _ (by omega))]
  by_cases c1 : 1 < q_pc (q_N J p)
  · rw [if_pos (show (1 : Int32) < nI (q_pc (q_N J p)) from nI_lt (a := 1) c1 (by omega)), if_pos c1]; rfl
  · rw [if_neg (show ¬ (1 : Int32) < nI (q_pc (q_N J p)) from nI_nlt (a := 1) (by omega) (by decide)), if_neg c1, bn_eq (q_bitCount _ (by omega))]
    by_cases c2 : 1 < q_pc (q_F J p)
    · rw [if_neg (show ¬ nI (q_pc (q_F J p)) ≤ (1 : Int32) from nI_ge (a := 1) c2 (by omega)), if_pos c2]; rfl
    · rw [if_pos (show nI (q_pc (q_F J p)) ≤ (1 : Int32) from nI_le (b := 1) (by omega) (by decide)), if_neg c2]
      by_cases c3 : q_F J p = 0
      · rw [c3, if_pos (show nI 0 = 0 from rfl), if_pos rfl]; rfl
      · rw [if_neg (nI_ne0 (by omega) (by omega)), if_neg c3, q_shl1 p (by omega)]
        by_cases c4 : q_F J p = 2 ^ p
        · rw [if_pos (congrArg nI c4), if_pos c4]; rfl
        · rw [if_neg (fun e => c4 ((nI_eq (by omega) (by omega)).mp e)), if_neg c4]; rfl
def q_wm (J : Nat → Nat → Bool) : Nat := q_mk (fun p => decide (q_st J p ≠ 0)) 8
theorem q_st_lt (J : Nat → Nat → Bool) (p : Nat) : q_st J p < 4 := by
  unfold q_st
  split
  · omega
  · split
    · omega
    · split
      · omega
      · split <;> omega
theorem q_wm_lt (J : Nat → Nat → Bool) : q_wm J < 256 := q_mk_lt _ 8
/-- the class's nets are measured for a tick -/
def q_Mz (a : AS) (t : Nat) (S : CS) : Prop := S.1 5 = nI (q_pm (aF a) t) ∧ q_MB (q_J a t) S ∧ S.1 6 = nI (q_wm (q_J a t))
theorem q_collectWrong {S : CS} {J : Nat → Nat → Bool} (h : q_MB J S) (hr : ∀ i, J i i = true) {n : Nat} (hn : 8 < n) : R1 (mX5_collectWrongPins n S) (fun S' => S' = sF S 6 (nI (q_wm J))) := by
  obtain ⟨k', e⟩ := q_fun (f := fun k s i => mX5_collectWrongPins_7 n k s i) 8 (fun i => sF S 6 (nI (q_mk (fun p => decide (q_st J p ≠ 0)) i))) (by
    intro i k hi
    show mX5_collectWrongPins_7 n (k + 1) (sF S 6 _) (nI i) = _
    have hst := q_st_lt J i
    rw [mX5_collectWrongPins_7, if_neg (show ¬ (8 : Int32) ≤ nI i from nI_ge hi (by decide)), bn_eq (q_statusOf (S := sF S 6 _) h hr hi)]
    have m1 : q_mk (fun p => decide (q_st J p ≠ 0)) (i + 1) = q_mk (fun p => decide (q_st J p ≠ 0)) i ||| (if decide (q_st J i ≠ 0) = true then 2 ^ i else 0) := rfl
    unfold mX5_collectWrongPins_33
    by_cases c : q_st J i = 0
    · rw [c, if_pos (show nI 0 = 0 from rfl), q_i1, m1, if_neg (by simp [c]), Nat.or_zero]
    · rw [if_neg (nI_ne0 (by omega) (by omega)), q_i1, m1, if_pos (by simp [c]), sF_s, q_or1 (by omega)]
      show mX5_collectWrongPins_7 n k (upd (upd S.1 6 _) 6 _, S.2) _ = mX5_collectWrongPins_7 n k (upd S.1 6 _, S.2) _
      rw [fa_upd_twice]) hn
  refine R1.of (e.trans ?_) rfl
  show mX5_collectWrongPins_7 n (k' + 1) (sF S 6 _) (nI 8) = _
  rw [mX5_collectWrongPins_7, if_pos (show (8 : Int32) ≤ nI 8 from nI_le (Nat.le_refl _) (by decide))]
  rfl
theorem q_measure {a : AS} {S : CS} (r : RC a S) (v : Va a) {n : Nat} (hn : 18 < n) {t : Nat} : R1 (mX5_measure n S (nI (q_pm (aF a) t))) (fun S' => Ke S S' ∧ q_Mz a t S') := by
  have hL : aL a ≤ 999 := v.2.1
  have k5 : Ke S (sF S 5 (nI (q_pm (aF a) t))) := Ke.sF S 5 _ (by decide) (by decide) (by decide) (by decide) (by decide) (by decide)
  refine R1.bn (q_collectCuts (k5.rc r) v (by omega) (t := t) (sF_s S 5 _)) ?_
  rintro S3 ⟨k3, h53, hT⟩
  have h53 : S3.1 5 = nI (q_pm (aF a) t) := h53.trans (sF_s S 5 _)
  have r3 := k3.rc (k5.rc r)
  refine R1.bn (q_uniteSP r3 v hn h53 hT) ?_
  rintro S6 ⟨F6, g, hg, hG⟩
  have k6 : Ke S S6 := (k5.tr k3).tr (F6.ke (by decide) (by decide))
  have hT6 : q_CT S6 (aF a) t (aF a).length := hT.fr F6 (by decide) (by decide)
  have grp : ∀ (s : CS), s.2.1 10 = S6.2.1 10 → ∀ y, y < 18 → mX3_groupOf_9 s (nI y) = some (nI (g y)) := by
    intro s hs y hy
    unfold mX3_groupOf_9
    rw [if_neg (nI_pos (by omega)), if_neg (show ¬ (18 : Int32) ≤ nI y from nI_ge hy (by decide)), if_pos (inb_n hy (by decide)), nI_clamp (by omega), hs, (hg y hy).1]
  refine q_lp (f := fun k s i => mX5_measure_17 n k s i) (N := 8) (inv := fun i s => Fr (fun k => k ≠ 11) S6 s ∧ ∀ j, j < i → s.2.1 11 j = nI (g (q_pa (aF a) t (aW a j) 0)) ∧ s.2.1 11 (8 + j) = nI (g (q_pa (aF a) t (aW a (8 + j)) (aL a)))) ?_ ?_ 8 0 n S6 rfl ⟨Fr.rf _ S6, fun j hj => absurd hj (Nat.not_lt_zero j)⟩ (by omega)
  · intro k s ⟨hF, hA⟩
    show R1 (mX5_measure_17 n (k + 1) s (nI 8)) _
    rw [mX5_measure_17, if_pos (show (8 : Int32) ≤ nI 8 from nI_le (Nat.le_refl _) (by decide))]
    have hA' : ∀ i, i < 16 → s.2.1 11 i = nI (g (q_pa (aF a) t (aW a i) (if i < 8 then 0 else aL a))) := by
      intro i hi
      by_cases h8 : i < 8
      · rw [if_pos h8]; exact (hA i h8).1
      · rw [if_neg h8]
        have := (hA (i - 8) (by omega)).2
        rw [show 8 + (i - 8) = i by omega] at this
        exact this
    have hJ : ∀ i j, i < 16 → j < 16 → (s.2.1 11 i = s.2.1 11 j ↔ q_J a t i j = true) := by
      intro i j hi hj
      have c1 := (hg _ (q_pa_lt v (q_Wlt v hi) t (if i < 8 then 0 else aL a))).2
      have c2 := (hg _ (q_pa_lt v (q_Wlt v hj) t (if j < 8 then 0 else aL a))).2
      rw [hA' i hi, hA' j hj, nI_eq (by omega) (by omega)]
      unfold q_J q_pi
      rw [decide_eq_true_iff]
      exact hG _ _ _ _ (q_Wlt v hi) (q_Wlt v hj)
    refine R1.bn (q_collectMembers (by omega) hJ (q_J_rf a t) (q_J_sy a t)) ?_
    rintro S10 ⟨F10, hB⟩
    refine R1.bn (q_collectWrong (J := q_J a t) hB (q_J_rf a t) (by omega)) ?_
    rintro S13 rfl
    refine R1.ret ⟨(k6.tr (hF.ke (by decide) (by decide))).tr ((F10.ke (by decide) (by decide)).tr (Ke.sF S10 6 _ (by decide) (by decide) (by decide) (by decide) (by decide) (by decide))), ?_, hB, sF_s _ 6 _⟩
    rw [sF_n _ _ (by decide), F10.1, hF.1, F6.1]; exact h53
  · intro i k s hi ⟨hF, hA⟩
    right
    show ∃ s', (Fr (fun k => k ≠ 11) S6 s' ∧ ∀ j, j < i + 1 → s'.2.1 11 j = nI (g (q_pa (aF a) t (aW a j) 0)) ∧ s'.2.1 11 (8 + j) = nI (g (q_pa (aF a) t (aW a (8 + j)) (aL a)))) ∧ mX5_measure_17 n (k + 1) s (nI i) = mX5_measure_17 n k s' (nI (i + 1))
    have rs : RC a s := (k6.tr (hF.ke (by decide) (by decide))).rc r
    have T1 : q_CT s (aF a) t (aF a).length := hT6.fr hF (by decide) (by decide)
    have w0 := q_wireAt rs (e := 0) (by decide) hi
    rw [Nat.mul_zero, Nat.zero_add] at w0
    have F1 : Fr (fun k => k ≠ 11) s (sA s 11 i (nI (g (q_pa (aF a) t (aW a i) 0)))) := Fr.sA s (fun h => h rfl)
    have rs1 : RC a (sA s 11 i (nI (g (q_pa (aF a) t (aW a i) 0)))) := (F1.ke (by decide) (by decide)).rc rs
    have w1 := q_wireAt rs1 (e := 1) (by decide) hi
    rw [Nat.mul_one] at w1
    rw [mX5_measure_17, if_neg (show ¬ (8 : Int32) ≤ nI i from nI_ge hi (by decide)), bn_eq (show mX0_wireAt s (0 : Int32) (nI i) = _ from w0), bn_eq (show mX5_pieceAt n s (nI (aW a i)) (0 : Int32) = _ from q_pieceAt v (by omega) T1 (q_Wlt v (by omega)) (p := 0) (by omega)), bn_eq (grp s (hF.2.2 10 (by decide)) _ (q_pa_lt v (q_Wlt v (by omega)) t 0)), if_pos (inb_n (show i < 16 by omega) (by decide)), nI_clamp (by omega), bn_eq (show mX0_wireAt _ (1 : Int32) (nI i) = _ from w1), rs1.1, bn_eq (q_pieceAt v (by omega) (T1.fr F1 (by decide) (by decide)) (q_Wlt v (by omega)) (by omega)), bn_eq (grp _ ((F1.2.2 10 (by decide)).trans (hF.2.2 10 (by decide))) _ (q_pa_lt v (q_Wlt v (by omega)) t (aL a))), show (8 : Int32) + nI i = nI (8 + i) from nI_add 8 i, if_pos (inb_n (show 8 + i < 16 by omega) (by decide)), nI_clamp (by omega), q_i1]
    refine ⟨_, ⟨hF.tr (F1.tr (Fr.sA _ (fun h => h rfl))), fun j hj => ?_⟩, rfl⟩
    rw [sA_r, sA_r]
    by_cases e : j = i
    · subst e
      exact ⟨by rw [pk_un (by omega), pk_us], pk_us⟩
    · rw [pk_un (by omega), pk_un e, pk_un (by omega), pk_un (by omega)]
      exact hA j (by omega)
/-! the reference's -/
theorem q_same {a : AS} {M : MS} {t n : Nat} (h : q_N8 a t M) (hn : 8 < n) {i to : Nat} (hi : i < 16) (ht : to < 2) : mX8_same n M (nI i) (nI to) = some (nI (if to = 0 then q_N (q_J a t) i else q_F (q_J a t) i)) := by
  obtain ⟨k', e⟩ := q_fun (f := fun k x j => mX8_same_5 n M (nI i) (nI to) k x j) 8 (fun j => nI (q_mk (fun l => q_J a t i (8 * to + l)) j)) (by
    intro j k hj
    show mX8_same_5 n M (nI i) (nI to) (k + 1) _ (nI j) = mX8_same_5 n M (nI i) (nI to) k _ _
    have e8 : (8 : Int32) * nI to + nI j = nI (8 * to + j) := by rw [show (8 : Int32) = nI 8 from rfl, pk_mul, nI_add]
    have m1 : q_mk (fun l => q_J a t i (8 * to + l)) (j + 1) = q_mk (fun l => q_J a t i (8 * to + l)) j ||| (if q_J a t i (8 * to + j) = true then 2 ^ j else 0) := rfl
    rw [mX8_same_5, if_neg (show ¬ (8 : Int32) ≤ nI j from nI_ge hj (by decide)), e8, if_pos (inb_n (show 8 * to + j < 16 by omega) (by decide)), if_pos (inb_n hi (by decide)), nI_clamp (by omega), nI_clamp (by omega)]
    have hh := h (8 * to + j) i (by omega) hi
    rw [q_J_sy] at hh
    unfold mX8_same_42
    by_cases c : q_J a t i (8 * to + j) = true
    · rw [if_pos (hh.mpr c), q_or1 (by omega), q_i1, m1, if_pos c]
    · rw [if_neg (fun e => c (hh.mp e)), q_or0, q_i1, m1, if_neg c, Nat.or_zero]) hn
  show mX8_same_5 n M (nI i) (nI to) n (nI 0) (nI 0) = _
  refine e.trans ?_
  show mX8_same_5 n M (nI i) (nI to) (k' + 1) _ (nI 8) = _
  rw [mX8_same_5, if_pos (show (8 : Int32) ≤ nI 8 from nI_le (Nat.le_refl _) (by decide))]
  by_cases c : to = 0
  · subst c
    rw [if_pos rfl]
    unfold q_N
    exact congrArg (fun z => some (nI z)) (q_mk_cong (fun k _ => by rw [Nat.mul_zero, Nat.zero_add]))
  · have : to = 1 := by omega
    subst this
    rw [if_neg c]; rfl
theorem q_statusNow {a : AS} {M : MS} {t n : Nat} (h : q_N8 a t M) (hn : 16 < n) {p : Nat} (hp : p < 8) : mX8_statusNow n M (nI p) = some (nI (q_st (q_J a t) p)) := by
  have hF := q_F_lt (q_J a t) p
  have hN := q_N_lt (q_J a t) p
  have b1 := q_pc_le (q_F (q_J a t) p)
  have b0 := q_pc_le (q_N (q_J a t) p)
  have hpow : 2 ^ p < 2 ^ 8 := Nat.pow_lt_pow_right (by decide) hp
  unfold mX8_statusNow q_st mX8_statusNow_30
  rw [bn_eq (show mX8_same n M (nI p) (0 : Int32) = some (nI (q_N (q_J a t) p)) from q_same h (by omega) (to := 0) (by omega) (by decide)), bn_eq (show mX8_same n M (nI p) (1 : Int32) = some (nI (q_F (q_J a t) p)) from q_same h (by omega) (to := 1) (by omega) (by decide)), bn_eq (q_bits n hn (by omega))]
  by_cases c1 : 1 < q_pc (q_N (q_J a t) p)
  · rw [if_pos (show (1 : Int32) < nI _ from nI_lt (a := 1) c1 (by omega)), if_pos c1]; rfl
  · rw [if_neg (show ¬ (1 : Int32) < nI _ from nI_nlt (b := q_pc (q_N (q_J a t) p)) (a := 1) (by omega) (by decide)), if_neg c1, bn_eq (q_bits n hn (by omega))]
    by_cases c2 : 1 < q_pc (q_F (q_J a t) p)
    · rw [if_neg (show ¬ nI (q_pc (q_F (q_J a t) p)) ≤ (1 : Int32) from nI_ge (a := 1) c2 (by omega)), if_pos c2]; rfl
    · rw [if_pos (show nI (q_pc (q_F (q_J a t) p)) ≤ (1 : Int32) from nI_le (b := 1) (by omega) (by decide)), if_neg c2]
      by_cases c3 : q_F (q_J a t) p = 0
      · rw [c3, if_pos (show nI 0 = 0 from rfl), if_pos rfl]; rfl
      · rw [if_neg (nI_ne0 (by omega) (by omega)), if_neg c3, q_shl1 p (by omega)]
        by_cases c4 : q_F (q_J a t) p = 2 ^ p
        · rw [if_pos (congrArg nI c4), if_pos c4]; rfl
        · rw [if_neg (fun e => c4 ((nI_eq (by omega) (by omega)).mp e)), if_neg c4]; rfl
theorem q_wrong {a : AS} {M : MS} (r : RM a M) (v : Va a) {n : Nat} (hn : 88 < n) {t : Nat} (ht : t < 2 ^ 31) : R1 (mX8_wrong n M (nI t)) (fun z => z.1 = nI (q_wm (q_J a t)) ∧ Km M z.2 ∧ q_N8 a t z.2) := by
  refine R1.bn (q_layNets r v hn ht) ?_
  rintro M3 ⟨hK, hN⟩
  obtain ⟨k', e⟩ := q_fun (f := fun k (s : Int32) i => mX8_wrong_9 n k M3 s i) 8 (fun i => nI (q_mk (fun p => decide (q_st (q_J a t) p ≠ 0)) i)) (by
    intro i k hi
    show mX8_wrong_9 n (k + 1) M3 _ (nI i) = mX8_wrong_9 n k M3 _ _
    have hst := q_st_lt (q_J a t) i
    rw [mX8_wrong_9, if_neg (show ¬ (8 : Int32) ≤ nI i from nI_ge hi (by decide)), bn_eq (q_statusNow hN (by omega) hi)]
    have m1 : q_mk (fun p => decide (q_st (q_J a t) p ≠ 0)) (i + 1) = q_mk (fun p => decide (q_st (q_J a t) p ≠ 0)) i ||| (if decide (q_st (q_J a t) i ≠ 0) = true then 2 ^ i else 0) := rfl
    unfold mX8_wrong_31
    by_cases c : q_st (q_J a t) i = 0
    · rw [c, if_pos (show nI 0 = 0 from rfl), q_or0, q_i1, m1, if_neg (by simp [c]), Nat.or_zero]
    · rw [if_neg (nI_ne0 (by omega) (by omega)), q_i1, m1, if_pos (by simp [c]), q_or1 (by omega)]) (by omega : 8 < n)
  refine R1.of (a := (nI (q_wm (q_J a t)), M3)) (e.trans ?_) ⟨rfl, hK, hN⟩
  show mX8_wrong_9 n (k' + 1) M3 _ (nI 8) = _
  rw [mX8_wrong_9, if_pos (show (8 : Int32) ≤ nI 8 from nI_le (Nat.le_refl _) (by decide))]
  rfl
