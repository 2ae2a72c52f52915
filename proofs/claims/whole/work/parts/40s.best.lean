/-! the best explanation, on both sides -/
def q_spm (J : Nat → Nat → Bool) (n : Nat) : Nat := q_mk (fun q => decide (q_pc (q_N J (8 + q)) < q_pc (q_F J (8 + q)))) n
def q_alw (J : Nat → Nat → Bool) (p : Nat) : Nat := if q_pc (q_F J p) < q_pc (q_N J p) then q_F J p ||| q_spm J 8 else q_F J p
theorem q_spm_lt (J : Nat → Nat → Bool) : q_spm J 8 < 256 := q_mk_lt _ 8
theorem q_alw_lt (J : Nat → Nat → Bool) (p : Nat) : q_alw J p < 256 := by
  unfold q_alw
  split
  · exact Nat.or_lt_two_pow (n := 8) (q_F_lt J p) (q_spm_lt J)
  · exact q_F_lt J p
theorem q_allow {S : CS} {J : Nat → Nat → Bool} (h : q_MB J S) {n : Nat} (hn : 8 < n) : R1 (mX1_allowFewestCuts n S) (fun S' => Fr (fun k => k ≠ 14 ∧ k ≠ 15) S S' ∧ ∀ p, p < 8 → S'.2.1 14 p = nI (q_F J p) ∧ S'.2.1 15 p = nI (q_alw J p)) := by
  obtain ⟨k', e⟩ := q_fun (f := fun k (x : Int32) i => mX1_allowFewestCuts_4 n k S x i) 8 (fun i => nI (q_spm J i)) (by
    intro i k hi
    show mX1_allowFewestCuts_4 n (k + 1) S _ (nI i) = mX1_allowFewestCuts_4 n k S (nI (q_spm J i ||| (if decide (q_pc (q_N J (8 + i)) < q_pc (q_F J (8 + i))) = true then 2 ^ i else 0))) _
    have hN := q_N_lt J (8 + i)
    have hF := q_F_lt J (8 + i)
    have bN := q_pc_le (q_N J (8 + i))
    have bF := q_pc_le (q_F J (8 + i))
    have w1 := q_near h (e := 1) (by decide) hi
    have w2 := q_far h (e := 1) (by decide) hi
    rw [Nat.mul_one] at w1 w2
    rw [mX1_allowFewestCuts_4, if_neg (show ¬ (8 : Int32) ≤ nI i from nI_ge hi (by decide)), bn_eq (show mX5_nearPinsWith S (1 : Int32) (nI i) = _ from w1), bn_eq (q_bitCount _ (by omega)), bn_eq (show mX5_farPinsWith S (1 : Int32) (nI i) = _ from w2), bn_eq (q_bitCount _ (by omega))]
    unfold mX1_allowFewestCuts_41
    rw [q_i1]
    by_cases c : q_pc (q_N J (8 + i)) < q_pc (q_F J (8 + i))
    · rw [if_neg (nI_ge c (by omega)), q_or1 (by omega), if_pos (decide_eq_true c)]
    · rw [if_pos (nI_le (by omega) (by omega)), if_neg (by rw [decide_eq_true_iff]; exact c), Nat.or_zero]) hn
  refine R1.eqv e ?_
  show R1 (mX1_allowFewestCuts_4 n (k' + 1) S (nI (q_spm J 8)) (nI 8)) _
  rw [mX1_allowFewestCuts_4, if_pos (show (8 : Int32) ≤ nI 8 from nI_le (Nat.le_refl _) (by decide))]
  refine q_lp (f := fun k s i => mX1_allowFewestCuts_49 n (nI (q_spm J 8)) k s i) (N := 8) (inv := fun i S' => Fr (fun k => k ≠ 14 ∧ k ≠ 15) S S' ∧ ∀ p, p < i → S'.2.1 14 p = nI (q_F J p) ∧ S'.2.1 15 p = nI (q_alw J p)) ?_ ?_ 8 0 n S rfl ⟨Fr.rf _ S, fun p hp => absurd hp (Nat.not_lt_zero p)⟩ hn
  · intro k s h
    show R1 (mX1_allowFewestCuts_49 n (nI (q_spm J 8)) (k + 1) s (nI 8)) _
    rw [mX1_allowFewestCuts_49, if_pos (show (8 : Int32) ≤ nI 8 from nI_le (Nat.le_refl _) (by decide))]
    exact R1.ret h
  · intro i k s hi ⟨hF0, hA⟩
    right
    show ∃ s', (Fr (fun k => k ≠ 14 ∧ k ≠ 15) S s' ∧ ∀ p, p < i + 1 → s'.2.1 14 p = nI (q_F J p) ∧ s'.2.1 15 p = nI (q_alw J p)) ∧ mX1_allowFewestCuts_49 n (nI (q_spm J 8)) (k + 1) s (nI i) = mX1_allowFewestCuts_49 n (nI (q_spm J 8)) k s' (nI (i + 1))
    have hs : q_MB J s := by
      unfold q_MB at h ⊢
      rw [hF0.2.2 12 (by decide)]; exact h
    have hN := q_N_lt J i
    have hF := q_F_lt J i
    have bN := q_pc_le (q_N J i)
    have bF := q_pc_le (q_F J i)
    have w1 := q_near hs (e := 0) (by decide) hi
    have w2 := q_far hs (e := 0) (by decide) hi
    rw [Nat.mul_zero, Nat.zero_add] at w1 w2
    have r14 : (sA s 14 i (nI (q_F J i))).2.1 14 i = nI (q_F J i) := by rw [sA_r]; exact pk_us
    rw [mX1_allowFewestCuts_49, if_neg (show ¬ (8 : Int32) ≤ nI i from nI_ge hi (by decide)), bn_eq (show mX5_nearPinsWith s (0 : Int32) (nI i) = _ from w1), bn_eq (q_bitCount _ (by omega)), bn_eq (show mX5_farPinsWith s (0 : Int32) (nI i) = _ from w2), if_pos (inb_n hi (by decide)), if_pos (inb_n hi (by decide)), nI_clamp (by omega), r14, bn_eq (q_bitCount _ (by omega))]
    have fin : ∃ s', (Fr (fun k => k ≠ 14 ∧ k ≠ 15) S s' ∧ ∀ p, p < i + 1 → s'.2.1 14 p = nI (q_F J p) ∧ s'.2.1 15 p = nI (q_alw J p)) ∧ mX1_allowFewestCuts_126 n (mX1_allowFewestCuts_49 n (nI (q_spm J 8)) k) (sA s 14 i (nI (q_F J i))) (nI (q_spm J 8)) (nI i) (nI (q_alw J i)) (nI i) = mX1_allowFewestCuts_49 n (nI (q_spm J 8)) k s' (nI (i + 1)) := by
      unfold mX1_allowFewestCuts_126
      rw [if_pos (inb_n hi (by decide)), nI_clamp (by omega), q_i1]
      refine ⟨_, ⟨hF0.tr ((Fr.sA s (fun h => h.1 rfl)).tr (Fr.sA _ (fun h => h.2 rfl))), fun p hp => ?_⟩, rfl⟩
      rw [sA_o _ _ _ (show (14 : Nat) ≠ 15 by decide), sA_r, sA_r, sA_o s _ _ (show (15 : Nat) ≠ 14 by decide)]
      by_cases ep : p = i
      · rw [ep]; exact ⟨pk_us, pk_us⟩
      · rw [pk_un ep, pk_un ep]; exact hA p (by omega)
    unfold mX1_allowFewestCuts_97
    rw [if_pos (inb_n hi (by decide)), nI_clamp (by omega), r14, fa_or]
    by_cases c : q_pc (q_F J i) < q_pc (q_N J i)
    · have ea : q_alw J i = q_F J i ||| q_spm J 8 := if_pos c
      rw [if_neg (nI_ge c (by omega)), if_neg (show ¬ (1 : Int32) = 0 by decide), if_pos (inb_n hi (by decide)), ← ea]
      exact fin
    · have ea : q_alw J i = q_F J i := if_neg c
      rw [if_pos (nI_le (by omega) (by omega)), if_pos rfl, ← ea, ea]
      rw [ea] at fin
      exact fin
/-- a net's first contact stands for it -/
def q_lab (a : AS) (t i : Nat) : Nat := fa_first (q_J a t i) 16
theorem q_lab_lt {a : AS} {t i : Nat} (hi : i < 16) : q_lab a t i < 16 := by
  have h := fa_first_le (q_J a t i) 16
  unfold q_lab
  rcases Nat.lt_or_ge (fa_first (q_J a t i) 16) 16 with c | c
  · exact c
  · have := fa_first_no (q_J a t i) 16 i (by omega)
    rw [q_J_rf] at this
    cases this
theorem q_lab_J {a : AS} {t i j : Nat} (hi : i < 16) (hj : j < 16) : q_J a t i j = decide (q_lab a t i = q_lab a t j) := by
  have yi := fa_first_yes (q_J a t i) 16 (q_lab_lt hi)
  have yj := fa_first_yes (q_J a t j) 16 (q_lab_lt hj)
  by_cases c : q_lab a t i = q_lab a t j
  · rw [decide_eq_true c]
    have yi : q_J a t i (q_lab a t i) = true := yi
    have yj : q_J a t j (q_lab a t j) = true := yj
    rw [c] at yi
    unfold q_J at yi yj ⊢
    exact decide_eq_true ((of_decide_eq_true yi).trans (of_decide_eq_true yj).symm)
  · rw [decide_eq_false c]
    cases hJ : q_J a t i j
    · rfl
    · exfalso
      apply c
      have e : q_J a t i = q_J a t j := by
        funext k
        unfold q_J at hJ ⊢
        rw [of_decide_eq_true hJ]
      unfold q_lab
      rw [e]
theorem q_pcN {a : AS} {t i : Nat} (hi : i < 16) : q_pc (q_N (q_J a t) i) = q_av (fun p => q_lab a t p) (q_lab a t i) := by
  unfold q_N q_av
  rw [q_pc_mk (by decide)]
  refine fb_ct_cong (fun k hk => ?_)
  rw [q_lab_J hi (by omega)]
  exact decide_eq_decide.mpr eq_comm
theorem q_pcF {a : AS} {t i : Nat} (hi : i < 16) : q_pc (q_F (q_J a t) i) = q_av (fun p => q_lab a t (8 + p)) (q_lab a t i) := by
  unfold q_F q_av
  rw [q_pc_mk (by decide)]
  refine fb_ct_cong (fun k hk => ?_)
  show q_J a t i (8 + k) = _
  rw [q_lab_J hi (by omega)]
  exact decide_eq_decide.mpr eq_comm
theorem q_al_iff {a : AS} {t : Nat} {σ : List Nat} (hs : q_In (q_nth σ)) : q_ab8 (q_alw (q_J a t)) σ = true ↔ q_Al (fun p => q_lab a t p) (fun p => q_lab a t (8 + p)) (q_nth σ) := by
  rw [q_ab8_iff]
  have one : ∀ p, p < 8 → ((q_alw (q_J a t) p).testBit (q_nth σ p) = true ↔ (q_lab a t p = q_lab a t (8 + q_nth σ p) ∨ (q_av (fun p => q_lab a t (8 + p)) (q_lab a t p) < q_av (fun p => q_lab a t p) (q_lab a t p) ∧ q_av (fun p => q_lab a t p) (q_lab a t (8 + q_nth σ p)) < q_av (fun p => q_lab a t (8 + p)) (q_lab a t (8 + q_nth σ p))))) := by
    intro p hp
    have hq := hs.1 p hp
    have bF : (q_F (q_J a t) p).testBit (q_nth σ p) = decide (q_lab a t p = q_lab a t (8 + q_nth σ p)) := by
      unfold q_F
      rw [q_mk_bit, decide_eq_true hq, Bool.true_and, q_lab_J (by omega) (by omega)]
    have bS : (q_spm (q_J a t) 8).testBit (q_nth σ p) = decide (q_av (fun p => q_lab a t p) (q_lab a t (8 + q_nth σ p)) < q_av (fun p => q_lab a t (8 + p)) (q_lab a t (8 + q_nth σ p))) := by
      unfold q_spm
      rw [q_mk_bit, decide_eq_true hq, Bool.true_and, q_pcN (by omega), q_pcF (by omega)]
    unfold q_alw
    rw [q_pcN (show p < 16 by omega), q_pcF (show p < 16 by omega)]
    by_cases c : q_av (fun p => q_lab a t (8 + p)) (q_lab a t p) < q_av (fun p => q_lab a t p) (q_lab a t p)
    · rw [if_pos c, Nat.testBit_or, bF, bS, Bool.or_eq_true, decide_eq_true_iff, decide_eq_true_iff]
      constructor
      · rintro (h | h)
        · exact Or.inl h
        · exact Or.inr ⟨c, h⟩
      · rintro (h | h)
        · exact Or.inl h
        · exact Or.inr h.2
    · rw [if_neg c, bF, decide_eq_true_iff]
      constructor
      · exact Or.inl
      · rintro (h | h)
        · exact h
        · exact absurd h.1 c
  constructor
  · intro h p hp
    exact (one p hp).mp (h p hp)
  · intro h p hp
    exact (one p hp).mpr (h p hp)
theorem q_vlIn {σ : List Nat} (hv : q_vl σ) (hl : σ.length = 8) : q_In (q_nth σ) := ⟨fun i hi => hv.1 i (by omega), fun i j hi hj => hv.2 i j (by omega) (by omega)⟩
theorem q_cu_mt {a : AS} {t : Nat} {σ : List Nat} (hs : q_In (q_nth σ)) (hl : σ.length = 8) : q_cu (q_J a t) σ + q_mt (fun p => q_lab a t p) (fun p => q_lab a t (8 + p)) (q_nth σ) = 8 := by
  unfold q_cu q_mt
  rw [hl]
  have h := fb_ct_not (fun p => decide (q_lab a t p = q_lab a t (8 + q_nth σ p))) 8
  have e : fb_ct (fun p => !(q_J a t p (8 + q_nth σ p))) 8 = fb_ct (fun p => !decide (q_lab a t p = q_lab a t (8 + q_nth σ p))) 8 := fb_ct_cong (fun p hp => by
    have := hs.1 p hp
    rw [q_lab_J (by omega) (by omega)])
  rw [e]
  show _ + fb_ct (fun p => decide (q_lab a t p = q_lab a t (8 + q_nth σ p))) 8 = 8
  omega
theorem q_vl0 : q_vl [] := ⟨fun i hi => absurd hi (Nat.not_lt_zero i), fun i _ hi => absurd hi (Nat.not_lt_zero i)⟩
theorem q_bstEx (a : AS) (t : Nat) : ∃ σ, q_vl σ ∧ σ.length = 8 ∧ q_gc σ ∧ (∀ L, L = q_en 8 [] → L.foldl (q_fs (q_k1 (q_J a t))) (90, []) = (q_k1 (q_J a t) σ, σ)) ∧ ∀ L, L = q_en 8 [] → ∀ y, L.foldl (q_fs (q_k2 (q_alw (q_J a t)))) (8, y) = (8 - q_cyc σ, σ) := by
  obtain ⟨L, hL⟩ : ∃ L, L = q_en 8 [] := ⟨_, rfl⟩
  have sub : ∀ σ ∈ L, q_vl σ ∧ σ.length = 8 := fun σ hσ => ⟨(q_en_sub 8 [] σ (hL ▸ hσ) q_vl0 rfl).1, (q_en_sub 8 [] σ (hL ▸ hσ) q_vl0 rfl).2.1⟩
  have gc : ∀ σ ∈ L, q_gc σ := fun σ hσ => q_gcAll σ (hL ▸ hσ)
  have hIn : ∀ σ ∈ L, q_In (q_nth σ) := fun σ hσ => q_vlIn (sub σ hσ).1 (sub σ hσ).2
  have hl1 : ∀ p, p < 8 → (fun p => q_lab a t p) p < 16 := fun p hp => q_lab_lt (by omega)
  have hl2 : ∀ p, p < 8 → (fun p => q_lab a t (8 + p)) p < 16 := fun p hp => q_lab_lt (by omega)
  obtain ⟨s, hs, hAs⟩ := q_al_ex (fun p => q_lab a t p) (fun p => q_lab a t (8 + p)) 8 (fun i => i) ⟨fun i hi => hi, fun i j _ _ h => h⟩ (by omega)
  have hα : q_tk8 s 8 ∈ L := by
    rw [hL]
    exact q_en_all hs 8 0 rfl
  have hAα : q_ab8 (q_alw (q_J a t)) (q_tk8 s 8) = true := by
    rw [q_al_iff (hIn _ hα)]
    intro p hp
    rw [q_tk8_n s 8 p hp]
    exact hAs p hp
  have two : ∀ y, ∃ σ ∈ L, q_ab8 (q_alw (q_J a t)) σ = true ∧ L.foldl (q_fs (q_k1 (q_J a t))) (90, []) = (q_k1 (q_J a t) σ, σ) ∧ L.foldl (q_fs (q_k2 (q_alw (q_J a t)))) (8, y) = (q_k2 (q_alw (q_J a t)) σ, σ) := fun y => q_two (L := L) (A := fun σ => q_ab8 (q_alw (q_J a t)) σ = true) (cu := q_cu (q_J a t)) (ex := fun σ => 8 - q_cyc σ) (k1 := q_k1 (q_J a t)) (k2 := q_k2 (q_alw (q_J a t)))
    (fun σ _ h => by unfold q_k2; rw [if_pos h]) (fun σ _ h => by unfold q_k2; rw [if_neg h]) (fun σ _ => rfl)
    (fun σ hσ => by have := (gc σ hσ).2; show 8 - q_cyc σ ≤ 7; omega)
    (fun σ hσ => by have := q_cu_mt (a := a) (t := t) (hIn σ hσ) (sub σ hσ).2; omega)
    (fun σ hσ τ hτ h1 h2 => by
      have c1 := q_cu_mt (a := a) (t := t) (hIn σ hσ) (sub σ hσ).2
      have c2 := q_cu_mt (a := a) (t := t) (hIn τ hτ) (sub τ hτ).2
      have m1 := q_al_min hl1 (hIn σ hσ) (hIn τ hτ) ((q_al_iff (hIn σ hσ)).mp h1)
      have m2 := q_al_min hl1 (hIn τ hτ) (hIn σ hσ) ((q_al_iff (hIn τ hτ)).mp h2)
      omega)
    (fun σ hσ τ hτ h1 h2 => by
      have c1 := q_cu_mt (a := a) (t := t) (hIn σ hσ) (sub σ hσ).2
      have c2 := q_cu_mt (a := a) (t := t) (hIn τ hτ) (sub τ hτ).2
      have m1 := q_nal_lt hl1 hl2 (hIn σ hσ) (hIn τ hτ) ((q_al_iff (hIn σ hσ)).mp h1) (fun h => h2 ((q_al_iff (hIn τ hτ)).mpr h))
      omega) hα hAα [] y
  obtain ⟨σ, hσ, hAσ, e1, e2⟩ := two []
  refine ⟨σ, (sub σ hσ).1, (sub σ hσ).2, gc σ hσ, ?_, ?_⟩
  · intro L' hL'
    rw [hL', ← hL]
    exact e1
  · intro L' hL' y
    obtain ⟨τ, hτ, hAτ, f1, f2⟩ := two y
    have : τ = σ := by
      rw [e1] at f1
      exact (congrArg Prod.snd f1).symm
    rw [hL', ← hL, f2, this]
    unfold q_k2
    rw [if_pos hAσ]
noncomputable def q_bst (a : AS) (t : Nat) : List Nat := Classical.choose (q_bstEx a t)
theorem q_bstAll (a : AS) (t : Nat) : q_vl (q_bst a t) ∧ (q_bst a t).length = 8 ∧ q_gc (q_bst a t) ∧ (∀ L, L = q_en 8 [] → L.foldl (q_fs (q_k1 (q_J a t))) (90, []) = (q_k1 (q_J a t) (q_bst a t), q_bst a t)) ∧ ∀ L, L = q_en 8 [] → ∀ y, L.foldl (q_fs (q_k2 (q_alw (q_J a t)))) (8, y) = (8 - q_cyc (q_bst a t), q_bst a t) := Classical.choose_spec (q_bstEx a t)
/-- the class's explainer has found it -/
def q_Ex (a : AS) (t : Nat) (S : CS) : Prop := (∀ p, p < 8 → S.2.1 14 p = nI (q_F (q_J a t) p)) ∧ S.1 8 = nI (q_cyc (q_bst a t)) ∧ ∀ i, i < 8 → S.2.1 17 i = nI (q_nth (q_bst a t) i)
theorem q_findBest7 {a : AS} {t : Nat} {S : CS} (h : q_Mz a t S) {n : Nat} (hn : 8 < n) : R1 (mX1_findBest n S) (fun S' => Ke S S' ∧ q_Mz a t S' ∧ q_Ex a t S') := by
  refine R1.bn (q_allow h.2.1 hn) ?_
  rintro S3 ⟨hF, hA⟩
  obtain ⟨hv, hl, hgc, e1, e2⟩ := q_bstAll a t
  have hcy : q_cyc (q_bst a t) ≤ 8 := by
    have := fb_ct_le (q_cls (q_bst a t)) (q_bst a t).length
    unfold q_cyc; omega
  refine R1.bn (q_try (n := n) hn (al := q_alw (q_J a t)) (fun p _ => q_alw_lt _ p) 8 (sF S3 8 0) [] (8, []) rfl q_vl0 (fun i hi => absurd hi (Nat.not_lt_zero i)) (fun p hp => (hA p hp).2) (fun i hi => absurd hi (Nat.not_lt_zero i)) ⟨Nat.le_refl 8, sF_s S3 8 0, fun h => absurd h (Nat.lt_irrefl 8)⟩) ?_
  rintro S6 ⟨hT, hB⟩
  rw [e2 _ rfl []] at hB
  obtain ⟨b1, b2, b3⟩ := hB
  have b3 := b3 (show 8 - q_cyc (q_bst a t) < 8 by have := hgc.2; omega)
  have k3 : Ke S (sF S3 8 0) := (hF.ke (by decide) (by decide)).tr (Ke.sF S3 8 0 (by decide) (by decide) (by decide) (by decide) (by decide) (by decide))
  refine R1.ret ⟨k3.tr hT.ke, ⟨?_, ?_, ?_⟩, fun p hp => ?_, ?_, b3⟩
  · rw [hT.1 5 (by decide), sF_n S3 _ (by decide), hF.1]; exact h.1
  · unfold q_MB
    rw [hT.2.2.1 12 (by decide) (by decide)]
    show ∀ i, i < 16 → S3.2.1 12 i = _
    rw [hF.2.2 12 (by decide)]; exact h.2.1
  · rw [hT.1 6 (by decide), sF_n S3 _ (by decide), hF.1]; exact h.2.2
  · rw [hT.2.2.1 14 (by decide) (by decide)]; exact (hA p hp).1
  · rw [b2]
    show nI (8 - (8 - q_cyc (q_bst a t))) = _
    rw [show 8 - (8 - q_cyc (q_bst a t)) = q_cyc (q_bst a t) by omega]
theorem q_cuts7 {a : AS} {t : Nat} {S : CS} (h : q_Ex a t S) {n : Nat} (hn : 8 < n) : mX1_cuts n S = some (nI (q_cu (q_J a t) (q_bst a t))) := by
  obtain ⟨hv, hl, _⟩ := q_bstAll a t
  obtain ⟨k', e⟩ := q_fun (f := fun k x i => mX1_cuts_4 n S k x i) 8 (fun i => nI (fb_ct (fun p => !(q_J a t p (8 + q_nth (q_bst a t) p))) i)) (by
    intro i k hi
    show mX1_cuts_4 n S (k + 1) _ (nI i) = mX1_cuts_4 n S k _ _
    have hq := hv.1 i (by omega)
    have hF := q_F_lt (q_J a t) i
    rw [mX1_cuts_4, if_neg (show ¬ (8 : Int32) ≤ nI i from nI_ge hi (by decide)), if_pos (inb_n hi (by decide)), if_pos (inb_n hi (by decide)), nI_clamp (by omega), h.1 i hi, h.2.2 i hi, q_bitB (by omega) (by omega), fb_ct_succ]
    have bF : (q_F (q_J a t) i).testBit (q_nth (q_bst a t) i) = q_J a t i (8 + q_nth (q_bst a t) i) := by
      unfold q_F
      rw [q_mk_bit, decide_eq_true hq, Bool.true_and]
    rw [bF]
    unfold mX1_cuts_31
    rw [q_i1]
    cases q_J a t i (8 + q_nth (q_bst a t) i)
    · rw [if_pos (bI_0.mpr rfl), q_i1]; rfl
    · rw [if_neg (show ¬ bI true = 0 by decide), q_i1]; rfl) hn
  show mX1_cuts_4 n S n (nI 0) (nI 0) = _
  refine e.trans ?_
  show mX1_cuts_4 n S (k' + 1) _ (nI 8) = _
  rw [mX1_cuts_4, if_pos (show (8 : Int32) ≤ nI 8 from nI_le (Nat.le_refl _) (by decide))]
  unfold q_cu
  rw [hl]
theorem q_exch7 {a : AS} {t : Nat} {S : CS} (h : q_Ex a t S) : mX1_exchanges S = some (nI (8 - q_cyc (q_bst a t))) := by
  obtain ⟨hv, hl, _⟩ := q_bstAll a t
  have hcy : q_cyc (q_bst a t) ≤ 8 := by
    have := fb_ct_le (q_cls (q_bst a t)) (q_bst a t).length
    unfold q_cyc; omega
  unfold mX1_exchanges
  rw [h.2.1, show (8 : Int32) - nI (q_cyc (q_bst a t)) = nI (8 - q_cyc (q_bst a t)) from pk_sub (a := 8) hcy]
theorem q_farPin {a : AS} {t : Nat} {S : CS} (h : q_Ex a t S) {p : Nat} (hp : p < 8) : mX1_farPinFor S (nI p) = some (nI (q_nth (q_bst a t) p)) := by
  unfold mX1_farPinFor
  rw [if_neg (nI_pos (by omega)), if_neg (show ¬ (8 : Int32) ≤ nI p from nI_ge hp (by decide)), if_pos (inb_n hp (by decide)), nI_clamp (by omega), h.2.2 p hp]
/-- the reference has found it -/
def q_Ex8 (a : AS) (t : Nat) (M : MS) : Prop := M.1 23 = nI (q_cu (q_J a t) (q_bst a t)) ∧ M.1 24 = nI (8 - q_cyc (q_bst a t)) ∧ ∀ i, i < 8 → M.2.1 30 i = nI (q_nth (q_bst a t) i)
theorem q_findBest8 {a : AS} {M : MS} (r : RM a M) (v : Va a) {n : Nat} (hn : 40000000 < n) : R1 (mX8_findBest n M) (fun M' => Km M M' ∧ q_N8 a (aT a) M' ∧ q_Ex8 a (aT a) M') := by
  have hT := q_T v
  unfold mX8_findBest
  rw [r.2.2.2.1]
  refine R1.bn (q_layNets r v (by omega) (by omega)) ?_
  rintro M3 ⟨hK, h8⟩
  rw [if_pos (show inb (0 : Int32) 9 = true by decide)]
  obtain ⟨hv, hl, hgc, e1, e2⟩ := q_bstAll a (aT a)
  obtain ⟨M4, hM4⟩ : ∃ M4, M4 = sB (sG (sG M3 23 (9 : Int32)) 24 (9 : Int32)) 32 (0 : Int32).toNatClampNeg (0 : Int32) := ⟨_, rfl⟩
  rw [← hM4]
  have K4 : Km M3 M4 := by
    rw [hM4]
    exact ((Km.sG M3 23 _ (Or.inr (by decide))).tr (Km.sG _ 24 _ (Or.inr (by decide)))).tr (Km.sB _ 32 _ _ (by decide))
  have N4 : q_N8 a (aT a) M4 := by
    unfold q_N8 at h8 ⊢
    rw [hM4, sB_o _ _ _ (by decide)]
    exact h8
  have B4 : q_RB M4 (90, []) := by
    refine ⟨9, 9, ?_, ?_, rfl, Or.inr ⟨rfl, rfl⟩, fun h => absurd h (by decide)⟩
    · rw [hM4]; exact (sG_n (sG M3 23 (9 : Int32)) (9 : Int32) (show (23 : Nat) ≠ 24 by decide)).trans (sG_s M3 23 _)
    · rw [hM4]; exact sG_s (sG M3 23 (9 : Int32)) 24 (9 : Int32)
  have T4 : M4.2.1 32 0 = 0 := by
    rw [hM4, sB_r]
    exact pk_us
  obtain ⟨M5, c, F5, B5, hc, e5⟩ := q_search (a := a) (t := aT a) (n := n) (by omega) q_gcAll 8 [] (90, []) M4 rfl q_vl0 (fun σ h => h) (fun i hi => absurd hi (Nat.not_lt_zero i)) N4 B4 (fun _ => T4)
  have hN : q_Nn 8 = 38347921 := by decide
  rw [e1 _ rfl] at B5
  obtain ⟨cc, ee, b23, b24, bk, bce, b30⟩ := B5
  have hcu : q_cu (q_J a (aT a)) (q_bst a (aT a)) ≤ 8 := by
    have := fb_ct_le (fun p => !(q_J a (aT a) p (8 + q_nth (q_bst a (aT a)) p))) (q_bst a (aT a)).length
    unfold q_cu; omega
  have hcy := hgc.2
  have hk : q_k1 (q_J a (aT a)) (q_bst a (aT a)) = 9 * q_cu (q_J a (aT a)) (q_bst a (aT a)) + (8 - q_cyc (q_bst a (aT a))) := rfl
  have bk : 9 * q_cu (q_J a (aT a)) (q_bst a (aT a)) + (8 - q_cyc (q_bst a (aT a))) = 9 * cc + ee := hk.symm.trans bk
  have e' := e5 (n - c)
  rw [show n - c + c = n by omega] at e'
  refine R1.of (a := M5) ?_ ⟨hK.tr (K4.tr F5.1), F5.n8 N4, ?_, ?_, b30 (by omega)⟩
  · show mX8_findBest_31 n n M4 (nI (q_ms [])) (nI ([] : List Nat).length) = _
    rw [e']
    obtain ⟨f, hf⟩ : ∃ f, n - c = f + 1 := ⟨n - c - 1, by omega⟩
    rw [hf, mX8_findBest_31, if_pos (show nI ([] : List Nat).length + (-1 : Int32) < 0 by decide)]
  · rw [b23]; congr 1; omega
  · rw [b24]; congr 1; omega
