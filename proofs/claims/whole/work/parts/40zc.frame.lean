/-! what the reference's measuring and searching leave as it was -/
def Fo {α : Type} (x : Option α) (P : α → Prop) : Prop := ∀ z, x = some z → P z
theorem Fo.no {α : Type} {P : α → Prop} : Fo (none : Option α) P := fun _ h => by cases h
theorem Fo.ret {α : Type} {a : α} {P : α → Prop} (h : P a) : Fo (some a) P := fun z e => by cases e; exact h
theorem Fo.bq {α β : Type} {x : Option α} {f : α → Option β} {Q : α → Prop} {P : β → Prop} (q : Fo x Q) (k : ∀ a, Q a → Fo (f a) P) : Fo (bn x f) P := fun z h => by
  obtain ⟨a, e, h⟩ := bo h
  exact k a (q a e) z h
theorem Fo.bn {α β : Type} {x : Option α} {f : α → Option β} {P : β → Prop} (k : ∀ a, Fo (f a) P) : Fo (bn x f) P := fun z h => by
  obtain ⟨a, _, h⟩ := bo h
  exact k a z h
theorem Fo.ite {α : Type} {c : Prop} {inst : Decidable c} {t e : Option α} {P : α → Prop} (h1 : Fo t P) (h2 : Fo e P) : Fo (@ite _ c inst t e) P := by
  by_cases hc : c
  · rw [if_pos hc]; exact h1
  · rw [if_neg hc]; exact h2
theorem Fo.mono {α : Type} {x : Option α} {P Q : α → Prop} (h : Fo x P) (k : ∀ a, P a → Q a) : Fo x Q := fun z e => k z (h z e)
theorem R1.fr {α : Type} {x : Option α} {P Q : α → Prop} (h : R1 x P) (f : Fo x Q) : R1 x (fun z => P z ∧ Q z) := by
  obtain ⟨a, e, hp⟩ := h
  exact ⟨a, e, hp, f a e⟩
def Fm (M M' : MS) : Prop := M'.1 = M.1 ∧ M'.2.2 = M.2.2 ∧ ∀ k, k ≠ 27 → k ≠ 28 → M'.2.1 k = M.2.1 k
theorem Fm.rf (M : MS) : Fm M M := ⟨rfl, rfl, fun _ _ _ => rfl⟩
theorem Fm.tr {M M1 M2 : MS} (h : Fm M M1) (h2 : Fm M1 M2) : Fm M M2 := ⟨h2.1.trans h.1, h2.2.1.trans h.2.1, fun k a b => (h2.2.2 k a b).trans (h.2.2 k a b)⟩
theorem Fm.s27 (M : MS) (i : Nat) (v : Int32) : Fm M (sB M 27 i v) := ⟨rfl, rfl, fun k a _ => sB_o _ _ _ a⟩
theorem Fm.s28 (M : MS) (i : Nat) (v : Int32) : Fm M (sB M 28 i v) := ⟨rfl, rfl, fun k _ b => sB_o _ _ _ b⟩
theorem Fm.km {M M' : MS} (h : Fm M M') : Km M M' := ⟨fun k _ _ => by rw [h.1], fun k hk => h.2.2 k (by omega) (by omega)⟩
theorem fq_lay23 {n : Nat} {x1 : Int32} : ∀ (k : Nat) (M : MS) (x2 : Int32), Fo (mX8_lay_23 n x1 k M x2) (Fm M) := by
  intro k
  induction k with
  | zero => intro M x2; exact Fo.no
  | succ k ih =>
    intro M x2
    rw [mX8_lay_23]
    refine Fo.ite (Fo.ret (Fm.rf M)) (Fo.bn fun r3 => Fo.ite (Fo.bn fun r6 => Fo.ite (ih _ _) (Fo.bn fun _ => Fo.bn fun _ => Fo.bn fun _ => Fo.bn fun _ => Fo.bn fun _ => Fo.bn fun _ => Fo.bn fun _ => Fo.bn fun _ => Fo.ite ?_ Fo.no)) (ih _ _))
    exact (ih _ _).mono (fun z h => (Fm.s27 M _ _).tr h)
theorem fq_lay2 {n : Nat} {x1 : Int32} : ∀ (k : Nat) (M : MS) (x2 : Int32), Fo (mX8_lay_2 n x1 k M x2) (Fm M) := by
  intro k
  induction k with
  | zero => intro M x2; exact Fo.no
  | succ k ih =>
    intro M x2
    rw [mX8_lay_2]
    exact Fo.ite (fq_lay23 n M _) (Fo.ite ((ih _ _).mono (fun z h => (Fm.s27 M _ _).tr h)) Fo.no)
theorem fq_nets7 {n : Nat} {x1 : Int32} : ∀ (k : Nat) (M : MS) (x2 : Int32), Fo (mX8_layNets_7 n x1 k M x2) (Fm M) := by
  intro k
  induction k with
  | zero => intro M x2; exact Fo.no
  | succ k ih =>
    intro M x2
    have h40 : ∀ t0 t1 t4, Fo (mX8_layNets_40 n (mX8_layNets_7 n x1 k) M x1 x2 t0 t1 t4) (Fm M) := by
      intro t0 t1 t4
      unfold mX8_layNets_40
      exact Fo.bn fun _ => Fo.bn fun _ => Fo.ite ((ih _ _).mono (fun z h => (Fm.s28 M _ _).tr h)) Fo.no
    rw [mX8_layNets_7]
    exact Fo.ite (Fo.ret (Fm.rf M)) (Fo.ite (Fo.ite (h40 _ _ _) (h40 _ _ _)) Fo.no)
theorem fq_nets (n : Nat) (M : MS) (t : Int32) : Fo (mX8_layNets n M t) (Fm M) := by
  unfold mX8_layNets mX8_lay
  exact Fo.bq (fq_lay2 n M _) fun M1 h1 => (fq_nets7 n M1 _).mono (fun z h => h1.tr h)
theorem fq_wrong9 {n : Nat} : ∀ (k : Nat) (M : MS) (x2 x3 : Int32), Fo (mX8_wrong_9 n k M x2 x3) (fun z => z.2 = M) := by
  intro k
  induction k with
  | zero => intro M x2 x3; exact Fo.no
  | succ k ih =>
    intro M x2 x3
    rw [mX8_wrong_9]
    exact Fo.ite (Fo.ret rfl) (Fo.bn fun _ => Fo.ite (ih _ _ _) (ih _ _ _))
theorem fq_wrong (n : Nat) (M : MS) (t : Int32) : Fo (mX8_wrong n M t) (fun z => Fm M z.2) := by
  unfold mX8_wrong
  exact Fo.bq (fq_nets n M t) fun M1 h1 => (fq_wrong9 n M1 _ _).mono (fun z h => by rw [h]; exact h1)
theorem fq_ident12 {n : Nat} : ∀ (k : Nat) (M : MS) (x1 x2 : Int32), Fo (mX8_identified_12 n k M x1 x2) (fun z => z.2 = M) := by
  intro k
  induction k with
  | zero => intro M x1 x2; exact Fo.no
  | succ k ih =>
    intro M x1 x2
    rw [mX8_identified_12]
    exact Fo.ite (Fo.ite (Fo.ret rfl) (Fo.ite (Fo.ret rfl) (Fo.ret rfl))) (Fo.ite (Fo.bn fun _ => Fo.ite (Fo.bn fun _ => Fo.ite (Fo.bn fun _ => Fo.ite (ih _ _ _) (ih _ _ _)) (ih _ _ _)) (ih _ _ _)) (ih _ _ _))
theorem fq_ident (n : Nat) (M : MS) : Fo (mX8_identified n M) (fun z => Fm M z.2) := by
  unfold mX8_identified
  exact Fo.bq (fq_nets n M _) fun M1 h1 => (fq_ident12 n M1 _ _).mono (fun z h => by rw [h]; exact h1)
theorem fq_all23 {n : Nat} {K : MS → Int32 → Int32 → Option (Int32 × MS)} (hK : ∀ M x y, Fo (K M x y) (fun z => z.2 = M)) {x1 x2 : Int32} : ∀ (k : Nat) (M : MS) (x3 x4 : Int32), Fo (mX8_allNets_23 n K x1 x2 k M x3 x4) (fun z => z.2 = M) := by
  intro k
  induction k with
  | zero => intro M x3 x4; exact Fo.no
  | succ k ih =>
    intro M x3 x4
    rw [mX8_allNets_23]
    exact Fo.ite (Fo.ite (hK _ _ _) (hK _ _ _)) (Fo.ite (ih _ _ _) (Fo.ite (Fo.ite (Fo.ite (ih _ _ _) (ih _ _ _)) Fo.no) Fo.no))
theorem fq_all12 {n : Nat} : ∀ (k : Nat) (M : MS) (x1 x2 : Int32), Fo (mX8_allNets_12 n k M x1 x2) (fun z => z.2 = M) := by
  intro k
  induction k with
  | zero => intro M x1 x2; exact Fo.no
  | succ k ih =>
    intro M x1 x2
    rw [mX8_allNets_12]
    exact Fo.ite (Fo.ret rfl) (fq_all23 ih n M _ _)
theorem fq_all (n : Nat) (M : MS) : Fo (mX8_allNets n M) (fun z => Fm M z.2) := by
  unfold mX8_allNets
  exact Fo.bq (fq_nets n M _) fun M1 h1 => (fq_all12 n M1 _ _).mono (fun z h => by rw [h]; exact h1)
/-- searching leaves what was thrown, and the digest -/
def Fb (M M' : MS) : Prop := M'.1 0 = M.1 0 ∧ M'.2.2 = M.2.2
theorem Fb.tr {M M1 M2 : MS} (h : Fb M M1) (h2 : Fb M1 M2) : Fb M M2 := ⟨h2.1.trans h.1, h2.2.trans h.2⟩
theorem Fm.fb {M M' : MS} (h : Fm M M') : Fb M M' := ⟨by rw [h.1], h.2.1⟩
theorem fq_arr51 {n : Nat} : ∀ (k : Nat) (M : MS) (x3 : Int32), Fo (mX8_arrive_51 n k M x3) (Fb M) := by
  intro k
  induction k with
  | zero => intro M x3; exact Fo.no
  | succ k ih =>
    intro M x3
    rw [mX8_arrive_51]
    exact Fo.ite (Fo.ret ⟨rfl, rfl⟩) (Fo.ite (Fo.ite ((ih _ _).mono (fun z h => (show Fb M (sB M 30 _ _) from ⟨rfl, rfl⟩).tr h)) Fo.no) Fo.no)
theorem fq_arr (n : Nat) (M : MS) : Fo (mX8_arrive n M) (Fb M) := by
  have h39 : ∀ x1 x2, Fo (mX8_arrive_39 n M x1 x2) (Fb M) := by
    intro x1 x2
    unfold mX8_arrive_39
    exact (fq_arr51 n _ _).mono (fun z h => (show Fb M (sG (sG M 23 x1) 24 x2) from ⟨rfl, rfl⟩).tr h)
  unfold mX8_arrive
  exact Fo.bn fun _ => Fo.bn fun _ => Fo.ite (h39 _ _) (Fo.ite (Fo.ite (Fo.ret ⟨rfl, rfl⟩) (h39 _ _)) (Fo.ret ⟨rfl, rfl⟩))
theorem fq_fb102 {n : Nat} {K : MS → Int32 → Int32 → Option MS} (hK : ∀ M x y, Fo (K M x y) (Fb M)) (M : MS) (x1 x2 : Int32) : Fo (mX8_findBest_102 n K M x1 x2) (Fb M) := by
  unfold mX8_findBest_102 mX8_findBest_124 mX8_findBest_161
  exact Fo.ite (hK _ _ _) (Fo.ite (hK _ _ _) Fo.no)
theorem fq_fb84 {n : Nat} {K : MS → Int32 → Int32 → Option MS} (hK : ∀ M x y, Fo (K M x y) (Fb M)) (M : MS) (x1 x2 x3 : Int32) : Fo (mX8_findBest_84 n K M x1 x2 x3) (Fb M) := by
  unfold mX8_findBest_84 mX8_findBest_161
  exact Fo.ite (fq_fb102 hK M _ _) (Fo.bn fun _ => Fo.ite (Fo.ite (Fo.ite (Fo.ite ((hK _ _ _).mono (fun z h => (show Fb M (sB (sB (sB M 32 _ _) 31 _ _) 32 _ _) from ⟨rfl, rfl⟩).tr h)) Fo.no) Fo.no) Fo.no) (fq_fb102 hK M _ _))
theorem fq_fb74 {n : Nat} {K : MS → Int32 → Int32 → Option MS} (hK : ∀ M x y, Fo (K M x y) (Fb M)) (M : MS) (x1 x2 x3 : Int32) : Fo (mX8_findBest_74 n K M x1 x2 x3) (Fb M) := by
  unfold mX8_findBest_74
  exact Fo.ite (Fo.bq (fq_arr n M) fun M1 h1 => (fq_fb84 hK M1 _ _ _).mono (fun z h => h1.tr h)) (fq_fb84 hK M _ _ _)
theorem fq_fb53 {n : Nat} {K : MS → Int32 → Int32 → Option MS} (hK : ∀ M x y, Fo (K M x y) (Fb M)) (x1 x2 : Int32) : ∀ (k : Nat) (M : MS) (x3 : Int32), Fo (mX8_findBest_53 n K x1 x2 k M x3) (Fb M) := by
  intro k
  induction k with
  | zero => intro M x3; exact Fo.no
  | succ k ih =>
    intro M x3
    rw [mX8_findBest_53]
    exact Fo.ite (fq_fb74 hK M _ _ _) (Fo.ite (ih _ _) (fq_fb74 hK M _ _ _))
theorem fq_fb31 {n : Nat} : ∀ (k : Nat) (M : MS) (x1 x2 : Int32), Fo (mX8_findBest_31 n k M x1 x2) (Fb M) := by
  intro k
  induction k with
  | zero => intro M x1 x2; exact Fo.no
  | succ k ih =>
    intro M x1 x2
    rw [mX8_findBest_31]
    unfold mX8_findBest_52
    exact Fo.ite (Fo.ret ⟨rfl, rfl⟩) (Fo.ite (fq_fb53 ih _ _ n M _) (Fo.ite (fq_fb53 ih _ _ n M _) Fo.no))
theorem fq_fb (n : Nat) (M : MS) : Fo (mX8_findBest n M) (Fb M) := by
  unfold mX8_findBest
  refine Fo.bq (fq_nets n M _) fun M1 h1 => Fo.ite ?_ Fo.no
  exact (fq_fb31 n _ _ _).mono (fun z h => (h1.fb.tr (show Fb M1 (sB (sG (sG M1 23 9) 24 9) 32 _ _) from ⟨rfl, rfl⟩)).tr h)
/-! the reference's records; pass on both sides -/
theorem q_ly2 {a : AS} {M : MS} (r : RM a M) (v : Va a) {n : Nat} (hn : 88 < n) {t : Nat} (ht : t < 2 ^ 31) : R1 (mX8_layNets n M (nI t)) (fun M' => q_N8 a t M' ∧ Fm M M') := ((q_layNets r v hn ht).fr (fq_nets n M _)).mono (fun z h => ⟨h.1.2, h.2⟩)
theorem q_wr2 {a : AS} {M : MS} (r : RM a M) (v : Va a) {n : Nat} (hn : 88 < n) {t : Nat} (ht : t < 2 ^ 31) : R1 (mX8_wrong n M (nI t)) (fun z => z.1 = nI (q_wm (q_J a t)) ∧ q_N8 a t z.2 ∧ Fm M z.2) := ((q_wrong r v hn ht).fr (fq_wrong n M _)).mono (fun z h => ⟨h.1.1, h.1.2.2, h.2⟩)
theorem q_rcV {a : AS} (v : Va a) {w : Nat} (hw : w < 256) : Va (aRc a w) := by
  obtain ⟨v1, v2, v3, v4, v5, v6, v7, v8, v9, v10, v11, v12, v13, v14, v15⟩ := v
  refine ⟨v1, v2, v3, v4, v5, v6, v7, v8, v9, v10, v11, ?_, ?_, v14, v15⟩
  · show ((aR a).drop ((aR a).length - 63) ++ [w]).length ≤ 64
    rw [List.length_append, List.length_drop]
    show (aR a).length - ((aR a).length - 63) + 1 ≤ 64
    omega
  · intro x hx
    have hx : x ∈ (aR a).drop ((aR a).length - 63) ++ [w] := hx
    rcases List.mem_append.mp hx with hx | hx
    · exact v13 x (List.mem_of_mem_drop hx)
    · rw [List.mem_singleton.mp hx]; exact hw
theorem q_tkV {a : AS} (v : Va a) {t : Nat} (ht : t ≤ 100000) : Va (aTk a t) := by
  obtain ⟨v1, v2, v3, v4, v5, v6, v7, v8, v9, v10, v11, v12, v13, v14, v15⟩ := v
  exact ⟨v1, v2, v3, v4, v5, ht, v7, v8, v9, v10, v11, v12, v13, v14, v15⟩
theorem q_rec47 {a : AS} {M : MS} (r : RM a M) (v : Va a) {n : Nat} (hn : 88 < n) (hl : (aR a).length < 64) : R1 (mX8_record_47 n M) (fun M' => RM (aRc a (q_wm (q_J a (aT a)))) M' ∧ M'.1 0 = M.1 0) := by
  have ht := q_T v
  unfold mX8_record_47
  rw [r.2.2.2.1]
  refine R1.bm (q_wr2 r v hn (by omega)) ?_
  rintro w M4 ⟨hw, _, hF⟩
  have hw : w = nI (q_wm (q_J a (aT a))) := hw
  have hF : Fm M M4 := hF
  have r4 := hF.km.rm r
  rw [r.2.2.2.2.2.2.2.1, if_pos (inb_n (by omega) (by decide)), nI_clamp (by omega), hw]
  have eR : aR (aRc a (q_wm (q_J a (aT a)))) = aR a ++ [q_wm (q_J a (aT a))] := by
    show (aR a).drop ((aR a).length - 63) ++ [_] = _
    rw [show (aR a).length - 63 = 0 by omega]
    rfl
  obtain ⟨r0, r1, r2, r3, r4', r5, r6, r7, r8, r9, r10⟩ := r4
  refine R1.ret ⟨⟨(sG_n _ _ (by decide)).trans r0, (sG_n _ _ (by decide)).trans r1, (sG_n _ _ (by decide)).trans r2, (sG_n _ _ (by decide)).trans r3, ?_, (sG_n _ _ (by decide)).trans r5, ?_, ?_, ?_, (sG_n _ _ (by decide)).trans r9, ?_⟩, ?_⟩
  · show ∀ i, i < 16 → (sB M4 25 _ _).2.1 23 i = _
    rw [sB_o _ _ _ (by decide)]; exact r4'
  · show ∀ k x, (aF a)[k]? = some x → ∀ j, j < 6 → (sB M4 25 _ _).2.1 24 (6 * k + j) = dI6 x j
    rw [sB_o _ _ _ (by decide)]; exact r6
  · rw [sG_s, eR, List.length_append]
    show M4.1 9 + 1 = _
    rw [r7]; exact nI_1 _
  · intro i hi
    show (sB M4 25 _ _).2.1 25 i = _
    rw [eR] at hi ⊢
    rw [List.length_append] at hi
    rw [sB_r, List.getD_eq_getElem?_getD]
    by_cases c : i = (aR a).length
    · rw [c, pk_us, List.getElem?_append_right (Nat.le_refl _), Nat.sub_self]; rfl
    · have hi2 : i < (aR a).length := by simp at hi; omega
      rw [pk_un c, r8 i hi2, List.getElem?_append_left hi2, List.getD_eq_getElem?_getD]
  · show ∀ i, i < (aX a).length → (sB M4 25 _ _).2.1 26 i = _
    rw [sB_o _ _ _ (by decide)]; exact r10
  · exact (sG_n _ _ (by decide)).trans (by show M4.1 0 = _; rw [hF.1])
theorem q_record {a : AS} {M : MS} (r : RM a M) (v : Va a) {n : Nat} (hn : 88 < n) : R1 (mX8_record n M) (fun M' => RM (aRc a (q_wm (q_J a (aT a)))) M' ∧ M'.1 0 = M.1 0) := by
  have h64 := q_R64 v
  unfold mX8_record
  rw [r.2.2.2.2.2.2.2.1]
  by_cases c : (aR a).length = 64
  · rw [if_pos (show nI (aR a).length = (64 : Int32) from congrArg nI c)]
    obtain ⟨r0, r1, r2, r3, r4, r5, r6, r7, r8, r9, r10⟩ := r
    show R1 (mX8_record_11 n n M (nI 1)) _
    refine q_lp (f := fun k s i => mX8_record_11 n k s i) (N := 64) (inv := fun i M' => 1 ≤ i ∧ M'.1 = M.1 ∧ (∀ k, k ≠ 25 → M'.2.1 k = M.2.1 k) ∧ ∀ x, M'.2.1 25 x = if x + 1 < i then M.2.1 25 (x + 1) else M.2.1 25 x) ?_ ?_ 63 1 n M rfl ⟨Nat.le_refl _, rfl, fun _ _ => rfl, fun x => by rw [if_neg (by omega)]⟩ (by omega)
    · intro k s ⟨_, g, o, w⟩
      show R1 (mX8_record_11 n (k + 1) s (nI 64)) _
      rw [mX8_record_11, if_pos (show (64 : Int32) ≤ nI 64 from nI_le (Nat.le_refl _) (by decide)), show s.1 9 = nI 64 by rw [g, r7, c], show nI 64 - (1 : Int32) = nI 63 from nI_pred 63]
      have gg : ∀ k, k ≠ 9 → (sG s 9 (nI 63)).1 k = M.1 k := fun k hk => (sG_n _ _ hk).trans (by rw [g])
      have el : ((aR a).drop 1).length = 63 := by rw [List.length_drop]; omega
      have r' : RM (a.1, aW a, aF a, (aR a).drop 1, aX a) (sG s 9 (nI 63)) := by
        refine ⟨(gg 1 (by decide)).trans r0, (gg 2 (by decide)).trans r1, (gg 3 (by decide)).trans r2, (gg 4 (by decide)).trans r3, ?_, (gg 7 (by decide)).trans r5, ?_, ?_, ?_, (gg 10 (by decide)).trans r9, ?_⟩
        · show ∀ i, i < 16 → s.2.1 23 i = _
          rw [o 23 (by decide)]; exact r4
        · show ∀ k x, (aF a)[k]? = some x → ∀ j, j < 6 → s.2.1 24 (6 * k + j) = dI6 x j
          rw [o 24 (by decide)]; exact r6
        · show (sG s 9 (nI 63)).1 9 = nI ((aR a).drop 1).length
          rw [sG_s, el]
        · intro i hi
          have hi : i < ((aR a).drop 1).length := hi
          show s.2.1 25 i = nI (((aR a).drop 1).getD i 0)
          rw [w, if_pos (by omega), r8 (i + 1) (by omega), List.getD_eq_getElem?_getD, List.getD_eq_getElem?_getD, List.getElem?_drop, Nat.add_comm 1 i]
        · show ∀ i, i < (aX a).length → s.2.1 26 i = _
          rw [o 26 (by decide)]; exact r10
      have v' : Va (a.1, aW a, aF a, (aR a).drop 1, aX a) := by
        obtain ⟨v1, v2, v3, v4, v5, v6, v7, v8, v9, v10, v11, v12, v13, v14, v15⟩ := v
        refine ⟨v1, v2, v3, v4, v5, v6, v7, v8, v9, v10, v11, ?_, fun x hx => v13 x (List.mem_of_mem_drop hx), v14, v15⟩
        show ((aR a).drop 1).length ≤ 64
        omega
      refine (q_rec47 r' v' hn (by show ((aR a).drop 1).length < 64; omega)).mono ?_
      rintro M' ⟨q1, q2⟩
      refine ⟨?_, q2.trans (gg 0 (by decide))⟩
      have ea : aRc (a.1, aW a, aF a, (aR a).drop 1, aX a) (q_wm (q_J a (aT a))) = aRc a (q_wm (q_J a (aT a))) := by
        show (a.1, aW a, aF a, ((aR a).drop 1).drop (((aR a).drop 1).length - 63) ++ [q_wm (q_J a (aT a))], aX a) = (a.1, aW a, aF a, (aR a).drop ((aR a).length - 63) ++ [q_wm (q_J a (aT a))], aX a)
        rw [el, c]
        rfl
      rw [← ea]
      exact q1
    · intro i k s hi ⟨h1, g, o, w⟩
      right
      have em : nI i - (1 : Int32) = nI (i - 1) := by
        have := nI_pred (i - 1)
        rw [Nat.sub_add_cancel h1] at this
        exact this
      refine ⟨sB s 25 (i - 1) (s.2.1 25 i), ⟨by omega, g, fun k hk => (sB_o _ _ _ hk).trans (o k hk), fun x => ?_⟩, ?_⟩
      · rw [sB_r]
        by_cases c2 : x = i - 1
        · rw [c2, pk_us, w, if_neg (by omega), if_pos (by omega), Nat.sub_add_cancel h1]
        · rw [pk_un c2, w]
          by_cases c3 : x + 1 < i
          · rw [if_pos c3, if_pos (by omega)]
          · rw [if_neg c3, if_neg (by omega)]
      · show mX8_record_11 n (k + 1) s (nI i) = _
        rw [mX8_record_11, if_neg (show ¬ (64 : Int32) ≤ nI i from nI_ge hi (by decide)), if_pos (inb_n (by omega) (by decide)), em, if_pos (inb_n (by omega) (by decide)), nI_clamp (by omega), nI_clamp (by omega), q_i1]
  · rw [if_neg (show ¬ nI (aR a).length = (64 : Int32) from tq_z (by omega) (by decide) c)]
    exact q_rec47 r v hn (by omega)
/-- so many ticks later -/
def aPs (a : AS) : Nat → AS
  | 0 => a
  | k + 1 => aRc (aTk (aPs a k) (aT (aPs a k) + 1)) (q_wm (q_J (aTk (aPs a k) (aT (aPs a k) + 1)) (aT (aPs a k) + 1)))
theorem aPs_T (a : AS) : ∀ k, aT (aPs a k) = aT a + k
  | 0 => rfl
  | k + 1 => by
    show aT (aPs a k) + 1 = aT a + (k + 1)
    rw [aPs_T a k]; omega
theorem q_psV {a : AS} (v : Va a) : ∀ k, aT a + k ≤ 100000 → Va (aPs a k)
  | 0, _ => v
  | k + 1, h => by
    have ih := q_psV v k (by omega)
    refine q_rcV (q_tkV ih ?_) (q_wm_lt _)
    rw [aPs_T a k]; omega
theorem q_tkC {a : AS} {S : CS} (r : RC a S) (t : Nat) : RC (aTk a t) (sF S 3 (nI t)) := by
  obtain ⟨r0, r1, r2, r3, r4, r5, r6, r7, r8, r9, r10⟩ := r
  exact ⟨(sF_n _ _ (by decide)).trans r0, (sF_n _ _ (by decide)).trans r1, (sF_n _ _ (by decide)).trans r2, sF_s _ _ _, r4, r5, r6, (sF_n _ _ (by decide)).trans r7, r8, (sF_n _ _ (by decide)).trans r9, r10⟩
theorem q_tkM {a : AS} {M : MS} (r : RM a M) (t : Nat) : RM (aTk a t) (sG M 4 (nI t)) := by
  obtain ⟨r0, r1, r2, r3, r4, r5, r6, r7, r8, r9, r10⟩ := r
  exact ⟨(sG_n _ _ (by decide)).trans r0, (sG_n _ _ (by decide)).trans r1, (sG_n _ _ (by decide)).trans r2, sG_s _ _ _, r4, (sG_n _ _ (by decide)).trans r5, r6, (sG_n _ _ (by decide)).trans r7, r8, (sG_n _ _ (by decide)).trans r9, r10⟩
theorem q_pass37 {a : AS} {S : CS} (r : RC a S) (v : Va a) {n : Nat} (hn : 100 < n) {x : Nat} (hx : x ≤ 100) (hT : aT a + x ≤ 100000) (hM : q_Mz a (aT a) S) : R1 (mX7_pass_37 n (nI x) n S (nI 0)) (fun rs => ∃ S', rs = (.ok (nI (aT a + x)), S') ∧ RC (aPs a x) S') := by
  refine q_lp (f := fun k s i => mX7_pass_37 n (nI x) k s i) (N := x) (inv := fun i S' => RC (aPs a i) S' ∧ q_Mz (aPs a i) (aT a + i) S') ?_ ?_ x 0 n S (by omega) ⟨r, hM⟩ (by omega)
  · intro k s ⟨q1, q2⟩
    show R1 (mX7_pass_37 n (nI x) (k + 1) s (nI x)) _
    rw [mX7_pass_37, if_pos (nI_le (Nat.le_refl _) (by omega)), q1.2.2.2.1, aPs_T]
    exact R1.ret ⟨s, rfl, q1⟩
  · intro i k s hi ⟨q1, q2⟩
    right
    have vi := q_psV v i (by omega)
    have e3 : (sF s 3 (s.1 3 + 1)) = sF s 3 (nI (aT a + i + 1)) := by rw [q1.2.2.2.1, aPs_T, q_i1]
    have rt : RC (aTk (aPs a i) (aT a + i + 1)) (sF s 3 (nI (aT a + i + 1))) := q_tkC q1 _
    have vt : Va (aTk (aPs a i) (aT a + i + 1)) := q_tkV vi (by omega)
    have mt : q_Mz (aTk (aPs a i) (aT a + i + 1)) (aT a + i) (sF s 3 (nI (aT a + i + 1))) := q2
    obtain ⟨S11, e11, k11, m11⟩ := q_onw rt vt (n := n) (by omega) mt (t' := aT a + i + 1) (by omega)
    have r11 := k11.rc rt
    obtain ⟨S14, e14, r14, k14, o14⟩ := q_note r11 vt (n := n) (by omega) (w := q_wm (q_J (aTk (aPs a i) (aT a + i + 1)) (aT a + i + 1))) (q_wm_lt _)
    have eP : aPs a (i + 1) = aRc (aTk (aPs a i) (aT a + i + 1)) (q_wm (q_J (aTk (aPs a i) (aT a + i + 1)) (aT a + i + 1))) := by
      show aRc (aTk (aPs a i) (aT (aPs a i) + 1)) _ = _
      rw [aPs_T]
    refine ⟨S14, ⟨by rw [eP]; exact r14, ?_⟩, ?_⟩
    · rw [eP]
      have m2 : q_Mz (aTk (aPs a i) (aT a + i + 1)) (aT a + (i + 1)) S14 := by
        refine ⟨(k14 5 (by decide)).trans m11.1, ?_, (k14 6 (by decide)).trans m11.2.2⟩
        intro j hj
        rw [o14]
        exact m11.2.1 j hj
      exact m2
    · show mX7_pass_37 n (nI x) (k + 1) s (nI i) = _
      rw [mX7_pass_37, if_neg (nI_ge hi (by omega)), e3, sF_s, bn_eq e11, m11.2.2, bn_eq e14, q_i1]
theorem q_pass45 {a : AS} {M : MS} (r : RM a M) (v : Va a) {n : Nat} (hn : 100 < n) {x : Nat} (hx : x ≤ 100) (hT : aT a + x ≤ 100000) : R1 (mX8_pass_45 n (nI x) n M (nI 0)) (fun z => z.1 = nI (aT a + x) ∧ RM (aPs a x) z.2 ∧ z.2.1 0 = M.1 0) := by
  refine q_lp (f := fun k s i => mX8_pass_45 n (nI x) k s i) (N := x) (inv := fun i M' => RM (aPs a i) M' ∧ M'.1 0 = M.1 0) ?_ ?_ x 0 n M (by omega) ⟨r, rfl⟩ (by omega)
  · intro k s ⟨q1, q2⟩
    show R1 (mX8_pass_45 n (nI x) (k + 1) s (nI x)) _
    rw [mX8_pass_45, if_pos (nI_le (Nat.le_refl _) (by omega)), q1.2.2.2.1, aPs_T]
    exact R1.ret ⟨rfl, q1, q2⟩
  · intro i k s hi ⟨q1, q2⟩
    right
    have vi := q_psV v i (by omega)
    have e3 : (sG s 4 (s.1 4 + 1)) = sG s 4 (nI (aT a + i + 1)) := by rw [q1.2.2.2.1, aPs_T, q_i1]
    have rt : RM (aTk (aPs a i) (aT a + i + 1)) (sG s 4 (nI (aT a + i + 1))) := q_tkM q1 _
    have vt : Va (aTk (aPs a i) (aT a + i + 1)) := q_tkV vi (by omega)
    obtain ⟨M9, e9, r9, k9⟩ := q_record rt vt (n := n) (by omega)
    refine ⟨M9, ⟨?_, k9.trans ((sG_n _ _ (by decide)).trans q2)⟩, ?_⟩
    · show RM (aRc (aTk (aPs a i) (aT (aPs a i) + 1)) (q_wm (q_J (aTk (aPs a i) (aT (aPs a i) + 1)) (aT (aPs a i) + 1)))) M9
      rw [aPs_T]
      exact r9
    · show mX8_pass_45 n (nI x) (k + 1) s (nI i) = _
      rw [mX8_pass_45, if_neg (nI_ge hi (by omega)), e3, bn_eq e9, q_i1]
