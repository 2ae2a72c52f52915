/-! nets, the reference's way: pieces, roots -/
def q_cb (fs : List Ft) (t w p k : Nat) : Bool := decide ((q_at fs k).2.1 = 0) && decide ((q_at fs k).1 = w) && decide ((q_at fs k).2.2.1 < p) && q_pr (q_at fs k) t
def q_pz (fs : List Ft) (t w p : Nat) : Nat := 11 * w + fb_ct (q_cb fs t w p) fs.length
theorem q_F10 {a : AS} (v : Va a) : (aF a).length ≤ 10 := v.2.2.2.2.2.2.2.2.2.1
theorem q_T {a : AS} (v : Va a) : aT a ≤ 100000 := v.2.2.2.2.2.1
theorem q_Wlt {a : AS} (v : Va a) {i : Nat} (h : i < 16) : aW a i < 8 := v.2.2.2.2.2.2.1 i h
theorem q_pz_lt {a : AS} (v : Va a) {w : Nat} (hw : w < 8) (t p : Nat) : q_pz (aF a) t w p < 88 := by
  have h1 := fb_ct_le (q_cb (aF a) t w p) (aF a).length
  have h2 := q_F10 v
  unfold q_pz
  omega
theorem q_piece {a : AS} {M : MS} (r : RM a M) (v : Va a) {n : Nat} (hn : 10 < n) {w p t : Nat} (hw : w < 8) (hp : p ≤ 1000) (ht : t < 2 ^ 31) : mX8_piece n M (nI w) (nI p) (nI t) = some (nI (q_pz (aF a) t w p)) := by
  have h10 := q_F10 v
  obtain ⟨k', e⟩ := q_fun (f := fun k c i => mX8_piece_6 n M (nI w) (nI p) (nI t) k c i) (aF a).length (fun i => nI (fb_ct (q_cb (aF a) t w p) i)) (by
    intro i k hi
    show mX8_piece_6 n M (nI w) (nI p) (nI t) (k + 1) _ (nI i) = mX8_piece_6 n M (nI w) (nI p) (nI t) k _ _
    have hx0 := q_atk hi
    obtain ⟨x, hx⟩ : ∃ x, x = q_at (aF a) i := ⟨_, rfl⟩
    rw [← hx] at hx0
    have hb : q_cb (aF a) t w p i = (decide (x.2.1 = 0) && decide (x.1 = w) && decide (x.2.2.1 < p) && q_pr x t) := by rw [hx]; rfl
    have ok := q_okat v hx0
    have hL : aL a ≤ 999 := v.2.1
    obtain ⟨o1, o2, o3, o4, o5, o6, o7, o8, o9⟩ := ok
    have no : q_cb (aF a) t w p i = false → mX8_piece_63 n (mX8_piece_6 n M (nI w) (nI p) (nI t) k) M (nI w) (nI p) (nI t) (nI i) (nI (fb_ct (q_cb (aF a) t w p) i)) = mX8_piece_6 n M (nI w) (nI p) (nI t) k (nI (fb_ct (q_cb (aF a) t w p) (i + 1))) (nI (i + 1)) := by
      intro h
      rw [fb_ct_succ, h]
      unfold mX8_piece_63 mX8_piece_64
      rw [q_i1, if_neg (by decide)]
      exact congrArg (fun z => mX8_piece_6 n M (nI w) (nI p) (nI t) k z _) (nI_add _ 0)
    rw [mX8_piece_6, r.2.2.2.2.2.1, if_neg (nI_ge hi (by omega)), bn_eq (show mX8_of M (nI i) (0 : Int32) = some (dI6 x 0) from q_of r v hx0 (by decide))]
    by_cases c1 : x.2.1 = 0
    · rw [if_pos (show dI6 x 0 = 0 from if_pos c1), bn_eq (show mX8_of M (nI i) (1 : Int32) = some (nI x.1) from q_of r v hx0 (by decide))]
      by_cases c2 : x.1 = w
      · rw [if_pos (congrArg nI c2), bn_eq (show mX8_of M (nI i) (3 : Int32) = some (nI x.2.2.1) from q_of r v hx0 (by decide))]
        by_cases c3 : x.2.2.1 < p
        · rw [if_neg (nI_ge c3 (by omega)), bn_eq (q_isPresent8 r v hx0 ht)]
          cases c4 : q_pr x t
          · rw [if_pos (bI_0.mpr rfl)]; exact no (by rw [hb, c4]; simp)
          · rw [if_neg (by decide)]
            unfold mX8_piece_64
            rw [fb_ct_succ, hb, c4, decide_eq_true c1, decide_eq_true c2, decide_eq_true c3, q_i1, q_i1]
            rfl
        · rw [if_pos (nI_le (by omega) (by omega))]; exact no (by rw [hb]; simp [c3])
      · rw [if_neg (fun h => c2 ((nI_eq (by omega) (by omega)).mp h))]; exact no (by rw [hb]; simp [c2])
    · rw [if_neg (show ¬ dI6 x 0 = 0 from by show ¬ (if x.2.1 = 0 then (0 : Int32) else 1) = 0; rw [if_neg c1]; decide)]; exact no (by rw [hb]; simp [c1])) (by omega : (aF a).length < n)
  show mX8_piece_6 n M (nI w) (nI p) (nI t) n (nI 0) (nI 0) = _
  refine e.trans ?_
  show mX8_piece_6 n M (nI w) (nI p) (nI t) (k' + 1) _ (nI (aF a).length) = _
  rw [mX8_piece_6, r.2.2.2.2.2.1, if_pos (nI_le (Nat.le_refl _) (by omega)), show (11 : Int32) = nI 11 from rfl, pk_mul, nI_add]
  rfl
def q_it (P : Nat → Nat) : Nat → Nat → Nat
  | 0, z => z
  | d + 1, z => q_it P d (P z)
theorem q_it_fix {P : Nat → Nat} {z : Nat} (h : P z = z) : ∀ d, q_it P d z = z
  | 0 => rfl
  | d + 1 => by show q_it P d (P z) = z; rw [h]; exact q_it_fix h d
theorem q_it_s (P : Nat → Nat) : ∀ d z, q_it P (d + 1) z = P (q_it P d z)
  | 0, _ => rfl
  | d + 1, z => q_it_s P d (P z)
theorem q_root {n : Nat} {M : MS} {P : Nat → Nat} (hP : ∀ z, z < 88 → M.2.1 27 z = nI (P z)) (hb : ∀ z, z < 88 → P z < 88) {r : Nat} (hr : P r = r) : ∀ d z k, z < 88 → q_it P d z = r → d < k → mX8_root_2 n M k (nI z) = some (nI r) := by
  intro d
  induction d with
  | zero =>
    intro z k hz he hk
    obtain ⟨k, rfl⟩ : ∃ k', k = k' + 1 := ⟨k - 1, by omega⟩
    have he : z = r := he
    subst he
    rw [mX8_root_2, if_pos (inb_n hz (by decide)), nI_clamp (by omega), hP z hz, hr, if_pos rfl]
  | succ d ih =>
    intro z k hz he hk
    obtain ⟨k, rfl⟩ : ∃ k', k = k' + 1 := ⟨k - 1, by omega⟩
    rw [mX8_root_2, if_pos (inb_n hz (by decide)), nI_clamp (by omega), hP z hz]
    by_cases hf : P z = z
    · have : r = z := by rw [← he]; exact q_it_fix hf (d + 1)
      rw [hf, if_pos rfl, this]
    · have hbz := hb z hz
      rw [if_neg (fun h => hf ((nI_eq (by omega) (by omega)).mp h)), if_pos (inb_n hz (by decide))]
      exact ih (P z) k hbz he (by omega)
def q_mg (G : Nat → Nat) (x y : Nat) : Nat → Nat := fun z => if G z = G y then G x else G z
def q_G (fs : List Ft) (t : Nat) : Nat → Nat → Nat
  | 0 => fun z => z
  | k + 1 => if (q_at fs k).2.1 ≠ 0 ∧ q_pr (q_at fs k) t = true then q_mg (q_G fs t k) (q_pz fs t (q_at fs k).1 (q_at fs k).2.2.1) (q_pz fs t ((q_at fs k).2.1 - 1) (q_at fs k).2.2.1) else q_G fs t k
def q_UF (M : MS) (G : Nat → Nat) (u : Nat) (P rt : Nat → Nat) : Prop := (∀ z, z < 88 → M.2.1 27 z = nI (P z)) ∧ (∀ z, z < 88 → P z < 88) ∧ (∀ z, z < 88 → rt z < 88 ∧ P (rt z) = rt z ∧ q_it P u z = rt z) ∧ ∀ z z', z < 88 → z' < 88 → (rt z = rt z' ↔ G z = G z')
theorem q_itX {P : Nat → Nat} {X Y : Nat} (hX : P X = X) (hne : X ≠ Y) (hY : P Y = Y) : ∀ u z, (q_it P u z = X → q_it (fun z => if z = X then Y else P z) (u + 1) z = Y) ∧ (∀ r, q_it P u z = r → r ≠ X → q_it (fun z => if z = X then Y else P z) u z = r) := by
  have hfY : (fun z => if z = X then Y else P z) Y = Y := by show (if Y = X then Y else P Y) = Y; rw [if_neg (fun h => hne h.symm)]; exact hY
  intro u
  induction u with
  | zero =>
    intro z
    refine ⟨fun h => ?_, fun r h _ => h⟩
    have h : z = X := h
    show (if z = X then Y else P z) = Y
    rw [if_pos h]
  | succ u ih =>
    intro z
    by_cases hz : z = X
    · refine ⟨fun _ => ?_, fun r h hr => ?_⟩
      · show q_it _ (u + 1) (if z = X then Y else P z) = Y
        rw [if_pos hz]; exact q_it_fix hfY (u + 1)
      · rw [hz, q_it_fix hX (u + 1)] at h; exact absurd h.symm hr
    · refine ⟨fun h => ?_, fun r h hr => ?_⟩
      · show q_it _ (u + 1) (if z = X then Y else P z) = Y
        rw [if_neg hz]; exact (ih (P z)).1 h
      · show q_it _ u (if z = X then Y else P z) = r
        rw [if_neg hz]; exact (ih (P z)).2 r h hr
theorem q_UF_mg {M : MS} {G : Nat → Nat} {u : Nat} {P rt : Nat → Nat} (h : q_UF M G u P rt) {x y : Nat} (hx : x < 88) (hy : y < 88) : ∃ P' rt', q_UF (sB M 27 (rt x) (nI (rt y))) (q_mg G x y) (u + 1) P' rt' := by
  obtain ⟨h1, h2, h3, h4⟩ := h
  refine ⟨fun z => if z = rt x then rt y else P z, fun z => if rt z = rt x then rt y else rt z, ?_, ?_, ?_, ?_⟩
  · intro z hz
    show va_up M.2.1 27 (upd (M.2.1 27) (rt x) (nI (rt y))) 27 z = _
    rw [up_s]
    by_cases e : z = rt x
    · show _ = nI (if z = rt x then rt y else P z)
      rw [if_pos e, e]; exact pk_us
    · show _ = nI (if z = rt x then rt y else P z)
      rw [if_neg e, ← h1 z hz]; exact pk_un e
  · intro z hz
    show (if z = rt x then rt y else P z) < 88
    split
    · exact (h3 y hy).1
    · exact h2 z hz
  · intro z hz
    by_cases e : rt x = rt y
    · have eP : (fun z => if z = rt x then rt y else P z) = P := by
        funext z
        by_cases hz : z = rt x
        · rw [if_pos hz, hz, (h3 x hx).2.1, e]
        · rw [if_neg hz]
      have eR : (if rt z = rt x then rt y else rt z) = rt z := by
        by_cases hz : rt z = rt x
        · rw [if_pos hz, hz, e]
        · rw [if_neg hz]
      rw [eP]
      show (if rt z = rt x then rt y else rt z) < 88 ∧ P (if rt z = rt x then rt y else rt z) = (if rt z = rt x then rt y else rt z) ∧ q_it P (u + 1) z = (if rt z = rt x then rt y else rt z)
      rw [eR]
      exact ⟨(h3 z hz).1, (h3 z hz).2.1, by rw [q_it_s, (h3 z hz).2.2, (h3 z hz).2.1]⟩
    · have hh := q_itX (P := P) (X := rt x) (Y := rt y) (h3 x hx).2.1 e (h3 y hy).2.1 u z
      show (if rt z = rt x then rt y else rt z) < 88 ∧ (if (if rt z = rt x then rt y else rt z) = rt x then rt y else P (if rt z = rt x then rt y else rt z)) = (if rt z = rt x then rt y else rt z) ∧ q_it (fun z => if z = rt x then rt y else P z) (u + 1) z = (if rt z = rt x then rt y else rt z)
      by_cases hz2 : rt z = rt x
      · rw [if_pos hz2, if_neg (fun h => e h.symm)]
        exact ⟨(h3 y hy).1, (h3 y hy).2.1, hh.1 ((h3 z hz).2.2.trans hz2)⟩
      · rw [if_neg hz2, if_neg hz2]
        have h5 := hh.2 (rt z) (h3 z hz).2.2 hz2
        refine ⟨(h3 z hz).1, (h3 z hz).2.1, ?_⟩
        rw [q_it_s, h5]
        show (if rt z = rt x then rt y else P (rt z)) = rt z
        rw [if_neg hz2]; exact (h3 z hz).2.1
  · intro z z' hz hz'
    have a1 := h4 z z' hz hz'
    have a2 := h4 z x hz hx
    have a3 := h4 z y hz hy
    have a4 := h4 z' x hz' hx
    have a5 := h4 z' y hz' hy
    have a6 := h4 x y hx hy
    unfold q_mg
    grind
theorem q_lay {a : AS} {M : MS} (r : RM a M) (v : Va a) {n : Nat} (hn : 88 < n) {t : Nat} (ht : t < 2 ^ 31) : R1 (mX8_lay n M (nI t)) (fun M' => Km M M' ∧ ∃ P rt, q_UF M' (q_G (aF a) t (aF a).length) (aF a).length P rt) := by
  have h10 := q_F10 v
  obtain ⟨M1, k1, ⟨hK, hU⟩, e⟩ := q_run (f := fun k s i => mX8_lay_2 n (nI t) k s i) (N := 88) (inv := fun i M' => Km M M' ∧ ∀ z, z < i → M'.2.1 27 z = nI z) (by
    intro i k s hi ⟨hK, hU⟩
    refine ⟨sB s 27 i (nI i), ⟨hK.tr (Km.sB s 27 i (nI i) (by decide)), ?_⟩, ?_⟩
    · intro z hz
      show va_up s.2.1 27 (upd (s.2.1 27) i (nI i)) 27 z = _
      rw [up_s]
      by_cases ez : z = i
      · rw [ez]; exact pk_us
      · rw [pk_un ez]; exact hU z (by omega)
    · show mX8_lay_2 n (nI t) (k + 1) s (nI i) = _
      rw [mX8_lay_2, if_neg (show ¬ (88 : Int32) ≤ nI i from nI_ge hi (by decide)), if_pos (inb_n hi (by decide)), nI_clamp (by omega), q_i1]) 88 0 n M rfl ⟨Km.rf M, fun z hz => absurd hz (Nat.not_lt_zero z)⟩ hn
  refine R1.eqv e ?_
  show R1 (mX8_lay_2 n (nI t) (k1 + 1) M1 (nI 88)) _
  rw [mX8_lay_2, if_pos (show (88 : Int32) ≤ nI 88 from nI_le (Nat.le_refl _) (by decide))]
  refine q_lp (f := fun k s i => mX8_lay_23 n (nI t) k s i) (N := (aF a).length) (inv := fun i M' => Km M M' ∧ ∃ P rt, q_UF M' (q_G (aF a) t i) i P rt) ?_ ?_ (aF a).length 0 n M1 (by omega) ⟨hK, fun z => z, fun z => z, hU, fun z h => h, fun z h => ⟨h, rfl, rfl⟩, fun z z' _ _ => Iff.rfl⟩ (by omega)
  · intro k s ⟨hK, hU⟩
    show R1 (mX8_lay_23 n (nI t) (k + 1) s (nI (aF a).length)) _
    rw [mX8_lay_23, (hK.rm r).2.2.2.2.2.1, if_pos (nI_le (Nat.le_refl _) (by omega))]
    exact R1.ret ⟨hK, hU⟩
  · intro i k s hi ⟨hK, P, rt, hU⟩
    right
    show ∃ s', (Km M s' ∧ ∃ P rt, q_UF s' (q_G (aF a) t (i + 1)) (i + 1) P rt) ∧ mX8_lay_23 n (nI t) (k + 1) s (nI i) = mX8_lay_23 n (nI t) k s' (nI (i + 1))
    have rs := hK.rm r
    have hx0 := q_atk hi
    have ok := q_okat v hx0
    obtain ⟨x, hx⟩ : ∃ x, x = q_at (aF a) i := ⟨_, rfl⟩
    have hG : q_G (aF a) t (i + 1) = if x.2.1 ≠ 0 ∧ q_pr x t = true then q_mg (q_G (aF a) t i) (q_pz (aF a) t x.1 x.2.2.1) (q_pz (aF a) t (x.2.1 - 1) x.2.2.1) else q_G (aF a) t i := by rw [hx]; rfl
    rw [← hx] at hx0 ok
    obtain ⟨o1, o2, o3, o4, o5, o6, o7, o8, o9⟩ := ok
    have hL : aL a ≤ 999 := v.2.1
    have keep : q_UF s (q_G (aF a) t i) (i + 1) P rt := ⟨hU.1, hU.2.1, fun z hz => ⟨(hU.2.2.1 z hz).1, (hU.2.2.1 z hz).2.1, by rw [q_it_s, (hU.2.2.1 z hz).2.2, (hU.2.2.1 z hz).2.1]⟩, hU.2.2.2⟩
    rw [mX8_lay_23, rs.2.2.2.2.2.1, if_neg (nI_ge hi (by omega)), bn_eq (show mX8_of s (nI i) (0 : Int32) = some (dI6 x 0) from q_of rs v hx0 (by decide)), hG]
    by_cases c1 : x.2.1 = 0
    · rw [if_neg (show ¬ dI6 x 0 = 1 from by show ¬ (if x.2.1 = 0 then (0 : Int32) else 1) = 1; rw [if_pos c1]; decide), if_neg (fun h => h.1 c1)]
      exact ⟨s, ⟨hK, P, rt, keep⟩, by unfold mX8_lay_103; rw [q_i1]⟩
    · rw [if_pos (show dI6 x 0 = 1 from if_neg c1), bn_eq (q_isPresent8 rs v hx0 ht)]
      cases c2 : q_pr x t
      · rw [if_pos (bI_0.mpr rfl), if_neg (fun h => by cases h.2)]
        exact ⟨s, ⟨hK, P, rt, keep⟩, by unfold mX8_lay_103; rw [q_i1]⟩
      · rw [if_pos (⟨c1, rfl⟩ : x.2.1 ≠ 0 ∧ true = true), if_neg (show ¬ bI true = 0 by decide)]
        have hoI : oI x.2.1 = nI (x.2.1 - 1) := by
          obtain ⟨w, hw⟩ : ∃ w, x.2.1 = w + 1 := ⟨x.2.1 - 1, by omega⟩
          rw [hw, oI_s]; rfl
        have hp1 := q_pz_lt v o1 t x.2.2.1
        have hp2 := q_pz_lt v (show x.2.1 - 1 < 8 by omega) t x.2.2.1
        have g1 := (hU.2.2.1 _ hp1)
        have g2 := (hU.2.2.1 _ hp2)
        rw [bn_eq (show mX8_of s (nI i) (1 : Int32) = some (nI x.1) from q_of rs v hx0 (by decide)), bn_eq (show mX8_of s (nI i) (3 : Int32) = some (nI x.2.2.1) from q_of rs v hx0 (by decide)), bn_eq (q_piece rs v (by omega) o1 (by omega) ht), bn_eq (show mX8_root n s (nI (q_pz (aF a) t x.1 x.2.2.1)) = some (nI (rt (q_pz (aF a) t x.1 x.2.2.1))) from q_root hU.1 hU.2.1 g1.2.1 i _ n hp1 g1.2.2 (by omega)), bn_eq (show mX8_of s (nI i) (2 : Int32) = some (nI (x.2.1 - 1)) from (q_of rs v hx0 (by decide)).trans (congrArg some hoI)), bn_eq (show mX8_of s (nI i) (3 : Int32) = some (nI x.2.2.1) from q_of rs v hx0 (by decide)), bn_eq (q_piece rs v (by omega) (show x.2.1 - 1 < 8 by omega) (by omega) ht), bn_eq (show mX8_root n s (nI (q_pz (aF a) t (x.2.1 - 1) x.2.2.1)) = some (nI (rt (q_pz (aF a) t (x.2.1 - 1) x.2.2.1))) from q_root hU.1 hU.2.1 g2.2.1 i _ n hp2 g2.2.2 (by omega)), if_pos (inb_n g1.1 (by decide)), nI_clamp (by omega)]
        obtain ⟨P', rt', hU'⟩ := q_UF_mg hU hp1 hp2
        exact ⟨_, ⟨hK.tr (Km.sB s 27 _ _ (by decide)), P', rt', hU'⟩, by unfold mX8_lay_103; rw [q_i1]⟩
/-- the piece of a contact, and which contacts are joined -/
def q_pi (a : AS) (t i : Nat) : Nat := q_pz (aF a) t (aW a i) (if i < 8 then 0 else aL a)
def q_J (a : AS) (t i j : Nat) : Bool := decide (q_G (aF a) t (aF a).length (q_pi a t i) = q_G (aF a) t (aF a).length (q_pi a t j))
theorem q_J_rf (a : AS) (t i : Nat) : q_J a t i i = true := decide_eq_true rfl
theorem q_J_sy (a : AS) (t i j : Nat) : q_J a t i j = q_J a t j i := decide_eq_decide.mpr eq_comm
/-- the reference's nets are laid for a tick -/
def q_N8 (a : AS) (t : Nat) (M : MS) : Prop := ∀ i j, i < 16 → j < 16 → (M.2.1 28 i = M.2.1 28 j ↔ q_J a t i j = true)
theorem q_layNets {a : AS} {M : MS} (r : RM a M) (v : Va a) {n : Nat} (hn : 88 < n) {t : Nat} (ht : t < 2 ^ 31) : R1 (mX8_layNets n M (nI t)) (fun M' => Km M M' ∧ q_N8 a t M') := by
  have h10 := q_F10 v
  have hL : aL a ≤ 999 := v.2.1
  refine R1.bn (q_lay r v hn ht) ?_
  rintro M1 ⟨hK1, P, rt, hU⟩
  refine q_lp (f := fun k s i => mX8_layNets_7 n (nI t) k s i) (N := 16) (inv := fun i M' => Km M M' ∧ (∀ z, z < 88 → M'.2.1 27 z = nI (P z)) ∧ ∀ j, j < i → M'.2.1 28 j = nI (rt (q_pi a t j))) ?_ ?_ 16 0 n M1 rfl ⟨hK1, hU.1, fun j h => absurd h (Nat.not_lt_zero j)⟩ (by omega)
  · intro k s ⟨hK, hP, hN⟩
    show R1 (mX8_layNets_7 n (nI t) (k + 1) s (nI 16)) _
    rw [mX8_layNets_7, if_pos (show (16 : Int32) ≤ nI 16 from nI_le (Nat.le_refl _) (by decide))]
    refine R1.ret ⟨hK, ?_⟩
    intro i j hi hj
    have b1 : q_pi a t i < 88 := q_pz_lt v (q_Wlt v hi) t _
    have b2 : q_pi a t j < 88 := q_pz_lt v (q_Wlt v hj) t _
    have c1 := (hU.2.2.1 _ b1).1
    have c2 := (hU.2.2.1 _ b2).1
    rw [hN i hi, hN j hj, nI_eq (by omega) (by omega)]
    unfold q_J
    rw [decide_eq_true_iff]
    exact hU.2.2.2 _ _ b1 b2
  · intro i k s hi ⟨hK, hP, hN⟩
    right
    show ∃ s', (Km M s' ∧ (∀ z, z < 88 → s'.2.1 27 z = nI (P z)) ∧ ∀ j, j < i + 1 → s'.2.1 28 j = nI (rt (q_pi a t j))) ∧ mX8_layNets_7 n (nI t) (k + 1) s (nI i) = mX8_layNets_7 n (nI t) k s' (nI (i + 1))
    have rs := hK.rm r
    have b1 : q_pi a t i < 88 := q_pz_lt v (q_Wlt v hi) t _
    have g1 := hU.2.2.1 _ b1
    refine ⟨sB s 28 i (nI (rt (q_pi a t i))), ⟨hK.tr (Km.sB s 28 i _ (by decide)), fun z hz => ?_, fun j hj => ?_⟩, ?_⟩
    · show va_up s.2.1 28 (upd (s.2.1 28) i (nI (rt (q_pi a t i)))) 27 z = _
      rw [up_n _ _ (by decide)]; exact hP z hz
    · show va_up s.2.1 28 (upd (s.2.1 28) i (nI (rt (q_pi a t i)))) 28 j = _
      rw [up_s]
      by_cases ej : j = i
      · rw [ej]; exact pk_us
      · rw [pk_un ej]; exact hN j (by omega)
    · have fin : ∀ p, p = (if i < 8 then 0 else aL a) → mX8_layNets_40 n (mX8_layNets_7 n (nI t) k) s (nI t) (nI i) (nI p) (nI (aW a i)) (nI i) = mX8_layNets_7 n (nI t) k (sB s 28 i (nI (rt (q_pi a t i)))) (nI (i + 1)) := by
        intro p hp
        have hp2 : p ≤ 999 := by rw [hp]; split <;> omega
        unfold mX8_layNets_40
        rw [bn_eq (q_piece rs v (by omega) (q_Wlt v hi) (by omega) ht), hp]
        rw [bn_eq (show mX8_root n s (nI (q_pz (aF a) t (aW a i) (if i < 8 then 0 else aL a))) = some (nI (rt (q_pi a t i))) from q_root hP hU.2.1 g1.2.1 _ _ n b1 g1.2.2 (by omega)), if_pos (inb_n hi (by decide)), nI_clamp (by omega), q_i1]
      rw [mX8_layNets_7, if_neg (show ¬ (16 : Int32) ≤ nI i from nI_ge hi (by decide)), if_pos (inb_n hi (by decide)), nI_clamp (by omega), rs.2.2.2.2.1 i hi, rs.1]
      by_cases h8 : i < 8
      · rw [if_neg (show ¬ (8 : Int32) ≤ nI i from nI_ge h8 (by decide))]
        exact fin 0 (by rw [if_pos h8])
      · rw [if_pos (show (8 : Int32) ≤ nI i from nI_le (a := 8) (by omega) (by omega))]
        exact fin (aL a) (by rw [if_neg h8])
