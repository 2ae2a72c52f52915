/-! how many bits a long has, as the JDK counts them -/
def q_rp (c : Nat) : Nat → Nat
  | 0 => 0
  | k + 1 => 2 ^ 8 * q_rp c k + c
def q_Ak (k m : Nat) : Nat := m - ((m / 2) &&& q_rp 85 k)
def q_Bk (k m : Nat) : Nat := (m &&& q_rp 51 k) + ((m / 4) &&& q_rp 51 k)
def q_Ck (k m : Nat) : Nat := (m + m / 16) &&& q_rp 15 k
theorem q_and8 (z M : Nat) {y c : Nat} (hy : y < 2 ^ 8) (hc : c < 2 ^ 8) : (2 ^ 8 * z + y) &&& (2 ^ 8 * M + c) = 2 ^ 8 * (z &&& M) + (y &&& c) := by
  apply Nat.eq_of_testBit_eq
  intro i
  rw [Nat.testBit_and, Nat.testBit_two_pow_mul_add _ hy, Nat.testBit_two_pow_mul_add _ hc, Nat.testBit_two_pow_mul_add _ (Nat.lt_of_le_of_lt Nat.and_le_left hy)]
  by_cases h : i < 8
  · rw [if_pos h, if_pos h, if_pos h, Nat.testBit_and]
  · rw [if_neg h, if_neg h, if_neg h, Nat.testBit_and]
theorem q_a1 : ∀ y, y < 256 → ∀ z, z < 2 → (128 * z + y / 2) &&& 85 = (y / 2) &&& 85 := by decide +kernel
theorem q_b1 : ∀ y, y < 256 → ∀ z, z < 4 → (64 * z + y / 4) &&& 51 = (y / 4) &&& 51 := by decide +kernel
theorem q_A_s (k z : Nat) {y : Nat} (hy : y < 256) : q_Ak (k + 1) (2 ^ 8 * z + y) = 2 ^ 8 * q_Ak k z + (y - ((y / 2) &&& 85)) := by
  unfold q_Ak
  have e : (2 ^ 8 * z + y) / 2 = 2 ^ 8 * (z / 2) + (128 * (z % 2) + y / 2) := by omega
  show 2 ^ 8 * z + y - ((2 ^ 8 * z + y) / 2 &&& (2 ^ 8 * q_rp 85 k + 85)) = _
  rw [e, q_and8 _ _ (show 128 * (z % 2) + y / 2 < 2 ^ 8 by omega) (by decide), q_a1 y hy (z % 2) (Nat.mod_lt _ (by decide))]
  have h1 : (z / 2) &&& q_rp 85 k ≤ z / 2 := Nat.and_le_left
  have h2 : (y / 2) &&& 85 ≤ y / 2 := Nat.and_le_left
  omega
theorem q_B_s (k z : Nat) {y : Nat} (hy : y < 256) : q_Bk (k + 1) (2 ^ 8 * z + y) = 2 ^ 8 * q_Bk k z + ((y &&& 51) + ((y / 4) &&& 51)) := by
  unfold q_Bk
  have e : (2 ^ 8 * z + y) / 4 = 2 ^ 8 * (z / 4) + (64 * (z % 4) + y / 4) := by omega
  show ((2 ^ 8 * z + y) &&& (2 ^ 8 * q_rp 51 k + 51)) + ((2 ^ 8 * z + y) / 4 &&& (2 ^ 8 * q_rp 51 k + 51)) = _
  rw [e, q_and8 _ _ hy (by decide), q_and8 _ _ (show 64 * (z % 4) + y / 4 < 2 ^ 8 by omega) (by decide), q_b1 y hy (z % 4) (Nat.mod_lt _ (by decide))]
  omega
theorem q_c1 : ∀ x, x < 256 → ∀ z, z < 16 → (16 * z + x) % 256 &&& 15 = x &&& 15 := by decide +kernel
theorem q_C_s (k z : Nat) {y : Nat} (hy : y / 16 ≤ 4) (hy2 : y % 16 ≤ 4) (hz : z % 16 ≤ 4) : q_Ck (k + 1) (2 ^ 8 * z + y) = 2 ^ 8 * q_Ck k z + ((y + y / 16) &&& 15) := by
  unfold q_Ck
  have e : (2 ^ 8 * z + y) + (2 ^ 8 * z + y) / 16 = 2 ^ 8 * (z + z / 16) + (16 * (z % 16) + (y + y / 16)) := by omega
  show ((2 ^ 8 * z + y) + (2 ^ 8 * z + y) / 16 &&& (2 ^ 8 * q_rp 15 k + 15)) = _
  rw [e, q_and8 _ _ (show 16 * (z % 16) + (y + y / 16) < 2 ^ 8 by omega) (by decide)]
  have h := q_c1 (y + y / 16) (by omega) (z % 16) (Nat.mod_lt _ (by decide))
  rw [Nat.mod_eq_of_lt (by omega)] at h
  rw [h]
def q_ab (y : Nat) : Nat := ((y - ((y / 2) &&& 85)) &&& 51) + (((y - ((y / 2) &&& 85)) / 4) &&& 51)
theorem q_byte : ∀ y, y < 256 → y - ((y / 2) &&& 85) < 256 ∧ q_ab y / 16 ≤ 4 ∧ q_ab y % 16 ≤ 4 ∧ ((q_ab y + q_ab y / 16) &&& 15) = fb_ct (fun k => y.testBit k) 8 := by decide +kernel
def q_Sk (k m : Nat) : Nat := q_Ck k (q_Bk k (q_Ak k m))
theorem q_AB0 : q_Bk 0 (q_Ak 0 0) = 0 := by decide
theorem q_AB_s (k z : Nat) {y : Nat} (hy : y < 256) : q_Bk (k + 1) (q_Ak (k + 1) (2 ^ 8 * z + y)) = 2 ^ 8 * q_Bk k (q_Ak k z) + q_ab y := by
  rw [q_A_s k z hy, q_B_s k _ (q_byte y hy).1]; rfl
theorem q_AB_16 : ∀ k m, m < 256 ^ k → q_Bk k (q_Ak k m) % 16 ≤ 4
  | 0, m, h => by
    have : m = 0 := by rw [Nat.pow_zero] at h; omega
    subst this
    rw [q_AB0]; decide
  | k + 1, m, h => by
    have hb := (q_byte (m % 256) (Nat.mod_lt _ (by decide)))
    have e : m = 2 ^ 8 * (m / 256) + m % 256 := by omega
    rw [e, q_AB_s k _ (Nat.mod_lt _ (by decide))]
    omega
theorem q_S_s (k z : Nat) {y : Nat} (hz : z < 256 ^ k) (hy : y < 256) : q_Sk (k + 1) (2 ^ 8 * z + y) = 2 ^ 8 * q_Sk k z + fb_ct (fun k => y.testBit k) 8 := by
  have hb := q_byte y hy
  unfold q_Sk
  rw [q_AB_s k z hy, q_C_s k _ hb.2.1 hb.2.2.1 (q_AB_16 k z hz), hb.2.2.2]
def q_p8 (y : Nat) : Nat := fb_ct (fun k => y.testBit k) 8
theorem q_p8_le (y : Nat) : q_p8 y ≤ 8 := fb_ct_le _ _
theorem q_pc_s (z n : Nat) {y : Nat} (hy : y < 2 ^ 8) : fb_ct (fun k => (2 ^ 8 * z + y).testBit k) (8 + n) = q_p8 y + fb_ct (fun k => z.testBit k) n := by
  rw [fb_ct_split]
  have h1 : fb_ct (fun k => (2 ^ 8 * z + y).testBit k) 8 = q_p8 y := fb_ct_cong (fun k hk => by rw [Nat.testBit_two_pow_mul_add _ hy, if_pos hk])
  have h2 : fb_ct (fun k => (2 ^ 8 * z + y).testBit (8 + k)) n = fb_ct (fun k => z.testBit k) n := fb_ct_cong (fun k _ => by rw [Nat.testBit_two_pow_mul_add _ hy, if_neg (by omega), Nat.add_sub_cancel_left])
  rw [h1, h2]
def q_Fm (C : Nat) : Nat := (C + C / 256 + (C + C / 256) / 65536) + (C + C / 256 + (C + C / 256) / 65536) / 4294967296
theorem q_d1 {X c : Nat} (h : c < 256) : (256 * X + c) / 256 = X := by omega
theorem q_d2 {X c : Nat} (h : c < 65536) : (65536 * X + c) / 65536 = X := by omega
theorem q_d3 {X c : Nat} (h : c < 4294967296) : (4294967296 * X + c) / 4294967296 = X := by omega
theorem q_d4 {W Q e0 e4 : Nat} (h0 : e0 ≤ 32) (h4 : e4 ≤ 32) : (4294967296 * (256 * W + e4) + (256 * Q + e0) + (256 * W + e4)) % 128 = e0 + e4 := by omega
theorem q_l2 (c0 c1 c2 c3 c4 c5 c6 c7 : Nat) : 256 * (256 * (256 * (256 * (256 * (256 * (256 * c7 + c6) + c5) + c4) + c3) + c2) + c1) + c0 + (256 * (256 * (256 * (256 * (256 * (256 * c7 + c6) + c5) + c4) + c3) + c2) + c1) = 65536 * (256 * (256 * (256 * (256 * (256 * c7 + (c6 + c7)) + (c5 + c6)) + (c4 + c5)) + (c3 + c4)) + (c2 + c3)) + (256 * (c1 + c2) + (c0 + c1)) := by omega
theorem q_l4 (c0 c1 c2 c3 c4 c5 c6 c7 : Nat) : 65536 * (256 * (256 * (256 * (256 * (256 * c7 + (c6 + c7)) + (c5 + c6)) + (c4 + c5)) + (c3 + c4)) + (c2 + c3)) + (256 * (c1 + c2) + (c0 + c1)) + (256 * (256 * (256 * (256 * (256 * c7 + (c6 + c7)) + (c5 + c6)) + (c4 + c5)) + (c3 + c4)) + (c2 + c3)) = 4294967296 * (256 * (256 * (256 * c7 + (c6 + c7)) + (c5 + c6 + c7)) + (c4 + c5 + (c6 + c7))) + (256 * (256 * (256 * (c3 + c4 + (c5 + c6)) + (c2 + c3 + (c4 + c5))) + (c1 + c2 + (c3 + c4))) + (c0 + c1 + (c2 + c3))) := by omega
theorem q_sum8 {c0 c1 c2 c3 c4 c5 c6 c7 : Nat} (h0 : c0 ≤ 8) (h1 : c1 ≤ 8) (h2 : c2 ≤ 8) (h3 : c3 ≤ 8) (h4 : c4 ≤ 8) (h5 : c5 ≤ 8) (h6 : c6 ≤ 8) (h7 : c7 ≤ 8) : q_Fm (256 * (256 * (256 * (256 * (256 * (256 * (256 * c7 + c6) + c5) + c4) + c3) + c2) + c1) + c0) % 128 = c0 + c1 + c2 + c3 + c4 + c5 + c6 + c7 := by
  have b0 : c0 < 256 := by omega
  have b1 : 256 * (c1 + c2) + (c0 + c1) < 65536 := by omega
  have b2 : 256 * (256 * (256 * (c3 + c4 + (c5 + c6)) + (c2 + c3 + (c4 + c5))) + (c1 + c2 + (c3 + c4))) + (c0 + c1 + (c2 + c3)) < 4294967296 := by omega
  have b3 : c0 + c1 + (c2 + c3) ≤ 32 := by omega
  have b4 : c4 + c5 + (c6 + c7) ≤ 32 := by omega
  unfold q_Fm
  rw [q_d1 b0, q_l2, q_d2 b1, q_l4, q_d3 b2, q_d4 b3 b4]
  clear b0 b1 b2 b3 b4 h0 h1 h2 h3 h4 h5 h6 h7
  omega
theorem q_pop (m : Nat) (hm : m < 2 ^ 64) : q_Fm (q_Sk 8 m) % 128 = fb_ct (fun k => m.testBit k) 64 := by
  have st : ∀ (k x : Nat), x < 256 ^ (k + 1) → q_Sk (k + 1) x = 256 * q_Sk k (x / 256) + q_p8 (x % 256) ∧ x / 256 < 256 ^ k := by
    intro k x hx
    have h2 : x / 256 < 256 ^ k := by
      rw [Nat.div_lt_iff_lt_mul (by decide)]
      rw [Nat.pow_succ] at hx
      exact hx
    have e : x = 2 ^ 8 * (x / 256) + x % 256 := by omega
    refine ⟨?_, h2⟩
    have := q_S_s k (x / 256) (y := x % 256) h2 (Nat.mod_lt _ (by decide))
    rw [← e] at this
    exact this
  have pc : ∀ (n x : Nat), fb_ct (fun k => x.testBit k) (8 + n) = q_p8 (x % 256) + fb_ct (fun k => (x / 256).testBit k) n := by
    intro n x
    have e : x = 2 ^ 8 * (x / 256) + x % 256 := by omega
    have := q_pc_s (x / 256) n (y := x % 256) (Nat.mod_lt _ (by decide))
    rw [← e] at this
    exact this
  obtain ⟨s7, b7⟩ := st 7 m (by rw [show (256 : Nat) ^ (7 + 1) = 2 ^ 64 by decide]; exact hm)
  obtain ⟨s6, b6⟩ := st 6 _ b7
  obtain ⟨s5, b5⟩ := st 5 _ b6
  obtain ⟨s4, b4⟩ := st 4 _ b5
  obtain ⟨s3, b3⟩ := st 3 _ b4
  obtain ⟨s2, b2⟩ := st 2 _ b3
  obtain ⟨s1, b1⟩ := st 1 _ b2
  obtain ⟨s0, b0⟩ := st 0 _ b1
  have z0 : q_Sk 0 (m / 256 / 256 / 256 / 256 / 256 / 256 / 256 / 256) = 0 := by
    rw [Nat.pow_zero] at b0
    rw [show m / 256 / 256 / 256 / 256 / 256 / 256 / 256 / 256 = 0 by omega]; decide
  rw [s7, s6, s5, s4, s3, s2, s1, s0, z0, Nat.mul_zero, Nat.zero_add, q_sum8 (q_p8_le _) (q_p8_le _) (q_p8_le _) (q_p8_le _) (q_p8_le _) (q_p8_le _) (q_p8_le _) (q_p8_le _)]
  rw [show (64 : Nat) = 8 + 56 by decide, pc, show (56 : Nat) = 8 + 48 by decide, pc, show (48 : Nat) = 8 + 40 by decide, pc, show (40 : Nat) = 8 + 32 by decide, pc, show (32 : Nat) = 8 + 24 by decide, pc, show (24 : Nat) = 8 + 16 by decide, pc, show (16 : Nat) = 8 + 8 by decide, pc, show (8 : Nat) = 8 + 0 by decide, pc]
  show _ = _ + (_ + (_ + (_ + (_ + (_ + (_ + (_ + 0)))))))
  omega
theorem q_bitCountL (m : Nat) (hm : m < 2 ^ 64) : mJ13_bitCount_95d88 (lN m) = some (nI (fb_ct (fun k => m.testBit k) 64)) := by
  have h1 : ((lN m).toUInt64 >>> ((1 : Int32).toInt64.toUInt64 &&& Int64.toUInt64 63)).toInt64 = lN (m / 2) := wb_shr hm (k := 1) (by decide)
  have h2 : lN (m / 2) &&& (6148914691236517205 : Int64) = lN ((m / 2) &&& q_rp 85 8) := wb_and (b := q_rp 85 8) (by omega) (by decide)
  have hA0 : (m / 2) &&& q_rp 85 8 ≤ m / 2 := Nat.and_le_left
  have h3 : lN m - lN ((m / 2) &&& q_rp 85 8) = lN (q_Ak 8 m) := lN_sub (by omega)
  have hA : q_Ak 8 m < 2 ^ 64 := by unfold q_Ak; omega
  have h4 : lN (q_Ak 8 m) &&& (3689348814741910323 : Int64) = lN (q_Ak 8 m &&& q_rp 51 8) := wb_and (b := q_rp 51 8) hA (by decide)
  have h5 : ((lN (q_Ak 8 m)).toUInt64 >>> ((2 : Int32).toInt64.toUInt64 &&& Int64.toUInt64 63)).toInt64 = lN (q_Ak 8 m / 4) := wb_shr hA (k := 2) (by decide)
  have h6 : lN (q_Ak 8 m / 4) &&& (3689348814741910323 : Int64) = lN (q_Ak 8 m / 4 &&& q_rp 51 8) := wb_and (b := q_rp 51 8) (by omega) (by decide)
  have h7 : lN (q_Ak 8 m &&& q_rp 51 8) + lN (q_Ak 8 m / 4 &&& q_rp 51 8) = lN (q_Bk 8 (q_Ak 8 m)) := lN_add _ _
  have hB : q_Bk 8 (q_Ak 8 m) < 2 ^ 63 := by
    have b1 : q_Ak 8 m &&& q_rp 51 8 ≤ q_rp 51 8 := Nat.and_le_right
    have b2 : q_Ak 8 m / 4 &&& q_rp 51 8 ≤ q_rp 51 8 := Nat.and_le_right
    have b3 : q_rp 51 8 = 3689348814741910323 := by decide
    unfold q_Bk
    omega
  have h8 : ((lN (q_Bk 8 (q_Ak 8 m))).toUInt64 >>> ((4 : Int32).toInt64.toUInt64 &&& Int64.toUInt64 63)).toInt64 = lN (q_Bk 8 (q_Ak 8 m) / 16) := wb_shr (by omega) (k := 4) (by decide)
  have h9 : lN (q_Bk 8 (q_Ak 8 m)) + lN (q_Bk 8 (q_Ak 8 m) / 16) = lN (q_Bk 8 (q_Ak 8 m) + q_Bk 8 (q_Ak 8 m) / 16) := lN_add _ _
  have h10 : lN (q_Bk 8 (q_Ak 8 m) + q_Bk 8 (q_Ak 8 m) / 16) &&& (1085102592571150095 : Int64) = lN (q_Sk 8 m) := wb_and (b := q_rp 15 8) (by omega) (by decide)
  have hC : q_Sk 8 m ≤ 1085102592571150095 := by
    have b1 : q_Sk 8 m ≤ q_rp 15 8 := Nat.and_le_right
    have b3 : q_rp 15 8 = 1085102592571150095 := by decide
    omega
  obtain ⟨C, hCe⟩ : ∃ C, C = q_Sk 8 m := ⟨_, rfl⟩
  have hpop := q_pop m hm
  rw [← hCe] at h10 hC hpop
  have g1 : ((lN C).toUInt64 >>> ((8 : Int32).toInt64.toUInt64 &&& Int64.toUInt64 63)).toInt64 = lN (C / 256) := wb_shr (by omega) (k := 8) (by decide)
  have g2 : lN C + lN (C / 256) = lN (C + C / 256) := lN_add _ _
  have g3 : ((lN (C + C / 256)).toUInt64 >>> ((16 : Int32).toInt64.toUInt64 &&& Int64.toUInt64 63)).toInt64 = lN ((C + C / 256) / 65536) := wb_shr (by omega) (k := 16) (by decide)
  have g4 : lN (C + C / 256) + lN ((C + C / 256) / 65536) = lN (C + C / 256 + (C + C / 256) / 65536) := lN_add _ _
  have g5 : ((lN (C + C / 256 + (C + C / 256) / 65536)).toUInt64 >>> ((32 : Int32).toInt64.toUInt64 &&& Int64.toUInt64 63)).toInt64 = lN ((C + C / 256 + (C + C / 256) / 65536) / 4294967296) := wb_shr (by omega) (k := 32) (by decide)
  have g6 : lN (C + C / 256 + (C + C / 256) / 65536) + lN ((C + C / 256 + (C + C / 256) / 65536) / 4294967296) = lN (q_Fm C) := lN_add _ _
  unfold mJ13_bitCount_95d88
  rw [h1, h2, h3, h4, h5, h6, h7, h8, h9, h10, g1, g2, g3, g4, g5, g6, lN_i, ← hpop]
  exact congrArg some (fa_mask (q_Fm C) 7)
