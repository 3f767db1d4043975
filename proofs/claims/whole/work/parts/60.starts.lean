/-! the first and the last bit of a long; starts, in both -/
theorem tz_y {u t m : Nat} (ht : t < 32) (hu : u = 2 ^ t * (2 * m + 1)) : (nI u ^^^ -1) &&& (nI u - 1) = nI (2 ^ t - 1) := by
  have hp := Nat.two_pow_pos t
  have h1 : 1 ≤ u := by rw [hu]; exact Nat.mul_pos hp (by omega)
  have e1 : nI u - 1 = nI (u - 1) := by
    have := nI_pred (u - 1)
    rw [show u - 1 + 1 = u by omega] at this
    exact this
  have e2 : u - 1 = 2 ^ t * (2 * m) + (2 ^ t - 1) := by rw [hu, Nat.mul_add, Nat.mul_one]; omega
  rw [e1]
  apply Int32.toBitVec_inj.mp
  rw [Int32.toBitVec_and, Int32.toBitVec_xor]
  show (BitVec.ofNat 32 u ^^^ BitVec.ofInt 32 (-1)) &&& BitVec.ofNat 32 (u - 1) = BitVec.ofNat 32 (2 ^ t - 1)
  have e3 : BitVec.ofInt 32 (-1) = BitVec.allOnes 32 := by decide
  rw [e3]
  apply BitVec.eq_of_getLsbD_eq
  intro i hi
  rw [BitVec.getLsbD_and, BitVec.getLsbD_xor, BitVec.getLsbD_ofNat, BitVec.getLsbD_ofNat, BitVec.getLsbD_ofNat, BitVec.getLsbD_allOnes, Nat.testBit_two_pow_sub_one, e2, Nat.testBit_two_pow_mul_add _ (show 2 ^ t - 1 < 2 ^ t by omega), hu, Nat.testBit_two_pow_mul, Nat.testBit_two_pow_sub_one]
  by_cases c : i < t
  · have c2 : ¬ i ≥ t := by omega
    simp [hi, c, c2]
  · by_cases c3 : i = t
    · subst c3
      simp [hi]
    · have c2 : i ≥ t := by omega
      obtain ⟨j, hj⟩ : ∃ j, i - t = j + 1 := ⟨i - t - 1, by omega⟩
      rw [hj, Nat.testBit_succ, Nat.testBit_succ, show (2 * m + 1) / 2 = m by omega, show 2 * m / 2 = m by omega]
      simp [hi, c, c2]
theorem lz_neg {u : Nat} (h : 2147483648 ≤ u) (h2 : u < 4294967296) : (nI u).toInt = (u : Int) - 4294967296 := by
  show (BitVec.ofNat 32 u).toInt = _
  rw [BitVec.toInt_eq_toNat_cond, BitVec.toNat_ofNat, Nat.mod_eq_of_lt (by omega)]
  rw [if_neg (by omega)]
  rfl
theorem lz_n1 {u : Nat} (h : 2147483648 ≤ u) (h2 : u < 4294967296) : ¬ 0 < nI u := fun c => by
  have z := (fa_lt 0 (nI u)).mp c
  have z0 : (0 : Int32).toInt = 0 := by decide
  rw [lz_neg h h2, z0] at z
  omega
theorem lz_n2 {u : Nat} (h : 2147483648 ≤ u) (h2 : u < 4294967296) : ¬ nI u = 0 := fun c => by
  have z := (fa_eq (nI u) 0).mp c
  have z0 : (0 : Int32).toInt = 0 := by decide
  rw [lz_neg h h2, z0] at z
  omega
set_option maxRecDepth 10000 in
set_option maxHeartbeats 4000000 in
theorem cJ_ntz (x : Int32) (t : Nat) (ht : t < 32) (hy : (x ^^^ -1) &&& (x - 1) = nI (2 ^ t - 1)) (L : zL) (M : zM) (hL : 2 ≤ L.length) : zMet zi_J6_numberOfTrailingZeros_0f7a4 [.int x] L M L (zx (some (.int (nI t))) M) := by
  refine z_me (zk_J6_numberOfTrailingZeros_0f7a4 _ _) rfl hL rfl (fun ret hret => ?_)
  rcases (show t = 0 ∨ t = 1 ∨ t = 2 ∨ t = 3 ∨ t = 4 ∨ t = 5 ∨ t = 6 ∨ t = 7 ∨ t = 8 ∨ t = 9 ∨ t = 10 ∨ t = 11 ∨ t = 12 ∨ t = 13 ∨ t = 14 ∨ t = 15 ∨ t = 16 ∨ t = 17 ∨ t = 18 ∨ t = 19 ∨ t = 20 ∨ t = 21 ∨ t = 22 ∨ t = 23 ∨ t = 24 ∨ t = 25 ∨ t = 26 ∨ t = 27 ∨ t = 28 ∨ t = 29 ∨ t = 30 ∨ t = 31 by omega) with e | e | e | e | e | e | e | e | e | e | e | e | e | e | e | e | e | e | e | e | e | e | e | e | e | e | e | e | e | e | e | e
  · subst e
    refine z_bf (by show ¬ 0 < (x ^^^ -1) &&& (x - 1); rw [hy]; decide) ?_
    exact z_re hret (z_vi (by show ((x ^^^ -1) &&& (x - 1)) &&& 32 = _; rw [hy]; decide)) rfl
  · subst e
    refine z_bt (by show 0 < (x ^^^ -1) &&& (x - 1); rw [hy]; decide) ?_
    refine z_go ?_
    refine z_bt (by show (x ^^^ -1) &&& (x - 1) ≤ 65536; rw [hy]; decide) ?_
    refine z_go ?_
    refine z_bt (by show (x ^^^ -1) &&& (x - 1) ≤ 256; rw [hy]; decide) ?_
    refine z_go ?_
    refine z_bt (by show (x ^^^ -1) &&& (x - 1) ≤ 16; rw [hy]; decide) ?_
    refine z_go ?_
    refine z_bt (by show (x ^^^ -1) &&& (x - 1) ≤ 4; rw [hy]; decide) ?_
    refine z_go ?_
    exact z_re hret (z_vi (by show 1 + (Int32.toUInt32 ((x ^^^ -1) &&& (x - 1)) >>> (Int32.toUInt32 1 &&& Int32.toUInt32 31)).toInt32 = _; rw [hy]; decide)) rfl
  · subst e
    refine z_bt (by show 0 < (x ^^^ -1) &&& (x - 1); rw [hy]; decide) ?_
    refine z_go ?_
    refine z_bt (by show (x ^^^ -1) &&& (x - 1) ≤ 65536; rw [hy]; decide) ?_
    refine z_go ?_
    refine z_bt (by show (x ^^^ -1) &&& (x - 1) ≤ 256; rw [hy]; decide) ?_
    refine z_go ?_
    refine z_bt (by show (x ^^^ -1) &&& (x - 1) ≤ 16; rw [hy]; decide) ?_
    refine z_go ?_
    refine z_bt (by show (x ^^^ -1) &&& (x - 1) ≤ 4; rw [hy]; decide) ?_
    refine z_go ?_
    exact z_re hret (z_vi (by show 1 + (Int32.toUInt32 ((x ^^^ -1) &&& (x - 1)) >>> (Int32.toUInt32 1 &&& Int32.toUInt32 31)).toInt32 = _; rw [hy]; decide)) rfl
  · subst e
    refine z_bt (by show 0 < (x ^^^ -1) &&& (x - 1); rw [hy]; decide) ?_
    refine z_go ?_
    refine z_bt (by show (x ^^^ -1) &&& (x - 1) ≤ 65536; rw [hy]; decide) ?_
    refine z_go ?_
    refine z_bt (by show (x ^^^ -1) &&& (x - 1) ≤ 256; rw [hy]; decide) ?_
    refine z_go ?_
    refine z_bt (by show (x ^^^ -1) &&& (x - 1) ≤ 16; rw [hy]; decide) ?_
    refine z_go ?_
    refine z_bf (by show ¬ (x ^^^ -1) &&& (x - 1) ≤ 4; rw [hy]; decide) ?_
    exact z_re hret (z_vi (by show (1 + 2) + (Int32.toUInt32 ((Int32.toUInt32 ((x ^^^ -1) &&& (x - 1)) >>> (Int32.toUInt32 2 &&& Int32.toUInt32 31)).toInt32) >>> (Int32.toUInt32 1 &&& Int32.toUInt32 31)).toInt32 = _; rw [hy]; decide)) rfl
  · subst e
    refine z_bt (by show 0 < (x ^^^ -1) &&& (x - 1); rw [hy]; decide) ?_
    refine z_go ?_
    refine z_bt (by show (x ^^^ -1) &&& (x - 1) ≤ 65536; rw [hy]; decide) ?_
    refine z_go ?_
    refine z_bt (by show (x ^^^ -1) &&& (x - 1) ≤ 256; rw [hy]; decide) ?_
    refine z_go ?_
    refine z_bt (by show (x ^^^ -1) &&& (x - 1) ≤ 16; rw [hy]; decide) ?_
    refine z_go ?_
    refine z_bf (by show ¬ (x ^^^ -1) &&& (x - 1) ≤ 4; rw [hy]; decide) ?_
    exact z_re hret (z_vi (by show (1 + 2) + (Int32.toUInt32 ((Int32.toUInt32 ((x ^^^ -1) &&& (x - 1)) >>> (Int32.toUInt32 2 &&& Int32.toUInt32 31)).toInt32) >>> (Int32.toUInt32 1 &&& Int32.toUInt32 31)).toInt32 = _; rw [hy]; decide)) rfl
  · subst e
    refine z_bt (by show 0 < (x ^^^ -1) &&& (x - 1); rw [hy]; decide) ?_
    refine z_go ?_
    refine z_bt (by show (x ^^^ -1) &&& (x - 1) ≤ 65536; rw [hy]; decide) ?_
    refine z_go ?_
    refine z_bt (by show (x ^^^ -1) &&& (x - 1) ≤ 256; rw [hy]; decide) ?_
    refine z_go ?_
    refine z_bf (by show ¬ (x ^^^ -1) &&& (x - 1) ≤ 16; rw [hy]; decide) ?_
    refine z_bt (by show (Int32.toUInt32 ((x ^^^ -1) &&& (x - 1)) >>> (Int32.toUInt32 4 &&& Int32.toUInt32 31)).toInt32 ≤ 4; rw [hy]; decide) ?_
    refine z_go ?_
    exact z_re hret (z_vi (by show (1 + 4) + (Int32.toUInt32 ((Int32.toUInt32 ((x ^^^ -1) &&& (x - 1)) >>> (Int32.toUInt32 4 &&& Int32.toUInt32 31)).toInt32) >>> (Int32.toUInt32 1 &&& Int32.toUInt32 31)).toInt32 = _; rw [hy]; decide)) rfl
  · subst e
    refine z_bt (by show 0 < (x ^^^ -1) &&& (x - 1); rw [hy]; decide) ?_
    refine z_go ?_
    refine z_bt (by show (x ^^^ -1) &&& (x - 1) ≤ 65536; rw [hy]; decide) ?_
    refine z_go ?_
    refine z_bt (by show (x ^^^ -1) &&& (x - 1) ≤ 256; rw [hy]; decide) ?_
    refine z_go ?_
    refine z_bf (by show ¬ (x ^^^ -1) &&& (x - 1) ≤ 16; rw [hy]; decide) ?_
    refine z_bt (by show (Int32.toUInt32 ((x ^^^ -1) &&& (x - 1)) >>> (Int32.toUInt32 4 &&& Int32.toUInt32 31)).toInt32 ≤ 4; rw [hy]; decide) ?_
    refine z_go ?_
    exact z_re hret (z_vi (by show (1 + 4) + (Int32.toUInt32 ((Int32.toUInt32 ((x ^^^ -1) &&& (x - 1)) >>> (Int32.toUInt32 4 &&& Int32.toUInt32 31)).toInt32) >>> (Int32.toUInt32 1 &&& Int32.toUInt32 31)).toInt32 = _; rw [hy]; decide)) rfl
  · subst e
    refine z_bt (by show 0 < (x ^^^ -1) &&& (x - 1); rw [hy]; decide) ?_
    refine z_go ?_
    refine z_bt (by show (x ^^^ -1) &&& (x - 1) ≤ 65536; rw [hy]; decide) ?_
    refine z_go ?_
    refine z_bt (by show (x ^^^ -1) &&& (x - 1) ≤ 256; rw [hy]; decide) ?_
    refine z_go ?_
    refine z_bf (by show ¬ (x ^^^ -1) &&& (x - 1) ≤ 16; rw [hy]; decide) ?_
    refine z_bf (by show ¬ (Int32.toUInt32 ((x ^^^ -1) &&& (x - 1)) >>> (Int32.toUInt32 4 &&& Int32.toUInt32 31)).toInt32 ≤ 4; rw [hy]; decide) ?_
    exact z_re hret (z_vi (by show ((1 + 4) + 2) + (Int32.toUInt32 ((Int32.toUInt32 ((Int32.toUInt32 ((x ^^^ -1) &&& (x - 1)) >>> (Int32.toUInt32 4 &&& Int32.toUInt32 31)).toInt32) >>> (Int32.toUInt32 2 &&& Int32.toUInt32 31)).toInt32) >>> (Int32.toUInt32 1 &&& Int32.toUInt32 31)).toInt32 = _; rw [hy]; decide)) rfl
  · subst e
    refine z_bt (by show 0 < (x ^^^ -1) &&& (x - 1); rw [hy]; decide) ?_
    refine z_go ?_
    refine z_bt (by show (x ^^^ -1) &&& (x - 1) ≤ 65536; rw [hy]; decide) ?_
    refine z_go ?_
    refine z_bt (by show (x ^^^ -1) &&& (x - 1) ≤ 256; rw [hy]; decide) ?_
    refine z_go ?_
    refine z_bf (by show ¬ (x ^^^ -1) &&& (x - 1) ≤ 16; rw [hy]; decide) ?_
    refine z_bf (by show ¬ (Int32.toUInt32 ((x ^^^ -1) &&& (x - 1)) >>> (Int32.toUInt32 4 &&& Int32.toUInt32 31)).toInt32 ≤ 4; rw [hy]; decide) ?_
    exact z_re hret (z_vi (by show ((1 + 4) + 2) + (Int32.toUInt32 ((Int32.toUInt32 ((Int32.toUInt32 ((x ^^^ -1) &&& (x - 1)) >>> (Int32.toUInt32 4 &&& Int32.toUInt32 31)).toInt32) >>> (Int32.toUInt32 2 &&& Int32.toUInt32 31)).toInt32) >>> (Int32.toUInt32 1 &&& Int32.toUInt32 31)).toInt32 = _; rw [hy]; decide)) rfl
  · subst e
    refine z_bt (by show 0 < (x ^^^ -1) &&& (x - 1); rw [hy]; decide) ?_
    refine z_go ?_
    refine z_bt (by show (x ^^^ -1) &&& (x - 1) ≤ 65536; rw [hy]; decide) ?_
    refine z_go ?_
    refine z_bf (by show ¬ (x ^^^ -1) &&& (x - 1) ≤ 256; rw [hy]; decide) ?_
    refine z_bt (by show (Int32.toUInt32 ((x ^^^ -1) &&& (x - 1)) >>> (Int32.toUInt32 8 &&& Int32.toUInt32 31)).toInt32 ≤ 16; rw [hy]; decide) ?_
    refine z_go ?_
    refine z_bt (by show (Int32.toUInt32 ((x ^^^ -1) &&& (x - 1)) >>> (Int32.toUInt32 8 &&& Int32.toUInt32 31)).toInt32 ≤ 4; rw [hy]; decide) ?_
    refine z_go ?_
    exact z_re hret (z_vi (by show (1 + 8) + (Int32.toUInt32 ((Int32.toUInt32 ((x ^^^ -1) &&& (x - 1)) >>> (Int32.toUInt32 8 &&& Int32.toUInt32 31)).toInt32) >>> (Int32.toUInt32 1 &&& Int32.toUInt32 31)).toInt32 = _; rw [hy]; decide)) rfl
  · subst e
    refine z_bt (by show 0 < (x ^^^ -1) &&& (x - 1); rw [hy]; decide) ?_
    refine z_go ?_
    refine z_bt (by show (x ^^^ -1) &&& (x - 1) ≤ 65536; rw [hy]; decide) ?_
    refine z_go ?_
    refine z_bf (by show ¬ (x ^^^ -1) &&& (x - 1) ≤ 256; rw [hy]; decide) ?_
    refine z_bt (by show (Int32.toUInt32 ((x ^^^ -1) &&& (x - 1)) >>> (Int32.toUInt32 8 &&& Int32.toUInt32 31)).toInt32 ≤ 16; rw [hy]; decide) ?_
    refine z_go ?_
    refine z_bt (by show (Int32.toUInt32 ((x ^^^ -1) &&& (x - 1)) >>> (Int32.toUInt32 8 &&& Int32.toUInt32 31)).toInt32 ≤ 4; rw [hy]; decide) ?_
    refine z_go ?_
    exact z_re hret (z_vi (by show (1 + 8) + (Int32.toUInt32 ((Int32.toUInt32 ((x ^^^ -1) &&& (x - 1)) >>> (Int32.toUInt32 8 &&& Int32.toUInt32 31)).toInt32) >>> (Int32.toUInt32 1 &&& Int32.toUInt32 31)).toInt32 = _; rw [hy]; decide)) rfl
  · subst e
    refine z_bt (by show 0 < (x ^^^ -1) &&& (x - 1); rw [hy]; decide) ?_
    refine z_go ?_
    refine z_bt (by show (x ^^^ -1) &&& (x - 1) ≤ 65536; rw [hy]; decide) ?_
    refine z_go ?_
    refine z_bf (by show ¬ (x ^^^ -1) &&& (x - 1) ≤ 256; rw [hy]; decide) ?_
    refine z_bt (by show (Int32.toUInt32 ((x ^^^ -1) &&& (x - 1)) >>> (Int32.toUInt32 8 &&& Int32.toUInt32 31)).toInt32 ≤ 16; rw [hy]; decide) ?_
    refine z_go ?_
    refine z_bf (by show ¬ (Int32.toUInt32 ((x ^^^ -1) &&& (x - 1)) >>> (Int32.toUInt32 8 &&& Int32.toUInt32 31)).toInt32 ≤ 4; rw [hy]; decide) ?_
    exact z_re hret (z_vi (by show ((1 + 8) + 2) + (Int32.toUInt32 ((Int32.toUInt32 ((Int32.toUInt32 ((x ^^^ -1) &&& (x - 1)) >>> (Int32.toUInt32 8 &&& Int32.toUInt32 31)).toInt32) >>> (Int32.toUInt32 2 &&& Int32.toUInt32 31)).toInt32) >>> (Int32.toUInt32 1 &&& Int32.toUInt32 31)).toInt32 = _; rw [hy]; decide)) rfl
  · subst e
    refine z_bt (by show 0 < (x ^^^ -1) &&& (x - 1); rw [hy]; decide) ?_
    refine z_go ?_
    refine z_bt (by show (x ^^^ -1) &&& (x - 1) ≤ 65536; rw [hy]; decide) ?_
    refine z_go ?_
    refine z_bf (by show ¬ (x ^^^ -1) &&& (x - 1) ≤ 256; rw [hy]; decide) ?_
    refine z_bt (by show (Int32.toUInt32 ((x ^^^ -1) &&& (x - 1)) >>> (Int32.toUInt32 8 &&& Int32.toUInt32 31)).toInt32 ≤ 16; rw [hy]; decide) ?_
    refine z_go ?_
    refine z_bf (by show ¬ (Int32.toUInt32 ((x ^^^ -1) &&& (x - 1)) >>> (Int32.toUInt32 8 &&& Int32.toUInt32 31)).toInt32 ≤ 4; rw [hy]; decide) ?_
    exact z_re hret (z_vi (by show ((1 + 8) + 2) + (Int32.toUInt32 ((Int32.toUInt32 ((Int32.toUInt32 ((x ^^^ -1) &&& (x - 1)) >>> (Int32.toUInt32 8 &&& Int32.toUInt32 31)).toInt32) >>> (Int32.toUInt32 2 &&& Int32.toUInt32 31)).toInt32) >>> (Int32.toUInt32 1 &&& Int32.toUInt32 31)).toInt32 = _; rw [hy]; decide)) rfl
  · subst e
    refine z_bt (by show 0 < (x ^^^ -1) &&& (x - 1); rw [hy]; decide) ?_
    refine z_go ?_
    refine z_bt (by show (x ^^^ -1) &&& (x - 1) ≤ 65536; rw [hy]; decide) ?_
    refine z_go ?_
    refine z_bf (by show ¬ (x ^^^ -1) &&& (x - 1) ≤ 256; rw [hy]; decide) ?_
    refine z_bf (by show ¬ (Int32.toUInt32 ((x ^^^ -1) &&& (x - 1)) >>> (Int32.toUInt32 8 &&& Int32.toUInt32 31)).toInt32 ≤ 16; rw [hy]; decide) ?_
    refine z_bt (by show (Int32.toUInt32 ((Int32.toUInt32 ((x ^^^ -1) &&& (x - 1)) >>> (Int32.toUInt32 8 &&& Int32.toUInt32 31)).toInt32) >>> (Int32.toUInt32 4 &&& Int32.toUInt32 31)).toInt32 ≤ 4; rw [hy]; decide) ?_
    refine z_go ?_
    exact z_re hret (z_vi (by show ((1 + 8) + 4) + (Int32.toUInt32 ((Int32.toUInt32 ((Int32.toUInt32 ((x ^^^ -1) &&& (x - 1)) >>> (Int32.toUInt32 8 &&& Int32.toUInt32 31)).toInt32) >>> (Int32.toUInt32 4 &&& Int32.toUInt32 31)).toInt32) >>> (Int32.toUInt32 1 &&& Int32.toUInt32 31)).toInt32 = _; rw [hy]; decide)) rfl
  · subst e
    refine z_bt (by show 0 < (x ^^^ -1) &&& (x - 1); rw [hy]; decide) ?_
    refine z_go ?_
    refine z_bt (by show (x ^^^ -1) &&& (x - 1) ≤ 65536; rw [hy]; decide) ?_
    refine z_go ?_
    refine z_bf (by show ¬ (x ^^^ -1) &&& (x - 1) ≤ 256; rw [hy]; decide) ?_
    refine z_bf (by show ¬ (Int32.toUInt32 ((x ^^^ -1) &&& (x - 1)) >>> (Int32.toUInt32 8 &&& Int32.toUInt32 31)).toInt32 ≤ 16; rw [hy]; decide) ?_
    refine z_bt (by show (Int32.toUInt32 ((Int32.toUInt32 ((x ^^^ -1) &&& (x - 1)) >>> (Int32.toUInt32 8 &&& Int32.toUInt32 31)).toInt32) >>> (Int32.toUInt32 4 &&& Int32.toUInt32 31)).toInt32 ≤ 4; rw [hy]; decide) ?_
    refine z_go ?_
    exact z_re hret (z_vi (by show ((1 + 8) + 4) + (Int32.toUInt32 ((Int32.toUInt32 ((Int32.toUInt32 ((x ^^^ -1) &&& (x - 1)) >>> (Int32.toUInt32 8 &&& Int32.toUInt32 31)).toInt32) >>> (Int32.toUInt32 4 &&& Int32.toUInt32 31)).toInt32) >>> (Int32.toUInt32 1 &&& Int32.toUInt32 31)).toInt32 = _; rw [hy]; decide)) rfl
  · subst e
    refine z_bt (by show 0 < (x ^^^ -1) &&& (x - 1); rw [hy]; decide) ?_
    refine z_go ?_
    refine z_bt (by show (x ^^^ -1) &&& (x - 1) ≤ 65536; rw [hy]; decide) ?_
    refine z_go ?_
    refine z_bf (by show ¬ (x ^^^ -1) &&& (x - 1) ≤ 256; rw [hy]; decide) ?_
    refine z_bf (by show ¬ (Int32.toUInt32 ((x ^^^ -1) &&& (x - 1)) >>> (Int32.toUInt32 8 &&& Int32.toUInt32 31)).toInt32 ≤ 16; rw [hy]; decide) ?_
    refine z_bf (by show ¬ (Int32.toUInt32 ((Int32.toUInt32 ((x ^^^ -1) &&& (x - 1)) >>> (Int32.toUInt32 8 &&& Int32.toUInt32 31)).toInt32) >>> (Int32.toUInt32 4 &&& Int32.toUInt32 31)).toInt32 ≤ 4; rw [hy]; decide) ?_
    exact z_re hret (z_vi (by show (((1 + 8) + 4) + 2) + (Int32.toUInt32 ((Int32.toUInt32 ((Int32.toUInt32 ((Int32.toUInt32 ((x ^^^ -1) &&& (x - 1)) >>> (Int32.toUInt32 8 &&& Int32.toUInt32 31)).toInt32) >>> (Int32.toUInt32 4 &&& Int32.toUInt32 31)).toInt32) >>> (Int32.toUInt32 2 &&& Int32.toUInt32 31)).toInt32) >>> (Int32.toUInt32 1 &&& Int32.toUInt32 31)).toInt32 = _; rw [hy]; decide)) rfl
  · subst e
    refine z_bt (by show 0 < (x ^^^ -1) &&& (x - 1); rw [hy]; decide) ?_
    refine z_go ?_
    refine z_bt (by show (x ^^^ -1) &&& (x - 1) ≤ 65536; rw [hy]; decide) ?_
    refine z_go ?_
    refine z_bf (by show ¬ (x ^^^ -1) &&& (x - 1) ≤ 256; rw [hy]; decide) ?_
    refine z_bf (by show ¬ (Int32.toUInt32 ((x ^^^ -1) &&& (x - 1)) >>> (Int32.toUInt32 8 &&& Int32.toUInt32 31)).toInt32 ≤ 16; rw [hy]; decide) ?_
    refine z_bf (by show ¬ (Int32.toUInt32 ((Int32.toUInt32 ((x ^^^ -1) &&& (x - 1)) >>> (Int32.toUInt32 8 &&& Int32.toUInt32 31)).toInt32) >>> (Int32.toUInt32 4 &&& Int32.toUInt32 31)).toInt32 ≤ 4; rw [hy]; decide) ?_
    exact z_re hret (z_vi (by show (((1 + 8) + 4) + 2) + (Int32.toUInt32 ((Int32.toUInt32 ((Int32.toUInt32 ((Int32.toUInt32 ((x ^^^ -1) &&& (x - 1)) >>> (Int32.toUInt32 8 &&& Int32.toUInt32 31)).toInt32) >>> (Int32.toUInt32 4 &&& Int32.toUInt32 31)).toInt32) >>> (Int32.toUInt32 2 &&& Int32.toUInt32 31)).toInt32) >>> (Int32.toUInt32 1 &&& Int32.toUInt32 31)).toInt32 = _; rw [hy]; decide)) rfl
  · subst e
    refine z_bt (by show 0 < (x ^^^ -1) &&& (x - 1); rw [hy]; decide) ?_
    refine z_go ?_
    refine z_bf (by show ¬ (x ^^^ -1) &&& (x - 1) ≤ 65536; rw [hy]; decide) ?_
    refine z_bt (by show (Int32.toUInt32 ((x ^^^ -1) &&& (x - 1)) >>> (Int32.toUInt32 16 &&& Int32.toUInt32 31)).toInt32 ≤ 256; rw [hy]; decide) ?_
    refine z_go ?_
    refine z_bt (by show (Int32.toUInt32 ((x ^^^ -1) &&& (x - 1)) >>> (Int32.toUInt32 16 &&& Int32.toUInt32 31)).toInt32 ≤ 16; rw [hy]; decide) ?_
    refine z_go ?_
    refine z_bt (by show (Int32.toUInt32 ((x ^^^ -1) &&& (x - 1)) >>> (Int32.toUInt32 16 &&& Int32.toUInt32 31)).toInt32 ≤ 4; rw [hy]; decide) ?_
    refine z_go ?_
    exact z_re hret (z_vi (by show (1 + 16) + (Int32.toUInt32 ((Int32.toUInt32 ((x ^^^ -1) &&& (x - 1)) >>> (Int32.toUInt32 16 &&& Int32.toUInt32 31)).toInt32) >>> (Int32.toUInt32 1 &&& Int32.toUInt32 31)).toInt32 = _; rw [hy]; decide)) rfl
  · subst e
    refine z_bt (by show 0 < (x ^^^ -1) &&& (x - 1); rw [hy]; decide) ?_
    refine z_go ?_
    refine z_bf (by show ¬ (x ^^^ -1) &&& (x - 1) ≤ 65536; rw [hy]; decide) ?_
    refine z_bt (by show (Int32.toUInt32 ((x ^^^ -1) &&& (x - 1)) >>> (Int32.toUInt32 16 &&& Int32.toUInt32 31)).toInt32 ≤ 256; rw [hy]; decide) ?_
    refine z_go ?_
    refine z_bt (by show (Int32.toUInt32 ((x ^^^ -1) &&& (x - 1)) >>> (Int32.toUInt32 16 &&& Int32.toUInt32 31)).toInt32 ≤ 16; rw [hy]; decide) ?_
    refine z_go ?_
    refine z_bt (by show (Int32.toUInt32 ((x ^^^ -1) &&& (x - 1)) >>> (Int32.toUInt32 16 &&& Int32.toUInt32 31)).toInt32 ≤ 4; rw [hy]; decide) ?_
    refine z_go ?_
    exact z_re hret (z_vi (by show (1 + 16) + (Int32.toUInt32 ((Int32.toUInt32 ((x ^^^ -1) &&& (x - 1)) >>> (Int32.toUInt32 16 &&& Int32.toUInt32 31)).toInt32) >>> (Int32.toUInt32 1 &&& Int32.toUInt32 31)).toInt32 = _; rw [hy]; decide)) rfl
  · subst e
    refine z_bt (by show 0 < (x ^^^ -1) &&& (x - 1); rw [hy]; decide) ?_
    refine z_go ?_
    refine z_bf (by show ¬ (x ^^^ -1) &&& (x - 1) ≤ 65536; rw [hy]; decide) ?_
    refine z_bt (by show (Int32.toUInt32 ((x ^^^ -1) &&& (x - 1)) >>> (Int32.toUInt32 16 &&& Int32.toUInt32 31)).toInt32 ≤ 256; rw [hy]; decide) ?_
    refine z_go ?_
    refine z_bt (by show (Int32.toUInt32 ((x ^^^ -1) &&& (x - 1)) >>> (Int32.toUInt32 16 &&& Int32.toUInt32 31)).toInt32 ≤ 16; rw [hy]; decide) ?_
    refine z_go ?_
    refine z_bf (by show ¬ (Int32.toUInt32 ((x ^^^ -1) &&& (x - 1)) >>> (Int32.toUInt32 16 &&& Int32.toUInt32 31)).toInt32 ≤ 4; rw [hy]; decide) ?_
    exact z_re hret (z_vi (by show ((1 + 16) + 2) + (Int32.toUInt32 ((Int32.toUInt32 ((Int32.toUInt32 ((x ^^^ -1) &&& (x - 1)) >>> (Int32.toUInt32 16 &&& Int32.toUInt32 31)).toInt32) >>> (Int32.toUInt32 2 &&& Int32.toUInt32 31)).toInt32) >>> (Int32.toUInt32 1 &&& Int32.toUInt32 31)).toInt32 = _; rw [hy]; decide)) rfl
  · subst e
    refine z_bt (by show 0 < (x ^^^ -1) &&& (x - 1); rw [hy]; decide) ?_
    refine z_go ?_
    refine z_bf (by show ¬ (x ^^^ -1) &&& (x - 1) ≤ 65536; rw [hy]; decide) ?_
    refine z_bt (by show (Int32.toUInt32 ((x ^^^ -1) &&& (x - 1)) >>> (Int32.toUInt32 16 &&& Int32.toUInt32 31)).toInt32 ≤ 256; rw [hy]; decide) ?_
    refine z_go ?_
    refine z_bt (by show (Int32.toUInt32 ((x ^^^ -1) &&& (x - 1)) >>> (Int32.toUInt32 16 &&& Int32.toUInt32 31)).toInt32 ≤ 16; rw [hy]; decide) ?_
    refine z_go ?_
    refine z_bf (by show ¬ (Int32.toUInt32 ((x ^^^ -1) &&& (x - 1)) >>> (Int32.toUInt32 16 &&& Int32.toUInt32 31)).toInt32 ≤ 4; rw [hy]; decide) ?_
    exact z_re hret (z_vi (by show ((1 + 16) + 2) + (Int32.toUInt32 ((Int32.toUInt32 ((Int32.toUInt32 ((x ^^^ -1) &&& (x - 1)) >>> (Int32.toUInt32 16 &&& Int32.toUInt32 31)).toInt32) >>> (Int32.toUInt32 2 &&& Int32.toUInt32 31)).toInt32) >>> (Int32.toUInt32 1 &&& Int32.toUInt32 31)).toInt32 = _; rw [hy]; decide)) rfl
  · subst e
    refine z_bt (by show 0 < (x ^^^ -1) &&& (x - 1); rw [hy]; decide) ?_
    refine z_go ?_
    refine z_bf (by show ¬ (x ^^^ -1) &&& (x - 1) ≤ 65536; rw [hy]; decide) ?_
    refine z_bt (by show (Int32.toUInt32 ((x ^^^ -1) &&& (x - 1)) >>> (Int32.toUInt32 16 &&& Int32.toUInt32 31)).toInt32 ≤ 256; rw [hy]; decide) ?_
    refine z_go ?_
    refine z_bf (by show ¬ (Int32.toUInt32 ((x ^^^ -1) &&& (x - 1)) >>> (Int32.toUInt32 16 &&& Int32.toUInt32 31)).toInt32 ≤ 16; rw [hy]; decide) ?_
    refine z_bt (by show (Int32.toUInt32 ((Int32.toUInt32 ((x ^^^ -1) &&& (x - 1)) >>> (Int32.toUInt32 16 &&& Int32.toUInt32 31)).toInt32) >>> (Int32.toUInt32 4 &&& Int32.toUInt32 31)).toInt32 ≤ 4; rw [hy]; decide) ?_
    refine z_go ?_
    exact z_re hret (z_vi (by show ((1 + 16) + 4) + (Int32.toUInt32 ((Int32.toUInt32 ((Int32.toUInt32 ((x ^^^ -1) &&& (x - 1)) >>> (Int32.toUInt32 16 &&& Int32.toUInt32 31)).toInt32) >>> (Int32.toUInt32 4 &&& Int32.toUInt32 31)).toInt32) >>> (Int32.toUInt32 1 &&& Int32.toUInt32 31)).toInt32 = _; rw [hy]; decide)) rfl
  · subst e
    refine z_bt (by show 0 < (x ^^^ -1) &&& (x - 1); rw [hy]; decide) ?_
    refine z_go ?_
    refine z_bf (by show ¬ (x ^^^ -1) &&& (x - 1) ≤ 65536; rw [hy]; decide) ?_
    refine z_bt (by show (Int32.toUInt32 ((x ^^^ -1) &&& (x - 1)) >>> (Int32.toUInt32 16 &&& Int32.toUInt32 31)).toInt32 ≤ 256; rw [hy]; decide) ?_
    refine z_go ?_
    refine z_bf (by show ¬ (Int32.toUInt32 ((x ^^^ -1) &&& (x - 1)) >>> (Int32.toUInt32 16 &&& Int32.toUInt32 31)).toInt32 ≤ 16; rw [hy]; decide) ?_
    refine z_bt (by show (Int32.toUInt32 ((Int32.toUInt32 ((x ^^^ -1) &&& (x - 1)) >>> (Int32.toUInt32 16 &&& Int32.toUInt32 31)).toInt32) >>> (Int32.toUInt32 4 &&& Int32.toUInt32 31)).toInt32 ≤ 4; rw [hy]; decide) ?_
    refine z_go ?_
    exact z_re hret (z_vi (by show ((1 + 16) + 4) + (Int32.toUInt32 ((Int32.toUInt32 ((Int32.toUInt32 ((x ^^^ -1) &&& (x - 1)) >>> (Int32.toUInt32 16 &&& Int32.toUInt32 31)).toInt32) >>> (Int32.toUInt32 4 &&& Int32.toUInt32 31)).toInt32) >>> (Int32.toUInt32 1 &&& Int32.toUInt32 31)).toInt32 = _; rw [hy]; decide)) rfl
  · subst e
    refine z_bt (by show 0 < (x ^^^ -1) &&& (x - 1); rw [hy]; decide) ?_
    refine z_go ?_
    refine z_bf (by show ¬ (x ^^^ -1) &&& (x - 1) ≤ 65536; rw [hy]; decide) ?_
    refine z_bt (by show (Int32.toUInt32 ((x ^^^ -1) &&& (x - 1)) >>> (Int32.toUInt32 16 &&& Int32.toUInt32 31)).toInt32 ≤ 256; rw [hy]; decide) ?_
    refine z_go ?_
    refine z_bf (by show ¬ (Int32.toUInt32 ((x ^^^ -1) &&& (x - 1)) >>> (Int32.toUInt32 16 &&& Int32.toUInt32 31)).toInt32 ≤ 16; rw [hy]; decide) ?_
    refine z_bf (by show ¬ (Int32.toUInt32 ((Int32.toUInt32 ((x ^^^ -1) &&& (x - 1)) >>> (Int32.toUInt32 16 &&& Int32.toUInt32 31)).toInt32) >>> (Int32.toUInt32 4 &&& Int32.toUInt32 31)).toInt32 ≤ 4; rw [hy]; decide) ?_
    exact z_re hret (z_vi (by show (((1 + 16) + 4) + 2) + (Int32.toUInt32 ((Int32.toUInt32 ((Int32.toUInt32 ((Int32.toUInt32 ((x ^^^ -1) &&& (x - 1)) >>> (Int32.toUInt32 16 &&& Int32.toUInt32 31)).toInt32) >>> (Int32.toUInt32 4 &&& Int32.toUInt32 31)).toInt32) >>> (Int32.toUInt32 2 &&& Int32.toUInt32 31)).toInt32) >>> (Int32.toUInt32 1 &&& Int32.toUInt32 31)).toInt32 = _; rw [hy]; decide)) rfl
  · subst e
    refine z_bt (by show 0 < (x ^^^ -1) &&& (x - 1); rw [hy]; decide) ?_
    refine z_go ?_
    refine z_bf (by show ¬ (x ^^^ -1) &&& (x - 1) ≤ 65536; rw [hy]; decide) ?_
    refine z_bt (by show (Int32.toUInt32 ((x ^^^ -1) &&& (x - 1)) >>> (Int32.toUInt32 16 &&& Int32.toUInt32 31)).toInt32 ≤ 256; rw [hy]; decide) ?_
    refine z_go ?_
    refine z_bf (by show ¬ (Int32.toUInt32 ((x ^^^ -1) &&& (x - 1)) >>> (Int32.toUInt32 16 &&& Int32.toUInt32 31)).toInt32 ≤ 16; rw [hy]; decide) ?_
    refine z_bf (by show ¬ (Int32.toUInt32 ((Int32.toUInt32 ((x ^^^ -1) &&& (x - 1)) >>> (Int32.toUInt32 16 &&& Int32.toUInt32 31)).toInt32) >>> (Int32.toUInt32 4 &&& Int32.toUInt32 31)).toInt32 ≤ 4; rw [hy]; decide) ?_
    exact z_re hret (z_vi (by show (((1 + 16) + 4) + 2) + (Int32.toUInt32 ((Int32.toUInt32 ((Int32.toUInt32 ((Int32.toUInt32 ((x ^^^ -1) &&& (x - 1)) >>> (Int32.toUInt32 16 &&& Int32.toUInt32 31)).toInt32) >>> (Int32.toUInt32 4 &&& Int32.toUInt32 31)).toInt32) >>> (Int32.toUInt32 2 &&& Int32.toUInt32 31)).toInt32) >>> (Int32.toUInt32 1 &&& Int32.toUInt32 31)).toInt32 = _; rw [hy]; decide)) rfl
  · subst e
    refine z_bt (by show 0 < (x ^^^ -1) &&& (x - 1); rw [hy]; decide) ?_
    refine z_go ?_
    refine z_bf (by show ¬ (x ^^^ -1) &&& (x - 1) ≤ 65536; rw [hy]; decide) ?_
    refine z_bf (by show ¬ (Int32.toUInt32 ((x ^^^ -1) &&& (x - 1)) >>> (Int32.toUInt32 16 &&& Int32.toUInt32 31)).toInt32 ≤ 256; rw [hy]; decide) ?_
    refine z_bt (by show (Int32.toUInt32 ((Int32.toUInt32 ((x ^^^ -1) &&& (x - 1)) >>> (Int32.toUInt32 16 &&& Int32.toUInt32 31)).toInt32) >>> (Int32.toUInt32 8 &&& Int32.toUInt32 31)).toInt32 ≤ 16; rw [hy]; decide) ?_
    refine z_go ?_
    refine z_bt (by show (Int32.toUInt32 ((Int32.toUInt32 ((x ^^^ -1) &&& (x - 1)) >>> (Int32.toUInt32 16 &&& Int32.toUInt32 31)).toInt32) >>> (Int32.toUInt32 8 &&& Int32.toUInt32 31)).toInt32 ≤ 4; rw [hy]; decide) ?_
    refine z_go ?_
    exact z_re hret (z_vi (by show ((1 + 16) + 8) + (Int32.toUInt32 ((Int32.toUInt32 ((Int32.toUInt32 ((x ^^^ -1) &&& (x - 1)) >>> (Int32.toUInt32 16 &&& Int32.toUInt32 31)).toInt32) >>> (Int32.toUInt32 8 &&& Int32.toUInt32 31)).toInt32) >>> (Int32.toUInt32 1 &&& Int32.toUInt32 31)).toInt32 = _; rw [hy]; decide)) rfl
  · subst e
    refine z_bt (by show 0 < (x ^^^ -1) &&& (x - 1); rw [hy]; decide) ?_
    refine z_go ?_
    refine z_bf (by show ¬ (x ^^^ -1) &&& (x - 1) ≤ 65536; rw [hy]; decide) ?_
    refine z_bf (by show ¬ (Int32.toUInt32 ((x ^^^ -1) &&& (x - 1)) >>> (Int32.toUInt32 16 &&& Int32.toUInt32 31)).toInt32 ≤ 256; rw [hy]; decide) ?_
    refine z_bt (by show (Int32.toUInt32 ((Int32.toUInt32 ((x ^^^ -1) &&& (x - 1)) >>> (Int32.toUInt32 16 &&& Int32.toUInt32 31)).toInt32) >>> (Int32.toUInt32 8 &&& Int32.toUInt32 31)).toInt32 ≤ 16; rw [hy]; decide) ?_
    refine z_go ?_
    refine z_bt (by show (Int32.toUInt32 ((Int32.toUInt32 ((x ^^^ -1) &&& (x - 1)) >>> (Int32.toUInt32 16 &&& Int32.toUInt32 31)).toInt32) >>> (Int32.toUInt32 8 &&& Int32.toUInt32 31)).toInt32 ≤ 4; rw [hy]; decide) ?_
    refine z_go ?_
    exact z_re hret (z_vi (by show ((1 + 16) + 8) + (Int32.toUInt32 ((Int32.toUInt32 ((Int32.toUInt32 ((x ^^^ -1) &&& (x - 1)) >>> (Int32.toUInt32 16 &&& Int32.toUInt32 31)).toInt32) >>> (Int32.toUInt32 8 &&& Int32.toUInt32 31)).toInt32) >>> (Int32.toUInt32 1 &&& Int32.toUInt32 31)).toInt32 = _; rw [hy]; decide)) rfl
  · subst e
    refine z_bt (by show 0 < (x ^^^ -1) &&& (x - 1); rw [hy]; decide) ?_
    refine z_go ?_
    refine z_bf (by show ¬ (x ^^^ -1) &&& (x - 1) ≤ 65536; rw [hy]; decide) ?_
    refine z_bf (by show ¬ (Int32.toUInt32 ((x ^^^ -1) &&& (x - 1)) >>> (Int32.toUInt32 16 &&& Int32.toUInt32 31)).toInt32 ≤ 256; rw [hy]; decide) ?_
    refine z_bt (by show (Int32.toUInt32 ((Int32.toUInt32 ((x ^^^ -1) &&& (x - 1)) >>> (Int32.toUInt32 16 &&& Int32.toUInt32 31)).toInt32) >>> (Int32.toUInt32 8 &&& Int32.toUInt32 31)).toInt32 ≤ 16; rw [hy]; decide) ?_
    refine z_go ?_
    refine z_bf (by show ¬ (Int32.toUInt32 ((Int32.toUInt32 ((x ^^^ -1) &&& (x - 1)) >>> (Int32.toUInt32 16 &&& Int32.toUInt32 31)).toInt32) >>> (Int32.toUInt32 8 &&& Int32.toUInt32 31)).toInt32 ≤ 4; rw [hy]; decide) ?_
    exact z_re hret (z_vi (by show (((1 + 16) + 8) + 2) + (Int32.toUInt32 ((Int32.toUInt32 ((Int32.toUInt32 ((Int32.toUInt32 ((x ^^^ -1) &&& (x - 1)) >>> (Int32.toUInt32 16 &&& Int32.toUInt32 31)).toInt32) >>> (Int32.toUInt32 8 &&& Int32.toUInt32 31)).toInt32) >>> (Int32.toUInt32 2 &&& Int32.toUInt32 31)).toInt32) >>> (Int32.toUInt32 1 &&& Int32.toUInt32 31)).toInt32 = _; rw [hy]; decide)) rfl
  · subst e
    refine z_bt (by show 0 < (x ^^^ -1) &&& (x - 1); rw [hy]; decide) ?_
    refine z_go ?_
    refine z_bf (by show ¬ (x ^^^ -1) &&& (x - 1) ≤ 65536; rw [hy]; decide) ?_
    refine z_bf (by show ¬ (Int32.toUInt32 ((x ^^^ -1) &&& (x - 1)) >>> (Int32.toUInt32 16 &&& Int32.toUInt32 31)).toInt32 ≤ 256; rw [hy]; decide) ?_
    refine z_bt (by show (Int32.toUInt32 ((Int32.toUInt32 ((x ^^^ -1) &&& (x - 1)) >>> (Int32.toUInt32 16 &&& Int32.toUInt32 31)).toInt32) >>> (Int32.toUInt32 8 &&& Int32.toUInt32 31)).toInt32 ≤ 16; rw [hy]; decide) ?_
    refine z_go ?_
    refine z_bf (by show ¬ (Int32.toUInt32 ((Int32.toUInt32 ((x ^^^ -1) &&& (x - 1)) >>> (Int32.toUInt32 16 &&& Int32.toUInt32 31)).toInt32) >>> (Int32.toUInt32 8 &&& Int32.toUInt32 31)).toInt32 ≤ 4; rw [hy]; decide) ?_
    exact z_re hret (z_vi (by show (((1 + 16) + 8) + 2) + (Int32.toUInt32 ((Int32.toUInt32 ((Int32.toUInt32 ((Int32.toUInt32 ((x ^^^ -1) &&& (x - 1)) >>> (Int32.toUInt32 16 &&& Int32.toUInt32 31)).toInt32) >>> (Int32.toUInt32 8 &&& Int32.toUInt32 31)).toInt32) >>> (Int32.toUInt32 2 &&& Int32.toUInt32 31)).toInt32) >>> (Int32.toUInt32 1 &&& Int32.toUInt32 31)).toInt32 = _; rw [hy]; decide)) rfl
  · subst e
    refine z_bt (by show 0 < (x ^^^ -1) &&& (x - 1); rw [hy]; decide) ?_
    refine z_go ?_
    refine z_bf (by show ¬ (x ^^^ -1) &&& (x - 1) ≤ 65536; rw [hy]; decide) ?_
    refine z_bf (by show ¬ (Int32.toUInt32 ((x ^^^ -1) &&& (x - 1)) >>> (Int32.toUInt32 16 &&& Int32.toUInt32 31)).toInt32 ≤ 256; rw [hy]; decide) ?_
    refine z_bf (by show ¬ (Int32.toUInt32 ((Int32.toUInt32 ((x ^^^ -1) &&& (x - 1)) >>> (Int32.toUInt32 16 &&& Int32.toUInt32 31)).toInt32) >>> (Int32.toUInt32 8 &&& Int32.toUInt32 31)).toInt32 ≤ 16; rw [hy]; decide) ?_
    refine z_bt (by show (Int32.toUInt32 ((Int32.toUInt32 ((Int32.toUInt32 ((x ^^^ -1) &&& (x - 1)) >>> (Int32.toUInt32 16 &&& Int32.toUInt32 31)).toInt32) >>> (Int32.toUInt32 8 &&& Int32.toUInt32 31)).toInt32) >>> (Int32.toUInt32 4 &&& Int32.toUInt32 31)).toInt32 ≤ 4; rw [hy]; decide) ?_
    refine z_go ?_
    exact z_re hret (z_vi (by show (((1 + 16) + 8) + 4) + (Int32.toUInt32 ((Int32.toUInt32 ((Int32.toUInt32 ((Int32.toUInt32 ((x ^^^ -1) &&& (x - 1)) >>> (Int32.toUInt32 16 &&& Int32.toUInt32 31)).toInt32) >>> (Int32.toUInt32 8 &&& Int32.toUInt32 31)).toInt32) >>> (Int32.toUInt32 4 &&& Int32.toUInt32 31)).toInt32) >>> (Int32.toUInt32 1 &&& Int32.toUInt32 31)).toInt32 = _; rw [hy]; decide)) rfl
  · subst e
    refine z_bt (by show 0 < (x ^^^ -1) &&& (x - 1); rw [hy]; decide) ?_
    refine z_go ?_
    refine z_bf (by show ¬ (x ^^^ -1) &&& (x - 1) ≤ 65536; rw [hy]; decide) ?_
    refine z_bf (by show ¬ (Int32.toUInt32 ((x ^^^ -1) &&& (x - 1)) >>> (Int32.toUInt32 16 &&& Int32.toUInt32 31)).toInt32 ≤ 256; rw [hy]; decide) ?_
    refine z_bf (by show ¬ (Int32.toUInt32 ((Int32.toUInt32 ((x ^^^ -1) &&& (x - 1)) >>> (Int32.toUInt32 16 &&& Int32.toUInt32 31)).toInt32) >>> (Int32.toUInt32 8 &&& Int32.toUInt32 31)).toInt32 ≤ 16; rw [hy]; decide) ?_
    refine z_bt (by show (Int32.toUInt32 ((Int32.toUInt32 ((Int32.toUInt32 ((x ^^^ -1) &&& (x - 1)) >>> (Int32.toUInt32 16 &&& Int32.toUInt32 31)).toInt32) >>> (Int32.toUInt32 8 &&& Int32.toUInt32 31)).toInt32) >>> (Int32.toUInt32 4 &&& Int32.toUInt32 31)).toInt32 ≤ 4; rw [hy]; decide) ?_
    refine z_go ?_
    exact z_re hret (z_vi (by show (((1 + 16) + 8) + 4) + (Int32.toUInt32 ((Int32.toUInt32 ((Int32.toUInt32 ((Int32.toUInt32 ((x ^^^ -1) &&& (x - 1)) >>> (Int32.toUInt32 16 &&& Int32.toUInt32 31)).toInt32) >>> (Int32.toUInt32 8 &&& Int32.toUInt32 31)).toInt32) >>> (Int32.toUInt32 4 &&& Int32.toUInt32 31)).toInt32) >>> (Int32.toUInt32 1 &&& Int32.toUInt32 31)).toInt32 = _; rw [hy]; decide)) rfl
  · subst e
    refine z_bt (by show 0 < (x ^^^ -1) &&& (x - 1); rw [hy]; decide) ?_
    refine z_go ?_
    refine z_bf (by show ¬ (x ^^^ -1) &&& (x - 1) ≤ 65536; rw [hy]; decide) ?_
    refine z_bf (by show ¬ (Int32.toUInt32 ((x ^^^ -1) &&& (x - 1)) >>> (Int32.toUInt32 16 &&& Int32.toUInt32 31)).toInt32 ≤ 256; rw [hy]; decide) ?_
    refine z_bf (by show ¬ (Int32.toUInt32 ((Int32.toUInt32 ((x ^^^ -1) &&& (x - 1)) >>> (Int32.toUInt32 16 &&& Int32.toUInt32 31)).toInt32) >>> (Int32.toUInt32 8 &&& Int32.toUInt32 31)).toInt32 ≤ 16; rw [hy]; decide) ?_
    refine z_bf (by show ¬ (Int32.toUInt32 ((Int32.toUInt32 ((Int32.toUInt32 ((x ^^^ -1) &&& (x - 1)) >>> (Int32.toUInt32 16 &&& Int32.toUInt32 31)).toInt32) >>> (Int32.toUInt32 8 &&& Int32.toUInt32 31)).toInt32) >>> (Int32.toUInt32 4 &&& Int32.toUInt32 31)).toInt32 ≤ 4; rw [hy]; decide) ?_
    exact z_re hret (z_vi (by show ((((1 + 16) + 8) + 4) + 2) + (Int32.toUInt32 ((Int32.toUInt32 ((Int32.toUInt32 ((Int32.toUInt32 ((Int32.toUInt32 ((x ^^^ -1) &&& (x - 1)) >>> (Int32.toUInt32 16 &&& Int32.toUInt32 31)).toInt32) >>> (Int32.toUInt32 8 &&& Int32.toUInt32 31)).toInt32) >>> (Int32.toUInt32 4 &&& Int32.toUInt32 31)).toInt32) >>> (Int32.toUInt32 2 &&& Int32.toUInt32 31)).toInt32) >>> (Int32.toUInt32 1 &&& Int32.toUInt32 31)).toInt32 = _; rw [hy]; decide)) rfl
set_option maxRecDepth 10000 in
set_option maxHeartbeats 4000000 in
theorem cJ_nlz (u t : Nat) (ht : t < 32) (h1 : 2 ^ t ≤ u) (h2 : u < 2 ^ (t + 1)) (L : zL) (M : zM) (hL : 2 ≤ L.length) : zMet zi_J6_numberOfLeadingZeros_0f7a4 [.int (nI u)] L M L (zx (some (.int (nI (31 - t)))) M) := by
  refine z_me (zk_J6_numberOfLeadingZeros_0f7a4 _ _) rfl hL rfl (fun ret hret => ?_)
  rcases (show t = 0 ∨ t = 1 ∨ t = 2 ∨ t = 3 ∨ t = 4 ∨ t = 5 ∨ t = 6 ∨ t = 7 ∨ t = 8 ∨ t = 9 ∨ t = 10 ∨ t = 11 ∨ t = 12 ∨ t = 13 ∨ t = 14 ∨ t = 15 ∨ t = 16 ∨ t = 17 ∨ t = 18 ∨ t = 19 ∨ t = 20 ∨ t = 21 ∨ t = 22 ∨ t = 23 ∨ t = 24 ∨ t = 25 ∨ t = 26 ∨ t = 27 ∨ t = 28 ∨ t = 29 ∨ t = 30 ∨ t = 31 by omega) with e | e | e | e | e | e | e | e | e | e | e | e | e | e | e | e | e | e | e | e | e | e | e | e | e | e | e | e | e | e | e | e
  · subst e
    refine z_bt (by show 0 < nI u; exact nI_lt (a := 0) (b := u) (by omega) (by omega)) ?_
    refine z_go ?_
    refine z_bt (by show nI u < 65536; exact nI_lt (a := u) (b := 65536) (by omega) (by omega)) ?_
    refine z_go ?_
    refine z_bt (by show nI u < 256; exact nI_lt (a := u) (b := 256) (by omega) (by omega)) ?_
    refine z_go ?_
    refine z_bt (by show nI u < 16; exact nI_lt (a := u) (b := 16) (by omega) (by omega)) ?_
    refine z_go ?_
    refine z_bt (by show nI u < 4; exact nI_lt (a := u) (b := 4) (by omega) (by omega)) ?_
    refine z_go ?_
    exact z_re hret (z_vi (by show 31 - (Int32.toUInt32 (nI u) >>> (Int32.toUInt32 1 &&& Int32.toUInt32 31)).toInt32 = _; rw [pk_ushrN (by omega) 1 1 (by decide), show u / 2 ^ 1 = 0 by omega]; decide)) rfl
  · subst e
    refine z_bt (by show 0 < nI u; exact nI_lt (a := 0) (b := u) (by omega) (by omega)) ?_
    refine z_go ?_
    refine z_bt (by show nI u < 65536; exact nI_lt (a := u) (b := 65536) (by omega) (by omega)) ?_
    refine z_go ?_
    refine z_bt (by show nI u < 256; exact nI_lt (a := u) (b := 256) (by omega) (by omega)) ?_
    refine z_go ?_
    refine z_bt (by show nI u < 16; exact nI_lt (a := u) (b := 16) (by omega) (by omega)) ?_
    refine z_go ?_
    refine z_bt (by show nI u < 4; exact nI_lt (a := u) (b := 4) (by omega) (by omega)) ?_
    refine z_go ?_
    exact z_re hret (z_vi (by show 31 - (Int32.toUInt32 (nI u) >>> (Int32.toUInt32 1 &&& Int32.toUInt32 31)).toInt32 = _; rw [pk_ushrN (by omega) 1 1 (by decide), show u / 2 ^ 1 = 1 by omega]; decide)) rfl
  · subst e
    refine z_bt (by show 0 < nI u; exact nI_lt (a := 0) (b := u) (by omega) (by omega)) ?_
    refine z_go ?_
    refine z_bt (by show nI u < 65536; exact nI_lt (a := u) (b := 65536) (by omega) (by omega)) ?_
    refine z_go ?_
    refine z_bt (by show nI u < 256; exact nI_lt (a := u) (b := 256) (by omega) (by omega)) ?_
    refine z_go ?_
    refine z_bt (by show nI u < 16; exact nI_lt (a := u) (b := 16) (by omega) (by omega)) ?_
    refine z_go ?_
    refine z_bf (by show ¬ nI u < 4; exact nI_nlt (a := u) (b := 4) (by omega) (by omega)) ?_
    exact z_re hret (z_vi (by show (31 + -2) - (Int32.toUInt32 ((Int32.toUInt32 (nI u) >>> (Int32.toUInt32 2 &&& Int32.toUInt32 31)).toInt32) >>> (Int32.toUInt32 1 &&& Int32.toUInt32 31)).toInt32 = _; rw [pk_ushrN (by omega) 2 2 (by decide), pk_ushrN (by omega) 1 1 (by decide), show (u / 2 ^ 2) / 2 ^ 1 = 0 by omega]; decide)) rfl
  · subst e
    refine z_bt (by show 0 < nI u; exact nI_lt (a := 0) (b := u) (by omega) (by omega)) ?_
    refine z_go ?_
    refine z_bt (by show nI u < 65536; exact nI_lt (a := u) (b := 65536) (by omega) (by omega)) ?_
    refine z_go ?_
    refine z_bt (by show nI u < 256; exact nI_lt (a := u) (b := 256) (by omega) (by omega)) ?_
    refine z_go ?_
    refine z_bt (by show nI u < 16; exact nI_lt (a := u) (b := 16) (by omega) (by omega)) ?_
    refine z_go ?_
    refine z_bf (by show ¬ nI u < 4; exact nI_nlt (a := u) (b := 4) (by omega) (by omega)) ?_
    exact z_re hret (z_vi (by show (31 + -2) - (Int32.toUInt32 ((Int32.toUInt32 (nI u) >>> (Int32.toUInt32 2 &&& Int32.toUInt32 31)).toInt32) >>> (Int32.toUInt32 1 &&& Int32.toUInt32 31)).toInt32 = _; rw [pk_ushrN (by omega) 2 2 (by decide), pk_ushrN (by omega) 1 1 (by decide), show (u / 2 ^ 2) / 2 ^ 1 = 1 by omega]; decide)) rfl
  · subst e
    refine z_bt (by show 0 < nI u; exact nI_lt (a := 0) (b := u) (by omega) (by omega)) ?_
    refine z_go ?_
    refine z_bt (by show nI u < 65536; exact nI_lt (a := u) (b := 65536) (by omega) (by omega)) ?_
    refine z_go ?_
    refine z_bt (by show nI u < 256; exact nI_lt (a := u) (b := 256) (by omega) (by omega)) ?_
    refine z_go ?_
    refine z_bf (by show ¬ nI u < 16; exact nI_nlt (a := u) (b := 16) (by omega) (by omega)) ?_
    refine z_bt (by show (Int32.toUInt32 (nI u) >>> (Int32.toUInt32 4 &&& Int32.toUInt32 31)).toInt32 < 4; rw [pk_ushrN (by omega) 4 4 (by decide)]; exact nI_lt (a := (u / 2 ^ 4)) (b := 4) (by omega) (by omega)) ?_
    refine z_go ?_
    exact z_re hret (z_vi (by show (31 + -4) - (Int32.toUInt32 ((Int32.toUInt32 (nI u) >>> (Int32.toUInt32 4 &&& Int32.toUInt32 31)).toInt32) >>> (Int32.toUInt32 1 &&& Int32.toUInt32 31)).toInt32 = _; rw [pk_ushrN (by omega) 4 4 (by decide), pk_ushrN (by omega) 1 1 (by decide), show (u / 2 ^ 4) / 2 ^ 1 = 0 by omega]; decide)) rfl
  · subst e
    refine z_bt (by show 0 < nI u; exact nI_lt (a := 0) (b := u) (by omega) (by omega)) ?_
    refine z_go ?_
    refine z_bt (by show nI u < 65536; exact nI_lt (a := u) (b := 65536) (by omega) (by omega)) ?_
    refine z_go ?_
    refine z_bt (by show nI u < 256; exact nI_lt (a := u) (b := 256) (by omega) (by omega)) ?_
    refine z_go ?_
    refine z_bf (by show ¬ nI u < 16; exact nI_nlt (a := u) (b := 16) (by omega) (by omega)) ?_
    refine z_bt (by show (Int32.toUInt32 (nI u) >>> (Int32.toUInt32 4 &&& Int32.toUInt32 31)).toInt32 < 4; rw [pk_ushrN (by omega) 4 4 (by decide)]; exact nI_lt (a := (u / 2 ^ 4)) (b := 4) (by omega) (by omega)) ?_
    refine z_go ?_
    exact z_re hret (z_vi (by show (31 + -4) - (Int32.toUInt32 ((Int32.toUInt32 (nI u) >>> (Int32.toUInt32 4 &&& Int32.toUInt32 31)).toInt32) >>> (Int32.toUInt32 1 &&& Int32.toUInt32 31)).toInt32 = _; rw [pk_ushrN (by omega) 4 4 (by decide), pk_ushrN (by omega) 1 1 (by decide), show (u / 2 ^ 4) / 2 ^ 1 = 1 by omega]; decide)) rfl
  · subst e
    refine z_bt (by show 0 < nI u; exact nI_lt (a := 0) (b := u) (by omega) (by omega)) ?_
    refine z_go ?_
    refine z_bt (by show nI u < 65536; exact nI_lt (a := u) (b := 65536) (by omega) (by omega)) ?_
    refine z_go ?_
    refine z_bt (by show nI u < 256; exact nI_lt (a := u) (b := 256) (by omega) (by omega)) ?_
    refine z_go ?_
    refine z_bf (by show ¬ nI u < 16; exact nI_nlt (a := u) (b := 16) (by omega) (by omega)) ?_
    refine z_bf (by show ¬ (Int32.toUInt32 (nI u) >>> (Int32.toUInt32 4 &&& Int32.toUInt32 31)).toInt32 < 4; rw [pk_ushrN (by omega) 4 4 (by decide)]; exact nI_nlt (a := (u / 2 ^ 4)) (b := 4) (by omega) (by omega)) ?_
    exact z_re hret (z_vi (by show ((31 + -4) + -2) - (Int32.toUInt32 ((Int32.toUInt32 ((Int32.toUInt32 (nI u) >>> (Int32.toUInt32 4 &&& Int32.toUInt32 31)).toInt32) >>> (Int32.toUInt32 2 &&& Int32.toUInt32 31)).toInt32) >>> (Int32.toUInt32 1 &&& Int32.toUInt32 31)).toInt32 = _; rw [pk_ushrN (by omega) 4 4 (by decide), pk_ushrN (by omega) 2 2 (by decide), pk_ushrN (by omega) 1 1 (by decide), show ((u / 2 ^ 4) / 2 ^ 2) / 2 ^ 1 = 0 by omega]; decide)) rfl
  · subst e
    refine z_bt (by show 0 < nI u; exact nI_lt (a := 0) (b := u) (by omega) (by omega)) ?_
    refine z_go ?_
    refine z_bt (by show nI u < 65536; exact nI_lt (a := u) (b := 65536) (by omega) (by omega)) ?_
    refine z_go ?_
    refine z_bt (by show nI u < 256; exact nI_lt (a := u) (b := 256) (by omega) (by omega)) ?_
    refine z_go ?_
    refine z_bf (by show ¬ nI u < 16; exact nI_nlt (a := u) (b := 16) (by omega) (by omega)) ?_
    refine z_bf (by show ¬ (Int32.toUInt32 (nI u) >>> (Int32.toUInt32 4 &&& Int32.toUInt32 31)).toInt32 < 4; rw [pk_ushrN (by omega) 4 4 (by decide)]; exact nI_nlt (a := (u / 2 ^ 4)) (b := 4) (by omega) (by omega)) ?_
    exact z_re hret (z_vi (by show ((31 + -4) + -2) - (Int32.toUInt32 ((Int32.toUInt32 ((Int32.toUInt32 (nI u) >>> (Int32.toUInt32 4 &&& Int32.toUInt32 31)).toInt32) >>> (Int32.toUInt32 2 &&& Int32.toUInt32 31)).toInt32) >>> (Int32.toUInt32 1 &&& Int32.toUInt32 31)).toInt32 = _; rw [pk_ushrN (by omega) 4 4 (by decide), pk_ushrN (by omega) 2 2 (by decide), pk_ushrN (by omega) 1 1 (by decide), show ((u / 2 ^ 4) / 2 ^ 2) / 2 ^ 1 = 1 by omega]; decide)) rfl
  · subst e
    refine z_bt (by show 0 < nI u; exact nI_lt (a := 0) (b := u) (by omega) (by omega)) ?_
    refine z_go ?_
    refine z_bt (by show nI u < 65536; exact nI_lt (a := u) (b := 65536) (by omega) (by omega)) ?_
    refine z_go ?_
    refine z_bf (by show ¬ nI u < 256; exact nI_nlt (a := u) (b := 256) (by omega) (by omega)) ?_
    refine z_bt (by show (Int32.toUInt32 (nI u) >>> (Int32.toUInt32 8 &&& Int32.toUInt32 31)).toInt32 < 16; rw [pk_ushrN (by omega) 8 8 (by decide)]; exact nI_lt (a := (u / 2 ^ 8)) (b := 16) (by omega) (by omega)) ?_
    refine z_go ?_
    refine z_bt (by show (Int32.toUInt32 (nI u) >>> (Int32.toUInt32 8 &&& Int32.toUInt32 31)).toInt32 < 4; rw [pk_ushrN (by omega) 8 8 (by decide)]; exact nI_lt (a := (u / 2 ^ 8)) (b := 4) (by omega) (by omega)) ?_
    refine z_go ?_
    exact z_re hret (z_vi (by show (31 + -8) - (Int32.toUInt32 ((Int32.toUInt32 (nI u) >>> (Int32.toUInt32 8 &&& Int32.toUInt32 31)).toInt32) >>> (Int32.toUInt32 1 &&& Int32.toUInt32 31)).toInt32 = _; rw [pk_ushrN (by omega) 8 8 (by decide), pk_ushrN (by omega) 1 1 (by decide), show (u / 2 ^ 8) / 2 ^ 1 = 0 by omega]; decide)) rfl
  · subst e
    refine z_bt (by show 0 < nI u; exact nI_lt (a := 0) (b := u) (by omega) (by omega)) ?_
    refine z_go ?_
    refine z_bt (by show nI u < 65536; exact nI_lt (a := u) (b := 65536) (by omega) (by omega)) ?_
    refine z_go ?_
    refine z_bf (by show ¬ nI u < 256; exact nI_nlt (a := u) (b := 256) (by omega) (by omega)) ?_
    refine z_bt (by show (Int32.toUInt32 (nI u) >>> (Int32.toUInt32 8 &&& Int32.toUInt32 31)).toInt32 < 16; rw [pk_ushrN (by omega) 8 8 (by decide)]; exact nI_lt (a := (u / 2 ^ 8)) (b := 16) (by omega) (by omega)) ?_
    refine z_go ?_
    refine z_bt (by show (Int32.toUInt32 (nI u) >>> (Int32.toUInt32 8 &&& Int32.toUInt32 31)).toInt32 < 4; rw [pk_ushrN (by omega) 8 8 (by decide)]; exact nI_lt (a := (u / 2 ^ 8)) (b := 4) (by omega) (by omega)) ?_
    refine z_go ?_
    exact z_re hret (z_vi (by show (31 + -8) - (Int32.toUInt32 ((Int32.toUInt32 (nI u) >>> (Int32.toUInt32 8 &&& Int32.toUInt32 31)).toInt32) >>> (Int32.toUInt32 1 &&& Int32.toUInt32 31)).toInt32 = _; rw [pk_ushrN (by omega) 8 8 (by decide), pk_ushrN (by omega) 1 1 (by decide), show (u / 2 ^ 8) / 2 ^ 1 = 1 by omega]; decide)) rfl
  · subst e
    refine z_bt (by show 0 < nI u; exact nI_lt (a := 0) (b := u) (by omega) (by omega)) ?_
    refine z_go ?_
    refine z_bt (by show nI u < 65536; exact nI_lt (a := u) (b := 65536) (by omega) (by omega)) ?_
    refine z_go ?_
    refine z_bf (by show ¬ nI u < 256; exact nI_nlt (a := u) (b := 256) (by omega) (by omega)) ?_
    refine z_bt (by show (Int32.toUInt32 (nI u) >>> (Int32.toUInt32 8 &&& Int32.toUInt32 31)).toInt32 < 16; rw [pk_ushrN (by omega) 8 8 (by decide)]; exact nI_lt (a := (u / 2 ^ 8)) (b := 16) (by omega) (by omega)) ?_
    refine z_go ?_
    refine z_bf (by show ¬ (Int32.toUInt32 (nI u) >>> (Int32.toUInt32 8 &&& Int32.toUInt32 31)).toInt32 < 4; rw [pk_ushrN (by omega) 8 8 (by decide)]; exact nI_nlt (a := (u / 2 ^ 8)) (b := 4) (by omega) (by omega)) ?_
    exact z_re hret (z_vi (by show ((31 + -8) + -2) - (Int32.toUInt32 ((Int32.toUInt32 ((Int32.toUInt32 (nI u) >>> (Int32.toUInt32 8 &&& Int32.toUInt32 31)).toInt32) >>> (Int32.toUInt32 2 &&& Int32.toUInt32 31)).toInt32) >>> (Int32.toUInt32 1 &&& Int32.toUInt32 31)).toInt32 = _; rw [pk_ushrN (by omega) 8 8 (by decide), pk_ushrN (by omega) 2 2 (by decide), pk_ushrN (by omega) 1 1 (by decide), show ((u / 2 ^ 8) / 2 ^ 2) / 2 ^ 1 = 0 by omega]; decide)) rfl
  · subst e
    refine z_bt (by show 0 < nI u; exact nI_lt (a := 0) (b := u) (by omega) (by omega)) ?_
    refine z_go ?_
    refine z_bt (by show nI u < 65536; exact nI_lt (a := u) (b := 65536) (by omega) (by omega)) ?_
    refine z_go ?_
    refine z_bf (by show ¬ nI u < 256; exact nI_nlt (a := u) (b := 256) (by omega) (by omega)) ?_
    refine z_bt (by show (Int32.toUInt32 (nI u) >>> (Int32.toUInt32 8 &&& Int32.toUInt32 31)).toInt32 < 16; rw [pk_ushrN (by omega) 8 8 (by decide)]; exact nI_lt (a := (u / 2 ^ 8)) (b := 16) (by omega) (by omega)) ?_
    refine z_go ?_
    refine z_bf (by show ¬ (Int32.toUInt32 (nI u) >>> (Int32.toUInt32 8 &&& Int32.toUInt32 31)).toInt32 < 4; rw [pk_ushrN (by omega) 8 8 (by decide)]; exact nI_nlt (a := (u / 2 ^ 8)) (b := 4) (by omega) (by omega)) ?_
    exact z_re hret (z_vi (by show ((31 + -8) + -2) - (Int32.toUInt32 ((Int32.toUInt32 ((Int32.toUInt32 (nI u) >>> (Int32.toUInt32 8 &&& Int32.toUInt32 31)).toInt32) >>> (Int32.toUInt32 2 &&& Int32.toUInt32 31)).toInt32) >>> (Int32.toUInt32 1 &&& Int32.toUInt32 31)).toInt32 = _; rw [pk_ushrN (by omega) 8 8 (by decide), pk_ushrN (by omega) 2 2 (by decide), pk_ushrN (by omega) 1 1 (by decide), show ((u / 2 ^ 8) / 2 ^ 2) / 2 ^ 1 = 1 by omega]; decide)) rfl
  · subst e
    refine z_bt (by show 0 < nI u; exact nI_lt (a := 0) (b := u) (by omega) (by omega)) ?_
    refine z_go ?_
    refine z_bt (by show nI u < 65536; exact nI_lt (a := u) (b := 65536) (by omega) (by omega)) ?_
    refine z_go ?_
    refine z_bf (by show ¬ nI u < 256; exact nI_nlt (a := u) (b := 256) (by omega) (by omega)) ?_
    refine z_bf (by show ¬ (Int32.toUInt32 (nI u) >>> (Int32.toUInt32 8 &&& Int32.toUInt32 31)).toInt32 < 16; rw [pk_ushrN (by omega) 8 8 (by decide)]; exact nI_nlt (a := (u / 2 ^ 8)) (b := 16) (by omega) (by omega)) ?_
    refine z_bt (by show (Int32.toUInt32 ((Int32.toUInt32 (nI u) >>> (Int32.toUInt32 8 &&& Int32.toUInt32 31)).toInt32) >>> (Int32.toUInt32 4 &&& Int32.toUInt32 31)).toInt32 < 4; rw [pk_ushrN (by omega) 8 8 (by decide), pk_ushrN (by omega) 4 4 (by decide)]; exact nI_lt (a := ((u / 2 ^ 8) / 2 ^ 4)) (b := 4) (by omega) (by omega)) ?_
    refine z_go ?_
    exact z_re hret (z_vi (by show ((31 + -8) + -4) - (Int32.toUInt32 ((Int32.toUInt32 ((Int32.toUInt32 (nI u) >>> (Int32.toUInt32 8 &&& Int32.toUInt32 31)).toInt32) >>> (Int32.toUInt32 4 &&& Int32.toUInt32 31)).toInt32) >>> (Int32.toUInt32 1 &&& Int32.toUInt32 31)).toInt32 = _; rw [pk_ushrN (by omega) 8 8 (by decide), pk_ushrN (by omega) 4 4 (by decide), pk_ushrN (by omega) 1 1 (by decide), show ((u / 2 ^ 8) / 2 ^ 4) / 2 ^ 1 = 0 by omega]; decide)) rfl
  · subst e
    refine z_bt (by show 0 < nI u; exact nI_lt (a := 0) (b := u) (by omega) (by omega)) ?_
    refine z_go ?_
    refine z_bt (by show nI u < 65536; exact nI_lt (a := u) (b := 65536) (by omega) (by omega)) ?_
    refine z_go ?_
    refine z_bf (by show ¬ nI u < 256; exact nI_nlt (a := u) (b := 256) (by omega) (by omega)) ?_
    refine z_bf (by show ¬ (Int32.toUInt32 (nI u) >>> (Int32.toUInt32 8 &&& Int32.toUInt32 31)).toInt32 < 16; rw [pk_ushrN (by omega) 8 8 (by decide)]; exact nI_nlt (a := (u / 2 ^ 8)) (b := 16) (by omega) (by omega)) ?_
    refine z_bt (by show (Int32.toUInt32 ((Int32.toUInt32 (nI u) >>> (Int32.toUInt32 8 &&& Int32.toUInt32 31)).toInt32) >>> (Int32.toUInt32 4 &&& Int32.toUInt32 31)).toInt32 < 4; rw [pk_ushrN (by omega) 8 8 (by decide), pk_ushrN (by omega) 4 4 (by decide)]; exact nI_lt (a := ((u / 2 ^ 8) / 2 ^ 4)) (b := 4) (by omega) (by omega)) ?_
    refine z_go ?_
    exact z_re hret (z_vi (by show ((31 + -8) + -4) - (Int32.toUInt32 ((Int32.toUInt32 ((Int32.toUInt32 (nI u) >>> (Int32.toUInt32 8 &&& Int32.toUInt32 31)).toInt32) >>> (Int32.toUInt32 4 &&& Int32.toUInt32 31)).toInt32) >>> (Int32.toUInt32 1 &&& Int32.toUInt32 31)).toInt32 = _; rw [pk_ushrN (by omega) 8 8 (by decide), pk_ushrN (by omega) 4 4 (by decide), pk_ushrN (by omega) 1 1 (by decide), show ((u / 2 ^ 8) / 2 ^ 4) / 2 ^ 1 = 1 by omega]; decide)) rfl
  · subst e
    refine z_bt (by show 0 < nI u; exact nI_lt (a := 0) (b := u) (by omega) (by omega)) ?_
    refine z_go ?_
    refine z_bt (by show nI u < 65536; exact nI_lt (a := u) (b := 65536) (by omega) (by omega)) ?_
    refine z_go ?_
    refine z_bf (by show ¬ nI u < 256; exact nI_nlt (a := u) (b := 256) (by omega) (by omega)) ?_
    refine z_bf (by show ¬ (Int32.toUInt32 (nI u) >>> (Int32.toUInt32 8 &&& Int32.toUInt32 31)).toInt32 < 16; rw [pk_ushrN (by omega) 8 8 (by decide)]; exact nI_nlt (a := (u / 2 ^ 8)) (b := 16) (by omega) (by omega)) ?_
    refine z_bf (by show ¬ (Int32.toUInt32 ((Int32.toUInt32 (nI u) >>> (Int32.toUInt32 8 &&& Int32.toUInt32 31)).toInt32) >>> (Int32.toUInt32 4 &&& Int32.toUInt32 31)).toInt32 < 4; rw [pk_ushrN (by omega) 8 8 (by decide), pk_ushrN (by omega) 4 4 (by decide)]; exact nI_nlt (a := ((u / 2 ^ 8) / 2 ^ 4)) (b := 4) (by omega) (by omega)) ?_
    exact z_re hret (z_vi (by show (((31 + -8) + -4) + -2) - (Int32.toUInt32 ((Int32.toUInt32 ((Int32.toUInt32 ((Int32.toUInt32 (nI u) >>> (Int32.toUInt32 8 &&& Int32.toUInt32 31)).toInt32) >>> (Int32.toUInt32 4 &&& Int32.toUInt32 31)).toInt32) >>> (Int32.toUInt32 2 &&& Int32.toUInt32 31)).toInt32) >>> (Int32.toUInt32 1 &&& Int32.toUInt32 31)).toInt32 = _; rw [pk_ushrN (by omega) 8 8 (by decide), pk_ushrN (by omega) 4 4 (by decide), pk_ushrN (by omega) 2 2 (by decide), pk_ushrN (by omega) 1 1 (by decide), show (((u / 2 ^ 8) / 2 ^ 4) / 2 ^ 2) / 2 ^ 1 = 0 by omega]; decide)) rfl
  · subst e
    refine z_bt (by show 0 < nI u; exact nI_lt (a := 0) (b := u) (by omega) (by omega)) ?_
    refine z_go ?_
    refine z_bt (by show nI u < 65536; exact nI_lt (a := u) (b := 65536) (by omega) (by omega)) ?_
    refine z_go ?_
    refine z_bf (by show ¬ nI u < 256; exact nI_nlt (a := u) (b := 256) (by omega) (by omega)) ?_
    refine z_bf (by show ¬ (Int32.toUInt32 (nI u) >>> (Int32.toUInt32 8 &&& Int32.toUInt32 31)).toInt32 < 16; rw [pk_ushrN (by omega) 8 8 (by decide)]; exact nI_nlt (a := (u / 2 ^ 8)) (b := 16) (by omega) (by omega)) ?_
    refine z_bf (by show ¬ (Int32.toUInt32 ((Int32.toUInt32 (nI u) >>> (Int32.toUInt32 8 &&& Int32.toUInt32 31)).toInt32) >>> (Int32.toUInt32 4 &&& Int32.toUInt32 31)).toInt32 < 4; rw [pk_ushrN (by omega) 8 8 (by decide), pk_ushrN (by omega) 4 4 (by decide)]; exact nI_nlt (a := ((u / 2 ^ 8) / 2 ^ 4)) (b := 4) (by omega) (by omega)) ?_
    exact z_re hret (z_vi (by show (((31 + -8) + -4) + -2) - (Int32.toUInt32 ((Int32.toUInt32 ((Int32.toUInt32 ((Int32.toUInt32 (nI u) >>> (Int32.toUInt32 8 &&& Int32.toUInt32 31)).toInt32) >>> (Int32.toUInt32 4 &&& Int32.toUInt32 31)).toInt32) >>> (Int32.toUInt32 2 &&& Int32.toUInt32 31)).toInt32) >>> (Int32.toUInt32 1 &&& Int32.toUInt32 31)).toInt32 = _; rw [pk_ushrN (by omega) 8 8 (by decide), pk_ushrN (by omega) 4 4 (by decide), pk_ushrN (by omega) 2 2 (by decide), pk_ushrN (by omega) 1 1 (by decide), show (((u / 2 ^ 8) / 2 ^ 4) / 2 ^ 2) / 2 ^ 1 = 1 by omega]; decide)) rfl
  · subst e
    refine z_bt (by show 0 < nI u; exact nI_lt (a := 0) (b := u) (by omega) (by omega)) ?_
    refine z_go ?_
    refine z_bf (by show ¬ nI u < 65536; exact nI_nlt (a := u) (b := 65536) (by omega) (by omega)) ?_
    refine z_bt (by show (Int32.toUInt32 (nI u) >>> (Int32.toUInt32 16 &&& Int32.toUInt32 31)).toInt32 < 256; rw [pk_ushrN (by omega) 16 16 (by decide)]; exact nI_lt (a := (u / 2 ^ 16)) (b := 256) (by omega) (by omega)) ?_
    refine z_go ?_
    refine z_bt (by show (Int32.toUInt32 (nI u) >>> (Int32.toUInt32 16 &&& Int32.toUInt32 31)).toInt32 < 16; rw [pk_ushrN (by omega) 16 16 (by decide)]; exact nI_lt (a := (u / 2 ^ 16)) (b := 16) (by omega) (by omega)) ?_
    refine z_go ?_
    refine z_bt (by show (Int32.toUInt32 (nI u) >>> (Int32.toUInt32 16 &&& Int32.toUInt32 31)).toInt32 < 4; rw [pk_ushrN (by omega) 16 16 (by decide)]; exact nI_lt (a := (u / 2 ^ 16)) (b := 4) (by omega) (by omega)) ?_
    refine z_go ?_
    exact z_re hret (z_vi (by show (31 + -16) - (Int32.toUInt32 ((Int32.toUInt32 (nI u) >>> (Int32.toUInt32 16 &&& Int32.toUInt32 31)).toInt32) >>> (Int32.toUInt32 1 &&& Int32.toUInt32 31)).toInt32 = _; rw [pk_ushrN (by omega) 16 16 (by decide), pk_ushrN (by omega) 1 1 (by decide), show (u / 2 ^ 16) / 2 ^ 1 = 0 by omega]; decide)) rfl
  · subst e
    refine z_bt (by show 0 < nI u; exact nI_lt (a := 0) (b := u) (by omega) (by omega)) ?_
    refine z_go ?_
    refine z_bf (by show ¬ nI u < 65536; exact nI_nlt (a := u) (b := 65536) (by omega) (by omega)) ?_
    refine z_bt (by show (Int32.toUInt32 (nI u) >>> (Int32.toUInt32 16 &&& Int32.toUInt32 31)).toInt32 < 256; rw [pk_ushrN (by omega) 16 16 (by decide)]; exact nI_lt (a := (u / 2 ^ 16)) (b := 256) (by omega) (by omega)) ?_
    refine z_go ?_
    refine z_bt (by show (Int32.toUInt32 (nI u) >>> (Int32.toUInt32 16 &&& Int32.toUInt32 31)).toInt32 < 16; rw [pk_ushrN (by omega) 16 16 (by decide)]; exact nI_lt (a := (u / 2 ^ 16)) (b := 16) (by omega) (by omega)) ?_
    refine z_go ?_
    refine z_bt (by show (Int32.toUInt32 (nI u) >>> (Int32.toUInt32 16 &&& Int32.toUInt32 31)).toInt32 < 4; rw [pk_ushrN (by omega) 16 16 (by decide)]; exact nI_lt (a := (u / 2 ^ 16)) (b := 4) (by omega) (by omega)) ?_
    refine z_go ?_
    exact z_re hret (z_vi (by show (31 + -16) - (Int32.toUInt32 ((Int32.toUInt32 (nI u) >>> (Int32.toUInt32 16 &&& Int32.toUInt32 31)).toInt32) >>> (Int32.toUInt32 1 &&& Int32.toUInt32 31)).toInt32 = _; rw [pk_ushrN (by omega) 16 16 (by decide), pk_ushrN (by omega) 1 1 (by decide), show (u / 2 ^ 16) / 2 ^ 1 = 1 by omega]; decide)) rfl
  · subst e
    refine z_bt (by show 0 < nI u; exact nI_lt (a := 0) (b := u) (by omega) (by omega)) ?_
    refine z_go ?_
    refine z_bf (by show ¬ nI u < 65536; exact nI_nlt (a := u) (b := 65536) (by omega) (by omega)) ?_
    refine z_bt (by show (Int32.toUInt32 (nI u) >>> (Int32.toUInt32 16 &&& Int32.toUInt32 31)).toInt32 < 256; rw [pk_ushrN (by omega) 16 16 (by decide)]; exact nI_lt (a := (u / 2 ^ 16)) (b := 256) (by omega) (by omega)) ?_
    refine z_go ?_
    refine z_bt (by show (Int32.toUInt32 (nI u) >>> (Int32.toUInt32 16 &&& Int32.toUInt32 31)).toInt32 < 16; rw [pk_ushrN (by omega) 16 16 (by decide)]; exact nI_lt (a := (u / 2 ^ 16)) (b := 16) (by omega) (by omega)) ?_
    refine z_go ?_
    refine z_bf (by show ¬ (Int32.toUInt32 (nI u) >>> (Int32.toUInt32 16 &&& Int32.toUInt32 31)).toInt32 < 4; rw [pk_ushrN (by omega) 16 16 (by decide)]; exact nI_nlt (a := (u / 2 ^ 16)) (b := 4) (by omega) (by omega)) ?_
    exact z_re hret (z_vi (by show ((31 + -16) + -2) - (Int32.toUInt32 ((Int32.toUInt32 ((Int32.toUInt32 (nI u) >>> (Int32.toUInt32 16 &&& Int32.toUInt32 31)).toInt32) >>> (Int32.toUInt32 2 &&& Int32.toUInt32 31)).toInt32) >>> (Int32.toUInt32 1 &&& Int32.toUInt32 31)).toInt32 = _; rw [pk_ushrN (by omega) 16 16 (by decide), pk_ushrN (by omega) 2 2 (by decide), pk_ushrN (by omega) 1 1 (by decide), show ((u / 2 ^ 16) / 2 ^ 2) / 2 ^ 1 = 0 by omega]; decide)) rfl
  · subst e
    refine z_bt (by show 0 < nI u; exact nI_lt (a := 0) (b := u) (by omega) (by omega)) ?_
    refine z_go ?_
    refine z_bf (by show ¬ nI u < 65536; exact nI_nlt (a := u) (b := 65536) (by omega) (by omega)) ?_
    refine z_bt (by show (Int32.toUInt32 (nI u) >>> (Int32.toUInt32 16 &&& Int32.toUInt32 31)).toInt32 < 256; rw [pk_ushrN (by omega) 16 16 (by decide)]; exact nI_lt (a := (u / 2 ^ 16)) (b := 256) (by omega) (by omega)) ?_
    refine z_go ?_
    refine z_bt (by show (Int32.toUInt32 (nI u) >>> (Int32.toUInt32 16 &&& Int32.toUInt32 31)).toInt32 < 16; rw [pk_ushrN (by omega) 16 16 (by decide)]; exact nI_lt (a := (u / 2 ^ 16)) (b := 16) (by omega) (by omega)) ?_
    refine z_go ?_
    refine z_bf (by show ¬ (Int32.toUInt32 (nI u) >>> (Int32.toUInt32 16 &&& Int32.toUInt32 31)).toInt32 < 4; rw [pk_ushrN (by omega) 16 16 (by decide)]; exact nI_nlt (a := (u / 2 ^ 16)) (b := 4) (by omega) (by omega)) ?_
    exact z_re hret (z_vi (by show ((31 + -16) + -2) - (Int32.toUInt32 ((Int32.toUInt32 ((Int32.toUInt32 (nI u) >>> (Int32.toUInt32 16 &&& Int32.toUInt32 31)).toInt32) >>> (Int32.toUInt32 2 &&& Int32.toUInt32 31)).toInt32) >>> (Int32.toUInt32 1 &&& Int32.toUInt32 31)).toInt32 = _; rw [pk_ushrN (by omega) 16 16 (by decide), pk_ushrN (by omega) 2 2 (by decide), pk_ushrN (by omega) 1 1 (by decide), show ((u / 2 ^ 16) / 2 ^ 2) / 2 ^ 1 = 1 by omega]; decide)) rfl
  · subst e
    refine z_bt (by show 0 < nI u; exact nI_lt (a := 0) (b := u) (by omega) (by omega)) ?_
    refine z_go ?_
    refine z_bf (by show ¬ nI u < 65536; exact nI_nlt (a := u) (b := 65536) (by omega) (by omega)) ?_
    refine z_bt (by show (Int32.toUInt32 (nI u) >>> (Int32.toUInt32 16 &&& Int32.toUInt32 31)).toInt32 < 256; rw [pk_ushrN (by omega) 16 16 (by decide)]; exact nI_lt (a := (u / 2 ^ 16)) (b := 256) (by omega) (by omega)) ?_
    refine z_go ?_
    refine z_bf (by show ¬ (Int32.toUInt32 (nI u) >>> (Int32.toUInt32 16 &&& Int32.toUInt32 31)).toInt32 < 16; rw [pk_ushrN (by omega) 16 16 (by decide)]; exact nI_nlt (a := (u / 2 ^ 16)) (b := 16) (by omega) (by omega)) ?_
    refine z_bt (by show (Int32.toUInt32 ((Int32.toUInt32 (nI u) >>> (Int32.toUInt32 16 &&& Int32.toUInt32 31)).toInt32) >>> (Int32.toUInt32 4 &&& Int32.toUInt32 31)).toInt32 < 4; rw [pk_ushrN (by omega) 16 16 (by decide), pk_ushrN (by omega) 4 4 (by decide)]; exact nI_lt (a := ((u / 2 ^ 16) / 2 ^ 4)) (b := 4) (by omega) (by omega)) ?_
    refine z_go ?_
    exact z_re hret (z_vi (by show ((31 + -16) + -4) - (Int32.toUInt32 ((Int32.toUInt32 ((Int32.toUInt32 (nI u) >>> (Int32.toUInt32 16 &&& Int32.toUInt32 31)).toInt32) >>> (Int32.toUInt32 4 &&& Int32.toUInt32 31)).toInt32) >>> (Int32.toUInt32 1 &&& Int32.toUInt32 31)).toInt32 = _; rw [pk_ushrN (by omega) 16 16 (by decide), pk_ushrN (by omega) 4 4 (by decide), pk_ushrN (by omega) 1 1 (by decide), show ((u / 2 ^ 16) / 2 ^ 4) / 2 ^ 1 = 0 by omega]; decide)) rfl
  · subst e
    refine z_bt (by show 0 < nI u; exact nI_lt (a := 0) (b := u) (by omega) (by omega)) ?_
    refine z_go ?_
    refine z_bf (by show ¬ nI u < 65536; exact nI_nlt (a := u) (b := 65536) (by omega) (by omega)) ?_
    refine z_bt (by show (Int32.toUInt32 (nI u) >>> (Int32.toUInt32 16 &&& Int32.toUInt32 31)).toInt32 < 256; rw [pk_ushrN (by omega) 16 16 (by decide)]; exact nI_lt (a := (u / 2 ^ 16)) (b := 256) (by omega) (by omega)) ?_
    refine z_go ?_
    refine z_bf (by show ¬ (Int32.toUInt32 (nI u) >>> (Int32.toUInt32 16 &&& Int32.toUInt32 31)).toInt32 < 16; rw [pk_ushrN (by omega) 16 16 (by decide)]; exact nI_nlt (a := (u / 2 ^ 16)) (b := 16) (by omega) (by omega)) ?_
    refine z_bt (by show (Int32.toUInt32 ((Int32.toUInt32 (nI u) >>> (Int32.toUInt32 16 &&& Int32.toUInt32 31)).toInt32) >>> (Int32.toUInt32 4 &&& Int32.toUInt32 31)).toInt32 < 4; rw [pk_ushrN (by omega) 16 16 (by decide), pk_ushrN (by omega) 4 4 (by decide)]; exact nI_lt (a := ((u / 2 ^ 16) / 2 ^ 4)) (b := 4) (by omega) (by omega)) ?_
    refine z_go ?_
    exact z_re hret (z_vi (by show ((31 + -16) + -4) - (Int32.toUInt32 ((Int32.toUInt32 ((Int32.toUInt32 (nI u) >>> (Int32.toUInt32 16 &&& Int32.toUInt32 31)).toInt32) >>> (Int32.toUInt32 4 &&& Int32.toUInt32 31)).toInt32) >>> (Int32.toUInt32 1 &&& Int32.toUInt32 31)).toInt32 = _; rw [pk_ushrN (by omega) 16 16 (by decide), pk_ushrN (by omega) 4 4 (by decide), pk_ushrN (by omega) 1 1 (by decide), show ((u / 2 ^ 16) / 2 ^ 4) / 2 ^ 1 = 1 by omega]; decide)) rfl
  · subst e
    refine z_bt (by show 0 < nI u; exact nI_lt (a := 0) (b := u) (by omega) (by omega)) ?_
    refine z_go ?_
    refine z_bf (by show ¬ nI u < 65536; exact nI_nlt (a := u) (b := 65536) (by omega) (by omega)) ?_
    refine z_bt (by show (Int32.toUInt32 (nI u) >>> (Int32.toUInt32 16 &&& Int32.toUInt32 31)).toInt32 < 256; rw [pk_ushrN (by omega) 16 16 (by decide)]; exact nI_lt (a := (u / 2 ^ 16)) (b := 256) (by omega) (by omega)) ?_
    refine z_go ?_
    refine z_bf (by show ¬ (Int32.toUInt32 (nI u) >>> (Int32.toUInt32 16 &&& Int32.toUInt32 31)).toInt32 < 16; rw [pk_ushrN (by omega) 16 16 (by decide)]; exact nI_nlt (a := (u / 2 ^ 16)) (b := 16) (by omega) (by omega)) ?_
    refine z_bf (by show ¬ (Int32.toUInt32 ((Int32.toUInt32 (nI u) >>> (Int32.toUInt32 16 &&& Int32.toUInt32 31)).toInt32) >>> (Int32.toUInt32 4 &&& Int32.toUInt32 31)).toInt32 < 4; rw [pk_ushrN (by omega) 16 16 (by decide), pk_ushrN (by omega) 4 4 (by decide)]; exact nI_nlt (a := ((u / 2 ^ 16) / 2 ^ 4)) (b := 4) (by omega) (by omega)) ?_
    exact z_re hret (z_vi (by show (((31 + -16) + -4) + -2) - (Int32.toUInt32 ((Int32.toUInt32 ((Int32.toUInt32 ((Int32.toUInt32 (nI u) >>> (Int32.toUInt32 16 &&& Int32.toUInt32 31)).toInt32) >>> (Int32.toUInt32 4 &&& Int32.toUInt32 31)).toInt32) >>> (Int32.toUInt32 2 &&& Int32.toUInt32 31)).toInt32) >>> (Int32.toUInt32 1 &&& Int32.toUInt32 31)).toInt32 = _; rw [pk_ushrN (by omega) 16 16 (by decide), pk_ushrN (by omega) 4 4 (by decide), pk_ushrN (by omega) 2 2 (by decide), pk_ushrN (by omega) 1 1 (by decide), show (((u / 2 ^ 16) / 2 ^ 4) / 2 ^ 2) / 2 ^ 1 = 0 by omega]; decide)) rfl
  · subst e
    refine z_bt (by show 0 < nI u; exact nI_lt (a := 0) (b := u) (by omega) (by omega)) ?_
    refine z_go ?_
    refine z_bf (by show ¬ nI u < 65536; exact nI_nlt (a := u) (b := 65536) (by omega) (by omega)) ?_
    refine z_bt (by show (Int32.toUInt32 (nI u) >>> (Int32.toUInt32 16 &&& Int32.toUInt32 31)).toInt32 < 256; rw [pk_ushrN (by omega) 16 16 (by decide)]; exact nI_lt (a := (u / 2 ^ 16)) (b := 256) (by omega) (by omega)) ?_
    refine z_go ?_
    refine z_bf (by show ¬ (Int32.toUInt32 (nI u) >>> (Int32.toUInt32 16 &&& Int32.toUInt32 31)).toInt32 < 16; rw [pk_ushrN (by omega) 16 16 (by decide)]; exact nI_nlt (a := (u / 2 ^ 16)) (b := 16) (by omega) (by omega)) ?_
    refine z_bf (by show ¬ (Int32.toUInt32 ((Int32.toUInt32 (nI u) >>> (Int32.toUInt32 16 &&& Int32.toUInt32 31)).toInt32) >>> (Int32.toUInt32 4 &&& Int32.toUInt32 31)).toInt32 < 4; rw [pk_ushrN (by omega) 16 16 (by decide), pk_ushrN (by omega) 4 4 (by decide)]; exact nI_nlt (a := ((u / 2 ^ 16) / 2 ^ 4)) (b := 4) (by omega) (by omega)) ?_
    exact z_re hret (z_vi (by show (((31 + -16) + -4) + -2) - (Int32.toUInt32 ((Int32.toUInt32 ((Int32.toUInt32 ((Int32.toUInt32 (nI u) >>> (Int32.toUInt32 16 &&& Int32.toUInt32 31)).toInt32) >>> (Int32.toUInt32 4 &&& Int32.toUInt32 31)).toInt32) >>> (Int32.toUInt32 2 &&& Int32.toUInt32 31)).toInt32) >>> (Int32.toUInt32 1 &&& Int32.toUInt32 31)).toInt32 = _; rw [pk_ushrN (by omega) 16 16 (by decide), pk_ushrN (by omega) 4 4 (by decide), pk_ushrN (by omega) 2 2 (by decide), pk_ushrN (by omega) 1 1 (by decide), show (((u / 2 ^ 16) / 2 ^ 4) / 2 ^ 2) / 2 ^ 1 = 1 by omega]; decide)) rfl
  · subst e
    refine z_bt (by show 0 < nI u; exact nI_lt (a := 0) (b := u) (by omega) (by omega)) ?_
    refine z_go ?_
    refine z_bf (by show ¬ nI u < 65536; exact nI_nlt (a := u) (b := 65536) (by omega) (by omega)) ?_
    refine z_bf (by show ¬ (Int32.toUInt32 (nI u) >>> (Int32.toUInt32 16 &&& Int32.toUInt32 31)).toInt32 < 256; rw [pk_ushrN (by omega) 16 16 (by decide)]; exact nI_nlt (a := (u / 2 ^ 16)) (b := 256) (by omega) (by omega)) ?_
    refine z_bt (by show (Int32.toUInt32 ((Int32.toUInt32 (nI u) >>> (Int32.toUInt32 16 &&& Int32.toUInt32 31)).toInt32) >>> (Int32.toUInt32 8 &&& Int32.toUInt32 31)).toInt32 < 16; rw [pk_ushrN (by omega) 16 16 (by decide), pk_ushrN (by omega) 8 8 (by decide)]; exact nI_lt (a := ((u / 2 ^ 16) / 2 ^ 8)) (b := 16) (by omega) (by omega)) ?_
    refine z_go ?_
    refine z_bt (by show (Int32.toUInt32 ((Int32.toUInt32 (nI u) >>> (Int32.toUInt32 16 &&& Int32.toUInt32 31)).toInt32) >>> (Int32.toUInt32 8 &&& Int32.toUInt32 31)).toInt32 < 4; rw [pk_ushrN (by omega) 16 16 (by decide), pk_ushrN (by omega) 8 8 (by decide)]; exact nI_lt (a := ((u / 2 ^ 16) / 2 ^ 8)) (b := 4) (by omega) (by omega)) ?_
    refine z_go ?_
    exact z_re hret (z_vi (by show ((31 + -16) + -8) - (Int32.toUInt32 ((Int32.toUInt32 ((Int32.toUInt32 (nI u) >>> (Int32.toUInt32 16 &&& Int32.toUInt32 31)).toInt32) >>> (Int32.toUInt32 8 &&& Int32.toUInt32 31)).toInt32) >>> (Int32.toUInt32 1 &&& Int32.toUInt32 31)).toInt32 = _; rw [pk_ushrN (by omega) 16 16 (by decide), pk_ushrN (by omega) 8 8 (by decide), pk_ushrN (by omega) 1 1 (by decide), show ((u / 2 ^ 16) / 2 ^ 8) / 2 ^ 1 = 0 by omega]; decide)) rfl
  · subst e
    refine z_bt (by show 0 < nI u; exact nI_lt (a := 0) (b := u) (by omega) (by omega)) ?_
    refine z_go ?_
    refine z_bf (by show ¬ nI u < 65536; exact nI_nlt (a := u) (b := 65536) (by omega) (by omega)) ?_
    refine z_bf (by show ¬ (Int32.toUInt32 (nI u) >>> (Int32.toUInt32 16 &&& Int32.toUInt32 31)).toInt32 < 256; rw [pk_ushrN (by omega) 16 16 (by decide)]; exact nI_nlt (a := (u / 2 ^ 16)) (b := 256) (by omega) (by omega)) ?_
    refine z_bt (by show (Int32.toUInt32 ((Int32.toUInt32 (nI u) >>> (Int32.toUInt32 16 &&& Int32.toUInt32 31)).toInt32) >>> (Int32.toUInt32 8 &&& Int32.toUInt32 31)).toInt32 < 16; rw [pk_ushrN (by omega) 16 16 (by decide), pk_ushrN (by omega) 8 8 (by decide)]; exact nI_lt (a := ((u / 2 ^ 16) / 2 ^ 8)) (b := 16) (by omega) (by omega)) ?_
    refine z_go ?_
    refine z_bt (by show (Int32.toUInt32 ((Int32.toUInt32 (nI u) >>> (Int32.toUInt32 16 &&& Int32.toUInt32 31)).toInt32) >>> (Int32.toUInt32 8 &&& Int32.toUInt32 31)).toInt32 < 4; rw [pk_ushrN (by omega) 16 16 (by decide), pk_ushrN (by omega) 8 8 (by decide)]; exact nI_lt (a := ((u / 2 ^ 16) / 2 ^ 8)) (b := 4) (by omega) (by omega)) ?_
    refine z_go ?_
    exact z_re hret (z_vi (by show ((31 + -16) + -8) - (Int32.toUInt32 ((Int32.toUInt32 ((Int32.toUInt32 (nI u) >>> (Int32.toUInt32 16 &&& Int32.toUInt32 31)).toInt32) >>> (Int32.toUInt32 8 &&& Int32.toUInt32 31)).toInt32) >>> (Int32.toUInt32 1 &&& Int32.toUInt32 31)).toInt32 = _; rw [pk_ushrN (by omega) 16 16 (by decide), pk_ushrN (by omega) 8 8 (by decide), pk_ushrN (by omega) 1 1 (by decide), show ((u / 2 ^ 16) / 2 ^ 8) / 2 ^ 1 = 1 by omega]; decide)) rfl
  · subst e
    refine z_bt (by show 0 < nI u; exact nI_lt (a := 0) (b := u) (by omega) (by omega)) ?_
    refine z_go ?_
    refine z_bf (by show ¬ nI u < 65536; exact nI_nlt (a := u) (b := 65536) (by omega) (by omega)) ?_
    refine z_bf (by show ¬ (Int32.toUInt32 (nI u) >>> (Int32.toUInt32 16 &&& Int32.toUInt32 31)).toInt32 < 256; rw [pk_ushrN (by omega) 16 16 (by decide)]; exact nI_nlt (a := (u / 2 ^ 16)) (b := 256) (by omega) (by omega)) ?_
    refine z_bt (by show (Int32.toUInt32 ((Int32.toUInt32 (nI u) >>> (Int32.toUInt32 16 &&& Int32.toUInt32 31)).toInt32) >>> (Int32.toUInt32 8 &&& Int32.toUInt32 31)).toInt32 < 16; rw [pk_ushrN (by omega) 16 16 (by decide), pk_ushrN (by omega) 8 8 (by decide)]; exact nI_lt (a := ((u / 2 ^ 16) / 2 ^ 8)) (b := 16) (by omega) (by omega)) ?_
    refine z_go ?_
    refine z_bf (by show ¬ (Int32.toUInt32 ((Int32.toUInt32 (nI u) >>> (Int32.toUInt32 16 &&& Int32.toUInt32 31)).toInt32) >>> (Int32.toUInt32 8 &&& Int32.toUInt32 31)).toInt32 < 4; rw [pk_ushrN (by omega) 16 16 (by decide), pk_ushrN (by omega) 8 8 (by decide)]; exact nI_nlt (a := ((u / 2 ^ 16) / 2 ^ 8)) (b := 4) (by omega) (by omega)) ?_
    exact z_re hret (z_vi (by show (((31 + -16) + -8) + -2) - (Int32.toUInt32 ((Int32.toUInt32 ((Int32.toUInt32 ((Int32.toUInt32 (nI u) >>> (Int32.toUInt32 16 &&& Int32.toUInt32 31)).toInt32) >>> (Int32.toUInt32 8 &&& Int32.toUInt32 31)).toInt32) >>> (Int32.toUInt32 2 &&& Int32.toUInt32 31)).toInt32) >>> (Int32.toUInt32 1 &&& Int32.toUInt32 31)).toInt32 = _; rw [pk_ushrN (by omega) 16 16 (by decide), pk_ushrN (by omega) 8 8 (by decide), pk_ushrN (by omega) 2 2 (by decide), pk_ushrN (by omega) 1 1 (by decide), show (((u / 2 ^ 16) / 2 ^ 8) / 2 ^ 2) / 2 ^ 1 = 0 by omega]; decide)) rfl
  · subst e
    refine z_bt (by show 0 < nI u; exact nI_lt (a := 0) (b := u) (by omega) (by omega)) ?_
    refine z_go ?_
    refine z_bf (by show ¬ nI u < 65536; exact nI_nlt (a := u) (b := 65536) (by omega) (by omega)) ?_
    refine z_bf (by show ¬ (Int32.toUInt32 (nI u) >>> (Int32.toUInt32 16 &&& Int32.toUInt32 31)).toInt32 < 256; rw [pk_ushrN (by omega) 16 16 (by decide)]; exact nI_nlt (a := (u / 2 ^ 16)) (b := 256) (by omega) (by omega)) ?_
    refine z_bt (by show (Int32.toUInt32 ((Int32.toUInt32 (nI u) >>> (Int32.toUInt32 16 &&& Int32.toUInt32 31)).toInt32) >>> (Int32.toUInt32 8 &&& Int32.toUInt32 31)).toInt32 < 16; rw [pk_ushrN (by omega) 16 16 (by decide), pk_ushrN (by omega) 8 8 (by decide)]; exact nI_lt (a := ((u / 2 ^ 16) / 2 ^ 8)) (b := 16) (by omega) (by omega)) ?_
    refine z_go ?_
    refine z_bf (by show ¬ (Int32.toUInt32 ((Int32.toUInt32 (nI u) >>> (Int32.toUInt32 16 &&& Int32.toUInt32 31)).toInt32) >>> (Int32.toUInt32 8 &&& Int32.toUInt32 31)).toInt32 < 4; rw [pk_ushrN (by omega) 16 16 (by decide), pk_ushrN (by omega) 8 8 (by decide)]; exact nI_nlt (a := ((u / 2 ^ 16) / 2 ^ 8)) (b := 4) (by omega) (by omega)) ?_
    exact z_re hret (z_vi (by show (((31 + -16) + -8) + -2) - (Int32.toUInt32 ((Int32.toUInt32 ((Int32.toUInt32 ((Int32.toUInt32 (nI u) >>> (Int32.toUInt32 16 &&& Int32.toUInt32 31)).toInt32) >>> (Int32.toUInt32 8 &&& Int32.toUInt32 31)).toInt32) >>> (Int32.toUInt32 2 &&& Int32.toUInt32 31)).toInt32) >>> (Int32.toUInt32 1 &&& Int32.toUInt32 31)).toInt32 = _; rw [pk_ushrN (by omega) 16 16 (by decide), pk_ushrN (by omega) 8 8 (by decide), pk_ushrN (by omega) 2 2 (by decide), pk_ushrN (by omega) 1 1 (by decide), show (((u / 2 ^ 16) / 2 ^ 8) / 2 ^ 2) / 2 ^ 1 = 1 by omega]; decide)) rfl
  · subst e
    refine z_bt (by show 0 < nI u; exact nI_lt (a := 0) (b := u) (by omega) (by omega)) ?_
    refine z_go ?_
    refine z_bf (by show ¬ nI u < 65536; exact nI_nlt (a := u) (b := 65536) (by omega) (by omega)) ?_
    refine z_bf (by show ¬ (Int32.toUInt32 (nI u) >>> (Int32.toUInt32 16 &&& Int32.toUInt32 31)).toInt32 < 256; rw [pk_ushrN (by omega) 16 16 (by decide)]; exact nI_nlt (a := (u / 2 ^ 16)) (b := 256) (by omega) (by omega)) ?_
    refine z_bf (by show ¬ (Int32.toUInt32 ((Int32.toUInt32 (nI u) >>> (Int32.toUInt32 16 &&& Int32.toUInt32 31)).toInt32) >>> (Int32.toUInt32 8 &&& Int32.toUInt32 31)).toInt32 < 16; rw [pk_ushrN (by omega) 16 16 (by decide), pk_ushrN (by omega) 8 8 (by decide)]; exact nI_nlt (a := ((u / 2 ^ 16) / 2 ^ 8)) (b := 16) (by omega) (by omega)) ?_
    refine z_bt (by show (Int32.toUInt32 ((Int32.toUInt32 ((Int32.toUInt32 (nI u) >>> (Int32.toUInt32 16 &&& Int32.toUInt32 31)).toInt32) >>> (Int32.toUInt32 8 &&& Int32.toUInt32 31)).toInt32) >>> (Int32.toUInt32 4 &&& Int32.toUInt32 31)).toInt32 < 4; rw [pk_ushrN (by omega) 16 16 (by decide), pk_ushrN (by omega) 8 8 (by decide), pk_ushrN (by omega) 4 4 (by decide)]; exact nI_lt (a := (((u / 2 ^ 16) / 2 ^ 8) / 2 ^ 4)) (b := 4) (by omega) (by omega)) ?_
    refine z_go ?_
    exact z_re hret (z_vi (by show (((31 + -16) + -8) + -4) - (Int32.toUInt32 ((Int32.toUInt32 ((Int32.toUInt32 ((Int32.toUInt32 (nI u) >>> (Int32.toUInt32 16 &&& Int32.toUInt32 31)).toInt32) >>> (Int32.toUInt32 8 &&& Int32.toUInt32 31)).toInt32) >>> (Int32.toUInt32 4 &&& Int32.toUInt32 31)).toInt32) >>> (Int32.toUInt32 1 &&& Int32.toUInt32 31)).toInt32 = _; rw [pk_ushrN (by omega) 16 16 (by decide), pk_ushrN (by omega) 8 8 (by decide), pk_ushrN (by omega) 4 4 (by decide), pk_ushrN (by omega) 1 1 (by decide), show (((u / 2 ^ 16) / 2 ^ 8) / 2 ^ 4) / 2 ^ 1 = 0 by omega]; decide)) rfl
  · subst e
    refine z_bt (by show 0 < nI u; exact nI_lt (a := 0) (b := u) (by omega) (by omega)) ?_
    refine z_go ?_
    refine z_bf (by show ¬ nI u < 65536; exact nI_nlt (a := u) (b := 65536) (by omega) (by omega)) ?_
    refine z_bf (by show ¬ (Int32.toUInt32 (nI u) >>> (Int32.toUInt32 16 &&& Int32.toUInt32 31)).toInt32 < 256; rw [pk_ushrN (by omega) 16 16 (by decide)]; exact nI_nlt (a := (u / 2 ^ 16)) (b := 256) (by omega) (by omega)) ?_
    refine z_bf (by show ¬ (Int32.toUInt32 ((Int32.toUInt32 (nI u) >>> (Int32.toUInt32 16 &&& Int32.toUInt32 31)).toInt32) >>> (Int32.toUInt32 8 &&& Int32.toUInt32 31)).toInt32 < 16; rw [pk_ushrN (by omega) 16 16 (by decide), pk_ushrN (by omega) 8 8 (by decide)]; exact nI_nlt (a := ((u / 2 ^ 16) / 2 ^ 8)) (b := 16) (by omega) (by omega)) ?_
    refine z_bt (by show (Int32.toUInt32 ((Int32.toUInt32 ((Int32.toUInt32 (nI u) >>> (Int32.toUInt32 16 &&& Int32.toUInt32 31)).toInt32) >>> (Int32.toUInt32 8 &&& Int32.toUInt32 31)).toInt32) >>> (Int32.toUInt32 4 &&& Int32.toUInt32 31)).toInt32 < 4; rw [pk_ushrN (by omega) 16 16 (by decide), pk_ushrN (by omega) 8 8 (by decide), pk_ushrN (by omega) 4 4 (by decide)]; exact nI_lt (a := (((u / 2 ^ 16) / 2 ^ 8) / 2 ^ 4)) (b := 4) (by omega) (by omega)) ?_
    refine z_go ?_
    exact z_re hret (z_vi (by show (((31 + -16) + -8) + -4) - (Int32.toUInt32 ((Int32.toUInt32 ((Int32.toUInt32 ((Int32.toUInt32 (nI u) >>> (Int32.toUInt32 16 &&& Int32.toUInt32 31)).toInt32) >>> (Int32.toUInt32 8 &&& Int32.toUInt32 31)).toInt32) >>> (Int32.toUInt32 4 &&& Int32.toUInt32 31)).toInt32) >>> (Int32.toUInt32 1 &&& Int32.toUInt32 31)).toInt32 = _; rw [pk_ushrN (by omega) 16 16 (by decide), pk_ushrN (by omega) 8 8 (by decide), pk_ushrN (by omega) 4 4 (by decide), pk_ushrN (by omega) 1 1 (by decide), show (((u / 2 ^ 16) / 2 ^ 8) / 2 ^ 4) / 2 ^ 1 = 1 by omega]; decide)) rfl
  · subst e
    refine z_bt (by show 0 < nI u; exact nI_lt (a := 0) (b := u) (by omega) (by omega)) ?_
    refine z_go ?_
    refine z_bf (by show ¬ nI u < 65536; exact nI_nlt (a := u) (b := 65536) (by omega) (by omega)) ?_
    refine z_bf (by show ¬ (Int32.toUInt32 (nI u) >>> (Int32.toUInt32 16 &&& Int32.toUInt32 31)).toInt32 < 256; rw [pk_ushrN (by omega) 16 16 (by decide)]; exact nI_nlt (a := (u / 2 ^ 16)) (b := 256) (by omega) (by omega)) ?_
    refine z_bf (by show ¬ (Int32.toUInt32 ((Int32.toUInt32 (nI u) >>> (Int32.toUInt32 16 &&& Int32.toUInt32 31)).toInt32) >>> (Int32.toUInt32 8 &&& Int32.toUInt32 31)).toInt32 < 16; rw [pk_ushrN (by omega) 16 16 (by decide), pk_ushrN (by omega) 8 8 (by decide)]; exact nI_nlt (a := ((u / 2 ^ 16) / 2 ^ 8)) (b := 16) (by omega) (by omega)) ?_
    refine z_bf (by show ¬ (Int32.toUInt32 ((Int32.toUInt32 ((Int32.toUInt32 (nI u) >>> (Int32.toUInt32 16 &&& Int32.toUInt32 31)).toInt32) >>> (Int32.toUInt32 8 &&& Int32.toUInt32 31)).toInt32) >>> (Int32.toUInt32 4 &&& Int32.toUInt32 31)).toInt32 < 4; rw [pk_ushrN (by omega) 16 16 (by decide), pk_ushrN (by omega) 8 8 (by decide), pk_ushrN (by omega) 4 4 (by decide)]; exact nI_nlt (a := (((u / 2 ^ 16) / 2 ^ 8) / 2 ^ 4)) (b := 4) (by omega) (by omega)) ?_
    exact z_re hret (z_vi (by show ((((31 + -16) + -8) + -4) + -2) - (Int32.toUInt32 ((Int32.toUInt32 ((Int32.toUInt32 ((Int32.toUInt32 ((Int32.toUInt32 (nI u) >>> (Int32.toUInt32 16 &&& Int32.toUInt32 31)).toInt32) >>> (Int32.toUInt32 8 &&& Int32.toUInt32 31)).toInt32) >>> (Int32.toUInt32 4 &&& Int32.toUInt32 31)).toInt32) >>> (Int32.toUInt32 2 &&& Int32.toUInt32 31)).toInt32) >>> (Int32.toUInt32 1 &&& Int32.toUInt32 31)).toInt32 = _; rw [pk_ushrN (by omega) 16 16 (by decide), pk_ushrN (by omega) 8 8 (by decide), pk_ushrN (by omega) 4 4 (by decide), pk_ushrN (by omega) 2 2 (by decide), pk_ushrN (by omega) 1 1 (by decide), show ((((u / 2 ^ 16) / 2 ^ 8) / 2 ^ 4) / 2 ^ 2) / 2 ^ 1 = 0 by omega]; decide)) rfl
  · subst e
    refine z_bf (lz_n1 (by omega) (by omega)) ?_
    refine z_bf (lz_n2 (by omega) (by omega)) ?_
    refine z_go ?_
    exact hret
theorem nI_md (v : Nat) : nI v = nI (v % 4294967296) := by
  apply Int32.toBitVec_inj.mp
  show BitVec.ofNat 32 v = BitVec.ofNat 32 _
  apply BitVec.eq_of_toNat_eq
  rw [BitVec.toNat_ofNat, BitVec.toNat_ofNat]
  omega
theorem nI_z {v : Nat} : nI v = 0 ↔ v % 4294967296 = 0 := by
  constructor
  · intro h
    have h2 := congrArg (fun x : Int32 => x.toBitVec.toNat) h
    have h3 : (nI v).toBitVec.toNat = v % 4294967296 := BitVec.toNat_ofNat ..
    have h4 : (0 : Int32).toBitVec.toNat = 0 := by decide
    simp only [h3, h4] at h2
    exact h2
  · intro h
    rw [nI_md, h]
    rfl
theorem pw_split {t : Nat} (h : 32 ≤ t) : 2 ^ t = 4294967296 * 2 ^ (t - 32) := by
  rw [show (4294967296 : Nat) = 2 ^ 32 from rfl, ← Nat.pow_add]
  congr 1
  omega
set_option maxRecDepth 10000 in
set_option maxHeartbeats 1000000 in
theorem cJ_ntzL (v t m : Nat) (hv6 : v < 2 ^ 61) (ht : t < 61) (hv : v = 2 ^ t * (2 * m + 1)) (L : zL) (M : zM) (hL : 2 ≤ L.length) : zMet zi_J13_numberOfTrailingZeros_95d88 [.long (lN v)] L M L (zx (some (.int (nI t))) M) := by
  refine z_me (zk_J13_numberOfTrailingZeros_95d88 _ _) rfl hL rfl (fun ret hret => ?_)
  by_cases h32 : t < 32
  · have hz : ¬ nI v = 0 := fun c => by
      have c2 := nI_z.mp c
      have d1 : 4294967296 ∣ 2 ^ t * (2 * m + 1) := by rw [← hv]; exact Nat.dvd_of_mod_eq_zero c2
      rw [show (4294967296 : Nat) = 2 ^ t * (2 * 2 ^ (31 - t)) by rw [← Nat.mul_assoc, ← Nat.pow_succ, ← Nat.pow_add, show t + 1 + (31 - t) = 32 by omega]] at d1
      obtain ⟨c3, h3⟩ := Nat.dvd_of_mul_dvd_mul_left (Nat.two_pow_pos t) d1
      rw [Nat.mul_assoc] at h3
      omega
    refine z_bf (by show ¬ (lN v).toInt32 = 0; rw [lN_i]; exact hz) ?_
    refine z_go ?_
    refine z_ca (cJ_ntz _ t h32 (by show ((lN v).toInt32 ^^^ -1) &&& ((lN v).toInt32 - 1) = _; rw [lN_i]; exact tz_y h32 hv) L M hL) ?_
    exact hret
  · have e := pw_split (t := t) (by omega)
    have hz : nI v = 0 := nI_z.mpr (by rw [hv, e, Nat.mul_assoc, Nat.mul_mod_right])
    have hv2 : v / 2 ^ 32 = 2 ^ (t - 32) * (2 * m + 1) := by rw [hv, e, Nat.mul_assoc]; exact Nat.mul_div_cancel_left _ (by decide)
    refine z_bt (by show (lN v).toInt32 = 0; rw [lN_i]; exact hz) ?_
    refine z_ca (cJ_ntz _ (t - 32) (by omega) (by show (((lN v).toUInt64 >>> ((32 : Int32).toInt64.toUInt64 &&& Int64.toUInt64 63)).toInt64.toInt32 ^^^ -1) &&& (((lN v).toUInt64 >>> ((32 : Int32).toInt64.toUInt64 &&& Int64.toUInt64 63)).toInt64.toInt32 - 1) = _; rw [show (32 : Int32) = nI 32 from rfl, wb_shr (by omega) (by omega), lN_i]; exact tz_y (by omega) hv2) L M hL) ?_
    refine z_go ?_
    exact z_re hret (z_vi (by show nI 32 + nI (t - 32) = _; rw [nI_add]; congr 1; omega)) rfl
theorem cJ_nlz' (x : Int32) (u t : Nat) (ht : t < 32) (h1 : 2 ^ t ≤ u) (h2 : u < 2 ^ (t + 1)) (L : zL) (M : zM) (hL : 2 ≤ L.length) (ex : x = nI u) : zMet zi_J6_numberOfLeadingZeros_0f7a4 [.int x] L M L (zx (some (.int (nI (31 - t)))) M) := by
  subst ex
  exact cJ_nlz u t ht h1 h2 L M hL
set_option maxRecDepth 10000 in
set_option maxHeartbeats 1000000 in
theorem cJ_nlzL (v t : Nat) (hv6 : v < 2 ^ 61) (ht : t < 61) (h1 : 2 ^ t ≤ v) (h2 : v < 2 ^ (t + 1)) (L : zL) (M : zM) (hL : 2 ≤ L.length) : zMet zi_J13_numberOfLeadingZeros_95d88 [.long (lN v)] L M L (zx (some (.int (nI (63 - t)))) M) := by
  refine z_me (zk_J13_numberOfLeadingZeros_95d88 _ _) rfl hL rfl (fun ret hret => ?_)
  by_cases h32 : t < 32
  · have h3 : 2 ^ (t + 1) ≤ 2 ^ 32 := Nat.pow_le_pow_right (by decide) (by omega)
    have hz : v / 2 ^ 32 = 0 := Nat.div_eq_of_lt (by omega)
    refine z_bt (by show ((lN v).toUInt64 >>> ((32 : Int32).toInt64.toUInt64 &&& Int64.toUInt64 63)).toInt64.toInt32 = 0; rw [show (32 : Int32) = nI 32 from rfl, wb_shr (by omega) (by omega), lN_i, hz]; rfl) ?_
    refine z_ca (cJ_nlz' _ v t h32 h1 h2 L M hL (by show (lN v).toInt32 = _; rw [lN_i])) ?_
    refine z_go ?_
    exact z_re hret (z_vi (by show nI 32 + nI (31 - t) = _; rw [nI_add]; congr 1; omega)) rfl
  · have e := pw_split (t := t) (by omega)
    have e' := pw_split (t := t + 1) (by omega)
    have hp := Nat.two_pow_pos (t - 32)
    have l1 : 2 ^ (t - 32) ≤ v / 2 ^ 32 := by
      rw [Nat.le_div_iff_mul_le (by decide)]
      omega
    have l2 : v / 2 ^ 32 < 2 ^ (t - 32 + 1) := by
      rw [Nat.div_lt_iff_lt_mul (by decide), show t - 32 + 1 = t + 1 - 32 by omega]
      omega
    refine z_bf (by show ¬ ((lN v).toUInt64 >>> ((32 : Int32).toInt64.toUInt64 &&& Int64.toUInt64 63)).toInt64.toInt32 = 0; rw [show (32 : Int32) = nI 32 from rfl, wb_shr (by omega) (by omega), lN_i]; exact fun c => by have c2 := nI_z.mp c; omega) ?_
    refine z_go ?_
    refine z_ca (cJ_nlz' _ (v / 2 ^ 32) (t - 32) (by omega) l1 l2 L M hL (by show ((lN v).toUInt64 >>> ((32 : Int32).toInt64.toUInt64 &&& Int64.toUInt64 63)).toInt64.toInt32 = _; rw [show (32 : Int32) = nI 32 from rfl, wb_shr (by omega) (by omega), lN_i])) ?_
    exact z_re hret (z_vi (by rw [show 31 - (t - 32) = 63 - t by omega])) rfl
theorem bw_lo {g : Nat → Bool} : ∀ n, fa_first g n < n → ∃ m, bw g n = 2 ^ fa_first g n * (2 * m + 1)
  | 0, h => absurd h (Nat.not_lt_zero _)
  | n + 1, h => by
    by_cases c : fa_first g n < n
    · obtain ⟨m, e⟩ := bw_lo n c
      have ef : fa_first g (n + 1) = fa_first g n := by rw [fa_first, if_pos c]
      rw [ef, bw, e]
      by_cases q : g n = true
      · refine ⟨m + 2 ^ (n - fa_first g n - 1), ?_⟩
        rw [if_pos q]
        have e2 : 2 ^ n = 2 ^ fa_first g n * (2 * 2 ^ (n - fa_first g n - 1)) := by
          rw [← Nat.mul_assoc, ← Nat.pow_succ, ← Nat.pow_add]
          congr 1
          omega
        rw [e2, ← Nat.mul_add]
        congr 1
        omega
      · exact ⟨m, by rw [if_neg q, Nat.add_zero]⟩
    · by_cases q : g n = true
      · have ef : fa_first g (n + 1) = n := by rw [fa_first, if_neg c, if_pos q]
        have hz : bw g n = 0 := by
          rw [bw_0]
          have : ∀ k, k < n → g k = false := fun k hk => fa_first_no g n k (by omega)
          clear ef h q c
          induction n with
          | zero => rfl
          | succ n ih => rw [cnt, ih (fun k hk => this k (by omega)), this n (by omega)]; rfl
        rw [ef, bw, if_pos q, hz]
        exact ⟨0, by omega⟩
      · have ef : fa_first g (n + 1) = n + 1 := by rw [fa_first, if_neg c, if_neg q]
        omega
/-- the last of which g holds; NONE -/
def hN (g : Nat → Bool) : Nat → Int32
  | 0 => -1
  | n + 1 => if g n then nI n else hN g n
theorem bw_hi {g : Nat → Bool} : ∀ n, ¬ bw g n = 0 → ∃ t, t < n ∧ hN g n = nI t ∧ 2 ^ t ≤ bw g n ∧ bw g n < 2 ^ (t + 1)
  | 0, h => absurd rfl h
  | n + 1, h => by
    have hl := bw_lt g n
    by_cases q : g n = true
    · refine ⟨n, Nat.lt_succ_self n, by rw [hN, if_pos q], ?_, bw_lt g (n + 1)⟩
      rw [bw, if_pos q]
      omega
    · rw [bw_n q] at h
      obtain ⟨t, ht, e, h1, h2⟩ := bw_hi n h
      refine ⟨t, by omega, by rw [hN, if_neg q]; exact e, ?_, ?_⟩
      · rw [bw_n q]; exact h1
      · rw [bw_n q]; exact h2
theorem hN_0 {g : Nat → Bool} : ∀ n, bw g n = 0 → hN g n = -1
  | 0, _ => rfl
  | n + 1, h => by
    have hp := Nat.two_pow_pos n
    by_cases q : g n = true
    · rw [bw, if_pos q] at h; omega
    · rw [hN, if_neg q]; exact hN_0 n (by rw [bw_n q] at h; exact h)
theorem fF_0 {g : Nat → Bool} {n : Nat} : bw g n = 0 ↔ ¬ fa_first g n < n := by
  constructor
  · intro h c
    obtain ⟨m, e⟩ := bw_lo n c
    have := Nat.mul_pos (Nat.two_pow_pos (fa_first g n)) (show 0 < 2 * m + 1 by omega)
    omega
  · intro c
    have : ∀ k, k < n → g k = false := fun k hk => fa_first_no g n k (by omega)
    clear c
    induction n with
    | zero => rfl
    | succ n ih => rw [bw, ih (fun k hk => this k (by omega)), this n (by omega)]; rfl
def aSP (g : Nat → Bool) (j : Nat) : Int32 := if j = 0 then nI (cnt g 61) else if j = 1 then fN g 61 else hN g 61
theorem aSP_0 (g : Nat → Bool) : nI (cnt g 61) = aSP g 0 := by rw [aSP, if_pos rfl]
theorem aSP_1 (g : Nat → Bool) : aSP g 1 = fN g 61 := by rw [aSP, if_neg (by omega), if_pos rfl]
theorem aSP_2 (g : Nat → Bool) : aSP g 2 = hN g 61 := by rw [aSP, if_neg (by omega), if_neg (by omega)]
theorem lN_z {v : Nat} (h : v < 2 ^ 61) : lN v = 0 ↔ v = 0 := fb_lN_inj (a := v) (b := 0) (by omega) (by omega)
set_option maxRecDepth 10000 in
set_option maxHeartbeats 1000000 in
theorem c5_startsPart0 (g : Nat → Bool) (L : zL) (M : zM) (hL : 2 ≤ L.length) : zMet zi_X5_startsPart [.long (lN (bw g 61)), .int (nI 0)] L M L (zx (some (.int (aSP g 0))) M) := by
  refine z_me (zk_X5_startsPart _ _) rfl hL rfl (fun ret hret => ?_)
  refine z_bt rfl ?_
  refine z_ca (z_cv _ (cJ_bitCountL _ L M hL) (lcF_bw g (by omega))) ?_
  exact z_re hret (z_vi (aSP_0 g)) rfl
set_option maxRecDepth 10000 in
set_option maxHeartbeats 1000000 in
theorem c5_startsPart1 (g : Nat → Bool) (L : zL) (M : zM) (hL : 2 ≤ L.length) : zMet zi_X5_startsPart [.long (lN (bw g 61)), .int (nI 1)] L M L (zx (some (.int (aSP g 1))) M) := by
  refine z_me (zk_X5_startsPart _ _) rfl hL rfl (fun ret hret => ?_)
  by_cases hz : bw g 61 = 0
  · refine z_bf (by decide) ?_
    refine z_go ?_
    refine z_bt ((lg_cmp_eq _ _).mpr ((lN_z (bw_lt g 61)).mpr hz)) ?_
    exact z_re hret (z_vi (((aSP_1 g).trans (fN_go (fF_0.mp hz))).symm)) rfl
  · have hf : fa_first g 61 < 61 := Classical.not_not.mp (fun c => hz (fF_0.mpr c))
    obtain ⟨m, hm⟩ := bw_lo 61 hf
    refine z_bf (by decide) ?_
    refine z_go ?_
    refine z_bf (fun c => hz ((lN_z (bw_lt g 61)).mp ((lg_cmp_eq _ _).mp c))) ?_
    refine z_go ?_
    refine z_bt rfl ?_
    refine z_ca (cJ_ntzL _ _ m (bw_lt g 61) hf hm L M hL) ?_
    refine z_go ?_
    exact z_re hret (z_vi ((aSP_1 g).trans (fN_is hf)).symm) rfl
set_option maxRecDepth 10000 in
set_option maxHeartbeats 1000000 in
theorem c5_startsPart2 (g : Nat → Bool) (L : zL) (M : zM) (hL : 2 ≤ L.length) : zMet zi_X5_startsPart [.long (lN (bw g 61)), .int (nI 2)] L M L (zx (some (.int (aSP g 2))) M) := by
  refine z_me (zk_X5_startsPart _ _) rfl hL rfl (fun ret hret => ?_)
  by_cases hz : bw g 61 = 0
  · refine z_bf (by decide) ?_
    refine z_go ?_
    refine z_bt ((lg_cmp_eq _ _).mpr ((lN_z (bw_lt g 61)).mpr hz)) ?_
    exact z_re hret (z_vi (((aSP_2 g).trans (hN_0 61 hz)).symm)) rfl
  · obtain ⟨t, ht, e, h1, h2⟩ := bw_hi 61 hz
    refine z_bf (by decide) ?_
    refine z_go ?_
    refine z_bf (fun c => hz ((lN_z (bw_lt g 61)).mp ((lg_cmp_eq _ _).mp c))) ?_
    refine z_go ?_
    refine z_bf (by decide) ?_
    refine z_go ?_
    refine z_ca (cJ_nlzL _ t (bw_lt g 61) ht h1 h2 L M hL) ?_
    exact z_re hret (z_vi (by show nI 63 - nI (63 - t) = _; rw [pk_sub (by omega), show 63 - (63 - t) = t by omega]; exact ((aSP_2 g).trans e).symm)) rfl
noncomputable section
def gSt (w : Rw) (v : Nat) : Bool := sOut w (tHr w allB allB (-1) (pWd (w.1 1) (w.2 0)) (eEl (w.1 2) (w.2 1)) (nI v))
def aStarts (w : Rw) (x : Int32) : Int32 := if 0 ≤ x ∧ x ≤ 2 then aSP (gSt w) x.toNatClampNeg else -2
end
theorem aSt_y {w : Rw} {j : Nat} (hj : j ≤ 2) : aStarts w (nI j) = aSP (gSt w) j := by
  unfold aStarts
  rw [if_pos ⟨nI_pos' (by omega), nI_le (a := j) (b := 2) hj (by omega)⟩, z_cl (by omega)]
theorem aSt_0 (w : Rw) : aStarts w (nI 0) = nI (cnt (gSt w) 61) := by rw [aSt_y (by omega), aSP, if_pos rfl]
theorem aSt_1 (w : Rw) : aStarts w (nI 1) = fN (gSt w) 61 := by rw [aSt_y (by omega), aSP, if_neg (by omega), if_pos rfl]
theorem aSt_2 (w : Rw) : aStarts w (nI 2) = hN (gSt w) 61 := by rw [aSt_y (by omega), aSP, if_neg (by omega), if_neg (by omega)]
theorem bwL_y {g : Nat → Bool} {k : Nat} (hk : k < 63) (h : g k = true) : lN (bw g k) ||| (1 <<< ((nI k).toInt64 &&& 63)) = lN (bw g (k + 1)) := by
  have e : (1 : Int64) <<< ((nI k).toInt64 &&& 63) = lN (2 ^ k * 1) := by
    rw [show (1 : Int64) = lN 1 from rfl, wb_shl 1 (by omega), Nat.mul_comm]
  have hl := bw_lt g k
  rw [e, bw, if_pos h, fb_orL, Nat.or_comm, ← fb_orL, fb_or_sumL 1 hl, Nat.mul_one, Nat.add_comm]
set_option maxRecDepth 10000 in
set_option maxHeartbeats 1000000 in
theorem d5_possibleStarts (n : Nat) (M : zM) (w : Rw) (hI : cI w M) : zMet zi_X5_possibleStarts [.ref 2] (zLay n 15) M (zLay n 15) (zr (some (.long (lN (bw (gSt w) 61)))) (fun M' => cI w M' ∧ ∀ p, 45 ≤ p → M' p = M p)) := by
  refine z_mr (zk_X5_possibleStarts _ _) rfl (Nat.le_of_ble_eq_true rfl) rfl (fun ret hret => ?_)
  have loop := z_lg (P := zp_X5_possibleStarts) (ret := ret) (pc := 13) (L := zLay n 15) (N := 61) (lo := fun q : Int64 × Int32 => [some (.ref 2), some (.int (M 7 3)), some (.long q.1), none, some (.int q.2)]) (I := fun h q M' => kpU 3 M M' ∧ q.1 = lN (bw (gSt w) h) ∧ q.2 = nI h) (by
    rintro h ⟨b, x⟩ M' hh ⟨hM, hb, hx⟩ ih
    simp only at hb hx
    subst hb; subst hx
    have ht := cTr_3 (v := nI h) hI.1 hM
    by_cases hp : gSt w h = true
    · refine z_go ?_
      refine z_bf (fun c => absurd ((nI_ltI (a := 60) (b := h) (by omega) (by omega)).mp c) (by omega)) ?_
      refine z_cx (d_fol28_15 n _ (ht)) (fun M2 h2 => ?_)
      obtain ⟨q1, q2⟩ := h2
      refine z_ca (z_cv 1 (d5_comesOut n (j := 3) hI.1 (kpU_fol hM q1) q2) (zb_1 hp)) ?_
      refine z_bf (by decide) ?_
      exact ih (_, _) _ ⟨kpU_fol hM q1, bwL_y (by omega) hp, nI_1 h⟩
    · refine z_go ?_
      refine z_bf (fun c => absurd ((nI_ltI (a := 60) (b := h) (by omega) (by omega)).mp c) (by omega)) ?_
      refine z_cx (d_fol28_15 n _ (ht)) (fun M2 h2 => ?_)
      obtain ⟨q1, q2⟩ := h2
      refine z_ca (z_cv 0 (d5_comesOut n (j := 3) hI.1 (kpU_fol hM q1) q2) (zb_0 hp)) ?_
      refine z_bt (by decide) ?_
      refine z_go ?_
      exact ih (_, _) _ ⟨kpU_fol hM q1, by show lN (bw (gSt w) h) = _; rw [bw_n hp], nI_1 h⟩) (by
    rintro ⟨b, x⟩ M' ⟨hM, hb, hx⟩
    simp only at hb hx
    subst hx
    refine z_go ?_
    refine z_bt (nI_lt (a := 60) (b := 61) (by omega) (by omega)) ?_
    refine z_go ?_
    exact z_rq hret (z_vl hb) ⟨cI_kpT hI (kpU_end hM rfl), fun p hp => kpU_end hM rfl p (by omega)⟩)
  exact loop 0 (_, _) _ (Nat.zero_le _) ⟨kpU_rf _ _, rfl, rfl⟩
set_option maxRecDepth 10000 in
set_option maxHeartbeats 1000000 in
theorem e5_starts (n : Nat) (M : zM) (w : Rw) (hI : cI w M) (x : Int32) : zMet zi_X5_starts [.ref 2, .int x] (zLay n 15) M (zLay n 15) (zr (some (.int (aStarts w x))) (fun M' => cI w M' ∧ ∀ p, 45 ≤ p → M' p = M p)) := by
  refine z_mr (zk_X5_starts _ _) rfl (Nat.le_of_ble_eq_true rfl) rfl (fun ret hret => ?_)
  by_cases hx : 0 ≤ x ∧ x ≤ 2
  · obtain ⟨j, hj, rfl⟩ := rg 2 rfl (by omega) hx
    rcases (show j = 0 ∨ j = 1 ∨ j = 2 by omega) with e | e | e
    · subst e
      refine z_ca (z_cv 1 (c5_within _ _ _ _ _ (Nat.le_of_ble_eq_true rfl)) (zb_1 hx)) ?_
      refine z_bf (by decide) ?_
      refine z_cx (d5_possibleStarts n M w hI) (fun M1 h1 => ?_)
      refine z_ca (c5_startsPart0 (gSt w) _ _ (Nat.le_of_ble_eq_true rfl)) ?_
      refine z_go ?_
      exact z_rq hret (z_vi (aSt_y (by omega)).symm) h1
    · subst e
      refine z_ca (z_cv 1 (c5_within _ _ _ _ _ (Nat.le_of_ble_eq_true rfl)) (zb_1 hx)) ?_
      refine z_bf (by decide) ?_
      refine z_cx (d5_possibleStarts n M w hI) (fun M1 h1 => ?_)
      refine z_ca (c5_startsPart1 (gSt w) _ _ (Nat.le_of_ble_eq_true rfl)) ?_
      refine z_go ?_
      exact z_rq hret (z_vi (aSt_y (by omega)).symm) h1
    · subst e
      refine z_ca (z_cv 1 (c5_within _ _ _ _ _ (Nat.le_of_ble_eq_true rfl)) (zb_1 hx)) ?_
      refine z_bf (by decide) ?_
      refine z_cx (d5_possibleStarts n M w hI) (fun M1 h1 => ?_)
      refine z_ca (c5_startsPart2 (gSt w) _ _ (Nat.le_of_ble_eq_true rfl)) ?_
      refine z_go ?_
      exact z_rq hret (z_vi (aSt_y (by omega)).symm) h1
  · refine z_ca (z_cv 0 (c5_within _ _ _ _ _ (Nat.le_of_ble_eq_true rfl)) (zb_0 hx)) ?_
    refine z_bt (by decide) ?_
    refine z_go ?_
    exact z_rq hret (z_vi (show _ = aStarts w x from (if_neg hx).symm)) ⟨hI, fun _ _ => rfl⟩
theorem hN_y {g : Nat → Bool} {n : Nat} (h : g n = true) : hN g (n + 1) = nI n := by rw [hN, if_pos h]
theorem hN_n {g : Nat → Bool} {n : Nat} (h : ¬ g n = true) : hN g (n + 1) = hN g n := by rw [hN, if_neg h]
theorem cnt_y {g : Nat → Bool} {n : Nat} (h : g n = true) : nI (cnt g n) + 1 = nI (cnt g (n + 1)) := by rw [cnt, if_pos h, nI_1]
theorem cnt_n {g : Nat → Bool} {n : Nat} (h : ¬ g n = true) : cnt g (n + 1) = cnt g n := by rw [cnt, if_neg h, Nat.add_zero]
theorem fN_nn {p : Nat → Bool} {h : Nat} (hp : ¬ p h = true) : fN p h = fN p (h + 1) := by
  by_cases hs : fa_first p h < h
  · exact fN_stop hs (Nat.le_succ h)
  · rw [fN_no hs hp]; exact fN_go hs
set_option maxRecDepth 10000 in
set_option maxHeartbeats 1000000 in
theorem d6_startsOf0 (n eb : Nat) (M : zM) (w : Rw) (hC : rC w M) : zMet zi_X6_startsOf [.ref 45, .int (nI 0)] (zLay n eb) M (zLay n eb) (zr (some (.int (aStarts w (nI 0)))) (fun M' => rC w M' ∧ rSm M M')) := by
  refine z_mr (zk_X6_startsOf _ _) rfl (Nat.le_of_ble_eq_true rfl) rfl (fun ret hret => ?_)
  refine z_cx (d6_asTold n eb M w hC) (fun M1 h1 => ?_)
  have loop := z_lg (P := zp_X6_startsOf) (ret := ret) (pc := 14) (L := zLay n eb) (N := 61) (lo := fun q : Int32 × Int32 × Int32 × Int32 => [some (.ref 45), some (.int (nI 0)), some (.int q.1), some (.int q.2.1), some (.int q.2.2.1), some (.int q.2.2.2), none]) (I := fun h q M' => rkT 22 M1 M' ∧ q.1 = nI (cnt (gSt w) h) ∧ q.2.1 = fN (gSt w) h ∧ q.2.2.1 = hN (gSt w) h ∧ q.2.2.2 = nI h) (by
    rintro h ⟨a, b, c, x⟩ M' hh ⟨hM, ha, hb, hc, hx⟩ ih
    simp only at ha hb hc hx
    subst ha; subst hb; subst hc; subst hx
    have ht := rTr_22 (v := nI h) h1.2.1 hM
    by_cases hp : gSt w h = true
    · by_cases hs : fa_first (gSt w) h < h
      · refine z_go ?_
        refine z_bf (nI_ge (a := h) (b := 61) hh (by omega)) ?_
        refine z_cx (zMet_v 1 (d6_isSeen n eb _ (rC_up (rC_rkT h1.1 hM (by omega) (by omega) (by omega) (by omega)) (by omega) (by omega) (by omega) (by omega)) ht) (zb_1 hp)) (fun M2 h2 => ?_)
        obtain ⟨q1, q2, q3⟩ := h2
        refine z_bf (by decide) ?_
        refine z_go ?_
        refine z_bf (by decide) ?_
        refine z_bf (by rw [fN_is hs]; exact nI_nm1 (by omega)) ?_
        refine z_go ?_
        refine z_bf (by decide) ?_
        refine z_go ?_
        exact ih (_, _, _, _) _ ⟨rkT_run hM q1 q2, cnt_y hp, fN_stop hs (Nat.le_succ h), (hN_y hp).symm, nI_1 h⟩
      · refine z_go ?_
        refine z_bf (nI_ge (a := h) (b := 61) hh (by omega)) ?_
        refine z_cx (zMet_v 1 (d6_isSeen n eb _ (rC_up (rC_rkT h1.1 hM (by omega) (by omega) (by omega) (by omega)) (by omega) (by omega) (by omega) (by omega)) ht) (zb_1 hp)) (fun M2 h2 => ?_)
        obtain ⟨q1, q2, q3⟩ := h2
        refine z_bf (by decide) ?_
        refine z_go ?_
        refine z_bf (by decide) ?_
        refine z_bt (fN_go hs) ?_
        refine z_go ?_
        refine z_bf (by decide) ?_
        refine z_go ?_
        exact ih (_, _, _, _) _ ⟨rkT_run hM q1 q2, cnt_y hp, (fN_yes hs hp).symm, (hN_y hp).symm, nI_1 h⟩
    · refine z_go ?_
      refine z_bf (nI_ge (a := h) (b := 61) hh (by omega)) ?_
      refine z_cx (zMet_v 0 (d6_isSeen n eb _ (rC_up (rC_rkT h1.1 hM (by omega) (by omega) (by omega) (by omega)) (by omega) (by omega) (by omega) (by omega)) ht) (zb_0 hp)) (fun M2 h2 => ?_)
      obtain ⟨q1, q2, q3⟩ := h2
      refine z_bt (by decide) ?_
      refine z_go ?_
      refine z_bt (by decide) ?_
      refine z_go ?_
      refine z_bt (by decide) ?_
      refine z_go ?_
      exact ih (_, _, _, _) _ ⟨rkT_run hM q1 q2, by show nI (cnt (gSt w) h) + 0 = _; rw [cnt_n hp, Int32.add_zero], fN_nn hp, by show hN (gSt w) h = _; rw [hN_n hp], nI_1 h⟩) (by
    rintro ⟨a, b, c, x⟩ M' ⟨hM, ha, hb, hc, hx⟩
    simp only at ha hb hc hx
    subst hx
    refine z_go ?_
    refine z_bt (nI_le (a := 61) (b := 61) (Nat.le_refl _) (by omega)) ?_
    refine z_go ?_
    refine z_bt rfl ?_
    refine z_go ?_
    exact z_rq hret (z_vi (ha.trans (aSt_0 w).symm)) ⟨rC_sm h1.1 (rSm_rkT hM (by omega) (by omega) (by omega) (by omega)), rSm_tr h1.2.2 (rSm_rkT hM (by omega) (by omega) (by omega) (by omega))⟩)
  exact loop 0 (_, _, _, _) _ (Nat.zero_le _) ⟨rkT_rf _ _, rfl, fN_z _, rfl, rfl⟩
set_option maxRecDepth 10000 in
set_option maxHeartbeats 1000000 in
theorem d6_startsOf1 (n eb : Nat) (M : zM) (w : Rw) (hC : rC w M) : zMet zi_X6_startsOf [.ref 45, .int (nI 1)] (zLay n eb) M (zLay n eb) (zr (some (.int (aStarts w (nI 1)))) (fun M' => rC w M' ∧ rSm M M')) := by
  refine z_mr (zk_X6_startsOf _ _) rfl (Nat.le_of_ble_eq_true rfl) rfl (fun ret hret => ?_)
  refine z_cx (d6_asTold n eb M w hC) (fun M1 h1 => ?_)
  have loop := z_lg (P := zp_X6_startsOf) (ret := ret) (pc := 14) (L := zLay n eb) (N := 61) (lo := fun q : Int32 × Int32 × Int32 × Int32 => [some (.ref 45), some (.int (nI 1)), some (.int q.1), some (.int q.2.1), some (.int q.2.2.1), some (.int q.2.2.2), none]) (I := fun h q M' => rkT 22 M1 M' ∧ q.1 = nI (cnt (gSt w) h) ∧ q.2.1 = fN (gSt w) h ∧ q.2.2.1 = hN (gSt w) h ∧ q.2.2.2 = nI h) (by
    rintro h ⟨a, b, c, x⟩ M' hh ⟨hM, ha, hb, hc, hx⟩ ih
    simp only at ha hb hc hx
    subst ha; subst hb; subst hc; subst hx
    have ht := rTr_22 (v := nI h) h1.2.1 hM
    by_cases hp : gSt w h = true
    · by_cases hs : fa_first (gSt w) h < h
      · refine z_go ?_
        refine z_bf (nI_ge (a := h) (b := 61) hh (by omega)) ?_
        refine z_cx (zMet_v 1 (d6_isSeen n eb _ (rC_up (rC_rkT h1.1 hM (by omega) (by omega) (by omega) (by omega)) (by omega) (by omega) (by omega) (by omega)) ht) (zb_1 hp)) (fun M2 h2 => ?_)
        obtain ⟨q1, q2, q3⟩ := h2
        refine z_bf (by decide) ?_
        refine z_go ?_
        refine z_bf (by decide) ?_
        refine z_bf (by rw [fN_is hs]; exact nI_nm1 (by omega)) ?_
        refine z_go ?_
        refine z_bf (by decide) ?_
        refine z_go ?_
        exact ih (_, _, _, _) _ ⟨rkT_run hM q1 q2, cnt_y hp, fN_stop hs (Nat.le_succ h), (hN_y hp).symm, nI_1 h⟩
      · refine z_go ?_
        refine z_bf (nI_ge (a := h) (b := 61) hh (by omega)) ?_
        refine z_cx (zMet_v 1 (d6_isSeen n eb _ (rC_up (rC_rkT h1.1 hM (by omega) (by omega) (by omega) (by omega)) (by omega) (by omega) (by omega) (by omega)) ht) (zb_1 hp)) (fun M2 h2 => ?_)
        obtain ⟨q1, q2, q3⟩ := h2
        refine z_bf (by decide) ?_
        refine z_go ?_
        refine z_bf (by decide) ?_
        refine z_bt (fN_go hs) ?_
        refine z_go ?_
        refine z_bf (by decide) ?_
        refine z_go ?_
        exact ih (_, _, _, _) _ ⟨rkT_run hM q1 q2, cnt_y hp, (fN_yes hs hp).symm, (hN_y hp).symm, nI_1 h⟩
    · refine z_go ?_
      refine z_bf (nI_ge (a := h) (b := 61) hh (by omega)) ?_
      refine z_cx (zMet_v 0 (d6_isSeen n eb _ (rC_up (rC_rkT h1.1 hM (by omega) (by omega) (by omega) (by omega)) (by omega) (by omega) (by omega) (by omega)) ht) (zb_0 hp)) (fun M2 h2 => ?_)
      obtain ⟨q1, q2, q3⟩ := h2
      refine z_bt (by decide) ?_
      refine z_go ?_
      refine z_bt (by decide) ?_
      refine z_go ?_
      refine z_bt (by decide) ?_
      refine z_go ?_
      exact ih (_, _, _, _) _ ⟨rkT_run hM q1 q2, by show nI (cnt (gSt w) h) + 0 = _; rw [cnt_n hp, Int32.add_zero], fN_nn hp, by show hN (gSt w) h = _; rw [hN_n hp], nI_1 h⟩) (by
    rintro ⟨a, b, c, x⟩ M' ⟨hM, ha, hb, hc, hx⟩
    simp only at ha hb hc hx
    subst hx
    refine z_go ?_
    refine z_bt (nI_le (a := 61) (b := 61) (Nat.le_refl _) (by omega)) ?_
    refine z_go ?_
    refine z_bf (by decide) ?_
    refine z_go ?_
    refine z_bt rfl ?_
    refine z_go ?_
    exact z_rq hret (z_vi (hb.trans (aSt_1 w).symm)) ⟨rC_sm h1.1 (rSm_rkT hM (by omega) (by omega) (by omega) (by omega)), rSm_tr h1.2.2 (rSm_rkT hM (by omega) (by omega) (by omega) (by omega))⟩)
  exact loop 0 (_, _, _, _) _ (Nat.zero_le _) ⟨rkT_rf _ _, rfl, fN_z _, rfl, rfl⟩
set_option maxRecDepth 10000 in
set_option maxHeartbeats 1000000 in
theorem d6_startsOf2 (n eb : Nat) (M : zM) (w : Rw) (hC : rC w M) : zMet zi_X6_startsOf [.ref 45, .int (nI 2)] (zLay n eb) M (zLay n eb) (zr (some (.int (aStarts w (nI 2)))) (fun M' => rC w M' ∧ rSm M M')) := by
  refine z_mr (zk_X6_startsOf _ _) rfl (Nat.le_of_ble_eq_true rfl) rfl (fun ret hret => ?_)
  refine z_cx (d6_asTold n eb M w hC) (fun M1 h1 => ?_)
  have loop := z_lg (P := zp_X6_startsOf) (ret := ret) (pc := 14) (L := zLay n eb) (N := 61) (lo := fun q : Int32 × Int32 × Int32 × Int32 => [some (.ref 45), some (.int (nI 2)), some (.int q.1), some (.int q.2.1), some (.int q.2.2.1), some (.int q.2.2.2), none]) (I := fun h q M' => rkT 22 M1 M' ∧ q.1 = nI (cnt (gSt w) h) ∧ q.2.1 = fN (gSt w) h ∧ q.2.2.1 = hN (gSt w) h ∧ q.2.2.2 = nI h) (by
    rintro h ⟨a, b, c, x⟩ M' hh ⟨hM, ha, hb, hc, hx⟩ ih
    simp only at ha hb hc hx
    subst ha; subst hb; subst hc; subst hx
    have ht := rTr_22 (v := nI h) h1.2.1 hM
    by_cases hp : gSt w h = true
    · by_cases hs : fa_first (gSt w) h < h
      · refine z_go ?_
        refine z_bf (nI_ge (a := h) (b := 61) hh (by omega)) ?_
        refine z_cx (zMet_v 1 (d6_isSeen n eb _ (rC_up (rC_rkT h1.1 hM (by omega) (by omega) (by omega) (by omega)) (by omega) (by omega) (by omega) (by omega)) ht) (zb_1 hp)) (fun M2 h2 => ?_)
        obtain ⟨q1, q2, q3⟩ := h2
        refine z_bf (by decide) ?_
        refine z_go ?_
        refine z_bf (by decide) ?_
        refine z_bf (by rw [fN_is hs]; exact nI_nm1 (by omega)) ?_
        refine z_go ?_
        refine z_bf (by decide) ?_
        refine z_go ?_
        exact ih (_, _, _, _) _ ⟨rkT_run hM q1 q2, cnt_y hp, fN_stop hs (Nat.le_succ h), (hN_y hp).symm, nI_1 h⟩
      · refine z_go ?_
        refine z_bf (nI_ge (a := h) (b := 61) hh (by omega)) ?_
        refine z_cx (zMet_v 1 (d6_isSeen n eb _ (rC_up (rC_rkT h1.1 hM (by omega) (by omega) (by omega) (by omega)) (by omega) (by omega) (by omega) (by omega)) ht) (zb_1 hp)) (fun M2 h2 => ?_)
        obtain ⟨q1, q2, q3⟩ := h2
        refine z_bf (by decide) ?_
        refine z_go ?_
        refine z_bf (by decide) ?_
        refine z_bt (fN_go hs) ?_
        refine z_go ?_
        refine z_bf (by decide) ?_
        refine z_go ?_
        exact ih (_, _, _, _) _ ⟨rkT_run hM q1 q2, cnt_y hp, (fN_yes hs hp).symm, (hN_y hp).symm, nI_1 h⟩
    · refine z_go ?_
      refine z_bf (nI_ge (a := h) (b := 61) hh (by omega)) ?_
      refine z_cx (zMet_v 0 (d6_isSeen n eb _ (rC_up (rC_rkT h1.1 hM (by omega) (by omega) (by omega) (by omega)) (by omega) (by omega) (by omega) (by omega)) ht) (zb_0 hp)) (fun M2 h2 => ?_)
      obtain ⟨q1, q2, q3⟩ := h2
      refine z_bt (by decide) ?_
      refine z_go ?_
      refine z_bt (by decide) ?_
      refine z_go ?_
      refine z_bt (by decide) ?_
      refine z_go ?_
      exact ih (_, _, _, _) _ ⟨rkT_run hM q1 q2, by show nI (cnt (gSt w) h) + 0 = _; rw [cnt_n hp, Int32.add_zero], fN_nn hp, by show hN (gSt w) h = _; rw [hN_n hp], nI_1 h⟩) (by
    rintro ⟨a, b, c, x⟩ M' ⟨hM, ha, hb, hc, hx⟩
    simp only at ha hb hc hx
    subst hx
    refine z_go ?_
    refine z_bt (nI_le (a := 61) (b := 61) (Nat.le_refl _) (by omega)) ?_
    refine z_go ?_
    refine z_bf (by decide) ?_
    refine z_go ?_
    refine z_bf (by decide) ?_
    refine z_go ?_
    exact z_rq hret (z_vi (hc.trans (aSt_2 w).symm)) ⟨rC_sm h1.1 (rSm_rkT hM (by omega) (by omega) (by omega) (by omega)), rSm_tr h1.2.2 (rSm_rkT hM (by omega) (by omega) (by omega) (by omega))⟩)
  exact loop 0 (_, _, _, _) _ (Nat.zero_le _) ⟨rkT_rf _ _, rfl, fN_z _, rfl, rfl⟩
set_option maxRecDepth 10000 in
set_option maxHeartbeats 1000000 in
theorem e6_starts (n eb : Nat) (M : zM) (w : Rw) (hC : rC w M) (x : Int32) : zMet zi_X6_starts [.ref 45, .int x] (zLay n eb) M (zLay n eb) (zr (some (.int (aStarts w x))) (fun M' => rC w M' ∧ rSm M M')) := by
  refine z_mr (zk_X6_starts _ _) rfl (Nat.le_of_ble_eq_true rfl) rfl (fun ret hret => ?_)
  by_cases hx : 0 ≤ x ∧ x ≤ 2
  · obtain ⟨j, hj, rfl⟩ := rg 2 rfl (by omega) hx
    rcases (show j = 0 ∨ j = 1 ∨ j = 2 by omega) with e | e | e
    · subst e
      refine z_ca (z_cv 1 (c6_in _ _ _ _ _ (Nat.le_of_ble_eq_true rfl)) (zb_1 hx)) ?_
      refine z_bf (by decide) ?_
      refine z_cx (d6_startsOf0 n eb M w hC) (fun M1 h1 => ?_)
      refine z_go ?_
      exact z_rq hret rfl h1
    · subst e
      refine z_ca (z_cv 1 (c6_in _ _ _ _ _ (Nat.le_of_ble_eq_true rfl)) (zb_1 hx)) ?_
      refine z_bf (by decide) ?_
      refine z_cx (d6_startsOf1 n eb M w hC) (fun M1 h1 => ?_)
      refine z_go ?_
      exact z_rq hret rfl h1
    · subst e
      refine z_ca (z_cv 1 (c6_in _ _ _ _ _ (Nat.le_of_ble_eq_true rfl)) (zb_1 hx)) ?_
      refine z_bf (by decide) ?_
      refine z_cx (d6_startsOf2 n eb M w hC) (fun M1 h1 => ?_)
      refine z_go ?_
      exact z_rq hret rfl h1
  · refine z_ca (z_cv 0 (c6_in _ _ _ _ _ (Nat.le_of_ble_eq_true rfl)) (zb_0 hx)) ?_
    refine z_bt (by decide) ?_
    refine z_go ?_
    exact z_rq hret (z_vi (show _ = aStarts w x from (if_neg hx).symm)) ⟨hC, rSm_rf M⟩
