/-! longs as bits: pasted from kit/laws/BITS.to-paste (wb_..) -/
theorem wb_tb (n : Nat) : (lN n).toBitVec = BitVec.ofNat 64 n := rfl
theorem wb_inj {a b : Int64} (h : a.toBitVec = b.toBitVec) : a = b := Int64.toBitVec_inj.mp h
theorem wb_tn {n : Nat} (h : n < 2 ^ 64) : (lN n).toBitVec.toNat = n := by rw [wb_tb, BitVec.toNat_ofNat, Nat.mod_eq_of_lt h]
theorem wb_of (x : Int64) : ∃ n, n < 2 ^ 64 ∧ x = lN n := ⟨x.toBitVec.toNat, x.toBitVec.isLt, wb_inj (by rw [wb_tb]; simp)⟩
theorem wb_of32 (x : Int32) : ∃ n, n < 2 ^ 32 ∧ x = nI n := ⟨x.toBitVec.toNat, x.toBitVec.isLt, Int32.toBitVec_inj.mp (by show _ = BitVec.ofNat 32 _; simp)⟩
theorem wb_c : ∀ k, k < 64 → ((nI k).toInt64 &&& 63) = lN k := by decide +kernel
theorem wb_cu : ∀ k, k < 64 → ((nI k).toInt64.toUInt64 &&& Int64.toUInt64 63) = UInt64.ofNat k := by decide +kernel
theorem wb_sm : ∀ k, k < 64 → (BitVec.ofNat 64 k).smod 64 = BitVec.ofNat 64 k := by decide +kernel
theorem wb_pw {a b : Nat} (h : a ≤ b) : 2 ^ b = 2 ^ a * 2 ^ (b - a) := by rw [← Nat.pow_add]; congr 1; omega
theorem wb_lt2 {a b : Nat} (h : a < b) : 2 ^ a < 2 ^ b := Nat.pow_lt_pow_right (by decide) h
theorem wb_mod (n : Nat) : lN n = lN (n % 2 ^ 64) := wb_inj (by rw [wb_tb, wb_tb]; apply BitVec.eq_of_toNat_eq; rw [BitVec.toNat_ofNat, BitVec.toNat_ofNat, Nat.mod_mod])
theorem wb_shr {n k : Nat} (hn : n < 2 ^ 64) (hk : k < 64) : ((lN n).toUInt64 >>> ((nI k).toInt64.toUInt64 &&& Int64.toUInt64 63)).toInt64 = lN (n / 2 ^ k) := by
  rw [wb_cu k hk]
  apply wb_inj
  apply BitVec.eq_of_toNat_eq
  show ((lN n).toUInt64 >>> UInt64.ofNat k).toNat = (BitVec.ofNat 64 _).toNat
  have h1 : (UInt64.ofNat k).toNat = k := by
    show (BitVec.ofNat 64 k).toNat = k
    rw [BitVec.toNat_ofNat, Nat.mod_eq_of_lt (by omega)]
  have h2 : (lN n).toUInt64.toNat = n := wb_tn hn
  rw [UInt64.toNat_shiftRight, h1, h2, Nat.mod_eq_of_lt hk, Nat.shiftRight_eq_div_pow, BitVec.toNat_ofNat, Nat.mod_eq_of_lt (Nat.lt_of_le_of_lt (Nat.div_le_self _ _) hn)]
theorem wb_shl (n : Nat) {k : Nat} (hk : k < 64) : lN n <<< ((nI k).toInt64 &&& 63) = lN (n * 2 ^ k) := by
  rw [wb_c k hk]
  apply wb_inj
  rw [Int64.toBitVec_shiftLeft, wb_tb, wb_tb, wb_tb, wb_sm k hk]
  apply BitVec.eq_of_toNat_eq
  rw [BitVec.shiftLeft_eq', BitVec.toNat_shiftLeft, BitVec.toNat_ofNat, BitVec.toNat_ofNat, BitVec.toNat_ofNat, Nat.mod_eq_of_lt (show k < 2 ^ 64 by omega), Nat.shiftLeft_eq, Nat.mul_mod, Nat.mod_mod, ← Nat.mul_mod]
theorem wb_and {a b : Nat} (ha : a < 2 ^ 64) (hb : b < 2 ^ 64) : lN a &&& lN b = lN (a &&& b) := by
  apply wb_inj
  rw [Int64.toBitVec_and, wb_tb, wb_tb, wb_tb]
  apply BitVec.eq_of_toNat_eq
  rw [BitVec.toNat_and, BitVec.toNat_ofNat, BitVec.toNat_ofNat, BitVec.toNat_ofNat, Nat.mod_eq_of_lt ha, Nat.mod_eq_of_lt hb, Nat.mod_eq_of_lt (Nat.and_lt_two_pow _ hb)]
theorem wb_or {a b : Nat} (ha : a < 2 ^ 64) (hb : b < 2 ^ 64) : lN a ||| lN b = lN (a ||| b) := by
  apply wb_inj
  rw [Int64.toBitVec_or, wb_tb, wb_tb, wb_tb]
  apply BitVec.eq_of_toNat_eq
  rw [BitVec.toNat_or, BitVec.toNat_ofNat, BitVec.toNat_ofNat, BitVec.toNat_ofNat, Nat.mod_eq_of_lt ha, Nat.mod_eq_of_lt hb, Nat.mod_eq_of_lt (Nat.or_lt_two_pow ha hb)]
theorem wb_mask {n k : Nat} (hn : n < 2 ^ 64) (hk : k < 64) : lN n &&& lN (2 ^ k - 1) = lN (n % 2 ^ k) := by
  rw [wb_and hn (by have := wb_lt2 hk; omega), Nat.and_two_pow_sub_one_eq_mod]
theorem wb_a1 {n : Nat} (hn : n < 2 ^ 64) : lN n &&& 1 = lN (n % 2) := wb_mask (k := 1) hn (by decide)
theorem wb_bit {n k : Nat} (hn : n < 2 ^ 64) (hk : k < 64) : ((lN n).toUInt64 >>> ((nI k).toInt64.toUInt64 &&& Int64.toUInt64 63)).toInt64 &&& 1 = lN (n / 2 ^ k % 2) := by
  rw [wb_shr hn hk, wb_a1 (Nat.lt_of_le_of_lt (Nat.div_le_self _ _) hn)]
/-! how many bits of a long -/
theorem dg_and {a b A B : Nat} (ha : a < 256) (hb : b < 256) : (a + 256 * A) &&& (b + 256 * B) = (a &&& b) + 256 * (A &&& B) := by
  have hab : a &&& b < 2 ^ 8 := Nat.and_lt_two_pow _ hb
  rw [Nat.add_comm a, Nat.add_comm b, Nat.add_comm (a &&& b)]
  apply Nat.eq_of_testBit_eq
  intro i
  rw [Nat.testBit_and, show 256 = 2 ^ 8 from rfl, Nat.testBit_two_pow_mul_add A (show a < 2 ^ 8 from ha), Nat.testBit_two_pow_mul_add B (show b < 2 ^ 8 from hb), Nat.testBit_two_pow_mul_add _ hab]
  by_cases h : i < 8
  · rw [if_pos h, if_pos h, if_pos h, Nat.testBit_and]
  · rw [if_neg h, if_neg h, if_neg h, Nat.testBit_and]
def bk_5 : Nat → Nat
  | 0 => 0
  | n + 1 => 85 + 256 * bk_5 n
def bk_3 : Nat → Nat
  | 0 => 0
  | n + 1 => 51 + 256 * bk_3 n
def bk_f : Nat → Nat
  | 0 => 0
  | n + 1 => 15 + 256 * bk_f n
def bq_a (m v : Nat) : Nat := v - (v / 2 &&& bk_5 m)
def bq_b (m v : Nat) : Nat := (bq_a m v &&& bk_3 m) + (bq_a m v / 4 &&& bk_3 m)
def bq_c (m v : Nat) : Nat := (bq_b m v + bq_b m v / 16) &&& bk_f m
def bd_a (b : Nat) : Nat := b - (b / 2 &&& 85)
def bd_b (b : Nat) : Nat := (bd_a b &&& 51) + (bd_a b / 4 &&& 51)
theorem bd_1 : ∀ b, b < 256 → ∀ c, c < 2 → (b / 2 + 128 * c) &&& 85 = b / 2 &&& 85 := by decide +kernel
theorem bd_2 : ∀ b, b < 256 → ∀ c, c < 4 → (b / 4 + 64 * c) &&& 51 = b / 4 &&& 51 := by decide +kernel
theorem bd_3 : ∀ b, b < 256 → ∀ e, e < 5 → (bd_b b + bd_b b / 16 + 16 * e) &&& 15 = pop8 b := by decide +kernel
theorem bd_4 : ∀ b, b < 256 → bd_b b ≤ 68 ∧ bd_b b % 16 ≤ 4 := by decide +kernel
theorem bd_5 : ∀ b, b < 256 → pop8 b ≤ 8 := by decide +kernel
theorem bq_a_s {m b v : Nat} (hb : b < 256) : bq_a (m + 1) (b + 256 * v) = bd_a b + 256 * bq_a m v := by
  have e : (b + 256 * v) / 2 = (b / 2 + 128 * (v % 2)) + 256 * (v / 2) := by omega
  unfold bq_a bd_a
  rw [e, bk_5, dg_and (by omega) (by omega), bd_1 b hb _ (Nat.mod_lt _ (by omega))]
  have h1 : b / 2 &&& 85 ≤ b / 2 := Nat.and_le_left
  have h2 : v / 2 &&& bk_5 m ≤ v / 2 := Nat.and_le_left
  omega
theorem bq_b_s {m b v : Nat} (hb : b < 256) : bq_b (m + 1) (b + 256 * v) = bd_b b + 256 * bq_b m v := by
  have hd : bd_a b < 256 := Nat.lt_of_le_of_lt (Nat.sub_le _ _) hb
  have e : (bd_a b + 256 * bq_a m v) / 4 = (bd_a b / 4 + 64 * (bq_a m v % 4)) + 256 * (bq_a m v / 4) := by omega
  unfold bq_b bd_b
  rw [bq_a_s hb, e, bk_3, dg_and hd (by omega), dg_and (by omega) (by omega), bd_2 _ hd _ (Nat.mod_lt _ (by omega))]
  omega
theorem bq_b_lo (m v : Nat) : bq_b m v % 16 ≤ 4 := by
  cases m with
  | zero => unfold bq_b bk_3; simp
  | succ m =>
    have e : v = v % 256 + 256 * (v / 256) := by omega
    have hb := bd_4 (v % 256) (Nat.mod_lt _ (by omega))
    rw [e, bq_b_s (Nat.mod_lt _ (by omega))]
    omega
theorem bq_c_s {m b v : Nat} (hb : b < 256) : bq_c (m + 1) (b + 256 * v) = pop8 b + 256 * bq_c m v := by
  have hl := bq_b_lo m v
  have hd := bd_4 b hb
  have e : bd_b b + 256 * bq_b m v + (bd_b b + 256 * bq_b m v) / 16 = (bd_b b + bd_b b / 16 + 16 * (bq_b m v % 16)) + 256 * (bq_b m v + bq_b m v / 16) := by omega
  unfold bq_c
  rw [bq_b_s hb, e, bk_f, dg_and (by omega) (by omega), bd_3 b hb _ (by omega)]
theorem bq_c_v (m v : Nat) : bq_c (m + 1) v = pop8 (v % 256) + 256 * bq_c m (v / 256) := by
  have e : v = v % 256 + 256 * (v / 256) := by omega
  have h := bq_c_s (m := m) (v := v / 256) (Nat.mod_lt v (show 0 < 256 by omega))
  rw [← e] at h
  exact h
theorem bq_c_0 (v : Nat) : bq_c 0 v = 0 := by unfold bq_c bk_f; simp
def pqS : Nat → Nat → Nat
  | 0, _ => 0
  | m + 1, v => pop8 (v % 256) + pqS m (v / 256)
def bk_p (v : Nat) : Nat := pqS 8 v
theorem dv_a {a X : Nat} (h : a < 256) : (a + 256 * X) / 256 = X := by omega
theorem dv_b {a b X : Nat} (h : a < 256) (h2 : b < 256) : (a + 256 * (b + 256 * X)) / 65536 = X := by omega
theorem dv_c {a b c d X : Nat} (h : a < 256) (h2 : b < 256) (h3 : c < 256) (h4 : d < 256) : (a + 256 * (b + 256 * (c + 256 * (d + 256 * X)))) / 4294967296 = X := by omega
theorem dv_d {a X : Nat} (h : a ≤ 64) : (a + 256 * X) % 128 = a := by omega
theorem dv_e {a b X Y : Nat} : a + 256 * X + (b + 256 * Y) = a + b + 256 * (X + Y) := by omega
theorem dv_f {a b c d X Y Z W : Nat} : (a + 256 * X) + (b + 256 * Y) + (c + 256 * Z) + (d + 256 * W) = a + b + c + d + 256 * (X + Y + Z + W) := by omega
def bq_e (x : Nat) : Nat := x + x / 256 + (x + x / 256) / 65536 + (x + x / 256 + (x + x / 256) / 65536) / 4294967296
theorem add_up {a b c d e f g h : Nat} (ha : a ≤ 8) (hb : b ≤ 8) (hc : c ≤ 8) (hd : d ≤ 8) (he : e ≤ 8) (hf : f ≤ 8) (hg : g ≤ 8) (hh : h ≤ 8) :
    bq_e (a + 256 * (b + 256 * (c + 256 * (d + 256 * (e + 256 * (f + 256 * (g + 256 * (h + 256 * 0)))))))) % 128 = a + (b + (c + (d + (e + (f + (g + (h + 0))))))) := by
  obtain ⟨X8, e8⟩ : ∃ X, X = 0 := ⟨_, rfl⟩
  obtain ⟨X7, e7⟩ : ∃ X, X = h + 256 * X8 := ⟨_, rfl⟩
  obtain ⟨X6, e6⟩ : ∃ X, X = g + 256 * X7 := ⟨_, rfl⟩
  obtain ⟨X5, e5⟩ : ∃ X, X = f + 256 * X6 := ⟨_, rfl⟩
  obtain ⟨X4, e4⟩ : ∃ X, X = e + 256 * X5 := ⟨_, rfl⟩
  obtain ⟨X3, e3⟩ : ∃ X, X = d + 256 * X4 := ⟨_, rfl⟩
  obtain ⟨X2, e2⟩ : ∃ X, X = c + 256 * X3 := ⟨_, rfl⟩
  obtain ⟨X1, e1⟩ : ∃ X, X = b + 256 * X2 := ⟨_, rfl⟩
  rw [← e8, ← e7, ← e6, ← e5, ← e4, ← e3, ← e2, ← e1]
  have s4 : a + 256 * X1 + (a + 256 * X1) / 256 = (a + b) + 256 * (X1 + X2) := by
    rw [dv_a (by omega)]
    exact (congrArg (fun q => a + 256 * X1 + q) e1).trans dv_e
  have m12 : X1 + X2 = (b + c) + 256 * (X2 + X3) := by
    refine (congrArg (fun q => q + X2) e1).trans ((congrArg (fun q => b + 256 * X2 + q) e2).trans dv_e)
  have m23 : X2 + X3 = (c + d) + 256 * (X3 + X4) := by
    refine (congrArg (fun q => q + X3) e2).trans ((congrArg (fun q => c + 256 * X3 + q) e3).trans dv_e)
  have d4 : (a + 256 * X1 + (a + 256 * X1) / 256) / 65536 = X2 + X3 := by
    rw [s4, m12]
    exact dv_b (by omega) (by omega)
  have s5 : a + 256 * X1 + (a + 256 * X1) / 256 + (a + 256 * X1 + (a + 256 * X1) / 256) / 65536 = (a + b) + (c + d) + 256 * ((X1 + X2) + (X3 + X4)) := by
    rw [d4, s4]
    exact (congrArg (fun q => a + b + 256 * (X1 + X2) + q) m23).trans dv_e
  have n1 : (X1 + X2) + (X3 + X4) = (b + c + d + e) + 256 * (X2 + X3 + X4 + X5) := by
    have := dv_f (a := b) (b := c) (c := d) (d := e) (X := X2) (Y := X3) (Z := X4) (W := X5)
    rw [← e1, ← e2, ← e3, ← e4] at this
    rw [← this]
    exact (Nat.add_assoc _ _ _).symm
  have n2 : X2 + X3 + X4 + X5 = (c + d + e + f) + 256 * (X3 + X4 + X5 + X6) := by
    have := dv_f (a := c) (b := d) (c := e) (d := f) (X := X3) (Y := X4) (Z := X5) (W := X6)
    rw [← e2, ← e3, ← e4, ← e5] at this
    exact this
  have n3 : X3 + X4 + X5 + X6 = (d + e + f + g) + 256 * (X4 + X5 + X6 + X7) := by
    have := dv_f (a := d) (b := e) (c := f) (d := g) (X := X4) (Y := X5) (Z := X6) (W := X7)
    rw [← e3, ← e4, ← e5, ← e6] at this
    exact this
  have n4 : X4 + X5 + X6 + X7 = (e + f + g + h) + 256 * (X5 + X6 + X7 + X8) := by
    have := dv_f (a := e) (b := f) (c := g) (d := h) (X := X5) (Y := X6) (Z := X7) (W := X8)
    rw [← e4, ← e5, ← e6, ← e7] at this
    exact this
  have d5 : (a + 256 * X1 + (a + 256 * X1) / 256 + (a + 256 * X1 + (a + 256 * X1) / 256) / 65536) / 4294967296 = X4 + X5 + X6 + X7 := by
    rw [s5, n1, n2, n3]
    exact dv_c (by omega) (by omega) (by omega) (by omega)
  unfold bq_e
  rw [d5, s5, n4, dv_e, dv_d (by omega)]
  omega
theorem bq_c_pop {v : Nat} : bq_e (bq_c 8 v) % 128 = bk_p v := by
  have hp : ∀ u, pop8 (u % 256) ≤ 8 := fun u => bd_5 _ (Nat.mod_lt _ (by omega))
  rw [bq_c_v, bq_c_v, bq_c_v, bq_c_v, bq_c_v, bq_c_v, bq_c_v, bq_c_v, bq_c_0]
  exact add_up (hp _) (hp _) (hp _) (hp _) (hp _) (hp _) (hp _) (hp _)
/-- the same on a long -/
def lcF (x : Int64) : Int32 :=
  let a := x - ((x.toUInt64 >>> ((1 : Int32).toInt64.toUInt64 &&& Int64.toUInt64 63)).toInt64 &&& 6148914691236517205)
  let b := (a &&& 3689348814741910323) + ((a.toUInt64 >>> ((2 : Int32).toInt64.toUInt64 &&& Int64.toUInt64 63)).toInt64 &&& 3689348814741910323)
  let c := (b + (b.toUInt64 >>> ((4 : Int32).toInt64.toUInt64 &&& Int64.toUInt64 63)).toInt64) &&& 1085102592571150095
  let d := c + (c.toUInt64 >>> ((8 : Int32).toInt64.toUInt64 &&& Int64.toUInt64 63)).toInt64
  let e := d + (d.toUInt64 >>> ((16 : Int32).toInt64.toUInt64 &&& Int64.toUInt64 63)).toInt64
  let f := e + (e.toUInt64 >>> ((32 : Int32).toInt64.toUInt64 &&& Int64.toUInt64 63)).toInt64
  f.toInt32 &&& 127
theorem bk_5_8 : bk_5 8 = 6148914691236517205 := rfl
theorem bk_3_8 : bk_3 8 = 3689348814741910323 := rfl
theorem bk_f_8 : bk_f 8 = 1085102592571150095 := rfl
theorem and_le_r {a b : Nat} : a &&& b ≤ b := Nat.and_le_right
theorem lcF_pop {v : Nat} (hv : v < 2 ^ 64) : lcF (lN v) = nI (bk_p v) := by
  have hA : v / 2 &&& 6148914691236517205 ≤ v / 2 := Nat.and_le_left
  have eA : lN v - (((lN v).toUInt64 >>> ((1 : Int32).toInt64.toUInt64 &&& Int64.toUInt64 63)).toInt64 &&& 6148914691236517205) = lN (bq_a 8 v) := by
    rw [show (1 : Int32) = nI 1 from rfl, wb_shr hv (by omega), Nat.pow_one, show (6148914691236517205 : Int64) = lN 6148914691236517205 from rfl, wb_and (by omega) (by omega), lN_sub (by omega), bq_a, bk_5_8]
  have h1 : bq_a 8 v < 2 ^ 64 := by unfold bq_a; omega
  have hb1 : bq_a 8 v &&& 3689348814741910323 ≤ 3689348814741910323 := and_le_r
  have hb2 : bq_a 8 v / 4 &&& 3689348814741910323 ≤ 3689348814741910323 := and_le_r
  have eB : (lN (bq_a 8 v) &&& 3689348814741910323) + (((lN (bq_a 8 v)).toUInt64 >>> ((2 : Int32).toInt64.toUInt64 &&& Int64.toUInt64 63)).toInt64 &&& 3689348814741910323) = lN (bq_b 8 v) := by
    rw [show (2 : Int32) = nI 2 from rfl, wb_shr h1 (by omega), show (3689348814741910323 : Int64) = lN 3689348814741910323 from rfl, wb_and h1 (by omega), wb_and (by omega) (by omega), lN_add, bq_b, bk_3_8]
  have h2 : bq_b 8 v ≤ 7378697629483820646 := by unfold bq_b; rw [bk_3_8]; omega
  have eC : (lN (bq_b 8 v) + ((lN (bq_b 8 v)).toUInt64 >>> ((4 : Int32).toInt64.toUInt64 &&& Int64.toUInt64 63)).toInt64) &&& 1085102592571150095 = lN (bq_c 8 v) := by
    rw [show (4 : Int32) = nI 4 from rfl, wb_shr (by omega) (by omega), lN_add, show (1085102592571150095 : Int64) = lN 1085102592571150095 from rfl, wb_and (by omega) (by omega), bq_c, bk_f_8]
  have h3 : bq_c 8 v ≤ 1085102592571150095 := by unfold bq_c; rw [bk_f_8]; exact and_le_r
  unfold lcF
  simp only
  rw [eA, eB, eC, show (8 : Int32) = nI 8 from rfl, show (16 : Int32) = nI 16 from rfl, show (32 : Int32) = nI 32 from rfl, wb_shr (n := bq_c 8 v) (by omega) (by omega), lN_add, wb_shr (by omega) (by omega), lN_add, wb_shr (by omega) (by omega), lN_add, lN_i, pk_and _ 7 (by decide)]
  rw [← bq_c_pop]
  show nI (bq_e (bq_c 8 v) % 2 ^ 32 % 2 ^ 7) = nI (bq_e (bq_c 8 v) % 128)
  congr 1
  omega
set_option maxRecDepth 10000 in
set_option maxHeartbeats 1000000 in
theorem cJ_bitCountL (x : Int64) (L : zL) (M : zM) (hL : 2 ≤ L.length) : zMet zi_J13_bitCount_95d88 [.long x] L M L (zx (some (.int (lcF x))) M) := by
  refine z_me (zk_J13_bitCount_95d88 _ _) rfl hL rfl (fun ret hret => ?_)
  exact hret
/-- the bits of bw are counted -/
theorem pop8_sm (u : Nat) : pop8 (u % 256) = sm (fun j => u / 2 ^ j % 2) 8 := by
  have key : ∀ k, k < 8 → u % 256 / 2 ^ k % 2 = u / 2 ^ k % 2 := by
    intro k hk
    rcases (show k = 0 ∨ k = 1 ∨ k = 2 ∨ k = 3 ∨ k = 4 ∨ k = 5 ∨ k = 6 ∨ k = 7 by omega) with e | e | e | e | e | e | e | e <;> subst e <;> omega
  unfold pop8
  rw [key 0 (by omega), key 1 (by omega), key 2 (by omega), key 3 (by omega), key 4 (by omega), key 5 (by omega), key 6 (by omega), key 7 (by omega)]
  simp only [sm, Nat.zero_add]
theorem sm_8 (f : Nat → Nat) : ∀ n, sm f (8 + n) = sm f 8 + sm (fun j => f (8 + j)) n
  | 0 => rfl
  | n + 1 => by
    show sm f (8 + n) + f (8 + n) = _
    rw [sm_8 f n, Nat.add_assoc]
    rfl
theorem pqS_sm : ∀ m v, pqS m v = sm (fun j => v / 2 ^ j % 2) (8 * m)
  | 0, _ => rfl
  | m + 1, v => by
    rw [pqS, pqS_sm m (v / 256), pop8_sm, show 8 * (m + 1) = 8 + 8 * m by omega, sm_8]
    congr 1
    refine sm_cong _ (fun j _ => ?_)
    rw [Nat.div_div_eq_div_mul, Nat.pow_add]
theorem bk_p_sm (v : Nat) : bk_p v = sm (fun j => v / 2 ^ j % 2) 64 := pqS_sm 8 v
theorem sm_bw (g : Nat → Bool) (n : Nat) : ∀ m, n ≤ m → sm (fun j => bw g n / 2 ^ j % 2) m = cnt g n := by
  have key : ∀ k, sm (fun j => bw g n / 2 ^ j % 2) k = cnt g (if k < n then k else n) := by
    intro k
    induction k with
    | zero =>
      by_cases h : 0 < n
      · rw [if_pos h]; rfl
      · rw [if_neg h, show n = 0 by omega]; rfl
    | succ k ih =>
      unfold sm
      rw [ih, bw_bit]
      by_cases h : k < n
      · rw [if_pos h]
        by_cases h2 : k + 1 < n
        · rw [if_pos h2, cnt]
          by_cases q : g k = true <;> simp [q, h]
        · rw [if_neg h2, show n = k + 1 by omega, cnt]
          by_cases q : g k = true <;> simp [q]
      · rw [if_neg h, if_neg (by omega), if_neg (by omega), Nat.add_zero]
  intro m hm
  rw [key, if_neg (by omega)]
theorem lcF_bw (g : Nat → Bool) {n : Nat} (hn : n ≤ 64) : lcF (lN (bw g n)) = nI (cnt g n) := by
  rw [lcF_pop (Nat.lt_of_lt_of_le (bw_lt g n) (Nat.pow_le_pow_right (by decide) hn)), bk_p_sm, sm_bw g n 64 hn]
