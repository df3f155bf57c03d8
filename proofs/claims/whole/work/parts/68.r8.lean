/-! ===== bits of a long ===== -/
theorem i64_n {z : Int64} {n : Nat} (h : z.toBitVec.toNat = n) (hn : n < 9223372036854775808) : z.toInt = n := by
  show z.toBitVec.toInt = n
  rw [BitVec.toInt_eq_toNat_of_lt (by rw [h]; omega), h]
theorem lV_n {n : Nat} (hn : n < 9223372036854775808) : (lV (n : Int)).toBitVec.toNat = n := by
  show (BitVec.ofInt 64 (n : Int)).toNat = n
  rw [BitVec.ofInt_natCast, BitVec.toNat_ofNat]
  omega
theorem orL_n {a b : Nat} (ha : a < 16777216) (hb : b < 16777216) : orL (a : Int) (b : Int) = ((a ||| b : Nat) : Int) := by
  have hc : a ||| b < 2 ^ 24 := Nat.or_lt_two_pow (by omega) (by omega)
  exact i64_n (by
    show ((lV (a : Int)).toBitVec ||| (lV (b : Int)).toBitVec).toNat = _
    rw [BitVec.toNat_or, lV_n (by omega), lV_n (by omega)]) (by omega)
theorem andL_n {a b : Nat} (ha : a < 9223372036854775808) (hb : b < 9223372036854775808) : andL (a : Int) (b : Int) = ((a &&& b : Nat) : Int) := by
  have hc : a &&& b ≤ a := Nat.and_le_left
  exact i64_n (by
    show ((lV (a : Int)).toBitVec &&& (lV (b : Int)).toBitVec).toNat = _
    rw [BitVec.toNat_and, lV_n ha, lV_n hb]) (by omega)
theorem ushrL_n {a k : Nat} {y : Int} (ha : a < 9223372036854775808) (hy : ((iV y).toInt64.toUInt64 &&& Int64.toUInt64 63).toNat % 64 = k) : ushrL (a : Int) y = ((a / 2 ^ k : Nat) : Int) := by
  have hd : a / 2 ^ k ≤ a := Nat.div_le_self _ _
  exact i64_n (by
    show ((lV (a : Int)).toUInt64 >>> ((iV y).toInt64.toUInt64 &&& Int64.toUInt64 63)).toNat = _
    rw [UInt64.toNat_shiftRight, hy, Nat.shiftRight_eq_div_pow]
    show (lV (a : Int)).toBitVec.toNat / _ = _
    rw [lV_n ha]) (by omega)
theorem i32_n {z : Int32} {n : Nat} (h : z.toBitVec.toNat = n) (hn : n < 2147483648) : z.toInt = n := by
  show z.toBitVec.toInt = n
  rw [BitVec.toInt_eq_toNat_of_lt (by rw [h]; omega), h]
theorem iV_n {n : Nat} (hn : n < 2147483648) : (iV (n : Int)).toBitVec.toNat = n := by
  show (BitVec.ofInt 32 (n : Int)).toNat = n
  rw [BitVec.ofInt_natCast, BitVec.toNat_ofNat]
  omega
theorem andI_n {a b : Nat} (ha : a < 2147483648) (hb : b < 2147483648) : andI (a : Int) (b : Int) = ((a &&& b : Nat) : Int) := by
  have hc : a &&& b ≤ a := Nat.and_le_left
  exact i32_n (by
    show ((iV (a : Int)).toBitVec &&& (iV (b : Int)).toBitVec).toNat = _
    rw [BitVec.toNat_and, iV_n ha, iV_n hb]) (by omega)
theorem and_sp (a b : Nat) : a &&& b = ((a % 256) &&& (b % 256)) + 256 * ((a / 256) &&& (b / 256)) := by
  have h1 : (a &&& b) % 256 = (a % 256) &&& (b % 256) := Nat.and_mod_two_pow (n := 8)
  have h2 : (a &&& b) / 256 = (a / 256) &&& (b / 256) := Nat.and_div_two_pow (n := 8)
  have h3 := Nat.mod_add_div (a &&& b) 256
  rw [h1, h2] at h3
  exact h3.symm
theorem and_3 {y m : Nat} (hy : y < 16777216) : y &&& m = ((y % 256) &&& (m % 256)) + 256 * (((y / 256) % 256) &&& ((m / 256) % 256)) + 65536 * ((y / 65536) &&& ((m / 65536) % 256)) := by
  have h1 := and_sp y m
  have h2 := and_sp (y / 256) (m / 256)
  have h3 := and_sp (y / 65536) (m / 65536)
  rw [show y / 65536 / 256 = 0 by omega, Nat.zero_and, show y / 65536 % 256 = y / 65536 by omega] at h3
  rw [show y / 256 / 256 = y / 65536 by omega, show m / 256 / 256 = m / 65536 by omega] at h2
  omega
/-- bits below n -/
def bS (x : Nat) : Nat → Nat
  | 0 => 0
  | n + 1 => bS x n + (if x.testBit n then 1 else 0)
theorem bS_add (x n : Nat) : ∀ m : Nat, bS x (n + m) = bS x n + bS (x / 2 ^ n) m := by
  intro m
  induction m with
  | zero => rfl
  | succ m ih =>
    rw [show n + (m + 1) = (n + m) + 1 by omega, bS, bS, ih, Nat.testBit_div_two_pow, Nat.add_comm m n]
    omega
theorem bS_mod (x n : Nat) : ∀ m : Nat, m ≤ n → bS (x % 2 ^ n) m = bS x m := by
  intro m
  induction m with
  | zero => intro _; rfl
  | succ m ih =>
    intro h
    rw [bS, bS, ih (by omega), Nat.testBit_mod_two_pow, decide_eq_true (show m < n by omega), Bool.true_and]
theorem bS_3 (x : Nat) (hx : x < 16777216) : bS x 24 = bS (x % 256) 8 + bS (x / 256 % 256) 8 + bS (x / 65536) 8 := by
  have h1 : bS x 24 = bS x 8 + bS (x / 2 ^ 8) 16 := bS_add x 8 16
  have h2 : bS (x / 2 ^ 8) 16 = bS (x / 2 ^ 8) 8 + bS (x / 2 ^ 8 / 2 ^ 8) 8 := bS_add (x / 2 ^ 8) 8 8
  have h3 := bS_mod x 8 8 (by omega)
  have h4 := bS_mod (x / 2 ^ 8) 8 8 (by omega)
  have e : x / 2 ^ 8 / 2 ^ 8 = x / 65536 := by omega
  rw [e] at h2
  rw [show (2 : Nat) ^ 8 = 256 from rfl] at h1 h2 h3 h4
  omega
def pc1 (b : Nat) : Nat := b - ((b / 2) &&& 85)
def pc2 (w : Nat) : Nat := (w &&& 51) + ((w / 4) &&& 51)
abbrev pcA : Prop := ∀ b : Nat, b < 256 → ((b / 2) &&& 85) ≤ b ∧ ((b / 2 + 128) &&& 85) = ((b / 2) &&& 85) ∧ ((b / 4 + 64) &&& 51) = ((b / 4) &&& 51) ∧ ((b / 4 + 128) &&& 51) = ((b / 4) &&& 51) ∧ ((b / 4 + 192) &&& 51) = ((b / 4) &&& 51) ∧ (b &&& 15) = b % 16 ∧ (b &&& 127) = b % 128 ∧ pc2 (pc1 b) < 256 ∧ pc2 (pc1 b) % 16 ≤ 4 ∧ pc2 (pc1 b) / 16 ≤ 4 ∧ pc2 (pc1 b) % 16 + pc2 (pc1 b) / 16 = bS b 8
theorem pc_A : pcA := by decide +kernel
theorem pc_s1 {x b0 b1 b2 : Nat} (h0 : b0 < 256) (h1 : b1 < 256) (h2 : b2 < 256) (hx : x = b0 + 256 * b1 + 65536 * b2) : (x / 2) &&& 6148914691236517205 = ((b0 / 2) &&& 85) + 256 * ((b1 / 2) &&& 85) + 65536 * ((b2 / 2) &&& 85) := by
  rw [and_3 (by omega)]
  have c0 : (x / 2) % 256 = b0 / 2 ∨ (x / 2) % 256 = b0 / 2 + 128 := by omega
  have c1 : (x / 2 / 256) % 256 = b1 / 2 ∨ (x / 2 / 256) % 256 = b1 / 2 + 128 := by omega
  have c2 : x / 2 / 65536 = b2 / 2 := by omega
  have q0 : (x / 2) % 256 &&& 85 = (b0 / 2) &&& 85 := by
    rcases c0 with e | e
    · rw [e]
    · rw [e]; exact (pc_A b0 h0).2.1
  have q1 : (x / 2 / 256) % 256 &&& 85 = (b1 / 2) &&& 85 := by
    rcases c1 with e | e
    · rw [e]
    · rw [e]; exact (pc_A b1 h1).2.1
  rw [c2, show 6148914691236517205 % 256 = 85 from rfl, q0, q1]
theorem pc_s2 {x b0 b1 b2 : Nat} (h0 : b0 < 256) (h1 : b1 < 256) (h2 : b2 < 256) (hx : x = b0 + 256 * b1 + 65536 * b2) : (x &&& 3689348814741910323) + ((x / 4) &&& 3689348814741910323) = pc2 b0 + 256 * pc2 b1 + 65536 * pc2 b2 := by
  rw [and_3 (y := x) (by omega), and_3 (y := x / 4) (by omega)]
  have c0 : (x / 4) % 256 = b0 / 4 ∨ (x / 4) % 256 = b0 / 4 + 64 ∨ (x / 4) % 256 = b0 / 4 + 128 ∨ (x / 4) % 256 = b0 / 4 + 192 := by omega
  have c1 : (x / 4 / 256) % 256 = b1 / 4 ∨ (x / 4 / 256) % 256 = b1 / 4 + 64 ∨ (x / 4 / 256) % 256 = b1 / 4 + 128 ∨ (x / 4 / 256) % 256 = b1 / 4 + 192 := by omega
  have c2 : x / 4 / 65536 = b2 / 4 := by omega
  have k0 : x % 256 = b0 := by omega
  have k1 : x / 256 % 256 = b1 := by omega
  have k2 : x / 65536 = b2 := by omega
  have q0 : (x / 4) % 256 &&& 51 = (b0 / 4) &&& 51 := by
    rcases c0 with e | e | e | e
    · rw [e]
    · rw [e]; exact (pc_A b0 h0).2.2.1
    · rw [e]; exact (pc_A b0 h0).2.2.2.1
    · rw [e]; exact (pc_A b0 h0).2.2.2.2.1
  have q1 : (x / 4 / 256) % 256 &&& 51 = (b1 / 4) &&& 51 := by
    rcases c1 with e | e | e | e
    · rw [e]
    · rw [e]; exact (pc_A b1 h1).2.2.1
    · rw [e]; exact (pc_A b1 h1).2.2.2.1
    · rw [e]; exact (pc_A b1 h1).2.2.2.2.1
  rw [c2, show 3689348814741910323 % 256 = 51 from rfl, q0, q1, k0, k1, k2]
  clear q0 q1 c0 c1 c2
  unfold pc2
  generalize b0 &&& 51 = y0
  generalize b1 &&& 51 = y1
  generalize b2 &&& 51 = y2
  generalize (b0 / 4) &&& 51 = z0
  generalize (b1 / 4) &&& 51 = z1
  generalize (b2 / 4) &&& 51 = z2
  omega
theorem dm_16 {w a q : Nat} (h : w = a + 16 * q) (ha : a < 16) : w / 16 = q := by omega
theorem dm_256 {w a q : Nat} (h : w = a + 256 * q) (ha : a < 256) : w / 256 = q ∧ w % 256 = a := by omega
theorem dm_64k {w : Nat} : w / 65536 = w / 256 / 256 := by omega
theorem pc_nb {l h : Nat} (a : l ≤ 8) (b : h ≤ 8) : l + 16 * h < 256 ∧ (l + 16 * h) % 16 = l := by omega
theorem pc_s3 {w l0 h0 l1 h1 l2 h2 : Nat} (a0 : l0 ≤ 4) (b0 : h0 ≤ 4) (a1 : l1 ≤ 4) (b1 : h1 ≤ 4) (a2 : l2 ≤ 4) (b2 : h2 ≤ 4) (hw : w = (l0 + 16 * h0) + 256 * (l1 + 16 * h1) + 65536 * (l2 + 16 * h2)) : (w + w / 16) &&& 1085102592571150095 = (l0 + h0) + 256 * (l1 + h1) + 65536 * (l2 + h2) := by
  have d : w / 16 = h0 + 16 * l1 + 256 * h1 + 4096 * l2 + 65536 * h2 := dm_16 (a := l0) (by rw [hw]; simp only [Nat.mul_add, ← Nat.mul_assoc]; simp only [Nat.reduceMul]; ac_rfl) (by omega)
  obtain ⟨y, hy⟩ : ∃ y, y = w + w / 16 := ⟨_, rfl⟩
  obtain ⟨A, hA⟩ : ∃ A, A = (l0 + h0) + 16 * (h0 + l1) := ⟨_, rfl⟩
  obtain ⟨B, hB⟩ : ∃ B, B = (l1 + h1) + 16 * (h1 + l2) := ⟨_, rfl⟩
  obtain ⟨C, hC⟩ : ∃ C, C = (l2 + h2) + 16 * h2 := ⟨_, rfl⟩
  have s : y = A + 256 * (B + 256 * C) := by rw [d] at hy; omega
  have nA := pc_nb (show l0 + h0 ≤ 8 by omega) (show h0 + l1 ≤ 8 by omega)
  have nB := pc_nb (show l1 + h1 ≤ 8 by omega) (show h1 + l2 ≤ 8 by omega)
  have nC := pc_nb (show l2 + h2 ≤ 8 by omega) (show h2 ≤ 8 by omega)
  rw [← hA] at nA
  rw [← hB] at nB
  rw [← hC] at nC
  have g1 := dm_256 s nA.1
  have g2 := dm_256 (w := B + 256 * C) rfl nB.1
  have yl : y < 16777216 := by clear hy d hw hA hB hC; omega
  rw [← hy, and_3 yl, show 1085102592571150095 % 256 = 15 from rfl, dm_64k, g1.1, g1.2, g2.1, g2.2, (pc_A A nA.1).2.2.2.2.2.1, (pc_A B nB.1).2.2.2.2.2.1, (pc_A C nC.1).2.2.2.2.2.1, nA.2, nB.2, nC.2]
theorem pc_s4 {z p0 p1 p2 : Nat} (a0 : p0 ≤ 8) (a1 : p1 ≤ 8) (a2 : p2 ≤ 8) (hz : z = p0 + 256 * p1 + 65536 * p2) : (z + z / 2 ^ 8 + (z + z / 2 ^ 8) / 2 ^ 16 + (z + z / 2 ^ 8 + (z + z / 2 ^ 8) / 2 ^ 16) / 2 ^ 32) % 128 = p0 + p1 + p2 ∧ z + z / 2 ^ 8 < 16777216 ∧ z + z / 2 ^ 8 + (z + z / 2 ^ 8) / 2 ^ 16 < 16777216 ∧ z + z / 2 ^ 8 + (z + z / 2 ^ 8) / 2 ^ 16 + (z + z / 2 ^ 8 + (z + z / 2 ^ 8) / 2 ^ 16) / 2 ^ 32 < 16777216 := by
  have d1 : z / 2 ^ 8 = p1 + 256 * p2 := by omega
  rw [d1]
  have d2 : (z + (p1 + 256 * p2)) / 2 ^ 16 = p2 := by omega
  rw [d2]
  have d3 : (z + (p1 + 256 * p2) + p2) / 2 ^ 32 = 0 := by omega
  rw [d3]
  omega
theorem pc_ar {x u b0 b1 b2 y0 y1 y2 : Nat} (hx : x = b0 + 256 * b1 + 65536 * b2) (hu : u = y0 + 256 * y1 + 65536 * y2) (c0 : y0 ≤ b0) (c1 : y1 ≤ b1) (c2 : y2 ≤ b2) : u ≤ x ∧ x - u = (b0 - y0) + 256 * (b1 - y1) + 65536 * (b2 - y2) := by omega
theorem pc_lt {w a b c : Nat} (hw : w = a + 256 * b + 65536 * c) (h0 : a < 256) (h1 : b < 256) (h2 : c < 256) : w < 16777216 := by omega
theorem pc_by {x : Nat} (hx : x < 16777216) : ∃ b0 b1 b2 : Nat, b0 < 256 ∧ b1 < 256 ∧ b2 < 256 ∧ x = b0 + 256 * b1 + 65536 * b2 ∧ bS x 24 = bS b0 8 + bS b1 8 + bS b2 8 := ⟨x % 256, x / 256 % 256, x / 65536, by omega, by omega, by omega, by omega, bS_3 x hx⟩
theorem pc_nib {w : Nat} : w = w % 16 + 16 * (w / 16) := by omega
theorem pc_s0 {x : Nat} (hx : x < 16777216) : ∃ u v w z : Nat, u = ((x / 2) &&& 6148914691236517205) ∧ u ≤ x ∧ v = x - u ∧ w = (v &&& 3689348814741910323) + ((v / 4) &&& 3689348814741910323) ∧ z = ((w + w / 16) &&& 1085102592571150095) ∧ v < 16777216 ∧ w < 16777216 ∧ ∃ p0 p1 p2 : Nat, p0 ≤ 8 ∧ p1 ≤ 8 ∧ p2 ≤ 8 ∧ z = p0 + 256 * p1 + 65536 * p2 ∧ p0 + p1 + p2 = bS x 24 := by
  obtain ⟨b0, b1, b2, h0, h1, h2, ex, hb⟩ := pc_by hx
  obtain ⟨c0, _, _, _, _, _, _, g0, l0, m0, n0⟩ := pc_A b0 h0
  obtain ⟨c1, _, _, _, _, _, _, g1, l1, m1, n1⟩ := pc_A b1 h1
  obtain ⟨c2, _, _, _, _, _, _, g2, l2, m2, n2⟩ := pc_A b2 h2
  have v1 := pc_ar ex (pc_s1 h0 h1 h2 ex) c0 c1 c2
  have v2 : x - ((x / 2) &&& 6148914691236517205) = pc1 b0 + 256 * pc1 b1 + 65536 * pc1 b2 := v1.2
  have k0 : pc1 b0 < 256 := Nat.lt_of_le_of_lt (Nat.sub_le _ _) h0
  have k1 : pc1 b1 < 256 := Nat.lt_of_le_of_lt (Nat.sub_le _ _) h1
  have k2 : pc1 b2 < 256 := Nat.lt_of_le_of_lt (Nat.sub_le _ _) h2
  have s2 := pc_s2 k0 k1 k2 v2
  have s3 := pc_s3 (w := pc2 (pc1 b0) + 256 * pc2 (pc1 b1) + 65536 * pc2 (pc1 b2)) l0 m0 l1 m1 l2 m2 (by rw [← pc_nib, ← pc_nib, ← pc_nib])
  refine ⟨_, _, _, _, rfl, v1.1, rfl, rfl, rfl, pc_lt v2 k0 k1 k2, pc_lt s2 g0 g1 g2, pc2 (pc1 b0) % 16 + pc2 (pc1 b0) / 16, pc2 (pc1 b1) % 16 + pc2 (pc1 b1) / 16, pc2 (pc1 b2) % 16 + pc2 (pc1 b2) / 16, Nat.add_le_add l0 m0, Nat.add_le_add l1 m1, Nat.add_le_add l2 m2, ?_, ?_⟩
  · rw [s2, s3]
  · rw [hb, n0, n1, n2]
theorem big_n {n : Nat} (h : n < 16777216) : n < 9223372036854775808 := by omega
theorem big_d {n k : Nat} (h : n < 16777216) : n / k < 9223372036854775808 := big_n (Nat.lt_of_le_of_lt (Nat.div_le_self _ _) h)
theorem big_a {n : Nat} (h : n < 16777216) : n + n / 16 < 9223372036854775808 := by omega
theorem big_i {n : Nat} (h : n < 16777216) : n < 2147483648 := by omega
theorem big_s {x u v : Nat} (h : u ≤ x) (e : v = x - u) : (x : Int) - (u : Int) = (v : Int) := by omega
theorem pc_zl {z p0 p1 p2 : Nat} (a0 : p0 ≤ 8) (a1 : p1 ≤ 8) (a2 : p2 ≤ 8) (hz : z = p0 + 256 * p1 + 65536 * p2) : z < 16777216 := by omega
theorem pop_n {x : Nat} (hx : x < 16777216) : f_J13_bitCount_95d88 (x : Int) = ((bS x 24 : Nat) : Int) := by
  obtain ⟨u, v, w, z, hu, ul, hv, hW, hz, lv, lw, p0, p1, p2, k0, k1, k2, z3, hs⟩ := pc_s0 hx
  obtain ⟨f1, f2, f3, f4⟩ := pc_s4 k0 k1 k2 z3
  have lz : z < 16777216 := pc_zl k0 k1 k2 z3
  have f7 : ∀ y : Nat, y &&& 127 = y % 128 := fun y => Nat.and_two_pow_sub_one_eq_mod y 7
  have i1 := big_s ul hv
  unfold f_J13_bitCount_95d88
  rw [bnd_d, ushrL_n (a := x) (k := 1) (big_n hx) (by decide +kernel)]
  rw [show (6148914691236517205 : Int) = ((6148914691236517205 : Nat) : Int) from rfl, show x / 2 ^ 1 = x / 2 from rfl, andL_n (a := x / 2) (b := 6148914691236517205) (big_d hx) (by decide +kernel), ← hu, i1]
  rw [bnd_d, ushrL_n (a := v) (k := 2) (big_n lv) (by decide +kernel)]
  rw [show (3689348814741910323 : Int) = ((3689348814741910323 : Nat) : Int) from rfl, show v / 2 ^ 2 = v / 4 from rfl, andL_n (a := v) (b := 3689348814741910323) (big_n lv) (by decide +kernel), andL_n (a := v / 4) (b := 3689348814741910323) (big_d lv) (by decide +kernel), ← Int.natCast_add, ← hW]
  rw [bnd_d, ushrL_n (a := w) (k := 4) (big_n lw) (by decide +kernel)]
  rw [show (1085102592571150095 : Int) = ((1085102592571150095 : Nat) : Int) from rfl, show w / 2 ^ 4 = w / 16 from rfl, ← Int.natCast_add, andL_n (a := w + w / 16) (b := 1085102592571150095) (big_a lw) (by decide +kernel), ← hz]
  rw [bnd_d, ushrL_n (a := z) (k := 8) (big_n lz) (by decide +kernel), ← Int.natCast_add]
  rw [bnd_d, ushrL_n (a := z + z / 2 ^ 8) (k := 16) (big_n f2) (by decide +kernel), ← Int.natCast_add]
  rw [bnd_d, ushrL_n (a := z + z / 2 ^ 8 + (z + z / 2 ^ 8) / 2 ^ 16) (k := 32) (big_n f3) (by decide +kernel), ← Int.natCast_add]
  rw [show (127 : Int) = ((127 : Nat) : Int) from rfl, andI_n (big_i f4) (by decide +kernel), f7, f1, hs]
