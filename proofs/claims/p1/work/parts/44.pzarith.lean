/-! numbers and Java's ints and longs -/
theorem pz_i32 (n : Nat) : Int32.ofNat (n % 4294967296) = Int32.ofNat n := by
  apply Int32.toBitVec_inj.mp
  show BitVec.ofNat 32 (n % 4294967296) = BitVec.ofNat 32 n
  apply BitVec.eq_of_toNat_eq
  rw [BitVec.toNat_ofNat, BitVec.toNat_ofNat]
  omega
theorem pz_i64 (n : Nat) : Int64.ofNat (n % 18446744073709551616) = Int64.ofNat n := by
  apply Int64.toBitVec_inj.mp
  show BitVec.ofNat 64 (n % 18446744073709551616) = BitVec.ofNat 64 n
  apply BitVec.eq_of_toNat_eq
  rw [BitVec.toNat_ofNat, BitVec.toNat_ofNat]
  omega
theorem pz_big32 : Int32.ofNat 4294967296 = 0 := by decide
theorem pz_big64 : Int64.ofNat 18446744073709551616 = 0 := by decide
theorem pz_ng_eq (n : Nat) : Int32.ofNat (pz_ng n) = 0 - Int32.ofNat n := by
  have h : pz_ng n = 4294967296 - n % 4294967296 := rfl
  rw [h, Int32.ofNat_sub _ _ (by omega), pz_big32, pz_i32]
theorem pz_sub32 (a b : Int32) : a + (0 - b) = a - b := by
  rw [Int32.zero_sub, Int32.sub_eq_add_neg]
theorem pz_sub64 (a b : Int64) : a + (0 - b) = a - b := by
  rw [Int64.zero_sub, Int64.sub_eq_add_neg]
theorem pz_toNat (n : Nat) : (Int32.ofNat n).toBitVec.toNat = n % 4294967296 := by
  show (BitVec.ofNat 32 n).toNat = _
  rw [BitVec.toNat_ofNat]
theorem pz_b_of (n : Nat) : pz_b (Int32.ofNat n) = pz_bi n := by
  unfold pz_b
  rw [pz_toNat]
  show _ = (n + 2147483648) % 4294967296
  omega
theorem pz_toInt (x : Int32) : x.toInt = (pz_b x : Int) - 2147483648 := by
  have h := BitVec.toInt_eq_toNat_cond x.toBitVec
  rw [Int32.toInt_toBitVec] at h
  have hl : x.toBitVec.toNat < 2 ^ 32 := x.toBitVec.isLt
  rw [h]
  unfold pz_b
  split <;> omega
theorem pz_b_lt {x y : Int32} : x < y ↔ pz_b x < pz_b y := by
  rw [Int32.lt_iff_toInt_lt, pz_toInt, pz_toInt]
  omega
theorem pz_b_le {x y : Int32} : x ≤ y ↔ pz_b x ≤ pz_b y := by
  rw [Int32.le_iff_toInt_le, pz_toInt, pz_toInt]
  omega
theorem pz_b_eq {x y : Int32} : x = y ↔ pz_b x = pz_b y := by
  rw [← Int32.toInt_inj, pz_toInt, pz_toInt]
  omega
theorem pz_b_max (x : Int32) : pz_b x < 4294967296 := Nat.mod_lt _ (by decide)
theorem pz_b_back (x : Int32) : x = Int32.ofNat (pz_b x + 2147483648) := by
  rw [pz_b_eq, pz_b_of]
  have := pz_b_max x
  show _ = (pz_b x + 2147483648 + 2147483648) % 4294967296
  omega
theorem pz_zi_off (V : pz_V) {i : Nat} (h : i < 16) : pz_zi V i = V.1 i := by
  unfold pz_zi
  rw [Nat.mod_eq_of_lt h, Nat.div_eq_of_lt h]
  exact Int32.add_zero _
theorem pz_sa_v (V : pz_V) {c : Nat} (n : Nat) : pz_v V (pz_sa c n) = .int (pz_zi V (c / 8) + Int32.ofNat n) := by
  have h : pz_sa c n = 8 * (c / 8 % 16 + 16 * ((c / 8 / 16 + n) % 4294967296)) + 4 := rfl
  rw [h, pz_vs]
  unfold pz_zi
  rw [show (c / 8 % 16 + 16 * ((c / 8 / 16 + n) % 4294967296)) % 16 = c / 8 % 16 by omega, show (c / 8 % 16 + 16 * ((c / 8 / 16 + n) % 4294967296)) / 16 = (c / 8 / 16 + n) % 4294967296 by omega, pz_i32, Int32.ofNat_add, Int32.add_assoc]
theorem pz_sa_lt (c n : Nat) : pz_sa c n < 2 ^ 72 := by
  have h : pz_sa c n = 8 * (c / 8 % 16 + 16 * ((c / 8 / 16 + n) % 4294967296)) + 4 := rfl
  rw [h]; omega
theorem pz_sym_at (V : pz_V) {k v : Nat} (h : pz_b (V.1 (k % 16)) = v) : pz_zi V k = Int32.ofNat ((v + 2147483648 + k / 16) % 4294967296) := by
  rw [pz_i32, Int32.ofNat_add]
  unfold pz_zi
  rw [← h, ← pz_b_back]
theorem pz_toInt64 (x : Int64) : x.toInt = ((pz_bj x.toBitVec.toNat : Nat) : Int) - 9223372036854775808 := by
  have h := BitVec.toInt_eq_toNat_cond x.toBitVec
  rw [Int64.toInt_toBitVec] at h
  have hl : x.toBitVec.toNat < 2 ^ 64 := x.toBitVec.isLt
  rw [h]
  have e : pz_bj x.toBitVec.toNat = (x.toBitVec.toNat + 9223372036854775808) % 18446744073709551616 := rfl
  rw [e]
  split <;> omega
theorem pz_bj_of (n : Nat) : pz_bj (Int64.ofNat n).toBitVec.toNat = pz_bj n := by
  show (((BitVec.ofNat 64 n).toNat) + 9223372036854775808) % 18446744073709551616 = (n + 9223372036854775808) % 18446744073709551616
  rw [BitVec.toNat_ofNat]
  omega
theorem pz_cmp64 (a b : Nat) : lg_cmp (Int64.ofNat a) (Int64.ofNat b) = if pz_bj b < pz_bj a then 1 else if pz_bj a = pz_bj b then 0 else -1 := by
  unfold lg_cmp
  have h1 : (Int64.ofNat a > Int64.ofNat b) ↔ pz_bj b < pz_bj a := by
    rw [gt_iff_lt, Int64.lt_iff_toInt_lt, pz_toInt64, pz_toInt64, pz_bj_of, pz_bj_of]
    omega
  have h2 : (Int64.ofNat a = Int64.ofNat b) ↔ pz_bj a = pz_bj b := by
    rw [← Int64.toInt_inj, pz_toInt64, pz_toInt64, pz_bj_of, pz_bj_of]
    omega
  simp only [h1, h2]
theorem pz_i2l {b : Nat} (h : b < 4294967296) : (Int32.ofNat b).toInt64 = Int64.ofNat (if b < 2147483648 then b else b + 18446744069414584320) := by
  rw [← Int64.toInt_inj, Int32.toInt_toInt64, pz_toInt, pz_b_of, pz_toInt64, pz_bj_of]
  show (((b + 2147483648) % 4294967296 : Nat) : Int) - _ = (((if b < 2147483648 then b else b + 18446744069414584320) + 9223372036854775808) % 18446744073709551616 : Nat) - _
  split <;> omega
theorem pz_and32 (a b : Nat) : Int32.ofNat (a &&& b) = Int32.ofNat a &&& Int32.ofNat b := by
  apply Int32.toBitVec_inj.mp
  show BitVec.ofNat 32 (a &&& b) = BitVec.ofNat 32 a &&& BitVec.ofNat 32 b
  exact (BitVec.ofNat_and).symm ▸ rfl
theorem pz_and1 (x : Nat) : Int32.ofNat x &&& 1 = Int32.ofNat (x % 2) := by
  have h := pz_and32 x 1
  rw [Nat.and_one_is_mod] at h
  exact h.symm
theorem pz_div32 {x y : Nat} (hx : x < 2147483648) (hy : y < 2147483648) : Int32.ofNat x / Int32.ofNat y = Int32.ofNat (x / y) := (Int32.ofNat_div (by omega) (by omega)).symm
theorem pz_rem32 {x y : Nat} (hx : x < 2147483648) (hy : y < 2147483648) : Int32.ofNat x - Int32.ofNat x / Int32.ofNat y * Int32.ofNat y = Int32.ofNat (x % y) := by
  rw [pz_div32 hx hy, ← Int32.ofNat_mul, ← Int32.ofNat_sub _ _ (Nat.div_mul_le_self x y)]
  congr 1
  have := Nat.div_add_mod x y
  rw [Nat.mul_comm] at this
  omega
theorem pz_div64 {x y : Nat} (hx : x < 9223372036854775808) (hy : y < 9223372036854775808) : Int64.ofNat x / Int64.ofNat y = Int64.ofNat (x / y) := (Int64.ofNat_div (by omega) (by omega)).symm
theorem pz_rem64 {x y : Nat} (hx : x < 9223372036854775808) (hy : y < 9223372036854775808) : Int64.ofNat x - Int64.ofNat x / Int64.ofNat y * Int64.ofNat y = Int64.ofNat (x % y) := by
  rw [pz_div64 hx hy, ← Int64.ofNat_mul, ← Int64.ofNat_sub _ _ (Nat.div_mul_le_self x y)]
  congr 1
  have := Nat.div_add_mod x y
  rw [Nat.mul_comm] at this
  omega
theorem pz_nz32 {y : Nat} (h0 : 0 < y) (hy : y < 2147483648) : Int32.ofNat y ≠ 0 := by
  intro h
  have h2 := congrArg pz_b h
  rw [pz_b_of] at h2
  have h3 : (y + 2147483648) % 4294967296 = 2147483648 := h2
  omega
theorem pz_nz64 {y : Nat} (h0 : 0 < y) (hy : y < 9223372036854775808) : Int64.ofNat y ≠ 0 := by
  intro h
  have h2 := congrArg Int64.toInt h
  rw [pz_toInt64, pz_bj_of] at h2
  have h3 : (((y + 9223372036854775808) % 18446744073709551616 : Nat) : Int) - 9223372036854775808 = 0 := h2
  omega
theorem pz_nneg {b : Nat} (h : b < 2147483648) : ¬ Int32.ofNat b < 0 := by
  rw [pz_b_lt, pz_b_of]
  show ¬ (b + 2147483648) % 4294967296 < 2147483648
  omega
theorem pz_clamp {b : Nat} (h : b < 2147483648) : (Int32.ofNat b).toNatClampNeg = b := Int32.toNatClampNeg_ofNat_of_lt (by omega)
