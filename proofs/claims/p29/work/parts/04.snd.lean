/-! THE MACHINE DOES WHAT THE ABSTRACT MACHINE DOES. First: numbers -/
theorem am_w32_bmod (z : Int) : am_w32 z = z.bmod 4294967296 := by rw [Int.bmod_def]; unfold am_w32; split <;> omega
theorem am_w64_bmod (z : Int) : am_w64 z = z.bmod 18446744073709551616 := by rw [Int.bmod_def]; unfold am_w64; split <;> omega
theorem am_w8_bmod (z : Int) : am_w8 z = z.bmod 256 := by rw [Int.bmod_def]; unfold am_w8; split <;> omega
theorem am_of32 (z : Int) : Int32.ofInt (am_w32 z) = Int32.ofInt z := by
  apply Int32.toInt_inj.mp
  rw [Int32.toInt_ofInt, Int32.toInt_ofInt, am_w32_bmod]
  exact Int.bmod_bmod
theorem am_of64 (z : Int) : Int64.ofInt (am_w64 z) = Int64.ofInt z := by
  apply Int64.toInt_inj.mp
  rw [Int64.toInt_ofInt, Int64.toInt_ofInt, am_w64_bmod]
  exact Int.bmod_bmod
theorem am_to32 {z : Int} (h1 : -2147483648 ≤ z) (h2 : z < 2147483648) : (Int32.ofInt z).toInt = z := Int32.toInt_ofInt_of_le (by omega) (by omega)
theorem am_to64 {z : Int} (h1 : -9223372036854775808 ≤ z) (h2 : z < 9223372036854775808) : (Int64.ofInt z).toInt = z := Int64.toInt_ofInt_of_le (by omega) (by omega)
theorem am_in32 (x : Int32) : -2147483648 ≤ x.toInt ∧ x.toInt < 2147483648 := ⟨by have := x.le_toInt; omega, by have := x.toInt_lt; omega⟩
theorem am_in64 (x : Int64) : -9223372036854775808 ≤ x.toInt ∧ x.toInt < 9223372036854775808 := ⟨by have := x.le_toInt; omega, by have := x.toInt_lt; omega⟩
theorem am_lt32 {a b : Int} (a1 : -2147483648 ≤ a) (a2 : a < 2147483648) (b1 : -2147483648 ≤ b) (b2 : b < 2147483648) : Int32.ofInt a < Int32.ofInt b ↔ a < b := by
  rw [Int32.lt_iff_toInt_lt, am_to32 a1 a2, am_to32 b1 b2]
theorem am_eq32 {a b : Int} (a1 : -2147483648 ≤ a) (a2 : a < 2147483648) (b1 : -2147483648 ≤ b) (b2 : b < 2147483648) : Int32.ofInt a = Int32.ofInt b ↔ a = b := by
  rw [← Int32.toInt_inj, am_to32 a1 a2, am_to32 b1 b2]
theorem am_lt64 {a b : Int} (a1 : -9223372036854775808 ≤ a) (a2 : a < 9223372036854775808) (b1 : -9223372036854775808 ≤ b) (b2 : b < 9223372036854775808) : Int64.ofInt a < Int64.ofInt b ↔ a < b := by
  rw [Int64.lt_iff_toInt_lt, am_to64 a1 a2, am_to64 b1 b2]
theorem am_eq64 {a b : Int} (a1 : -9223372036854775808 ≤ a) (a2 : a < 9223372036854775808) (b1 : -9223372036854775808 ≤ b) (b2 : b < 9223372036854775808) : Int64.ofInt a = Int64.ofInt b ↔ a = b := by
  rw [← Int64.toInt_inj, am_to64 a1 a2, am_to64 b1 b2]
theorem am_clamp {j : Int} (h0 : 0 ≤ j) (h1 : j < 2147483648) : (Int32.ofInt j).toNatClampNeg = j.toNat := Int32.toNatClampNeg_ofInt_of_le (by omega) (by omega)
theorem am_div32 {a b : Int} (a1 : -2147483648 ≤ a) (a2 : a < 2147483648) (b1 : -2147483648 ≤ b) (b2 : b < 2147483648) : Int32.ofInt a / Int32.ofInt b = Int32.ofInt (am_w32 (Int.tdiv a b)) := by
  apply Int32.toInt_inj.mp
  rw [Int32.toInt_div, am_to32 a1 a2, am_to32 b1 b2, am_of32, Int32.toInt_ofInt]
theorem am_div64 {a b : Int} (a1 : -9223372036854775808 ≤ a) (a2 : a < 9223372036854775808) (b1 : -9223372036854775808 ≤ b) (b2 : b < 9223372036854775808) : Int64.ofInt a / Int64.ofInt b = Int64.ofInt (am_w64 (Int.tdiv a b)) := by
  apply Int64.toInt_inj.mp
  rw [Int64.toInt_div, am_to64 a1 a2, am_to64 b1 b2, am_of64, Int64.toInt_ofInt]
theorem am_tmod_in32 {a b : Int} (a1 : -2147483648 ≤ a) (a2 : a < 2147483648) (b1 : -2147483648 ≤ b) (b2 : b < 2147483648) : -2147483648 ≤ Int.tmod a b ∧ Int.tmod a b < 2147483648 := by
  have h := am_in32 (Int32.ofInt a % Int32.ofInt b)
  rw [Int32.toInt_mod, am_to32 a1 a2, am_to32 b1 b2] at h
  exact h
theorem am_tmod_in64 {a b : Int} (a1 : -9223372036854775808 ≤ a) (a2 : a < 9223372036854775808) (b1 : -9223372036854775808 ≤ b) (b2 : b < 9223372036854775808) : -9223372036854775808 ≤ Int.tmod a b ∧ Int.tmod a b < 9223372036854775808 := by
  have h := am_in64 (Int64.ofInt a % Int64.ofInt b)
  rw [Int64.toInt_mod, am_to64 a1 a2, am_to64 b1 b2] at h
  exact h
theorem am_mod32 {a b : Int} (a1 : -2147483648 ≤ a) (a2 : a < 2147483648) (b1 : -2147483648 ≤ b) (b2 : b < 2147483648) : Int32.ofInt a - Int32.ofInt a / Int32.ofInt b * Int32.ofInt b = Int32.ofInt (Int.tmod a b) := by
  rw [am_div32 a1 a2 b1 b2, am_of32, ← Int32.ofInt_mul, ← Int32.ofInt_sub]
  congr 1
  have := Int.tmod_add_mul_tdiv a b
  rw [Int.mul_comm] at this
  omega
theorem am_mod64 {a b : Int} (a1 : -9223372036854775808 ≤ a) (a2 : a < 9223372036854775808) (b1 : -9223372036854775808 ≤ b) (b2 : b < 9223372036854775808) : Int64.ofInt a - Int64.ofInt a / Int64.ofInt b * Int64.ofInt b = Int64.ofInt (Int.tmod a b) := by
  rw [am_div64 a1 a2 b1 b2, am_of64, ← Int64.ofInt_mul, ← Int64.ofInt_sub]
  congr 1
  have := Int.tmod_add_mul_tdiv a b
  rw [Int.mul_comm] at this
  omega
theorem am_i2l {a : Int} (a1 : -2147483648 ≤ a) (a2 : a < 2147483648) : (Int32.ofInt a).toInt64 = Int64.ofInt a := by
  apply Int64.toInt_inj.mp
  rw [Int32.toInt_toInt64, am_to32 a1 a2, am_to64 (by omega) (by omega)]
theorem am_l2i {a : Int} (a1 : -9223372036854775808 ≤ a) (a2 : a < 9223372036854775808) : (Int64.ofInt a).toInt32 = Int32.ofInt (am_w32 a) := by
  apply Int32.toInt_inj.mp
  rw [Int64.toInt_toInt32, am_to64 a1 a2, am_of32, Int32.toInt_ofInt]
theorem am_i2b {a : Int} (a1 : -2147483648 ≤ a) (a2 : a < 2147483648) : (Int32.ofInt a).toInt8.toInt32 = Int32.ofInt (am_w8 a) := by
  apply Int32.toInt_inj.mp
  rw [Int8.toInt_toInt32, Int32.toInt_toInt8, am_to32 a1 a2, am_w8_bmod]
  have h : -128 ≤ a.bmod 256 ∧ a.bmod 256 < 128 := by rw [← am_w8_bmod]; unfold am_w8; omega
  rw [am_to32 (by omega) (by omega)]
