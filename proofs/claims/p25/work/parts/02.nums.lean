/-! Int32 in whole numbers: every operation up to a multiple of 2^32. -/
theorem zi_rng (x : Int32) : -2147483648 ≤ x.toInt ∧ x.toInt ≤ 2147483647 := by
  have h1 := Int32.le_toInt x
  have h2 := Int32.toInt_lt x
  omega
theorem zi_bm (z : Int) : ∃ k : Int, z.bmod (2 ^ 32) = z + 4294967296 * k := by
  have h : z.bmod (2 ^ 32) = if z % 4294967296 < 2147483648 then z % 4294967296 else z % 4294967296 - 4294967296 := by
    simp [Int.bmod]
  rw [h]
  by_cases hc : z % 4294967296 < 2147483648
  · rw [if_pos hc]
    exact ⟨-(z / 4294967296), by omega⟩
  · rw [if_neg hc]
    exact ⟨-(z / 4294967296) - 1, by omega⟩
theorem zi_add (x y : Int32) : ∃ k : Int, (x + y).toInt = x.toInt + y.toInt + 4294967296 * k := by
  rw [Int32.toInt_add]
  exact zi_bm _
theorem zi_sub (x y : Int32) : ∃ k : Int, (x - y).toInt = x.toInt - y.toInt + 4294967296 * k := by
  rw [Int32.toInt_sub]
  exact zi_bm _
theorem zi_mul (x y : Int32) : ∃ k : Int, (x * y).toInt = x.toInt * y.toInt + 4294967296 * k := by
  rw [Int32.toInt_mul]
  exact zi_bm _
theorem zi_inj {x y : Int32} (h : x.toInt = y.toInt) : x = y := Int32.toInt_inj.mp h
theorem zi_of {z : Int} (h1 : -2147483648 ≤ z) (h2 : z ≤ 2147483647) : (Int32.ofInt z).toInt = z := Int32.toInt_ofInt_of_le (by omega) (by omega)
theorem zi_lt {x y : Int32} : x < y ↔ x.toInt < y.toInt := Int32.lt_iff_toInt_lt
theorem zi_le {x y : Int32} : x ≤ y ↔ x.toInt ≤ y.toInt := Int32.le_iff_toInt_le
theorem zi_0 : (0 : Int32).toInt = 0 := rfl
theorem zi_1 : (1 : Int32).toInt = 1 := rfl
theorem zi_nat {x : Int32} (h : 0 ≤ x.toInt) : x.toInt = (x.toBitVec.toNat : Int) := by
  have h1 : x.toInt = x.toBitVec.toInt := rfl
  rw [h1] at h ⊢
  rw [BitVec.toInt_eq_toNat_cond] at h ⊢
  have := x.toBitVec.isLt
  split
  · rfl
  · rename_i hc
    rw [if_neg hc] at h
    omega
theorem zi_ofnat {x : Int32} (h : x.toBitVec.toNat < 2147483648) : x.toInt = (x.toBitVec.toNat : Int) := by
  have h1 : x.toInt = x.toBitVec.toInt := rfl
  rw [h1, BitVec.toInt_eq_toNat_cond, if_pos (by omega)]
theorem zi_and {x y : Int32} (h : 0 ≤ y.toInt) : 0 ≤ (x &&& y).toInt ∧ (x &&& y).toInt ≤ y.toInt := by
  have hy := zi_nat h
  have hr := zi_rng y
  have h1 : (x &&& y).toBitVec.toNat = x.toBitVec.toNat &&& y.toBitVec.toNat := by
    rw [Int32.toBitVec_and, BitVec.toNat_and]
  have h2 : (x &&& y).toBitVec.toNat ≤ y.toBitVec.toNat := by rw [h1]; exact Nat.and_le_right
  have h3 := zi_ofnat (x := x &&& y) (by omega)
  omega
theorem zi_and' {x y : Int32} (h : 0 ≤ x.toInt) : 0 ≤ (x &&& y).toInt ∧ (x &&& y).toInt ≤ x.toInt := by
  have hy := zi_nat h
  have hr := zi_rng x
  have h1 : (x &&& y).toBitVec.toNat = x.toBitVec.toNat &&& y.toBitVec.toNat := by
    rw [Int32.toBitVec_and, BitVec.toNat_and]
  have h2 : (x &&& y).toBitVec.toNat ≤ x.toBitVec.toNat := by rw [h1]; exact Nat.and_le_left
  have h3 := zi_ofnat (x := x &&& y) (by omega)
  omega
theorem zi_bit {x : Int32} (h1 : 0 ≤ x.toInt) (h2 : x.toInt ≤ 1) : x = 0 ∨ x = 1 := by
  rcases (show x.toInt = 0 ∨ x.toInt = 1 by omega) with h | h
  · exact Or.inl (zi_inj h)
  · exact Or.inr (zi_inj h)
theorem zi_or {x y : Int32} (h1 : 0 ≤ x.toInt) (h2 : x.toInt ≤ 1) (h3 : 0 ≤ y.toInt) (h4 : y.toInt ≤ 1) : 0 ≤ (x ||| y).toInt ∧ (x ||| y).toInt ≤ 1 := by
  rcases zi_bit h1 h2 with rfl | rfl <;> rcases zi_bit h3 h4 with rfl | rfl <;> decide
theorem zi_clamp {x : Int32} : x.toNatClampNeg = x.toInt.toNat := rfl
theorem zi_in {x : Int32} {n : Nat} (h1 : 0 ≤ x.toInt) (h2 : x.toInt < n) : vp_in x n := vp_in_iff.mpr ⟨h1, h2⟩
theorem zi_b8 (x : Int32) : -128 ≤ (x.toInt8.toInt32).toInt ∧ (x.toInt8.toInt32).toInt ≤ 127 := by
  have h1 := Int8.le_toInt x.toInt8
  have h2 := Int8.toInt_lt x.toInt8
  rw [Int8.toInt_toInt32]
  omega
theorem zi_nb {x : Int32} (h1 : -128 ≤ x.toInt) (h2 : x.toInt ≤ 127) : vp_nar .byte x = x := by
  rw [vp_nar_byte]
  apply zi_inj
  rw [Int8.toInt_toInt32, Int32.toInt_toInt8]
  have h : x.toInt.bmod (2 ^ 8) = if x.toInt % 256 < 128 then x.toInt % 256 else x.toInt % 256 - 256 := by
    simp [Int.bmod]
  rw [h]
  split <;> omega
theorem zi_nz {x : Int32} (h1 : 0 ≤ x.toInt) (h2 : x.toInt ≤ 1) : vp_nar .boolean x = x := by
  rcases zi_bit h1 h2 with rfl | rfl <;> rfl
theorem zi_i64 (x : Int32) : x.toInt64.toInt = x.toInt := Int32.toInt_toInt64 x
