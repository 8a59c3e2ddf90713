/-! the model's seed -/
theorem uL_and31 (x : Int64) : uL (x &&& 2147483647) = uL x % 2147483648 := by
  unfold uL
  rw [Int64.toBitVec_and, BitVec.toNat_and, show (2147483647 : Int64).toBitVec.toNat = 2 ^ 31 - 1 from rfl, Nat.and_two_pow_sub_one_eq_mod]
theorem jand31 (v : Int) : jand v 2147483647 = v % 2147483648 := by
  unfold jand
  have e : uL (lZ v &&& lZ 2147483647) = uL (lZ v) % 2147483648 := uL_and31 (lZ v)
  have h := uL_lZ v
  rw [uL_small (by omega), e]
  omega
