theorem rn_and (x : Int32) : (x &&& (31 : Int32)).toBitVec.toNat ≤ 31 := by
  rw [Int32.toBitVec_and, BitVec.toNat_and]
  exact Nat.and_le_right
theorem rn_eq {y : Int32} {n : Nat} (h : y.toBitVec.toNat = n) (h2 : n < 2 ^ 32) : y = Int32.ofNat n := by
  rw [← Int32.toBitVec_inj]
  apply BitVec.eq_of_toNat_eq
  rw [h]
  exact (Nat.mod_eq_of_lt h2).symm
