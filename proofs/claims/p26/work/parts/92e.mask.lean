/-- a mask as a long -/
theorem mv_of {M : Nat} (h : M < 2 ^ 62) : (Int64.ofInt (M : Int)).toBitVec = BitVec.ofNat 64 M := by
  show BitVec.ofInt 64 (M : Int) = _
  apply BitVec.eq_of_toNat_eq
  rw [BitVec.toNat_ofInt, BitVec.toNat_ofNat]
  omega
theorem mv_to {b : BitVec 64} {M : Nat} (hb : b.toNat = M) (h : M < 2 ^ 62) : b.toInt = (M : Int) := by
  rw [BitVec.toInt_eq_toNat_cond, hb]
  rw [if_pos (by omega)]
theorem m_amt {r : Nat} (h : r < 62) : (((Int32.ofInt (r : Int)).toInt64 &&& 63)).toBitVec.smod 64 = BitVec.ofNat 64 r := by
  have : ∀ r : Fin 62, (((Int32.ofInt ((r.val : Nat) : Int)).toInt64 &&& 63)).toBitVec.smod 64 = BitVec.ofNat 64 r.val := by decide
  exact this ⟨r, h⟩
theorem m_shl {r : Nat} (h : r < 62) : e3_lshl 1 (r : Int) = ((2 ^ r : Nat) : Int) := by
  show ((Int64.ofInt 1 <<< ((Int32.ofInt (r : Int)).toInt64 &&& 63))).toBitVec.toInt = _
  rw [Int64.toBitVec_shiftLeft, m_amt h]
  apply mv_to
  · show ((BitVec.ofInt 64 1) <<< (BitVec.ofNat 64 r).toNat).toNat = _
    rw [BitVec.toNat_ofNat, Nat.mod_eq_of_lt (by omega : r < 2 ^ 64), BitVec.toNat_shiftLeft]
    show 1 <<< r % 2 ^ 64 = 2 ^ r
    rw [Nat.one_shiftLeft, Nat.mod_eq_of_lt (Nat.pow_lt_pow_right (by omega) (by omega))]
  · exact Nat.pow_lt_pow_right (by omega) h
theorem m_or {M N : Nat} (hM : M < 2 ^ 62) (hN : N < 2 ^ 62) : e3_lor (M : Int) (N : Int) = ((M ||| N : Nat) : Int) := by
  show ((Int64.ofInt (M : Int)).toBitVec ||| (Int64.ofInt (N : Int)).toBitVec).toInt = _
  rw [mv_of hM, mv_of hN]
  apply mv_to
  · rw [BitVec.toNat_or, BitVec.toNat_ofNat, BitVec.toNat_ofNat, Nat.mod_eq_of_lt (by omega), Nat.mod_eq_of_lt (by omega)]
  · exact Nat.or_lt_two_pow hM hN
theorem m_bit {M r : Nat} (hM : M < 2 ^ 62) (hr : r < 62) : e3_land (e3_lshr (M : Int) (r : Int)) 1 = if M.testBit r = true then 1 else 0 := by
  have h1 : e3_lshr (M : Int) (r : Int) = ((M >>> r : Nat) : Int) := by
    show ((Int64.ofInt (M : Int) >>> ((Int32.ofInt (r : Int)).toInt64 &&& 63))).toBitVec.toInt = _
    rw [Int64.toBitVec_shiftRight, m_amt hr, mv_of hM]
    show ((BitVec.ofNat 64 M).sshiftRight (BitVec.ofNat 64 r).toNat).toInt = _
    rw [BitVec.toNat_ofNat, Nat.mod_eq_of_lt (by omega : r < 2 ^ 64), BitVec.toInt_sshiftRight]
    have : (BitVec.ofNat 64 M).toInt = (M : Int) := mv_to (by rw [BitVec.toNat_ofNat, Nat.mod_eq_of_lt (by omega)]) hM
    rw [this]
    rfl
  rw [h1]
  have hs : M >>> r < 2 ^ 62 := Nat.lt_of_le_of_lt (Nat.shiftRight_le M r) hM
  show ((Int64.ofInt ((M >>> r : Nat) : Int)).toBitVec &&& (Int64.ofInt ((1 : Nat) : Int)).toBitVec).toInt = _
  rw [mv_of hs, mv_of (by decide)]
  have : ((BitVec.ofNat 64 (M >>> r)) &&& (BitVec.ofNat 64 1)).toInt = (((M >>> r) &&& 1 : Nat) : Int) := by
    apply mv_to
    · rw [BitVec.toNat_and, BitVec.toNat_ofNat, BitVec.toNat_ofNat, Nat.mod_eq_of_lt (by omega), Nat.mod_eq_of_lt (by decide)]
    · exact Nat.lt_of_le_of_lt Nat.and_le_left hs
  rw [this]
  rw [Nat.and_one_is_mod, Nat.shiftRight_eq_div_pow, Nat.testBit_eq_decide_div_mod_eq]
  split
  · rename_i h; have := of_decide_eq_true h; omega
  · rename_i h
    have h : ¬ (M / 2 ^ r % 2 = 1) := fun z => h (decide_eq_true z)
    omega
theorem m_andn {M X : Nat} (hM : M < 2 ^ 62) (hX : X < 2 ^ 62) : ∃ N : Nat, e3_land (M : Int) (e3_lxor (X : Int) (-1)) = (N : Int) ∧ N < 2 ^ 62 ∧ N ≤ M ∧ ∀ i : Nat, N.testBit i = (M.testBit i && !X.testBit i) := by
  refine ⟨((BitVec.ofNat 64 M) &&& ~~~ (BitVec.ofNat 64 X)).toNat, ?_, ?_, ?_, fun i => ?_⟩
  · show ((Int64.ofInt (M : Int)).toBitVec &&& (Int64.ofInt ((Int64.ofInt (X : Int)) ^^^ (Int64.ofInt (-1))).toInt).toBitVec).toInt = _
    rw [Int64.ofInt_toInt, mv_of hM]
    have e : ((Int64.ofInt (X : Int)) ^^^ (Int64.ofInt (-1))).toBitVec = ~~~ (BitVec.ofNat 64 X) := by
      show (Int64.ofInt (X : Int)).toBitVec ^^^ (BitVec.allOnes 64) = _
      rw [mv_of hX, BitVec.xor_allOnes]
    rw [e]
    apply mv_to rfl
    rw [BitVec.toNat_and]
    refine Nat.lt_of_le_of_lt Nat.and_le_left ?_
    rw [BitVec.toNat_ofNat, Nat.mod_eq_of_lt (by omega)]
    exact hM
  · rw [BitVec.toNat_and]
    refine Nat.lt_of_le_of_lt Nat.and_le_left ?_
    rw [BitVec.toNat_ofNat, Nat.mod_eq_of_lt (by omega)]
    exact hM
  · rw [BitVec.toNat_and]
    refine Nat.le_trans Nat.and_le_left ?_
    rw [BitVec.toNat_ofNat, Nat.mod_eq_of_lt (by omega)]
    exact Nat.le_refl _
  · rw [← BitVec.getLsbD, BitVec.getLsbD_and, BitVec.getLsbD_not, BitVec.getLsbD_ofNat, BitVec.getLsbD_ofNat]
    by_cases hi : i < 64
    · simp [hi]
    · have : M.testBit i = false := Nat.testBit_lt_two_pow (Nat.lt_of_lt_of_le hM (Nat.pow_le_pow_right (by omega) (by omega)))
      simp [hi, this]
