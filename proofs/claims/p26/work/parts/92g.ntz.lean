theorem low_bits {n b : Nat} (h1 : n.testBit b = true) (h2 : ∀ i, i < b → n.testBit i = false) : ∃ k, n = 2 ^ (b + 1) * k + 2 ^ b := by
  have hm : n % 2 ^ (b + 1) = 2 ^ b := by
    apply Nat.eq_of_testBit_eq
    intro i
    rw [Nat.testBit_mod_two_pow, Nat.testBit_two_pow]
    by_cases hi : i < b + 1
    · by_cases hb : i = b
      · subst hb; simp [h1]
      · simp [hi, h2 i (by omega)]; omega
    · simp [hi]; omega
  refine ⟨n / 2 ^ (b + 1), ?_⟩
  have := Nat.div_add_mod n (2 ^ (b + 1))
  omega
theorem and_low {X : BitVec 32} {b : Nat} (hb : b < 32) (h1 : X.toNat.testBit b = true) (h2 : ∀ i, i < b → X.toNat.testBit i = false) : (~~~ X &&& (X - 1#32)) = BitVec.ofNat 32 (2 ^ b - 1) := by
  obtain ⟨k, hk⟩ := low_bits h1 h2
  have hp : 1 ≤ 2 ^ b := Nat.one_le_two_pow
  have hlt := X.isLt
  have hs : (X - 1#32).toNat = 2 ^ (b + 1) * k + (2 ^ b - 1) := by
    rw [BitVec.toNat_sub]
    show (2 ^ 32 - 1 + X.toNat) % 2 ^ 32 = _
    omega
  apply BitVec.eq_of_getLsbD_eq
  intro i hi
  rw [BitVec.getLsbD_and, BitVec.getLsbD_not, BitVec.getLsbD_ofNat]
  have e1 : X.getLsbD i = X.toNat.testBit i := rfl
  have e2 : (X - 1#32).getLsbD i = (X - 1#32).toNat.testBit i := rfl
  have p1 : 2 ^ b < 2 ^ (b + 1) := Nat.pow_lt_pow_right (by omega) (by omega)
  rw [e1, e2, hs, hk, Nat.testBit_two_pow_mul_add _ (by omega), Nat.testBit_two_pow_mul_add _ (by omega), Nat.testBit_two_pow, Nat.testBit_two_pow_sub_one]
  by_cases h : i < b + 1
  · rw [if_pos h, if_pos h]
    by_cases hb2 : b = i
    · simp [hb2]
    · have : i < b := by omega
      simp [hi, hb2, this]
  · rw [if_neg h, if_neg h]
    have : ¬ i < b := by omega
    simp [hi, this]
theorem w32_bv (M : Nat) : e3_w32 (M : Int) = (BitVec.ofNat 32 M).toInt := by
  rw [e3_w32_bm, BitVec.toInt_eq_toNat_bmod, BitVec.toNat_ofNat, Int.natCast_emod]
  exact (Int.emod_bmod (x := (M : Int)) (n := 4294967296)).symm
theorem ntz_v {M b : Nat} (hb : b < 32) (h1 : M.testBit b = true) (h2 : ∀ i, i < b → M.testBit i = false) : e3_and (e3_xor (e3_w32 (M : Int)) (-1)) (e3_w32 (e3_w32 (M : Int) - 1)) = (2 : Int) ^ b - 1 := by
  have eX : (BitVec.ofNat 32 M).toNat = M % 2 ^ 32 := BitVec.toNat_ofNat ..
  have t : ∀ i, i < 32 → (BitVec.ofNat 32 M).toNat.testBit i = M.testBit i := fun i hi => by rw [eX, Nat.testBit_mod_two_pow]; simp [hi]
  have hal := and_low (X := BitVec.ofNat 32 M) hb (by rw [t b hb]; exact h1) (fun i hi => by rw [t i (by omega)]; exact h2 i hi)
  show ((Int32.ofInt ((Int32.ofInt (e3_w32 (M : Int))) ^^^ (Int32.ofInt (-1))).toInt).toBitVec &&& (Int32.ofInt (e3_w32 (e3_w32 (M : Int) - 1))).toBitVec).toInt = _
  rw [Int32.ofInt_toInt]
  have a1 : (Int32.ofInt (e3_w32 (M : Int))).toBitVec = BitVec.ofNat 32 M := by
    show BitVec.ofInt 32 (e3_w32 (M : Int)) = _
    rw [w32_bv, BitVec.ofInt_toInt]
  have a2 : ((Int32.ofInt (e3_w32 (M : Int))) ^^^ (Int32.ofInt (-1))).toBitVec = ~~~ (BitVec.ofNat 32 M) := by
    show (Int32.ofInt (e3_w32 (M : Int))).toBitVec ^^^ (BitVec.allOnes 32) = _
    rw [a1, BitVec.xor_allOnes]
  have a3 : (Int32.ofInt (e3_w32 (e3_w32 (M : Int) - 1))).toBitVec = BitVec.ofNat 32 M - 1#32 := by
    show BitVec.ofInt 32 (e3_w32 (e3_w32 (M : Int) - 1)) = _
    apply BitVec.eq_of_toInt_eq
    rw [BitVec.toInt_sub, BitVec.toInt_ofInt, w32_bv, e3_w32_bm]
    show ((((BitVec.ofNat 32 M).toInt - 1).bmod 4294967296)).bmod 4294967296 = ((BitVec.ofNat 32 M).toInt - 1).bmod 4294967296
    rw [Int.bmod_bmod]
  rw [a2, a3, hal]
  have : ∀ b : Fin 32, (BitVec.ofNat 32 (2 ^ b.val - 1)).toInt = (2 : Int) ^ b.val - 1 := by decide
  exact this ⟨b, hb⟩
def z62 (v n : Int) : Int := if 4 < v then e3_w32 (e3_w32 (n + 2) + e3_ushr (e3_ushr v 2) 1) else e3_w32 (n + e3_ushr v 1)
def z49 (v n : Int) : Int := if 16 < v then z62 (e3_ushr v 4) (e3_w32 (n + 4)) else z62 v n
def z34 (v n : Int) : Int := if 256 < v then z49 (e3_ushr v 8) (e3_w32 (n + 8)) else z49 v n
def z1 (v : Int) : Int := if 0 < v then (if 65536 < v then z34 (e3_ushr v 16) (e3_w32 (1 + 16)) else z34 v 1) else e3_and v 32
theorem z1_ok : ∀ b : Fin 32, z1 ((2 : Int) ^ b.val - 1) = b.val := by decide

theorem m_ushr {M : Nat} (hM : M < 2 ^ 62) : e3_lushr (M : Int) 32 = ((M >>> 32 : Nat) : Int) := by
  show ((Int64.ofInt (M : Int)).toUInt64 >>> ((Int32.ofInt 32).toInt64.toUInt64 &&& Int64.toUInt64 63)).toInt64.toBitVec.toInt = _
  have e : ((Int64.ofInt (M : Int)).toUInt64 >>> ((Int32.ofInt 32).toInt64.toUInt64 &&& Int64.toUInt64 63)).toInt64.toBitVec = (BitVec.ofNat 64 M) >>> 32 := by
    show ((Int64.ofInt (M : Int)).toUInt64 >>> ((Int32.ofInt 32).toInt64.toUInt64 &&& Int64.toUInt64 63)).toBitVec = _
    rw [UInt64.toBitVec_shiftRight]
    have h : (((Int32.ofInt 32).toInt64.toUInt64 &&& Int64.toUInt64 63)).toBitVec % 64 = 32#64 := by decide
    rw [h]
    show (Int64.ofInt (M : Int)).toBitVec >>> (32#64).toNat = _
    rw [mv_of hM]
    rfl
  rw [e]
  apply mv_to
  · rw [BitVec.toNat_ushiftRight, BitVec.toNat_ofNat, Nat.mod_eq_of_lt (by omega)]
  · exact Nat.lt_of_le_of_lt (Nat.shiftRight_le M 32) hM
theorem w32_0 {M : Nat} (h : ∀ i, i < 32 → M.testBit i = false) : e3_w32 (M : Int) = 0 := by
  have : M % 2 ^ 32 = 0 := by
    apply Nat.eq_of_testBit_eq
    intro i
    rw [Nat.testBit_mod_two_pow, Nat.zero_testBit]
    by_cases hi : i < 32
    · simp [h i hi]
    · simp [hi]
  unfold e3_w32
  omega
theorem w32_n0 {M b : Nat} (hb : b < 32) (h : M.testBit b = true) : e3_w32 (M : Int) ≠ 0 := by
  intro hz
  have h2 : M % 2 ^ 32 = 0 := by unfold e3_w32 at hz; omega
  have h3 : (M % 2 ^ 32).testBit b = true := by rw [Nat.testBit_mod_two_pow]; simp [hb, h]
  rw [h2, Nat.zero_testBit] at h3
  cases h3
theorem cJ_ntz1 {Q : Int → e3_H → e3_G → Prop} {x v : Int} {H : e3_H} {G : e3_G} (hv : e3_and (e3_xor x (-1)) (e3_w32 (x - 1)) = v) (hQ : Q (z1 v) H G) : wJ_numberOfTrailingZeros1 Q x H G := by
  unfold wJ_numberOfTrailingZeros1
  rw [hv]
  have h62 : ∀ v n : Int, Q (z62 v n) H G → wJ_numberOfTrailingZeros1_62 Q v n H G := fun v n h => by
    unfold z62 at h
    refine ⟨fun z => ?_, fun z => ?_⟩
    · rw [if_pos z] at h; exact h
    · rw [if_neg z] at h; exact h
  have h49 : ∀ v n : Int, Q (z49 v n) H G → wJ_numberOfTrailingZeros1_49 Q v n H G := fun v n h => by
    unfold z49 at h
    refine ⟨fun z => h62 _ _ ?_, fun z => h62 _ _ ?_⟩
    · rw [if_pos z] at h; exact h
    · rw [if_neg z] at h; exact h
  have h34 : ∀ v n : Int, Q (z34 v n) H G → wJ_numberOfTrailingZeros1_34 Q v n H G := fun v n h => by
    unfold z34 at h
    refine ⟨fun z => h49 _ _ ?_, fun z => h49 _ _ ?_⟩
    · rw [if_pos z] at h; exact h
    · rw [if_neg z] at h; exact h
  unfold z1 at hQ
  refine ⟨fun z => ⟨fun y => h34 _ _ ?_, fun y => h34 _ _ ?_⟩, fun z => ?_⟩
  · rw [if_pos z, if_pos y] at hQ; exact hQ
  · rw [if_pos z, if_neg y] at hQ; exact hQ
  · rw [if_neg z] at hQ; exact hQ
/-- the first row of a mask -/
theorem cJ_ntz {Q : Int → e3_H → e3_G → Prop} {M b : Nat} {H : e3_H} {G : e3_G} (hM : M < 2 ^ 62) (hb : b < 62) (h1 : M.testBit b = true) (h2 : ∀ i, i < b → M.testBit i = false) (hQ : Q (b : Int) H G) : wJ_numberOfTrailingZeros Q (M : Int) H G := by
  by_cases h32 : b < 32
  · refine brF (w32_n0 h32 h1) (cJ_ntz1 (ntz_v h32 h1 h2) ?_)
    rw [z1_ok ⟨b, h32⟩]
    exact hQ
  · refine brT (w32_0 (fun i hi => h2 i (by omega))) ?_
    rw [m_ushr hM]
    have hb2 : b - 32 < 32 := by omega
    have t : ∀ i, (M >>> 32).testBit i = M.testBit (32 + i) := fun i => Nat.testBit_shiftRight ..
    refine cJ_ntz1 (ntz_v hb2 (by rw [t, show 32 + (b - 32) = b by omega]; exact h1) (fun i hi => by rw [t]; exact h2 _ (by omega))) ?_
    rw [z1_ok ⟨b - 32, hb2⟩]
    show Q (e3_w32 (32 + ((b - 32 : Nat) : Int))) H G
    rw [e3_w32_id (by omega) (by omega), show 32 + ((b - 32 : Nat) : Int) = b by omega]
    exact hQ
