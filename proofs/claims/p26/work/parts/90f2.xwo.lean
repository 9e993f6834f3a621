theorem lsh_7 (v : Int) : ((Int64.ofInt v <<< ((Int32.ofInt 8).toInt64 &&& 63))).toBitVec.getLsbD 7 = false := by
  rw [Int64.toBitVec_shiftLeft]
  have h : (((Int32.ofInt 8).toInt64 &&& 63)).toBitVec.smod 64 = 8#64 := by decide
  rw [h]
  show ((Int64.ofInt v).toBitVec <<< (8#64).toNat).getLsbD 7 = false
  rw [BitVec.getLsbD_shiftLeft]
  simp
theorem lor_n1 {v y : Int} (hy : 97 ≤ y ∧ y ≤ 122) : e3_lor (e3_lshl v 8) y ≠ -1 := by
  intro h
  have h : ((Int64.ofInt (Int64.ofInt v <<< ((Int32.ofInt 8).toInt64 &&& 63)).toInt).toBitVec ||| (Int64.ofInt y).toBitVec).toInt = (BitVec.allOnes 64).toInt := h
  rw [Int64.ofInt_toInt] at h
  have h2 := congrArg (fun z => BitVec.getLsbD z 7) (BitVec.eq_of_toInt_eq h)
  have e1 : (Int64.ofInt y).toBitVec = BitVec.ofInt 64 y := rfl
  simp only [BitVec.getLsbD_or, lsh_7, e1, Bool.false_or] at h2
  have e2 : BitVec.ofInt 64 y = BitVec.ofNat 64 y.toNat := by
    apply BitVec.eq_of_toNat_eq
    rw [BitVec.toNat_ofInt, BitVec.toNat_ofNat]
    omega
  rw [e2] at h2
  have e3 : (BitVec.ofNat 64 y.toNat).getLsbD 7 = y.toNat.testBit 7 := by
    rw [BitVec.getLsbD_ofNat]; simp
  rw [e3, Nat.testBit_lt_two_pow (by omega)] at h2
  exact absurd h2 (by decide)
theorem lor_nU {x y : Int} (hy : 97 ≤ y ∧ y ≤ 122) : e3_lor x y ≠ -9223372036854775808 := by
  intro h
  have h : ((Int64.ofInt x).toBitVec ||| (Int64.ofInt y).toBitVec).toInt = (BitVec.ofNat 64 9223372036854775808).toInt := h
  have h2 := congrArg (fun z => BitVec.getLsbD z 6) (BitVec.eq_of_toInt_eq h)
  have e1 : (Int64.ofInt y).toBitVec = BitVec.ofInt 64 y := rfl
  have e2 : BitVec.ofInt 64 y = BitVec.ofNat 64 y.toNat := by
    apply BitVec.eq_of_toNat_eq
    rw [BitVec.toNat_ofInt, BitVec.toNat_ofNat]
    omega
  have e3 : (BitVec.ofNat 64 y.toNat).getLsbD 6 = y.toNat.testBit 6 := by
    rw [BitVec.getLsbD_ofNat]; simp
  have e4 : y.toNat.testBit 6 = true := by
    rw [Nat.testBit_eq_decide_div_mod_eq]
    apply decide_eq_true
    omega
  have e5 : (BitVec.ofNat 64 9223372036854775808).getLsbD 6 = false := by decide
  simp only [BitVec.getLsbD_or, e1, e2, e3, e4, e5, Bool.or_true] at h2
  exact absurd h2 (by decide)
def p10 : Nat → Int
  | 0 => 1
  | k + 1 => 10 * p10 k
theorem p10_1 : ∀ k : Nat, 1 ≤ p10 k := by
  intro k
  induction k with
  | zero => exact Int.le_refl _
  | succ k ih => show 1 ≤ 10 * p10 k; omega
theorem p10_le : ∀ (d k : Nat), p10 k ≤ p10 (k + d) := by
  intro d
  induction d with
  | zero => intro k; exact Int.le_refl _
  | succ d ih => intro k; have := ih k; have := p10_1 (k + d); show p10 k ≤ 10 * p10 (k + d); omega
theorem x_nm_b2 {b : Int → Int} {p : Nat} : ∀ k : Nat, (∀ j : Nat, j < k → 48 ≤ b ((p + j : Nat) : Int) ∧ b ((p + j : Nat) : Int) ≤ 57) → 0 ≤ x_nm b p k ∧ x_nm b p k + 1 ≤ p10 k := by
  intro k
  induction k with
  | zero => intro _; exact ⟨Int.le_refl _, Int.le_refl _⟩
  | succ k ih =>
    intro h
    have h1 := ih (fun j hj => h j (by omega))
    have h2 := h k (by omega)
    show 0 ≤ x_nm b p k * 10 + (b ((p + k : Nat) : Int) - 48) ∧ x_nm b p k * 10 + (b ((p + k : Nat) : Int) - 48) + 1 ≤ 10 * p10 k
    omega
/-- a NUMBER is small; a TEXT's worth is not -1 -/
theorem x_wo_ok {t : Int → Int} {n i : Nat} : (x_ty t n i = 260 → 0 ≤ x_wo t n i ∧ x_wo t n i ≤ 999999999) ∧ (x_ty t n i = 261 → x_wo t n i ≠ -1 ∧ x_wo t n i ≠ -9223372036854775808) := by
  unfold x_ty x_wo
  generalize x_sp t n i = p
  unfold x_tk
  by_cases h1 : n ≤ p
  · rw [if_pos h1]; exact ⟨fun h => by simp at h, fun h => by simp at h⟩
  · rw [if_neg h1]
    by_cases h2 : x_sm (t p) = true ∨ x_up (t p) = true
    · rw [if_pos h2]
      by_cases h3 : 8 < x_sc x_an t n n (p + 1) - p
      · rw [if_pos h3]; exact ⟨fun h => by simp at h, fun h => by simp at h⟩
      · rw [if_neg h3]
        have hx : ∀ v : Int, ¬ x_wx v < 0 → x_wx v ≥ 0 := fun v h => by omega
        have key : ∀ v : Int, (if x_sm (t p) = true then (if x_wx v < 0 then (258 : Int) else 270 + x_wx v) else 259) ≠ 260 ∧ (if x_sm (t p) = true then (if x_wx v < 0 then (258 : Int) else 270 + x_wx v) else 259) ≠ 261 := fun v => by
          split
          · split
            · exact ⟨by decide, by decide⟩
            · rename_i hh; exact ⟨by omega, by omega⟩
          · exact ⟨by decide, by decide⟩
        exact ⟨fun h => absurd h (key _).1, fun h => absurd h (key _).2⟩
    · rw [if_neg h2]
      by_cases h3 : x_fg (t p) = true
      · rw [if_pos h3]
        by_cases h4 : 9 < x_sc x_fg t n n p - p
        · rw [if_pos h4]; exact ⟨fun h => by simp at h, fun h => by simp at h⟩
        · rw [if_neg h4]
          refine ⟨fun _ => ?_, fun h => by simp at h⟩
          have hall := x_sc_all x_fg t n n p
          generalize x_sc x_fg t n n p = e at hall h4 ⊢
          have hb := x_nm_b2 (b := t) (p := p) (e - p) (fun j hj => by
            have := (hall (p + j) (by omega) (by omega)).2
            unfold x_fg at this
            simp only [Bool.and_eq_true, decide_eq_true_eq] at this
            exact this)
          have hl := p10_le (9 - (e - p)) (e - p)
          rw [show e - p + (9 - (e - p)) = 9 by omega] at hl
          have h9 : p10 9 = 1000000000 := rfl
          show 0 ≤ x_nm t p (e - p) ∧ x_nm t p (e - p) ≤ 999999999
          omega
      · rw [if_neg h3]
        by_cases h4 : t p = 39
        · rw [if_pos h4]
          by_cases h5 : (x_sc x_sm t n n (p + 1) < n ∧ t (x_sc x_sm t n n (p + 1)) = 39) ∧ x_sc x_sm t n n (p + 1) - p - 1 ≤ 8
          · rw [if_pos h5]
            refine ⟨fun h => by simp at h, fun _ => ?_⟩
            have hall := x_sc_all x_sm t n n (p + 1)
            generalize x_sc x_sm t n n (p + 1) = e at hall ⊢
            show x_pk t (p + 1) (e - p - 1) ≠ -1 ∧ x_pk t (p + 1) (e - p - 1) ≠ -9223372036854775808
            cases hk : e - p - 1 with
            | zero => show (0 : Int) ≠ -1 ∧ (0 : Int) ≠ -9223372036854775808; decide
            | succ k =>
              have := (hall (p + 1 + k) (by omega) (by omega)).2
              unfold x_sm at this
              simp only [Bool.and_eq_true, decide_eq_true_eq] at this
              exact ⟨lor_n1 this, lor_nU this⟩
          · rw [if_neg h5]; exact ⟨fun h => by simp at h, fun h => by simp at h⟩
        · rw [if_neg h4]
          split
          · exact ⟨fun h => by simp at h, fun h => by simp at h⟩
          · split
            · rename_i h6
              refine ⟨fun h => ?_, fun h => ?_⟩
              · have h : t p = 260 := h
                rw [h] at h6
                exact absurd h6 (by decide)
              · have h : t p = 261 := h
                rw [h] at h6
                exact absurd h6 (by decide)
            · exact ⟨fun h => by simp at h, fun h => by simp at h⟩
theorem a_num_bd {t : Int → Int} {n i j : Nat} {x : Int} (h : a_num t n i = .inr (j, x)) : -999999999 ≤ x ∧ x ≤ 999999999 := by
  unfold a_num at h
  split at h
  · split at h
    · rename_i h2
      cases h
      have := (x_wo_ok (t := t) (n := n) (i := i + 1)).1 h2
      omega
    · cases h
  · split at h
    · rename_i h2
      cases h
      have := (x_wo_ok (t := t) (n := n) (i := i)).1 h2
      omega
    · cases h
