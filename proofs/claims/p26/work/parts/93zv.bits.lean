theorem shr_g {x k : Int} {kk : Int32} {n : Nat} (h0 : 0 ≤ x) (h1 : x < 2147483648) (k1 : (Int32.ofInt k) &&& 31 = kk) (k2 : (BitVec.smod kk.toBitVec 32).toNat = n) : e3_shr x k = x / ((2 ^ n : Nat) : Int) := by
  show ((Int32.ofInt x) >>> ((Int32.ofInt k) &&& 31)).toInt = _
  rw [k1]
  rw [← Int32.toInt_toBitVec, Int32.toBitVec_shiftRight]
  rw [BitVec.toInt_sshiftRight']
  rw [k2]
  rw [Int.shiftRight_eq_div_pow, Int32.toInt_toBitVec, Int32.toInt_ofInt_of_le (by omega) (by omega)]
def p83 : Nat → Int
  | 0 => 1
  | i + 1 => 8 * p83 i
theorem shr_i {x : Int} (h0 : 0 ≤ x) (h1 : x < 2147483648) (i : Nat) (hi : i ≤ 10) : e3_shr x (3 * (i : Int)) = x / p83 i := by
  have hc : i = 0 ∨ i = 1 ∨ i = 2 ∨ i = 3 ∨ i = 4 ∨ i = 5 ∨ i = 6 ∨ i = 7 ∨ i = 8 ∨ i = 9 ∨ i = 10 := by omega
  rcases hc with z | z | z | z | z | z | z | z | z | z | z <;> subst z
  · exact shr_g (k := 3 * ((0 : Nat) : Int)) (kk := 0) (n := 0) h0 h1 (by decide) (by decide)
  · exact shr_g (k := 3 * ((1 : Nat) : Int)) (kk := 3) (n := 3) h0 h1 (by decide) (by decide)
  · exact shr_g (k := 3 * ((2 : Nat) : Int)) (kk := 6) (n := 6) h0 h1 (by decide) (by decide)
  · exact shr_g (k := 3 * ((3 : Nat) : Int)) (kk := 9) (n := 9) h0 h1 (by decide) (by decide)
  · exact shr_g (k := 3 * ((4 : Nat) : Int)) (kk := 12) (n := 12) h0 h1 (by decide) (by decide)
  · exact shr_g (k := 3 * ((5 : Nat) : Int)) (kk := 15) (n := 15) h0 h1 (by decide) (by decide)
  · exact shr_g (k := 3 * ((6 : Nat) : Int)) (kk := 18) (n := 18) h0 h1 (by decide) (by decide)
  · exact shr_g (k := 3 * ((7 : Nat) : Int)) (kk := 21) (n := 21) h0 h1 (by decide) (by decide)
  · exact shr_g (k := 3 * ((8 : Nat) : Int)) (kk := 24) (n := 24) h0 h1 (by decide) (by decide)
  · exact shr_g (k := 3 * ((9 : Nat) : Int)) (kk := 27) (n := 27) h0 h1 (by decide) (by decide)
  · exact shr_g (k := 3 * ((10 : Nat) : Int)) (kk := 30) (n := 30) h0 h1 (by decide) (by decide)
theorem and_7 {x : Int} (h0 : 0 ≤ x) (h1 : x < 2147483648) : e3_and x 7 = x % 8 := by
  show ((Int32.ofInt x) &&& (Int32.ofInt 7)).toInt = x % 8
  obtain ⟨n, rfl⟩ : ∃ n : Nat, x = n := ⟨x.toNat, by omega⟩
  rw [← Int32.toInt_toBitVec, Int32.toBitVec_and]
  have e1 : (Int32.ofInt (n : Int)).toBitVec = BitVec.ofNat 32 n := by
    show BitVec.ofInt 32 (n : Int) = BitVec.ofNat 32 n
    exact BitVec.ofInt_natCast 32 n
  have e2 : (Int32.ofInt 7).toBitVec = BitVec.ofNat 32 7 := by decide
  rw [e1, e2]
  have e3 : (BitVec.ofNat 32 n &&& BitVec.ofNat 32 7).toNat = n % 8 := by
    rw [BitVec.toNat_and, BitVec.toNat_ofNat, BitVec.toNat_ofNat, Nat.mod_eq_of_lt (show n < 2 ^ 32 by omega), Nat.mod_eq_of_lt (show 7 < 2 ^ 32 by decide)]
    exact Nat.and_two_pow_sub_one_eq_mod n 3
  rw [BitVec.toInt_eq_toNat_of_lt (by rw [e3]; omega), e3]
  omega
section ZST
variable {Q : Int → e3_H → e3_G → Prop} {H : e3_H} {G : e3_G}
/-- the VALUE that stands at a place -/
theorem zM_s35 {c : Int} (hc : c ≤ 160) (hv : ∀ i : Int, 0 ≤ i → i < 640 → 0 ≤ H 132 i ∧ H 132 i < c) {x : Int} (h0 : 0 ≤ x) (h1 : x < 2147483648) (hQ : ∀ v, 0 ≤ v ∧ v < c → Q v H G) : ∀ (i : Nat) (v : Int), i ≤ 10 → 0 ≤ v ∧ v < c → (∀ j : Nat, j < i → 1 ≤ x / p83 j % 8 ∧ x / p83 j % 8 ≤ 4) → wM_standing_35 Q (i + 1) x v (3 * (i : Int) - 3) H G := by
  intro i
  induction i with
  | zero => intro v _ hv2 _; exact brT (by decide) (hQ v hv2)
  | succ i ih =>
    intro v hi hv2 hd
    have pp : ∀ j : Nat, 1 ≤ p83 j := by
      intro j
      induction j with
      | zero => decide
      | succ j ihj => show 1 ≤ 8 * p83 j; omega
    refine brF (by omega) ?_
    rw [show 3 * ((i + 1 : Nat) : Int) - 3 = 3 * (i : Int) by omega, shr_i h0 h1 i (by omega)]
    have d1 := Int.ediv_nonneg h0 (show 0 ≤ p83 i by have := pp i; omega)
    have d2 := Int.ediv_le_self (p83 i) h0
    have d3 := hd i (by omega)
    rw [and_7 d1 (by omega), e3_w32_id (x := 4 * v) (by omega) (by omega), e3_w32_id (x := 4 * v + x / p83 i % 8) (by omega) (by omega), e3_w32_id (x := 4 * v + x / p83 i % 8 - 1) (by omega) (by omega)]
    refine ⟨by omega, ?_⟩
    rw [e3_w32_id (x := 3 * (i : Int) + -3) (by omega) (by omega), show 3 * (i : Int) + -3 = 3 * (i : Int) - 3 by omega]
    exact ih _ (by omega) (hv _ (by omega) (by omega)) (fun j hj => hd j (by omega))
theorem zPL_pos {m : Int} : ∀ (k : Nat) (y : Int), zPL m k y → 1 ≤ y := by
  intro k
  cases k with
  | zero => intro y h; exact h.elim
  | succ k =>
    intro y h
    rcases h with h | h
    · exact h.1
    · omega
theorem zM_standing {c m : Int} (hm : m ≤ 3) (hc : c ≤ 160) (hv : ∀ i : Int, 0 ≤ i → i < 640 → 0 ≤ H 132 i ∧ H 132 i < c) {x : Int} (hx : zPL m 11 x) (h1 : x < 2147483648) (ha : ∀ j : Int, 1 ≤ j → j ≤ m → 0 ≤ H 135 (j - 1) ∧ H 135 (j - 1) < c) (hQ : ∀ v, 0 ≤ v ∧ v < c → Q v H G) : wM_standing Q x H G := by
  have h0 : 0 ≤ x := by have := zPL_pos _ _ hx; omega
  have key : ∀ (k i : Nat) (y : Int), k + i = 11 → zPL m k y → y = x / p83 i → (∀ j : Nat, j < i → 1 ≤ x / p83 j % 8 ∧ x / p83 j % 8 ≤ 4) → wM_standing_4 Q k x y (3 * (i : Int)) H G := by
    intro k
    induction k with
    | zero => intro i y _ h; exact h.elim
    | succ k ih =>
      intro i y hk hy ey hd
      rcases hy with ⟨z1, z2⟩ | ⟨z1, z2, z3⟩
      · refine brF (by omega) ?_
        rw [e3_w32_id (x := y - 1) (by omega) (by omega), e3_w32_id (x := 3 * (i : Int) - 3) (by omega) (by omega)]
        exact ⟨by omega, i + 1, zM_s35 hc hv h0 h1 hQ i _ (by omega) (ha y z1 z2) hd⟩
      · have hy2 : y < 2147483648 := by
          have pp : 1 ≤ p83 i := by
            clear hk hd ey
            induction i with
            | zero => decide
            | succ j ihj => show 1 ≤ 8 * p83 j; omega
          have := Int.ediv_le_self (p83 i) h0
          omega
        refine brT (by omega) ?_
        rw [shr_3 (by omega) (by omega), e3_w32_id (x := 3 * (i : Int) + 3) (by omega) (by omega), show 3 * (i : Int) + 3 = 3 * ((i + 1 : Nat) : Int) by omega]
        refine ih (i + 1) (y / 8) (by omega) z3 ?_ (fun j hj => ?_)
        · rw [ey]
          show x / p83 i / 8 = x / (8 * p83 i)
          have pp : 1 ≤ p83 i := by
            clear hk hd ey
            induction i with
            | zero => decide
            | succ j ihj => show 1 ≤ 8 * p83 j; omega
          rw [Int.mul_comm, Int.ediv_ediv_of_nonneg (by omega)]
        · by_cases t : j = i
          · rw [t, ← ey]; exact z2
          · exact hd j (by omega)
  exact ⟨11, key 11 0 x rfl hx (by show x = x / 1; rw [Int.ediv_one]) (fun j hj => absurd hj (Nat.not_lt_zero _))⟩
end ZST
