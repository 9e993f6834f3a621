theorem rn_op0 (xs : Nat → Int32) (hx : (xs 0) &&& (31 : Int32) = 0) : am_ek tbT (tb_ro 6 xs) rn_P 2048 84000 0 33 [(3, .int 0), (2, .ref 40), (1, .ref 2), (0, .ref 0)] [.int ((xs 0) &&& (31 : Int32))] rn_H [] := by
  by_cases hE : xs 3 < (1 : Int32) ∨ (8 : Int32) < xs 3
  · exact rn_op0_x xs hx hE
  · have hd : xs 3 = 1 ∨ xs 3 = 2 ∨ xs 3 = 3 ∨ xs 3 = 4 ∨ xs 3 = 5 ∨ xs 3 = 6 ∨ xs 3 = 7 ∨ xs 3 = 8 := by
      simp only [← Int32.toInt_inj, Int32.lt_iff_toInt_lt, rn_im4, rn_im3, rn_im2, rn_im1, rn_i0, rn_i1, rn_i2, rn_i3, rn_i4, rn_i5, rn_i6, rn_i7, rn_i8] at hE ⊢
      omega
    rcases hd with hs | hs | hs | hs | hs | hs | hs | hs
    · exact rn_op0_1 xs hx hs
    · exact rn_op0_2 xs hx hs
    · exact rn_op0_3 xs hx hs
    · exact rn_op0_4 xs hx hs
    · exact rn_op0_5 xs hx hs
    · exact rn_op0_6 xs hx hs
    · exact rn_op0_7 xs hx hs
    · exact rn_op0_8 xs hx hs
theorem rn_op21 (xs : Nat → Int32) (hx : (xs 0) &&& (31 : Int32) = 21) : am_ek tbT (tb_ro 6 xs) rn_P 2048 84000 0 33 [(3, .int 0), (2, .ref 40), (1, .ref 2), (0, .ref 0)] [.int ((xs 0) &&& (31 : Int32))] rn_H [] := by
  by_cases hE : xs 1 < (0 : Int32) ∨ (6 : Int32) < xs 1
  · exact rn_op21_x xs hx hE
  · have hd : xs 1 = 0 ∨ xs 1 = 1 ∨ xs 1 = 2 ∨ xs 1 = 3 ∨ xs 1 = 4 ∨ xs 1 = 5 ∨ xs 1 = 6 := by
      simp only [← Int32.toInt_inj, Int32.lt_iff_toInt_lt, rn_im4, rn_im3, rn_im2, rn_im1, rn_i0, rn_i1, rn_i2, rn_i3, rn_i4, rn_i5, rn_i6, rn_i7, rn_i8] at hE ⊢
      omega
    rcases hd with hs | hs | hs | hs | hs | hs | hs
    · exact rn_op21_0 xs hx hs
    · exact rn_op21_1 xs hx hs
    · exact rn_op21_2 xs hx hs
    · exact rn_op21_3 xs hx hs
    · exact rn_op21_4 xs hx hs
    · exact rn_op21_5 xs hx hs
    · exact rn_op21_6 xs hx hs
theorem rn_op24 (xs : Nat → Int32) (hx : (xs 0) &&& (31 : Int32) = 24) : am_ek tbT (tb_ro 6 xs) rn_P 2048 84000 0 33 [(3, .int 0), (2, .ref 40), (1, .ref 2), (0, .ref 0)] [.int ((xs 0) &&& (31 : Int32))] rn_H [] := by
  by_cases hE : xs 1 < (0 : Int32) ∨ (4 : Int32) < xs 1
  · exact rn_op24_x xs hx hE
  · have hd : xs 1 = 0 ∨ xs 1 = 1 ∨ xs 1 = 2 ∨ xs 1 = 3 ∨ xs 1 = 4 := by
      simp only [← Int32.toInt_inj, Int32.lt_iff_toInt_lt, rn_im4, rn_im3, rn_im2, rn_im1, rn_i0, rn_i1, rn_i2, rn_i3, rn_i4, rn_i5, rn_i6, rn_i7, rn_i8] at hE ⊢
      omega
    rcases hd with hs | hs | hs | hs | hs
    · exact rn_op24_0 xs hx hs
    · exact rn_op24_1 xs hx hs
    · exact rn_op24_2 xs hx hs
    · exact rn_op24_3 xs hx hs
    · exact rn_op24_4 xs hx hs
theorem rn_six (xs : Nat → Int32) : am_ek tbT (tb_ro 6 xs) rn_P 2048 84000 0 33 [(3, .int 0), (2, .ref 40), (1, .ref 2), (0, .ref 0)] [.int ((xs 0) &&& (31 : Int32))] rn_H [] := by
  have h := rn_and (xs 0)
  match hn : ((xs 0) &&& (31 : Int32)).toBitVec.toNat, h with
  | 0, _ => exact rn_op0 xs (rn_eq hn (by decide))
  | 1, _ => exact rn_op1 xs (rn_eq hn (by decide))
  | 2, _ => exact rn_op2 xs (rn_eq hn (by decide))
  | 3, _ => exact rn_op3 xs (rn_eq hn (by decide))
  | 4, _ => exact rn_op4 xs (rn_eq hn (by decide))
  | 5, _ => exact rn_op5 xs (rn_eq hn (by decide))
  | 6, _ => exact rn_op6 xs (rn_eq hn (by decide))
  | 7, _ => exact rn_op7 xs (rn_eq hn (by decide))
  | 8, _ => exact rn_op8 xs (rn_eq hn (by decide))
  | 9, _ => exact rn_op9 xs (rn_eq hn (by decide))
  | 10, _ => exact rn_op10 xs (rn_eq hn (by decide))
  | 11, _ => exact rn_op11 xs (rn_eq hn (by decide))
  | 12, _ => exact rn_op12 xs (rn_eq hn (by decide))
  | 13, _ => exact rn_op13 xs (rn_eq hn (by decide))
  | 14, _ => exact rn_op14 xs (rn_eq hn (by decide))
  | 15, _ => exact rn_op15 xs (rn_eq hn (by decide))
  | 16, _ => exact rn_op16 xs (rn_eq hn (by decide))
  | 17, _ => exact rn_op17 xs (rn_eq hn (by decide))
  | 18, _ => exact rn_op18 xs (rn_eq hn (by decide))
  | 19, _ => exact rn_op19 xs (rn_eq hn (by decide))
  | 20, _ => exact rn_op20 xs (rn_eq hn (by decide))
  | 21, _ => exact rn_op21 xs (rn_eq hn (by decide))
  | 22, _ => exact rn_op22 xs (rn_eq hn (by decide))
  | 23, _ => exact rn_op23 xs (rn_eq hn (by decide))
  | 24, _ => exact rn_op24 xs (rn_eq hn (by decide))
  | 25, _ => exact rn_op25 xs (rn_eq hn (by decide))
  | 26, _ => exact rn_op26 xs (rn_eq hn (by decide))
  | 27, _ => exact rn_op27 xs (rn_eq hn (by decide))
  | 28, _ => exact rn_op28 xs (rn_eq hn (by decide))
  | 29, _ => exact rn_op29 xs (rn_eq hn (by decide))
  | 30, _ => exact rn_op30 xs (rn_eq hn (by decide))
  | 31, _ => exact rn_op31 xs (rn_eq hn (by decide))
  | n + 32, h => exact absurd h (by omega)
theorem rn_all (L : Nat) (xs : Nat → Int32) (hL : L ≤ 6) : am_ek tbT (tb_ro L xs) rn_P 2048 84000 0 0 [(0, .ref 0)] [] [] [] := by
  refine rn_begin L xs rn_P ?_
  match L, hL with
  | 0, _ => exact rn_L0 xs rn_P rn_PH
  | 1, _ => exact rn_L1 xs rn_P rn_PH
  | 2, _ => exact rn_L2 xs rn_P rn_PH
  | 3, _ => exact rn_L3 xs rn_P rn_PH
  | 4, _ => exact rn_L4 xs rn_P rn_PH
  | 5, _ => exact rn_L5 xs rn_P rn_PH
  | 6, _ => exact rn_L6 xs rn_P (rn_six xs)
  | n + 7, h => exact absurd h (by omega)
