set_option maxRecDepth 100000 in
set_option maxHeartbeats 40000000 in
theorem rn_op24_0 (xs : Nat → Int32) (hx : (xs 0) &&& (31 : Int32) = 24) (hs : xs 1 = 0) : am_ek tbT (tb_ro 6 xs) rn_P 2048 84000 0 33 [(3, .int 0), (2, .ref 40), (1, .ref 2), (0, .ref 0)] [.int ((xs 0) &&& (31 : Int32))] rn_H [] := by
  rw [hx]
  refine ek_k (pc2 := 966) (lv2 := [(3, .int 0), (2, .ref 40), (1, .ref 2), (0, .ref 0)]) (st2 := [.int (xs 1), .ref 2]) (h3 := rn_H) 7 (M := tbM0) rfl rfl ?_
  rw [hs]
  refine ek_call (f1 := 2047) (w1 := 83979) (M := tbM0) (k := 195) (M2 := tbM195) (as := [.ref 2, .int 0]) (rest := []) rfl rfl rfl rfl rfl rfl (Nat.le_of_ble_eq_true rfl) (Nat.le_of_ble_eq_true rfl) (Nat.le_of_ble_eq_true rfl) ?_
  refine ek_k (pc2 := 43) (lv2 := [(0, .ref 2), (1, .int 0)]) (st2 := [.int 0]) (h3 := rn_H) 5 (M := tbM195) rfl rfl ?_
  refine ek_ret (r := some (.int 0)) (M := tbM195) rfl rfl rfl ?_
  refine ek_k (pc2 := 975) (lv2 := [(3, .int 0), (2, .ref 40), (1, .ref 2), (0, .ref 0)]) (st2 := [.int (xs 1), .ref 40, .int 0]) (h3 := rn_H) 6 (M := tbM0) rfl rfl ?_
  rw [hs]
  refine ek_call (f1 := 2047) (w1 := 83979) (M := tbM0) (k := 301) (M2 := tbM301) (as := [.ref 40, .int 0]) (rest := [.int 0]) rfl rfl rfl rfl rfl rfl (Nat.le_of_ble_eq_true rfl) (Nat.le_of_ble_eq_true rfl) (Nat.le_of_ble_eq_true rfl) ?_
  refine ek_k (pc2 := 60) (lv2 := [(0, .ref 40), (1, .int 0)]) (st2 := [.int 0]) (h3 := rn_H) 5 (M := tbM301) rfl rfl ?_
  refine ek_ret (r := some (.int 0)) (M := tbM301) rfl rfl rfl ?_
  refine ek_k (pc2 := 990) (lv2 := [(3, .int 6), (2, .ref 40), (1, .ref 2), (0, .ref 0)]) (st2 := [.int 1]) (h3 := rn_H) 10 (M := tbM0) rfl rfl ?_
  refine ek_end (r := some (.int 1)) (M := tbM0) rfl rfl rfl ?_
  exact rn_fin (S := rn_S) rfl rn_S1 rn_S2
set_option maxRecDepth 100000 in
set_option maxHeartbeats 40000000 in
theorem rn_op24_1 (xs : Nat → Int32) (hx : (xs 0) &&& (31 : Int32) = 24) (hs : xs 1 = 1) : am_ek tbT (tb_ro 6 xs) rn_P 2048 84000 0 33 [(3, .int 0), (2, .ref 40), (1, .ref 2), (0, .ref 0)] [.int ((xs 0) &&& (31 : Int32))] rn_H [] := by
  rw [hx]
  refine ek_k (pc2 := 966) (lv2 := [(3, .int 0), (2, .ref 40), (1, .ref 2), (0, .ref 0)]) (st2 := [.int (xs 1), .ref 2]) (h3 := rn_H) 7 (M := tbM0) rfl rfl ?_
  rw [hs]
  refine ek_call (f1 := 2047) (w1 := 83979) (M := tbM0) (k := 195) (M2 := tbM195) (as := [.ref 2, .int 1]) (rest := []) rfl rfl rfl rfl rfl rfl (Nat.le_of_ble_eq_true rfl) (Nat.le_of_ble_eq_true rfl) (Nat.le_of_ble_eq_true rfl) ?_
  refine ek_k (pc2 := 51) (lv2 := [(0, .ref 2), (1, .int 1)]) (st2 := [.int 0]) (h3 := rn_H) 5 (M := tbM195) rfl rfl ?_
  refine ek_ret (r := some (.int 0)) (M := tbM195) rfl rfl rfl ?_
  refine ek_k (pc2 := 975) (lv2 := [(3, .int 0), (2, .ref 40), (1, .ref 2), (0, .ref 0)]) (st2 := [.int (xs 1), .ref 40, .int 0]) (h3 := rn_H) 6 (M := tbM0) rfl rfl ?_
  rw [hs]
  refine ek_call (f1 := 2047) (w1 := 83979) (M := tbM0) (k := 301) (M2 := tbM301) (as := [.ref 40, .int 1]) (rest := [.int 0]) rfl rfl rfl rfl rfl rfl (Nat.le_of_ble_eq_true rfl) (Nat.le_of_ble_eq_true rfl) (Nat.le_of_ble_eq_true rfl) ?_
  refine ek_k (pc2 := 60) (lv2 := [(0, .ref 40), (1, .int 1)]) (st2 := [.int 0]) (h3 := rn_H) 8 (M := tbM301) rfl rfl ?_
  refine ek_ret (r := some (.int 0)) (M := tbM301) rfl rfl rfl ?_
  refine ek_k (pc2 := 990) (lv2 := [(3, .int 6), (2, .ref 40), (1, .ref 2), (0, .ref 0)]) (st2 := [.int 1]) (h3 := rn_H) 10 (M := tbM0) rfl rfl ?_
  refine ek_end (r := some (.int 1)) (M := tbM0) rfl rfl rfl ?_
  exact rn_fin (S := rn_S) rfl rn_S1 rn_S2
set_option maxRecDepth 100000 in
set_option maxHeartbeats 40000000 in
theorem rn_op24_2 (xs : Nat → Int32) (hx : (xs 0) &&& (31 : Int32) = 24) (hs : xs 1 = 2) : am_ek tbT (tb_ro 6 xs) rn_P 2048 84000 0 33 [(3, .int 0), (2, .ref 40), (1, .ref 2), (0, .ref 0)] [.int ((xs 0) &&& (31 : Int32))] rn_H [] := by
  rw [hx]
  refine ek_k (pc2 := 966) (lv2 := [(3, .int 0), (2, .ref 40), (1, .ref 2), (0, .ref 0)]) (st2 := [.int (xs 1), .ref 2]) (h3 := rn_H) 7 (M := tbM0) rfl rfl ?_
  rw [hs]
  refine ek_call (f1 := 2047) (w1 := 83979) (M := tbM0) (k := 195) (M2 := tbM195) (as := [.ref 2, .int 2]) (rest := []) rfl rfl rfl rfl rfl rfl (Nat.le_of_ble_eq_true rfl) (Nat.le_of_ble_eq_true rfl) (Nat.le_of_ble_eq_true rfl) ?_
  refine ek_k (pc2 := 59) (lv2 := [(0, .ref 2), (1, .int 2)]) (st2 := [.int 0]) (h3 := rn_H) 5 (M := tbM195) rfl rfl ?_
  refine ek_ret (r := some (.int 0)) (M := tbM195) rfl rfl rfl ?_
  refine ek_k (pc2 := 975) (lv2 := [(3, .int 0), (2, .ref 40), (1, .ref 2), (0, .ref 0)]) (st2 := [.int (xs 1), .ref 40, .int 0]) (h3 := rn_H) 6 (M := tbM0) rfl rfl ?_
  rw [hs]
  refine ek_call (f1 := 2047) (w1 := 83979) (M := tbM0) (k := 301) (M2 := tbM301) (as := [.ref 40, .int 2]) (rest := [.int 0]) rfl rfl rfl rfl rfl rfl (Nat.le_of_ble_eq_true rfl) (Nat.le_of_ble_eq_true rfl) (Nat.le_of_ble_eq_true rfl) ?_
  refine ek_k (pc2 := 60) (lv2 := [(0, .ref 40), (1, .int 2)]) (st2 := [.int 0]) (h3 := rn_H) 11 (M := tbM301) rfl rfl ?_
  refine ek_ret (r := some (.int 0)) (M := tbM301) rfl rfl rfl ?_
  refine ek_k (pc2 := 990) (lv2 := [(3, .int 6), (2, .ref 40), (1, .ref 2), (0, .ref 0)]) (st2 := [.int 1]) (h3 := rn_H) 10 (M := tbM0) rfl rfl ?_
  refine ek_end (r := some (.int 1)) (M := tbM0) rfl rfl rfl ?_
  exact rn_fin (S := rn_S) rfl rn_S1 rn_S2
set_option maxRecDepth 100000 in
set_option maxHeartbeats 40000000 in
theorem rn_op24_3 (xs : Nat → Int32) (hx : (xs 0) &&& (31 : Int32) = 24) (hs : xs 1 = 3) : am_ek tbT (tb_ro 6 xs) rn_P 2048 84000 0 33 [(3, .int 0), (2, .ref 40), (1, .ref 2), (0, .ref 0)] [.int ((xs 0) &&& (31 : Int32))] rn_H [] := by
  rw [hx]
  refine ek_k (pc2 := 966) (lv2 := [(3, .int 0), (2, .ref 40), (1, .ref 2), (0, .ref 0)]) (st2 := [.int (xs 1), .ref 2]) (h3 := rn_H) 7 (M := tbM0) rfl rfl ?_
  rw [hs]
  refine ek_call (f1 := 2047) (w1 := 83979) (M := tbM0) (k := 195) (M2 := tbM195) (as := [.ref 2, .int 3]) (rest := []) rfl rfl rfl rfl rfl rfl (Nat.le_of_ble_eq_true rfl) (Nat.le_of_ble_eq_true rfl) (Nat.le_of_ble_eq_true rfl) ?_
  refine ek_k (pc2 := 67) (lv2 := [(0, .ref 2), (1, .int 3)]) (st2 := [.int 0]) (h3 := rn_H) 5 (M := tbM195) rfl rfl ?_
  refine ek_ret (r := some (.int 0)) (M := tbM195) rfl rfl rfl ?_
  refine ek_k (pc2 := 975) (lv2 := [(3, .int 0), (2, .ref 40), (1, .ref 2), (0, .ref 0)]) (st2 := [.int (xs 1), .ref 40, .int 0]) (h3 := rn_H) 6 (M := tbM0) rfl rfl ?_
  rw [hs]
  refine ek_call (f1 := 2047) (w1 := 83979) (M := tbM0) (k := 301) (M2 := tbM301) (as := [.ref 40, .int 3]) (rest := [.int 0]) rfl rfl rfl rfl rfl rfl (Nat.le_of_ble_eq_true rfl) (Nat.le_of_ble_eq_true rfl) (Nat.le_of_ble_eq_true rfl) ?_
  refine ek_k (pc2 := 41) (lv2 := [(0, .ref 40), (1, .int 3)]) (st2 := [.ref 40]) (h3 := rn_H) 12 (M := tbM301) rfl rfl ?_
  refine ek_k (pc2 := 60) (lv2 := [(0, .ref 40), (1, .int 3)]) (st2 := [.int 0]) (h3 := rn_H) 2 (M := tbM301) rfl rfl ?_
  refine ek_ret (r := some (.int 0)) (M := tbM301) rfl rfl rfl ?_
  refine ek_k (pc2 := 990) (lv2 := [(3, .int 6), (2, .ref 40), (1, .ref 2), (0, .ref 0)]) (st2 := [.int 1]) (h3 := rn_H) 10 (M := tbM0) rfl rfl ?_
  refine ek_end (r := some (.int 1)) (M := tbM0) rfl rfl rfl ?_
  exact rn_fin (S := rn_S) rfl rn_S1 rn_S2
set_option maxRecDepth 100000 in
set_option maxHeartbeats 40000000 in
theorem rn_op24_4 (xs : Nat → Int32) (hx : (xs 0) &&& (31 : Int32) = 24) (hs : xs 1 = 4) : am_ek tbT (tb_ro 6 xs) rn_P 2048 84000 0 33 [(3, .int 0), (2, .ref 40), (1, .ref 2), (0, .ref 0)] [.int ((xs 0) &&& (31 : Int32))] rn_H [] := by
  rw [hx]
  refine ek_k (pc2 := 966) (lv2 := [(3, .int 0), (2, .ref 40), (1, .ref 2), (0, .ref 0)]) (st2 := [.int (xs 1), .ref 2]) (h3 := rn_H) 7 (M := tbM0) rfl rfl ?_
  rw [hs]
  refine ek_call (f1 := 2047) (w1 := 83979) (M := tbM0) (k := 195) (M2 := tbM195) (as := [.ref 2, .int 4]) (rest := []) rfl rfl rfl rfl rfl rfl (Nat.le_of_ble_eq_true rfl) (Nat.le_of_ble_eq_true rfl) (Nat.le_of_ble_eq_true rfl) ?_
  refine ek_k (pc2 := 80) (lv2 := [(0, .ref 2), (1, .int 4)]) (st2 := [.int 0]) (h3 := rn_H) 8 (M := tbM195) rfl rfl ?_
  refine ek_ret (r := some (.int 0)) (M := tbM195) rfl rfl rfl ?_
  refine ek_k (pc2 := 975) (lv2 := [(3, .int 0), (2, .ref 40), (1, .ref 2), (0, .ref 0)]) (st2 := [.int (xs 1), .ref 40, .int 0]) (h3 := rn_H) 6 (M := tbM0) rfl rfl ?_
  rw [hs]
  refine ek_call (f1 := 2047) (w1 := 83979) (M := tbM0) (k := 301) (M2 := tbM301) (as := [.ref 40, .int 4]) (rest := [.int 0]) rfl rfl rfl rfl rfl rfl (Nat.le_of_ble_eq_true rfl) (Nat.le_of_ble_eq_true rfl) (Nat.le_of_ble_eq_true rfl) ?_
  refine ek_k (pc2 := 48) (lv2 := [(0, .ref 40), (1, .int 4)]) (st2 := [.int 4]) (h3 := rn_H) 12 (M := tbM301) rfl rfl ?_
  refine ek_k (pc2 := 60) (lv2 := [(0, .ref 40), (1, .int 4)]) (st2 := [.int 0]) (h3 := rn_H) 5 (M := tbM301) rfl rfl ?_
  refine ek_ret (r := some (.int 0)) (M := tbM301) rfl rfl rfl ?_
  refine ek_k (pc2 := 990) (lv2 := [(3, .int 6), (2, .ref 40), (1, .ref 2), (0, .ref 0)]) (st2 := [.int 1]) (h3 := rn_H) 10 (M := tbM0) rfl rfl ?_
  refine ek_end (r := some (.int 1)) (M := tbM0) rfl rfl rfl ?_
  exact rn_fin (S := rn_S) rfl rn_S1 rn_S2
set_option maxRecDepth 100000 in
set_option maxHeartbeats 40000000 in
theorem rn_op24_x (xs : Nat → Int32) (hx : (xs 0) &&& (31 : Int32) = 24) (hE : xs 1 < (0 : Int32) ∨ (4 : Int32) < xs 1) : am_ek tbT (tb_ro 6 xs) rn_P 2048 84000 0 33 [(3, .int 0), (2, .ref 40), (1, .ref 2), (0, .ref 0)] [.int ((xs 0) &&& (31 : Int32))] rn_H [] := by
  rw [hx]
  by_cases hc0 : ((xs 1)).toInt < 0 ∨ 4 < ((xs 1)).toInt
  · by_cases hc1 : (xs 1) = (0 : Int32)
    · exfalso; (try simp only [lg_lt, lg_gt, lg_le, lg_ge, lg_z] at hE hc0 hc1); simp only [← Int32.toInt_inj, ← Int64.toInt_inj, Int32.lt_iff_toInt_lt, Int32.le_iff_toInt_le, Int64.lt_iff_toInt_lt, Int64.le_iff_toInt_le, Int32.toInt_toInt64, rn_im4, rn_lm4, rn_im3, rn_lm3, rn_im2, rn_lm2, rn_im1, rn_lm1, rn_i0, rn_l0, rn_i1, rn_l1, rn_i2, rn_l2, rn_i3, rn_l3, rn_i4, rn_l4, rn_i5, rn_l5, rn_i6, rn_l6, rn_i7, rn_l7, rn_i8, rn_l8] at hE hc0 hc1; omega
    · by_cases hc2 : (xs 1) = (1 : Int32)
      · exfalso; (try simp only [lg_lt, lg_gt, lg_le, lg_ge, lg_z] at hE hc0 hc1 hc2); simp only [← Int32.toInt_inj, ← Int64.toInt_inj, Int32.lt_iff_toInt_lt, Int32.le_iff_toInt_le, Int64.lt_iff_toInt_lt, Int64.le_iff_toInt_le, Int32.toInt_toInt64, rn_im4, rn_lm4, rn_im3, rn_lm3, rn_im2, rn_lm2, rn_im1, rn_lm1, rn_i0, rn_l0, rn_i1, rn_l1, rn_i2, rn_l2, rn_i3, rn_l3, rn_i4, rn_l4, rn_i5, rn_l5, rn_i6, rn_l6, rn_i7, rn_l7, rn_i8, rn_l8] at hE hc0 hc1 hc2; omega
      · by_cases hc3 : (xs 1) = (2 : Int32)
        · exfalso; (try simp only [lg_lt, lg_gt, lg_le, lg_ge, lg_z] at hE hc0 hc1 hc2 hc3); simp only [← Int32.toInt_inj, ← Int64.toInt_inj, Int32.lt_iff_toInt_lt, Int32.le_iff_toInt_le, Int64.lt_iff_toInt_lt, Int64.le_iff_toInt_le, Int32.toInt_toInt64, rn_im4, rn_lm4, rn_im3, rn_lm3, rn_im2, rn_lm2, rn_im1, rn_lm1, rn_i0, rn_l0, rn_i1, rn_l1, rn_i2, rn_l2, rn_i3, rn_l3, rn_i4, rn_l4, rn_i5, rn_l5, rn_i6, rn_l6, rn_i7, rn_l7, rn_i8, rn_l8] at hE hc0 hc1 hc2 hc3; omega
        · by_cases hc4 : (xs 1) = (3 : Int32)
          · exfalso; (try simp only [lg_lt, lg_gt, lg_le, lg_ge, lg_z] at hE hc0 hc1 hc2 hc3 hc4); simp only [← Int32.toInt_inj, ← Int64.toInt_inj, Int32.lt_iff_toInt_lt, Int32.le_iff_toInt_le, Int64.lt_iff_toInt_lt, Int64.le_iff_toInt_le, Int32.toInt_toInt64, rn_im4, rn_lm4, rn_im3, rn_lm3, rn_im2, rn_lm2, rn_im1, rn_lm1, rn_i0, rn_l0, rn_i1, rn_l1, rn_i2, rn_l2, rn_i3, rn_l3, rn_i4, rn_l4, rn_i5, rn_l5, rn_i6, rn_l6, rn_i7, rn_l7, rn_i8, rn_l8] at hE hc0 hc1 hc2 hc3 hc4; omega
          · by_cases hc5 : (xs 1) = (4 : Int32)
            · exfalso; (try simp only [lg_lt, lg_gt, lg_le, lg_ge, lg_z] at hE hc0 hc1 hc2 hc3 hc4 hc5); simp only [← Int32.toInt_inj, ← Int64.toInt_inj, Int32.lt_iff_toInt_lt, Int32.le_iff_toInt_le, Int64.lt_iff_toInt_lt, Int64.le_iff_toInt_le, Int32.toInt_toInt64, rn_im4, rn_lm4, rn_im3, rn_lm3, rn_im2, rn_lm2, rn_im1, rn_lm1, rn_i0, rn_l0, rn_i1, rn_l1, rn_i2, rn_l2, rn_i3, rn_l3, rn_i4, rn_l4, rn_i5, rn_l5, rn_i6, rn_l6, rn_i7, rn_l7, rn_i8, rn_l8] at hE hc0 hc1 hc2 hc3 hc4 hc5; omega
            · refine ek_k (pc2 := 966) (lv2 := [(3, .int 0), (2, .ref 40), (1, .ref 2), (0, .ref 0)]) (st2 := [.int (xs 1), .ref 2]) (h3 := rn_H) 7 (M := tbM0) rfl rfl ?_
              refine ek_call (f1 := 2047) (w1 := 83979) (M := tbM0) (k := 195) (M2 := tbM195) (as := [.ref 2, .int (xs 1)]) (rest := []) rfl rfl rfl rfl rfl rfl (Nat.le_of_ble_eq_true rfl) (Nat.le_of_ble_eq_true rfl) (Nat.le_of_ble_eq_true rfl) ?_
              refine ek_k (pc2 := 1) (lv2 := [(0, .ref 2), (1, .int (xs 1))]) (st2 := [.int (xs 1)]) (h3 := rn_H) 1 (M := tbM195) rfl rfl ?_
              refine ek_pu (M := tbM195) rfl rfl rfl (if_pos hc0) ?_
              refine ek_k (pc2 := 82) (lv2 := [(0, .ref 2), (1, .int (xs 1))]) (st2 := [.int (-1)]) (h3 := rn_H) 1 (M := tbM195) rfl rfl ?_
              refine ek_ret (r := some (.int (-1))) (M := tbM195) rfl rfl rfl ?_
              refine ek_k (pc2 := 975) (lv2 := [(3, .int 0), (2, .ref 40), (1, .ref 2), (0, .ref 0)]) (st2 := [.int (xs 1), .ref 40, .int (-1)]) (h3 := rn_H) 6 (M := tbM0) rfl rfl ?_
              refine ek_call (f1 := 2047) (w1 := 83979) (M := tbM0) (k := 301) (M2 := tbM301) (as := [.ref 40, .int (xs 1)]) (rest := [.int (-1)]) rfl rfl rfl rfl rfl rfl (Nat.le_of_ble_eq_true rfl) (Nat.le_of_ble_eq_true rfl) (Nat.le_of_ble_eq_true rfl) ?_
              refine ek_k (pc2 := 1) (lv2 := [(0, .ref 40), (1, .int (xs 1))]) (st2 := [.int (xs 1)]) (h3 := rn_H) 1 (M := tbM301) rfl rfl ?_
              refine ek_pu (lv2 := [(0, .ref 40), (1, .int (xs 1))]) (st2 := []) (M := tbM301) rfl rfl rfl (if_neg hc1) ?_
              refine ek_k (pc2 := 13) (lv2 := [(0, .ref 40), (1, .int (xs 1))]) (st2 := [.int 1, .int (xs 1)]) (h3 := rn_H) 2 (M := tbM301) rfl rfl ?_
              refine ek_pu (lv2 := [(0, .ref 40), (1, .int (xs 1))]) (st2 := []) (M := tbM301) rfl rfl rfl (if_neg hc2) ?_
              refine ek_k (pc2 := 25) (lv2 := [(0, .ref 40), (1, .int (xs 1))]) (st2 := [.int 2, .int (xs 1)]) (h3 := rn_H) 2 (M := tbM301) rfl rfl ?_
              refine ek_pu (lv2 := [(0, .ref 40), (1, .int (xs 1))]) (st2 := []) (M := tbM301) rfl rfl rfl (if_neg hc3) ?_
              refine ek_k (pc2 := 37) (lv2 := [(0, .ref 40), (1, .int (xs 1))]) (st2 := [.int 3, .int (xs 1)]) (h3 := rn_H) 2 (M := tbM301) rfl rfl ?_
              refine ek_pu (lv2 := [(0, .ref 40), (1, .int (xs 1))]) (st2 := []) (M := tbM301) rfl rfl rfl (if_neg hc4) ?_
              refine ek_k (pc2 := 49) (lv2 := [(0, .ref 40), (1, .int (xs 1))]) (st2 := [.int 4, .int (xs 1)]) (h3 := rn_H) 2 (M := tbM301) rfl rfl ?_
              refine ek_pu (lv2 := [(0, .ref 40), (1, .int (xs 1))]) (st2 := []) (M := tbM301) rfl rfl rfl (if_neg hc5) ?_
              refine ek_k (pc2 := 60) (lv2 := [(0, .ref 40), (1, .int (xs 1))]) (st2 := [.int (-1)]) (h3 := rn_H) 1 (M := tbM301) rfl rfl ?_
              refine ek_ret (r := some (.int (-1))) (M := tbM301) rfl rfl rfl ?_
              refine ek_k (pc2 := 990) (lv2 := [(3, .int 6), (2, .ref 40), (1, .ref 2), (0, .ref 0)]) (st2 := [.int 1]) (h3 := rn_H) 10 (M := tbM0) rfl rfl ?_
              refine ek_end (r := some (.int 1)) (M := tbM0) rfl rfl rfl ?_
              exact rn_fin (S := rn_S) rfl rn_S1 rn_S2
  · exfalso; (try simp only [lg_lt, lg_gt, lg_le, lg_ge, lg_z] at hE hc0); simp only [← Int32.toInt_inj, ← Int64.toInt_inj, Int32.lt_iff_toInt_lt, Int32.le_iff_toInt_le, Int64.lt_iff_toInt_lt, Int64.le_iff_toInt_le, Int32.toInt_toInt64, rn_im4, rn_lm4, rn_im3, rn_lm3, rn_im2, rn_lm2, rn_im1, rn_lm1, rn_i0, rn_l0, rn_i1, rn_l1, rn_i2, rn_l2, rn_i3, rn_l3, rn_i4, rn_l4, rn_i5, rn_l5, rn_i6, rn_l6, rn_i7, rn_l7, rn_i8, rn_l8] at hE hc0; omega
