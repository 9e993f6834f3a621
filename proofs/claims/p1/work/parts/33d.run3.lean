set_option maxRecDepth 100000 in
set_option maxHeartbeats 40000000 in
theorem rn_op17 (xs : Nat → Int32) (hx : (xs 0) &&& (31 : Int32) = 17) : am_ek tbT (tb_ro 6 xs) rn_P 2048 84000 0 33 [(3, .int 0), (2, .ref 40), (1, .ref 2), (0, .ref 0)] [.int ((xs 0) &&& (31 : Int32))] rn_H [] := by
  rw [hx]
  by_cases hc0 : (xs 1) < (0 : Int32)
  · by_cases hc1 : (lg_cmp ((xs 1)).toInt64 (0 : Int64)) < (0 : Int32)
    · refine ek_k (pc2 := 730) (lv2 := [(3, .int 0), (2, .ref 40), (1, .ref 2), (0, .ref 0)]) (st2 := [.int (xs 2), .int (xs 1), .ref 2]) (h3 := rn_H) 12 (M := tbM0) rfl rfl ?_
      refine ek_call (f1 := 2047) (w1 := 83978) (M := tbM0) (k := 162) (M2 := tbM162) (as := [.ref 2, .int (xs 1), .int (xs 2)]) (rest := []) rfl rfl rfl rfl rfl rfl (Nat.le_of_ble_eq_true rfl) (Nat.le_of_ble_eq_true rfl) (Nat.le_of_ble_eq_true rfl) ?_
      refine ek_k (pc2 := 5) (lv2 := [(0, .ref 2), (1, .int (xs 1)), (2, .int (xs 2))]) (st2 := [.int (xs 1), .ref 26]) (h3 := rn_H) 3 (M := tbM162) rfl rfl ?_
      refine ek_call (f1 := 2046) (w1 := 83957) (M := tbM162) (k := 160) (M2 := tbM160) (as := [.ref 26, .int (xs 1)]) (rest := []) rfl rfl rfl rfl rfl rfl (Nat.le_of_ble_eq_true rfl) (Nat.le_of_ble_eq_true rfl) (Nat.le_of_ble_eq_true rfl) ?_
      refine ek_k (pc2 := 1) (lv2 := [(0, .ref 26), (1, .int (xs 1))]) (st2 := [.int (xs 1)]) (h3 := rn_H) 1 (M := tbM160) rfl rfl ?_
      refine ek_pu (lv2 := [(0, .ref 26), (1, .int (xs 1))]) (st2 := []) (M := tbM160) rfl rfl rfl (if_pos hc0) ?_
      refine ek_k (pc2 := 17) (lv2 := [(0, .ref 26), (1, .int (xs 1))]) (st2 := [.int 0]) (h3 := rn_H) 1 (M := tbM160) rfl rfl ?_
      refine ek_ret (r := some (.int 0)) (M := tbM160) rfl rfl rfl ?_
      refine ek_k (pc2 := 25) (lv2 := [(0, .ref 2), (1, .int (xs 1)), (2, .int (xs 2))]) (st2 := [.int (-4)]) (h3 := rn_H) 2 (M := tbM162) rfl rfl ?_
      refine ek_ret (r := some (.int (-4))) (M := tbM162) rfl rfl rfl ?_
      refine ek_k (pc2 := 744) (lv2 := [(3, .int 0), (2, .ref 40), (1, .ref 2), (0, .ref 0)]) (st2 := [.int (xs 2), .int (xs 1), .ref 40, .int (-4)]) (h3 := rn_H) 11 (M := tbM0) rfl rfl ?_
      refine ek_call (f1 := 2047) (w1 := 83978) (M := tbM0) (k := 283) (M2 := tbM283) (as := [.ref 40, .int (xs 1), .int (xs 2)]) (rest := [.int (-4)]) rfl rfl rfl rfl rfl rfl (Nat.le_of_ble_eq_true rfl) (Nat.le_of_ble_eq_true rfl) (Nat.le_of_ble_eq_true rfl) ?_
      refine ek_k (pc2 := 2) (lv2 := [(0, .ref 40), (1, .int (xs 1)), (2, .int (xs 2))]) (st2 := [.int (xs 1), .ref 40]) (h3 := rn_H) 2 (M := tbM283) rfl rfl ?_
      refine ek_call (f1 := 2046) (w1 := 83957) (M := tbM283) (k := 281) (M2 := tbM281) (as := [.ref 40, .int (xs 1)]) (rest := []) rfl rfl rfl rfl rfl rfl (Nat.le_of_ble_eq_true rfl) (Nat.le_of_ble_eq_true rfl) (Nat.le_of_ble_eq_true rfl) ?_
      refine ek_k (pc2 := 10) (lv2 := [(0, .ref 40), (1, .int (xs 1))]) (st2 := [.long (-1), .long 0, .long ((xs 1)).toInt64]) (h3 := rn_H) 8 (M := tbM281) rfl rfl ?_
      refine ek_call (f1 := 2045) (w1 := 83932) (M := tbM281) (k := 198) (M2 := tbM198) (as := [.long ((xs 1)).toInt64, .long 0, .long (-1)]) (rest := []) rfl rfl rfl rfl rfl rfl (Nat.le_of_ble_eq_true rfl) (Nat.le_of_ble_eq_true rfl) (Nat.le_of_ble_eq_true rfl) ?_
      refine ek_k (pc2 := 3) (lv2 := [(0, .long ((xs 1)).toInt64), (2, .long 0), (4, .long (-1))]) (st2 := [.int (lg_cmp ((xs 1)).toInt64 (0 : Int64))]) (h3 := rn_H) 3 (M := tbM198) rfl rfl ?_
      refine ek_pu (lv2 := [(0, .long ((xs 1)).toInt64), (2, .long 0), (4, .long (-1))]) (st2 := []) (M := tbM198) rfl rfl rfl (if_pos hc1) ?_
      refine ek_k (pc2 := 18) (lv2 := [(0, .long ((xs 1)).toInt64), (2, .long 0), (4, .long (-1))]) (st2 := [.int 0]) (h3 := rn_H) 1 (M := tbM198) rfl rfl ?_
      refine ek_ret (r := some (.int 0)) (M := tbM198) rfl rfl rfl ?_
      refine ek_ret (r := some (.int 0)) (M := tbM281) rfl rfl rfl ?_
      refine ek_k (pc2 := 22) (lv2 := [(0, .ref 40), (1, .int (xs 1)), (2, .int (xs 2))]) (st2 := [.int (-4)]) (h3 := rn_H) 2 (M := tbM283) rfl rfl ?_
      refine ek_ret (r := some (.int (-4))) (M := tbM283) rfl rfl rfl ?_
      refine ek_k (pc2 := 990) (lv2 := [(3, .int 6), (2, .ref 40), (1, .ref 2), (0, .ref 0)]) (st2 := [.int 1]) (h3 := rn_H) 10 (M := tbM0) rfl rfl ?_
      refine ek_end (r := some (.int 1)) (M := tbM0) rfl rfl rfl ?_
      exact rn_fin (S := rn_S) rfl rn_S1 rn_S2
    · exfalso; (try simp only [lg_lt, lg_gt, lg_le, lg_ge, lg_z] at hc0 hc1); simp only [← Int32.toInt_inj, ← Int64.toInt_inj, Int32.lt_iff_toInt_lt, Int32.le_iff_toInt_le, Int64.lt_iff_toInt_lt, Int64.le_iff_toInt_le, Int32.toInt_toInt64, rn_im4, rn_lm4, rn_im3, rn_lm3, rn_im2, rn_lm2, rn_im1, rn_lm1, rn_i0, rn_l0, rn_i1, rn_l1, rn_i2, rn_l2, rn_i3, rn_l3, rn_i4, rn_l4, rn_i5, rn_l5, rn_i6, rn_l6, rn_i7, rn_l7, rn_i8, rn_l8] at hc0 hc1; omega
  · by_cases hc1 : (0 : Int32) ≤ (xs 1)
    · by_cases hc2 : (lg_cmp ((xs 1)).toInt64 (0 : Int64)) < (0 : Int32)
      · exfalso; (try simp only [lg_lt, lg_gt, lg_le, lg_ge, lg_z] at hc0 hc1 hc2); simp only [← Int32.toInt_inj, ← Int64.toInt_inj, Int32.lt_iff_toInt_lt, Int32.le_iff_toInt_le, Int64.lt_iff_toInt_lt, Int64.le_iff_toInt_le, Int32.toInt_toInt64, rn_im4, rn_lm4, rn_im3, rn_lm3, rn_im2, rn_lm2, rn_im1, rn_lm1, rn_i0, rn_l0, rn_i1, rn_l1, rn_i2, rn_l2, rn_i3, rn_l3, rn_i4, rn_l4, rn_i5, rn_l5, rn_i6, rn_l6, rn_i7, rn_l7, rn_i8, rn_l8] at hc0 hc1 hc2; omega
      · by_cases hc3 : (0 : Int32) < (lg_cmp ((xs 1)).toInt64 (-1 : Int64))
        · refine ek_k (pc2 := 730) (lv2 := [(3, .int 0), (2, .ref 40), (1, .ref 2), (0, .ref 0)]) (st2 := [.int (xs 2), .int (xs 1), .ref 2]) (h3 := rn_H) 12 (M := tbM0) rfl rfl ?_
          refine ek_call (f1 := 2047) (w1 := 83978) (M := tbM0) (k := 162) (M2 := tbM162) (as := [.ref 2, .int (xs 1), .int (xs 2)]) (rest := []) rfl rfl rfl rfl rfl rfl (Nat.le_of_ble_eq_true rfl) (Nat.le_of_ble_eq_true rfl) (Nat.le_of_ble_eq_true rfl) ?_
          refine ek_k (pc2 := 5) (lv2 := [(0, .ref 2), (1, .int (xs 1)), (2, .int (xs 2))]) (st2 := [.int (xs 1), .ref 26]) (h3 := rn_H) 3 (M := tbM162) rfl rfl ?_
          refine ek_call (f1 := 2046) (w1 := 83957) (M := tbM162) (k := 160) (M2 := tbM160) (as := [.ref 26, .int (xs 1)]) (rest := []) rfl rfl rfl rfl rfl rfl (Nat.le_of_ble_eq_true rfl) (Nat.le_of_ble_eq_true rfl) (Nat.le_of_ble_eq_true rfl) ?_
          refine ek_k (pc2 := 1) (lv2 := [(0, .ref 26), (1, .int (xs 1))]) (st2 := [.int (xs 1)]) (h3 := rn_H) 1 (M := tbM160) rfl rfl ?_
          refine ek_pu (lv2 := [(0, .ref 26), (1, .int (xs 1))]) (st2 := []) (M := tbM160) rfl rfl rfl (if_neg hc0) ?_
          refine ek_k (pc2 := 9) (lv2 := [(0, .ref 26), (1, .int (xs 1))]) (st2 := [.int 0, .int (xs 1)]) (h3 := rn_H) 3 (M := tbM160) rfl rfl ?_
          refine ek_pu (lv2 := [(0, .ref 26), (1, .int (xs 1))]) (st2 := []) (M := tbM160) rfl rfl rfl (if_pos hc1) ?_
          refine ek_k (pc2 := 17) (lv2 := [(0, .ref 26), (1, .int (xs 1))]) (st2 := [.int 0]) (h3 := rn_H) 1 (M := tbM160) rfl rfl ?_
          refine ek_ret (r := some (.int 0)) (M := tbM160) rfl rfl rfl ?_
          refine ek_k (pc2 := 25) (lv2 := [(0, .ref 2), (1, .int (xs 1)), (2, .int (xs 2))]) (st2 := [.int (-4)]) (h3 := rn_H) 2 (M := tbM162) rfl rfl ?_
          refine ek_ret (r := some (.int (-4))) (M := tbM162) rfl rfl rfl ?_
          refine ek_k (pc2 := 744) (lv2 := [(3, .int 0), (2, .ref 40), (1, .ref 2), (0, .ref 0)]) (st2 := [.int (xs 2), .int (xs 1), .ref 40, .int (-4)]) (h3 := rn_H) 11 (M := tbM0) rfl rfl ?_
          refine ek_call (f1 := 2047) (w1 := 83978) (M := tbM0) (k := 283) (M2 := tbM283) (as := [.ref 40, .int (xs 1), .int (xs 2)]) (rest := [.int (-4)]) rfl rfl rfl rfl rfl rfl (Nat.le_of_ble_eq_true rfl) (Nat.le_of_ble_eq_true rfl) (Nat.le_of_ble_eq_true rfl) ?_
          refine ek_k (pc2 := 2) (lv2 := [(0, .ref 40), (1, .int (xs 1)), (2, .int (xs 2))]) (st2 := [.int (xs 1), .ref 40]) (h3 := rn_H) 2 (M := tbM283) rfl rfl ?_
          refine ek_call (f1 := 2046) (w1 := 83957) (M := tbM283) (k := 281) (M2 := tbM281) (as := [.ref 40, .int (xs 1)]) (rest := []) rfl rfl rfl rfl rfl rfl (Nat.le_of_ble_eq_true rfl) (Nat.le_of_ble_eq_true rfl) (Nat.le_of_ble_eq_true rfl) ?_
          refine ek_k (pc2 := 10) (lv2 := [(0, .ref 40), (1, .int (xs 1))]) (st2 := [.long (-1), .long 0, .long ((xs 1)).toInt64]) (h3 := rn_H) 8 (M := tbM281) rfl rfl ?_
          refine ek_call (f1 := 2045) (w1 := 83932) (M := tbM281) (k := 198) (M2 := tbM198) (as := [.long ((xs 1)).toInt64, .long 0, .long (-1)]) (rest := []) rfl rfl rfl rfl rfl rfl (Nat.le_of_ble_eq_true rfl) (Nat.le_of_ble_eq_true rfl) (Nat.le_of_ble_eq_true rfl) ?_
          refine ek_k (pc2 := 3) (lv2 := [(0, .long ((xs 1)).toInt64), (2, .long 0), (4, .long (-1))]) (st2 := [.int (lg_cmp ((xs 1)).toInt64 (0 : Int64))]) (h3 := rn_H) 3 (M := tbM198) rfl rfl ?_
          refine ek_pu (lv2 := [(0, .long ((xs 1)).toInt64), (2, .long 0), (4, .long (-1))]) (st2 := []) (M := tbM198) rfl rfl rfl (if_neg hc2) ?_
          refine ek_k (pc2 := 10) (lv2 := [(0, .long ((xs 1)).toInt64), (2, .long 0), (4, .long (-1))]) (st2 := [.int (lg_cmp ((xs 1)).toInt64 (-1 : Int64))]) (h3 := rn_H) 3 (M := tbM198) rfl rfl ?_
          refine ek_pu (lv2 := [(0, .long ((xs 1)).toInt64), (2, .long 0), (4, .long (-1))]) (st2 := []) (M := tbM198) rfl rfl rfl (if_pos hc3) ?_
          refine ek_k (pc2 := 18) (lv2 := [(0, .long ((xs 1)).toInt64), (2, .long 0), (4, .long (-1))]) (st2 := [.int 0]) (h3 := rn_H) 1 (M := tbM198) rfl rfl ?_
          refine ek_ret (r := some (.int 0)) (M := tbM198) rfl rfl rfl ?_
          refine ek_ret (r := some (.int 0)) (M := tbM281) rfl rfl rfl ?_
          refine ek_k (pc2 := 22) (lv2 := [(0, .ref 40), (1, .int (xs 1)), (2, .int (xs 2))]) (st2 := [.int (-4)]) (h3 := rn_H) 2 (M := tbM283) rfl rfl ?_
          refine ek_ret (r := some (.int (-4))) (M := tbM283) rfl rfl rfl ?_
          refine ek_k (pc2 := 990) (lv2 := [(3, .int 6), (2, .ref 40), (1, .ref 2), (0, .ref 0)]) (st2 := [.int 1]) (h3 := rn_H) 10 (M := tbM0) rfl rfl ?_
          refine ek_end (r := some (.int 1)) (M := tbM0) rfl rfl rfl ?_
          exact rn_fin (S := rn_S) rfl rn_S1 rn_S2
        · exfalso; (try simp only [lg_lt, lg_gt, lg_le, lg_ge, lg_z] at hc0 hc1 hc2 hc3); simp only [← Int32.toInt_inj, ← Int64.toInt_inj, Int32.lt_iff_toInt_lt, Int32.le_iff_toInt_le, Int64.lt_iff_toInt_lt, Int64.le_iff_toInt_le, Int32.toInt_toInt64, rn_im4, rn_lm4, rn_im3, rn_lm3, rn_im2, rn_lm2, rn_im1, rn_lm1, rn_i0, rn_l0, rn_i1, rn_l1, rn_i2, rn_l2, rn_i3, rn_l3, rn_i4, rn_l4, rn_i5, rn_l5, rn_i6, rn_l6, rn_i7, rn_l7, rn_i8, rn_l8] at hc0 hc1 hc2 hc3; omega
    · exfalso; (try simp only [lg_lt, lg_gt, lg_le, lg_ge, lg_z] at hc0 hc1); simp only [← Int32.toInt_inj, ← Int64.toInt_inj, Int32.lt_iff_toInt_lt, Int32.le_iff_toInt_le, Int64.lt_iff_toInt_lt, Int64.le_iff_toInt_le, Int32.toInt_toInt64, rn_im4, rn_lm4, rn_im3, rn_lm3, rn_im2, rn_lm2, rn_im1, rn_lm1, rn_i0, rn_l0, rn_i1, rn_l1, rn_i2, rn_l2, rn_i3, rn_l3, rn_i4, rn_l4, rn_i5, rn_l5, rn_i6, rn_l6, rn_i7, rn_l7, rn_i8, rn_l8] at hc0 hc1; omega
set_option maxRecDepth 100000 in
set_option maxHeartbeats 40000000 in
theorem rn_op18 (xs : Nat → Int32) (hx : (xs 0) &&& (31 : Int32) = 18) : am_ek tbT (tb_ro 6 xs) rn_P 2048 84000 0 33 [(3, .int 0), (2, .ref 40), (1, .ref 2), (0, .ref 0)] [.int ((xs 0) &&& (31 : Int32))] rn_H [] := by
  rw [hx]
  by_cases hc0 : (xs 1) < (0 : Int32)
  · by_cases hc1 : (lg_cmp ((xs 1)).toInt64 (0 : Int64)) < (0 : Int32)
    · refine ek_k (pc2 := 763) (lv2 := [(3, .int 0), (2, .ref 40), (1, .ref 2), (0, .ref 0)]) (st2 := [.int (xs 2), .int (xs 1), .ref 2]) (h3 := rn_H) 12 (M := tbM0) rfl rfl ?_
      refine ek_call (f1 := 2047) (w1 := 83978) (M := tbM0) (k := 166) (M2 := tbM166) (as := [.ref 2, .int (xs 1), .int (xs 2)]) (rest := []) rfl rfl rfl rfl rfl rfl (Nat.le_of_ble_eq_true rfl) (Nat.le_of_ble_eq_true rfl) (Nat.le_of_ble_eq_true rfl) ?_
      refine ek_k (pc2 := 5) (lv2 := [(0, .ref 2), (1, .int (xs 1)), (2, .int (xs 2))]) (st2 := [.int (xs 1), .ref 26]) (h3 := rn_H) 3 (M := tbM166) rfl rfl ?_
      refine ek_call (f1 := 2046) (w1 := 83957) (M := tbM166) (k := 160) (M2 := tbM160) (as := [.ref 26, .int (xs 1)]) (rest := []) rfl rfl rfl rfl rfl rfl (Nat.le_of_ble_eq_true rfl) (Nat.le_of_ble_eq_true rfl) (Nat.le_of_ble_eq_true rfl) ?_
      refine ek_k (pc2 := 1) (lv2 := [(0, .ref 26), (1, .int (xs 1))]) (st2 := [.int (xs 1)]) (h3 := rn_H) 1 (M := tbM160) rfl rfl ?_
      refine ek_pu (lv2 := [(0, .ref 26), (1, .int (xs 1))]) (st2 := []) (M := tbM160) rfl rfl rfl (if_pos hc0) ?_
      refine ek_k (pc2 := 17) (lv2 := [(0, .ref 26), (1, .int (xs 1))]) (st2 := [.int 0]) (h3 := rn_H) 1 (M := tbM160) rfl rfl ?_
      refine ek_ret (r := some (.int 0)) (M := tbM160) rfl rfl rfl ?_
      refine ek_k (pc2 := 23) (lv2 := [(0, .ref 2), (1, .int (xs 1)), (2, .int (xs 2))]) (st2 := [.int (-1)]) (h3 := rn_H) 2 (M := tbM166) rfl rfl ?_
      refine ek_ret (r := some (.int (-1))) (M := tbM166) rfl rfl rfl ?_
      refine ek_k (pc2 := 777) (lv2 := [(3, .int 0), (2, .ref 40), (1, .ref 2), (0, .ref 0)]) (st2 := [.int (xs 2), .int (xs 1), .ref 40, .int (-1)]) (h3 := rn_H) 11 (M := tbM0) rfl rfl ?_
      refine ek_call (f1 := 2047) (w1 := 83974) (M := tbM0) (k := 284) (M2 := tbM284) (as := [.ref 40, .int (xs 1), .int (xs 2)]) (rest := [.int (-1)]) rfl rfl rfl rfl rfl rfl (Nat.le_of_ble_eq_true rfl) (Nat.le_of_ble_eq_true rfl) (Nat.le_of_ble_eq_true rfl) ?_
      refine ek_k (pc2 := 2) (lv2 := [(0, .ref 40), (1, .int (xs 1)), (2, .int (xs 2))]) (st2 := [.int (xs 1), .ref 40]) (h3 := rn_H) 2 (M := tbM284) rfl rfl ?_
      refine ek_call (f1 := 2046) (w1 := 83953) (M := tbM284) (k := 281) (M2 := tbM281) (as := [.ref 40, .int (xs 1)]) (rest := []) rfl rfl rfl rfl rfl rfl (Nat.le_of_ble_eq_true rfl) (Nat.le_of_ble_eq_true rfl) (Nat.le_of_ble_eq_true rfl) ?_
      refine ek_k (pc2 := 10) (lv2 := [(0, .ref 40), (1, .int (xs 1))]) (st2 := [.long (-1), .long 0, .long ((xs 1)).toInt64]) (h3 := rn_H) 8 (M := tbM281) rfl rfl ?_
      refine ek_call (f1 := 2045) (w1 := 83928) (M := tbM281) (k := 198) (M2 := tbM198) (as := [.long ((xs 1)).toInt64, .long 0, .long (-1)]) (rest := []) rfl rfl rfl rfl rfl rfl (Nat.le_of_ble_eq_true rfl) (Nat.le_of_ble_eq_true rfl) (Nat.le_of_ble_eq_true rfl) ?_
      refine ek_k (pc2 := 3) (lv2 := [(0, .long ((xs 1)).toInt64), (2, .long 0), (4, .long (-1))]) (st2 := [.int (lg_cmp ((xs 1)).toInt64 (0 : Int64))]) (h3 := rn_H) 3 (M := tbM198) rfl rfl ?_
      refine ek_pu (lv2 := [(0, .long ((xs 1)).toInt64), (2, .long 0), (4, .long (-1))]) (st2 := []) (M := tbM198) rfl rfl rfl (if_pos hc1) ?_
      refine ek_k (pc2 := 18) (lv2 := [(0, .long ((xs 1)).toInt64), (2, .long 0), (4, .long (-1))]) (st2 := [.int 0]) (h3 := rn_H) 1 (M := tbM198) rfl rfl ?_
      refine ek_ret (r := some (.int 0)) (M := tbM198) rfl rfl rfl ?_
      refine ek_ret (r := some (.int 0)) (M := tbM281) rfl rfl rfl ?_
      refine ek_k (pc2 := 17) (lv2 := [(0, .ref 40), (1, .int (xs 1)), (2, .int (xs 2))]) (st2 := [.int (-1)]) (h3 := rn_H) 2 (M := tbM284) rfl rfl ?_
      refine ek_ret (r := some (.int (-1))) (M := tbM284) rfl rfl rfl ?_
      refine ek_k (pc2 := 990) (lv2 := [(3, .int 6), (2, .ref 40), (1, .ref 2), (0, .ref 0)]) (st2 := [.int 1]) (h3 := rn_H) 10 (M := tbM0) rfl rfl ?_
      refine ek_end (r := some (.int 1)) (M := tbM0) rfl rfl rfl ?_
      exact rn_fin (S := rn_S) rfl rn_S1 rn_S2
    · exfalso; (try simp only [lg_lt, lg_gt, lg_le, lg_ge, lg_z] at hc0 hc1); simp only [← Int32.toInt_inj, ← Int64.toInt_inj, Int32.lt_iff_toInt_lt, Int32.le_iff_toInt_le, Int64.lt_iff_toInt_lt, Int64.le_iff_toInt_le, Int32.toInt_toInt64, rn_im4, rn_lm4, rn_im3, rn_lm3, rn_im2, rn_lm2, rn_im1, rn_lm1, rn_i0, rn_l0, rn_i1, rn_l1, rn_i2, rn_l2, rn_i3, rn_l3, rn_i4, rn_l4, rn_i5, rn_l5, rn_i6, rn_l6, rn_i7, rn_l7, rn_i8, rn_l8] at hc0 hc1; omega
  · by_cases hc1 : (0 : Int32) ≤ (xs 1)
    · by_cases hc2 : (lg_cmp ((xs 1)).toInt64 (0 : Int64)) < (0 : Int32)
      · exfalso; (try simp only [lg_lt, lg_gt, lg_le, lg_ge, lg_z] at hc0 hc1 hc2); simp only [← Int32.toInt_inj, ← Int64.toInt_inj, Int32.lt_iff_toInt_lt, Int32.le_iff_toInt_le, Int64.lt_iff_toInt_lt, Int64.le_iff_toInt_le, Int32.toInt_toInt64, rn_im4, rn_lm4, rn_im3, rn_lm3, rn_im2, rn_lm2, rn_im1, rn_lm1, rn_i0, rn_l0, rn_i1, rn_l1, rn_i2, rn_l2, rn_i3, rn_l3, rn_i4, rn_l4, rn_i5, rn_l5, rn_i6, rn_l6, rn_i7, rn_l7, rn_i8, rn_l8] at hc0 hc1 hc2; omega
      · by_cases hc3 : (0 : Int32) < (lg_cmp ((xs 1)).toInt64 (-1 : Int64))
        · refine ek_k (pc2 := 763) (lv2 := [(3, .int 0), (2, .ref 40), (1, .ref 2), (0, .ref 0)]) (st2 := [.int (xs 2), .int (xs 1), .ref 2]) (h3 := rn_H) 12 (M := tbM0) rfl rfl ?_
          refine ek_call (f1 := 2047) (w1 := 83978) (M := tbM0) (k := 166) (M2 := tbM166) (as := [.ref 2, .int (xs 1), .int (xs 2)]) (rest := []) rfl rfl rfl rfl rfl rfl (Nat.le_of_ble_eq_true rfl) (Nat.le_of_ble_eq_true rfl) (Nat.le_of_ble_eq_true rfl) ?_
          refine ek_k (pc2 := 5) (lv2 := [(0, .ref 2), (1, .int (xs 1)), (2, .int (xs 2))]) (st2 := [.int (xs 1), .ref 26]) (h3 := rn_H) 3 (M := tbM166) rfl rfl ?_
          refine ek_call (f1 := 2046) (w1 := 83957) (M := tbM166) (k := 160) (M2 := tbM160) (as := [.ref 26, .int (xs 1)]) (rest := []) rfl rfl rfl rfl rfl rfl (Nat.le_of_ble_eq_true rfl) (Nat.le_of_ble_eq_true rfl) (Nat.le_of_ble_eq_true rfl) ?_
          refine ek_k (pc2 := 1) (lv2 := [(0, .ref 26), (1, .int (xs 1))]) (st2 := [.int (xs 1)]) (h3 := rn_H) 1 (M := tbM160) rfl rfl ?_
          refine ek_pu (lv2 := [(0, .ref 26), (1, .int (xs 1))]) (st2 := []) (M := tbM160) rfl rfl rfl (if_neg hc0) ?_
          refine ek_k (pc2 := 9) (lv2 := [(0, .ref 26), (1, .int (xs 1))]) (st2 := [.int 0, .int (xs 1)]) (h3 := rn_H) 3 (M := tbM160) rfl rfl ?_
          refine ek_pu (lv2 := [(0, .ref 26), (1, .int (xs 1))]) (st2 := []) (M := tbM160) rfl rfl rfl (if_pos hc1) ?_
          refine ek_k (pc2 := 17) (lv2 := [(0, .ref 26), (1, .int (xs 1))]) (st2 := [.int 0]) (h3 := rn_H) 1 (M := tbM160) rfl rfl ?_
          refine ek_ret (r := some (.int 0)) (M := tbM160) rfl rfl rfl ?_
          refine ek_k (pc2 := 23) (lv2 := [(0, .ref 2), (1, .int (xs 1)), (2, .int (xs 2))]) (st2 := [.int (-1)]) (h3 := rn_H) 2 (M := tbM166) rfl rfl ?_
          refine ek_ret (r := some (.int (-1))) (M := tbM166) rfl rfl rfl ?_
          refine ek_k (pc2 := 777) (lv2 := [(3, .int 0), (2, .ref 40), (1, .ref 2), (0, .ref 0)]) (st2 := [.int (xs 2), .int (xs 1), .ref 40, .int (-1)]) (h3 := rn_H) 11 (M := tbM0) rfl rfl ?_
          refine ek_call (f1 := 2047) (w1 := 83974) (M := tbM0) (k := 284) (M2 := tbM284) (as := [.ref 40, .int (xs 1), .int (xs 2)]) (rest := [.int (-1)]) rfl rfl rfl rfl rfl rfl (Nat.le_of_ble_eq_true rfl) (Nat.le_of_ble_eq_true rfl) (Nat.le_of_ble_eq_true rfl) ?_
          refine ek_k (pc2 := 2) (lv2 := [(0, .ref 40), (1, .int (xs 1)), (2, .int (xs 2))]) (st2 := [.int (xs 1), .ref 40]) (h3 := rn_H) 2 (M := tbM284) rfl rfl ?_
          refine ek_call (f1 := 2046) (w1 := 83953) (M := tbM284) (k := 281) (M2 := tbM281) (as := [.ref 40, .int (xs 1)]) (rest := []) rfl rfl rfl rfl rfl rfl (Nat.le_of_ble_eq_true rfl) (Nat.le_of_ble_eq_true rfl) (Nat.le_of_ble_eq_true rfl) ?_
          refine ek_k (pc2 := 10) (lv2 := [(0, .ref 40), (1, .int (xs 1))]) (st2 := [.long (-1), .long 0, .long ((xs 1)).toInt64]) (h3 := rn_H) 8 (M := tbM281) rfl rfl ?_
          refine ek_call (f1 := 2045) (w1 := 83928) (M := tbM281) (k := 198) (M2 := tbM198) (as := [.long ((xs 1)).toInt64, .long 0, .long (-1)]) (rest := []) rfl rfl rfl rfl rfl rfl (Nat.le_of_ble_eq_true rfl) (Nat.le_of_ble_eq_true rfl) (Nat.le_of_ble_eq_true rfl) ?_
          refine ek_k (pc2 := 3) (lv2 := [(0, .long ((xs 1)).toInt64), (2, .long 0), (4, .long (-1))]) (st2 := [.int (lg_cmp ((xs 1)).toInt64 (0 : Int64))]) (h3 := rn_H) 3 (M := tbM198) rfl rfl ?_
          refine ek_pu (lv2 := [(0, .long ((xs 1)).toInt64), (2, .long 0), (4, .long (-1))]) (st2 := []) (M := tbM198) rfl rfl rfl (if_neg hc2) ?_
          refine ek_k (pc2 := 10) (lv2 := [(0, .long ((xs 1)).toInt64), (2, .long 0), (4, .long (-1))]) (st2 := [.int (lg_cmp ((xs 1)).toInt64 (-1 : Int64))]) (h3 := rn_H) 3 (M := tbM198) rfl rfl ?_
          refine ek_pu (lv2 := [(0, .long ((xs 1)).toInt64), (2, .long 0), (4, .long (-1))]) (st2 := []) (M := tbM198) rfl rfl rfl (if_pos hc3) ?_
          refine ek_k (pc2 := 18) (lv2 := [(0, .long ((xs 1)).toInt64), (2, .long 0), (4, .long (-1))]) (st2 := [.int 0]) (h3 := rn_H) 1 (M := tbM198) rfl rfl ?_
          refine ek_ret (r := some (.int 0)) (M := tbM198) rfl rfl rfl ?_
          refine ek_ret (r := some (.int 0)) (M := tbM281) rfl rfl rfl ?_
          refine ek_k (pc2 := 17) (lv2 := [(0, .ref 40), (1, .int (xs 1)), (2, .int (xs 2))]) (st2 := [.int (-1)]) (h3 := rn_H) 2 (M := tbM284) rfl rfl ?_
          refine ek_ret (r := some (.int (-1))) (M := tbM284) rfl rfl rfl ?_
          refine ek_k (pc2 := 990) (lv2 := [(3, .int 6), (2, .ref 40), (1, .ref 2), (0, .ref 0)]) (st2 := [.int 1]) (h3 := rn_H) 10 (M := tbM0) rfl rfl ?_
          refine ek_end (r := some (.int 1)) (M := tbM0) rfl rfl rfl ?_
          exact rn_fin (S := rn_S) rfl rn_S1 rn_S2
        · exfalso; (try simp only [lg_lt, lg_gt, lg_le, lg_ge, lg_z] at hc0 hc1 hc2 hc3); simp only [← Int32.toInt_inj, ← Int64.toInt_inj, Int32.lt_iff_toInt_lt, Int32.le_iff_toInt_le, Int64.lt_iff_toInt_lt, Int64.le_iff_toInt_le, Int32.toInt_toInt64, rn_im4, rn_lm4, rn_im3, rn_lm3, rn_im2, rn_lm2, rn_im1, rn_lm1, rn_i0, rn_l0, rn_i1, rn_l1, rn_i2, rn_l2, rn_i3, rn_l3, rn_i4, rn_l4, rn_i5, rn_l5, rn_i6, rn_l6, rn_i7, rn_l7, rn_i8, rn_l8] at hc0 hc1 hc2 hc3; omega
    · exfalso; (try simp only [lg_lt, lg_gt, lg_le, lg_ge, lg_z] at hc0 hc1); simp only [← Int32.toInt_inj, ← Int64.toInt_inj, Int32.lt_iff_toInt_lt, Int32.le_iff_toInt_le, Int64.lt_iff_toInt_lt, Int64.le_iff_toInt_le, Int32.toInt_toInt64, rn_im4, rn_lm4, rn_im3, rn_lm3, rn_im2, rn_lm2, rn_im1, rn_lm1, rn_i0, rn_l0, rn_i1, rn_l1, rn_i2, rn_l2, rn_i3, rn_l3, rn_i4, rn_l4, rn_i5, rn_l5, rn_i6, rn_l6, rn_i7, rn_l7, rn_i8, rn_l8] at hc0 hc1; omega
set_option maxRecDepth 100000 in
set_option maxHeartbeats 40000000 in
theorem rn_op19 (xs : Nat → Int32) (hx : (xs 0) &&& (31 : Int32) = 19) : am_ek tbT (tb_ro 6 xs) rn_P 2048 84000 0 33 [(3, .int 0), (2, .ref 40), (1, .ref 2), (0, .ref 0)] [.int ((xs 0) &&& (31 : Int32))] rn_H [] := by
  rw [hx]
  by_cases hc0 : (xs 1) < (0 : Int32)
  · by_cases hc1 : (lg_cmp ((xs 1)).toInt64 (0 : Int64)) < (0 : Int32)
    · refine ek_k (pc2 := 796) (lv2 := [(3, .int 0), (2, .ref 40), (1, .ref 2), (0, .ref 0)]) (st2 := [.int (xs 2), .int (xs 1), .ref 2]) (h3 := rn_H) 12 (M := tbM0) rfl rfl ?_
      refine ek_k (pc2 := 806) (lv2 := [(3, .int 0), (2, .ref 40), (1, .ref 2), (0, .ref 0)]) (st2 := [.int (xs 4), .int (xs 3), .int (xs 2), .int (xs 1), .ref 2]) (h3 := rn_H) 10 (M := tbM0) rfl rfl ?_
      refine ek_call (f1 := 2047) (w1 := 83976) (M := tbM0) (k := 167) (M2 := tbM167) (as := [.ref 2, .int (xs 1), .int (xs 2), .int (xs 3), .int (xs 4)]) (rest := []) rfl rfl rfl rfl rfl rfl (Nat.le_of_ble_eq_true rfl) (Nat.le_of_ble_eq_true rfl) (Nat.le_of_ble_eq_true rfl) ?_
      refine ek_k (pc2 := 9) (lv2 := [(0, .ref 2), (1, .int (xs 1)), (2, .int (xs 2)), (3, .int (xs 3)), (4, .int (xs 4))]) (st2 := [.int (xs 4), .int (xs 3), .int (xs 2), .int (xs 1), .ref 34]) (h3 := rn_H) 6 (M := tbM167) rfl rfl ?_
      refine ek_call (f1 := 2046) (w1 := 83950) (M := tbM167) (k := 168) (M2 := tbM168) (as := [.ref 34, .int (xs 1), .int (xs 2), .int (xs 3), .int (xs 4)]) (rest := []) rfl rfl rfl rfl rfl rfl (Nat.le_of_ble_eq_true rfl) (Nat.le_of_ble_eq_true rfl) (Nat.le_of_ble_eq_true rfl) ?_
      refine ek_k (pc2 := 5) (lv2 := [(0, .ref 34), (1, .int (xs 1)), (2, .int (xs 2)), (3, .int (xs 3)), (4, .int (xs 4))]) (st2 := [.int (xs 1), .ref 14]) (h3 := rn_H) 3 (M := tbM168) rfl rfl ?_
      refine ek_call (f1 := 2045) (w1 := 83929) (M := tbM168) (k := 83) (M2 := tbM83) (as := [.ref 14, .int (xs 1)]) (rest := []) rfl rfl rfl rfl rfl rfl (Nat.le_of_ble_eq_true rfl) (Nat.le_of_ble_eq_true rfl) (Nat.le_of_ble_eq_true rfl) ?_
      refine ek_k (pc2 := 1) (lv2 := [(0, .ref 14), (1, .int (xs 1))]) (st2 := [.int (xs 1)]) (h3 := rn_H) 1 (M := tbM83) rfl rfl ?_
      refine ek_pu (lv2 := [(0, .ref 14), (1, .int (xs 1))]) (st2 := []) (M := tbM83) rfl rfl rfl (if_pos hc0) ?_
      refine ek_k (pc2 := 22) (lv2 := [(0, .ref 14), (1, .int (xs 1))]) (st2 := [.null]) (h3 := rn_H) 1 (M := tbM83) rfl rfl ?_
      refine ek_ret (r := some (.null)) (M := tbM83) rfl rfl rfl ?_
      refine ek_k (pc2 := 16) (lv2 := [(5, .null), (0, .ref 34), (1, .int (xs 1)), (2, .int (xs 2)), (3, .int (xs 3)), (4, .int (xs 4))]) (st2 := [.int 0]) (h3 := rn_H) 4 (M := tbM168) rfl rfl ?_
      refine ek_ret (r := some (.int 0)) (M := tbM168) rfl rfl rfl ?_
      refine ek_k (pc2 := 28) (lv2 := [(0, .ref 2), (1, .int (xs 1)), (2, .int (xs 2)), (3, .int (xs 3)), (4, .int (xs 4))]) (st2 := [.int (-1)]) (h3 := rn_H) 2 (M := tbM167) rfl rfl ?_
      refine ek_ret (r := some (.int (-1))) (M := tbM167) rfl rfl rfl ?_
      refine ek_k (pc2 := 821) (lv2 := [(3, .int 0), (2, .ref 40), (1, .ref 2), (0, .ref 0)]) (st2 := [.ref 0, .int (xs 2), .int (xs 1), .ref 40, .int (-1)]) (h3 := rn_H) 12 (M := tbM0) rfl rfl ?_
      refine ek_k (pc2 := 830) (lv2 := [(3, .int 0), (2, .ref 40), (1, .ref 2), (0, .ref 0)]) (st2 := [.int (xs 4), .int (xs 3), .int (xs 2), .int (xs 1), .ref 40, .int (-1)]) (h3 := rn_H) 9 (M := tbM0) rfl rfl ?_
      refine ek_call (f1 := 2047) (w1 := 83976) (M := tbM0) (k := 285) (M2 := tbM285) (as := [.ref 40, .int (xs 1), .int (xs 2), .int (xs 3), .int (xs 4)]) (rest := [.int (-1)]) rfl rfl rfl rfl rfl rfl (Nat.le_of_ble_eq_true rfl) (Nat.le_of_ble_eq_true rfl) (Nat.le_of_ble_eq_true rfl) ?_
      refine ek_k (pc2 := 7) (lv2 := [(0, .ref 40), (1, .int (xs 1)), (2, .int (xs 2)), (3, .int (xs 3)), (4, .int (xs 4))]) (st2 := [.int 1, .int (xs 4), .int (xs 3), .int (xs 2), .int (xs 1), .ref 40]) (h3 := rn_H) 6 (M := tbM285) rfl rfl ?_
      refine ek_call (f1 := 2046) (w1 := 83946) (M := tbM285) (k := 286) (M2 := tbM286) (as := [.ref 40, .int (xs 1), .int (xs 2), .int (xs 3), .int (xs 4), .int 1]) (rest := []) rfl rfl rfl rfl rfl rfl (Nat.le_of_ble_eq_true rfl) (Nat.le_of_ble_eq_true rfl) (Nat.le_of_ble_eq_true rfl) ?_
      refine ek_k (pc2 := 2) (lv2 := [(0, .ref 40), (1, .int (xs 1)), (2, .int (xs 2)), (3, .int (xs 3)), (4, .int (xs 4)), (5, .int 1)]) (st2 := [.int (xs 1), .ref 40]) (h3 := rn_H) 2 (M := tbM286) rfl rfl ?_
      refine ek_call (f1 := 2045) (w1 := 83925) (M := tbM286) (k := 264) (M2 := tbM264) (as := [.ref 40, .int (xs 1)]) (rest := []) rfl rfl rfl rfl rfl rfl (Nat.le_of_ble_eq_true rfl) (Nat.le_of_ble_eq_true rfl) (Nat.le_of_ble_eq_true rfl) ?_
      refine ek_k (pc2 := 10) (lv2 := [(0, .ref 40), (1, .int (xs 1))]) (st2 := [.long (-1), .long 0, .long ((xs 1)).toInt64]) (h3 := rn_H) 8 (M := tbM264) rfl rfl ?_
      refine ek_call (f1 := 2044) (w1 := 83900) (M := tbM264) (k := 198) (M2 := tbM198) (as := [.long ((xs 1)).toInt64, .long 0, .long (-1)]) (rest := []) rfl rfl rfl rfl rfl rfl (Nat.le_of_ble_eq_true rfl) (Nat.le_of_ble_eq_true rfl) (Nat.le_of_ble_eq_true rfl) ?_
      refine ek_k (pc2 := 3) (lv2 := [(0, .long ((xs 1)).toInt64), (2, .long 0), (4, .long (-1))]) (st2 := [.int (lg_cmp ((xs 1)).toInt64 (0 : Int64))]) (h3 := rn_H) 3 (M := tbM198) rfl rfl ?_
      refine ek_pu (lv2 := [(0, .long ((xs 1)).toInt64), (2, .long 0), (4, .long (-1))]) (st2 := []) (M := tbM198) rfl rfl rfl (if_pos hc1) ?_
      refine ek_k (pc2 := 18) (lv2 := [(0, .long ((xs 1)).toInt64), (2, .long 0), (4, .long (-1))]) (st2 := [.int 0]) (h3 := rn_H) 1 (M := tbM198) rfl rfl ?_
      refine ek_ret (r := some (.int 0)) (M := tbM198) rfl rfl rfl ?_
      refine ek_ret (r := some (.int 0)) (M := tbM264) rfl rfl rfl ?_
      refine ek_k (pc2 := 9) (lv2 := [(0, .ref 40), (1, .int (xs 1)), (2, .int (xs 2)), (3, .int (xs 3)), (4, .int (xs 4)), (5, .int 1)]) (st2 := [.int (-1)]) (h3 := rn_H) 2 (M := tbM286) rfl rfl ?_
      refine ek_ret (r := some (.int (-1))) (M := tbM286) rfl rfl rfl ?_
      refine ek_ret (r := some (.int (-1))) (M := tbM285) rfl rfl rfl ?_
      refine ek_k (pc2 := 990) (lv2 := [(3, .int 6), (2, .ref 40), (1, .ref 2), (0, .ref 0)]) (st2 := [.int 1]) (h3 := rn_H) 10 (M := tbM0) rfl rfl ?_
      refine ek_end (r := some (.int 1)) (M := tbM0) rfl rfl rfl ?_
      exact rn_fin (S := rn_S) rfl rn_S1 rn_S2
    · exfalso; (try simp only [lg_lt, lg_gt, lg_le, lg_ge, lg_z] at hc0 hc1); simp only [← Int32.toInt_inj, ← Int64.toInt_inj, Int32.lt_iff_toInt_lt, Int32.le_iff_toInt_le, Int64.lt_iff_toInt_lt, Int64.le_iff_toInt_le, Int32.toInt_toInt64, rn_im4, rn_lm4, rn_im3, rn_lm3, rn_im2, rn_lm2, rn_im1, rn_lm1, rn_i0, rn_l0, rn_i1, rn_l1, rn_i2, rn_l2, rn_i3, rn_l3, rn_i4, rn_l4, rn_i5, rn_l5, rn_i6, rn_l6, rn_i7, rn_l7, rn_i8, rn_l8] at hc0 hc1; omega
  · by_cases hc1 : (0 : Int32) ≤ (xs 1)
    · by_cases hc2 : (lg_cmp ((xs 1)).toInt64 (0 : Int64)) < (0 : Int32)
      · exfalso; (try simp only [lg_lt, lg_gt, lg_le, lg_ge, lg_z] at hc0 hc1 hc2); simp only [← Int32.toInt_inj, ← Int64.toInt_inj, Int32.lt_iff_toInt_lt, Int32.le_iff_toInt_le, Int64.lt_iff_toInt_lt, Int64.le_iff_toInt_le, Int32.toInt_toInt64, rn_im4, rn_lm4, rn_im3, rn_lm3, rn_im2, rn_lm2, rn_im1, rn_lm1, rn_i0, rn_l0, rn_i1, rn_l1, rn_i2, rn_l2, rn_i3, rn_l3, rn_i4, rn_l4, rn_i5, rn_l5, rn_i6, rn_l6, rn_i7, rn_l7, rn_i8, rn_l8] at hc0 hc1 hc2; omega
      · by_cases hc3 : (0 : Int32) < (lg_cmp ((xs 1)).toInt64 (-1 : Int64))
        · refine ek_k (pc2 := 796) (lv2 := [(3, .int 0), (2, .ref 40), (1, .ref 2), (0, .ref 0)]) (st2 := [.int (xs 2), .int (xs 1), .ref 2]) (h3 := rn_H) 12 (M := tbM0) rfl rfl ?_
          refine ek_k (pc2 := 806) (lv2 := [(3, .int 0), (2, .ref 40), (1, .ref 2), (0, .ref 0)]) (st2 := [.int (xs 4), .int (xs 3), .int (xs 2), .int (xs 1), .ref 2]) (h3 := rn_H) 10 (M := tbM0) rfl rfl ?_
          refine ek_call (f1 := 2047) (w1 := 83976) (M := tbM0) (k := 167) (M2 := tbM167) (as := [.ref 2, .int (xs 1), .int (xs 2), .int (xs 3), .int (xs 4)]) (rest := []) rfl rfl rfl rfl rfl rfl (Nat.le_of_ble_eq_true rfl) (Nat.le_of_ble_eq_true rfl) (Nat.le_of_ble_eq_true rfl) ?_
          refine ek_k (pc2 := 9) (lv2 := [(0, .ref 2), (1, .int (xs 1)), (2, .int (xs 2)), (3, .int (xs 3)), (4, .int (xs 4))]) (st2 := [.int (xs 4), .int (xs 3), .int (xs 2), .int (xs 1), .ref 34]) (h3 := rn_H) 6 (M := tbM167) rfl rfl ?_
          refine ek_call (f1 := 2046) (w1 := 83950) (M := tbM167) (k := 168) (M2 := tbM168) (as := [.ref 34, .int (xs 1), .int (xs 2), .int (xs 3), .int (xs 4)]) (rest := []) rfl rfl rfl rfl rfl rfl (Nat.le_of_ble_eq_true rfl) (Nat.le_of_ble_eq_true rfl) (Nat.le_of_ble_eq_true rfl) ?_
          refine ek_k (pc2 := 5) (lv2 := [(0, .ref 34), (1, .int (xs 1)), (2, .int (xs 2)), (3, .int (xs 3)), (4, .int (xs 4))]) (st2 := [.int (xs 1), .ref 14]) (h3 := rn_H) 3 (M := tbM168) rfl rfl ?_
          refine ek_call (f1 := 2045) (w1 := 83929) (M := tbM168) (k := 83) (M2 := tbM83) (as := [.ref 14, .int (xs 1)]) (rest := []) rfl rfl rfl rfl rfl rfl (Nat.le_of_ble_eq_true rfl) (Nat.le_of_ble_eq_true rfl) (Nat.le_of_ble_eq_true rfl) ?_
          refine ek_k (pc2 := 1) (lv2 := [(0, .ref 14), (1, .int (xs 1))]) (st2 := [.int (xs 1)]) (h3 := rn_H) 1 (M := tbM83) rfl rfl ?_
          refine ek_pu (lv2 := [(0, .ref 14), (1, .int (xs 1))]) (st2 := []) (M := tbM83) rfl rfl rfl (if_neg hc0) ?_
          refine ek_k (pc2 := 9) (lv2 := [(0, .ref 14), (1, .int (xs 1))]) (st2 := [.int 0, .int (xs 1)]) (h3 := rn_H) 3 (M := tbM83) rfl rfl ?_
          refine ek_pu (lv2 := [(0, .ref 14), (1, .int (xs 1))]) (st2 := []) (M := tbM83) rfl rfl rfl (if_pos hc1) ?_
          refine ek_k (pc2 := 22) (lv2 := [(0, .ref 14), (1, .int (xs 1))]) (st2 := [.null]) (h3 := rn_H) 1 (M := tbM83) rfl rfl ?_
          refine ek_ret (r := some (.null)) (M := tbM83) rfl rfl rfl ?_
          refine ek_k (pc2 := 16) (lv2 := [(5, .null), (0, .ref 34), (1, .int (xs 1)), (2, .int (xs 2)), (3, .int (xs 3)), (4, .int (xs 4))]) (st2 := [.int 0]) (h3 := rn_H) 4 (M := tbM168) rfl rfl ?_
          refine ek_ret (r := some (.int 0)) (M := tbM168) rfl rfl rfl ?_
          refine ek_k (pc2 := 28) (lv2 := [(0, .ref 2), (1, .int (xs 1)), (2, .int (xs 2)), (3, .int (xs 3)), (4, .int (xs 4))]) (st2 := [.int (-1)]) (h3 := rn_H) 2 (M := tbM167) rfl rfl ?_
          refine ek_ret (r := some (.int (-1))) (M := tbM167) rfl rfl rfl ?_
          refine ek_k (pc2 := 821) (lv2 := [(3, .int 0), (2, .ref 40), (1, .ref 2), (0, .ref 0)]) (st2 := [.ref 0, .int (xs 2), .int (xs 1), .ref 40, .int (-1)]) (h3 := rn_H) 12 (M := tbM0) rfl rfl ?_
          refine ek_k (pc2 := 830) (lv2 := [(3, .int 0), (2, .ref 40), (1, .ref 2), (0, .ref 0)]) (st2 := [.int (xs 4), .int (xs 3), .int (xs 2), .int (xs 1), .ref 40, .int (-1)]) (h3 := rn_H) 9 (M := tbM0) rfl rfl ?_
          refine ek_call (f1 := 2047) (w1 := 83976) (M := tbM0) (k := 285) (M2 := tbM285) (as := [.ref 40, .int (xs 1), .int (xs 2), .int (xs 3), .int (xs 4)]) (rest := [.int (-1)]) rfl rfl rfl rfl rfl rfl (Nat.le_of_ble_eq_true rfl) (Nat.le_of_ble_eq_true rfl) (Nat.le_of_ble_eq_true rfl) ?_
          refine ek_k (pc2 := 7) (lv2 := [(0, .ref 40), (1, .int (xs 1)), (2, .int (xs 2)), (3, .int (xs 3)), (4, .int (xs 4))]) (st2 := [.int 1, .int (xs 4), .int (xs 3), .int (xs 2), .int (xs 1), .ref 40]) (h3 := rn_H) 6 (M := tbM285) rfl rfl ?_
          refine ek_call (f1 := 2046) (w1 := 83946) (M := tbM285) (k := 286) (M2 := tbM286) (as := [.ref 40, .int (xs 1), .int (xs 2), .int (xs 3), .int (xs 4), .int 1]) (rest := []) rfl rfl rfl rfl rfl rfl (Nat.le_of_ble_eq_true rfl) (Nat.le_of_ble_eq_true rfl) (Nat.le_of_ble_eq_true rfl) ?_
          refine ek_k (pc2 := 2) (lv2 := [(0, .ref 40), (1, .int (xs 1)), (2, .int (xs 2)), (3, .int (xs 3)), (4, .int (xs 4)), (5, .int 1)]) (st2 := [.int (xs 1), .ref 40]) (h3 := rn_H) 2 (M := tbM286) rfl rfl ?_
          refine ek_call (f1 := 2045) (w1 := 83925) (M := tbM286) (k := 264) (M2 := tbM264) (as := [.ref 40, .int (xs 1)]) (rest := []) rfl rfl rfl rfl rfl rfl (Nat.le_of_ble_eq_true rfl) (Nat.le_of_ble_eq_true rfl) (Nat.le_of_ble_eq_true rfl) ?_
          refine ek_k (pc2 := 10) (lv2 := [(0, .ref 40), (1, .int (xs 1))]) (st2 := [.long (-1), .long 0, .long ((xs 1)).toInt64]) (h3 := rn_H) 8 (M := tbM264) rfl rfl ?_
          refine ek_call (f1 := 2044) (w1 := 83900) (M := tbM264) (k := 198) (M2 := tbM198) (as := [.long ((xs 1)).toInt64, .long 0, .long (-1)]) (rest := []) rfl rfl rfl rfl rfl rfl (Nat.le_of_ble_eq_true rfl) (Nat.le_of_ble_eq_true rfl) (Nat.le_of_ble_eq_true rfl) ?_
          refine ek_k (pc2 := 3) (lv2 := [(0, .long ((xs 1)).toInt64), (2, .long 0), (4, .long (-1))]) (st2 := [.int (lg_cmp ((xs 1)).toInt64 (0 : Int64))]) (h3 := rn_H) 3 (M := tbM198) rfl rfl ?_
          refine ek_pu (lv2 := [(0, .long ((xs 1)).toInt64), (2, .long 0), (4, .long (-1))]) (st2 := []) (M := tbM198) rfl rfl rfl (if_neg hc2) ?_
          refine ek_k (pc2 := 10) (lv2 := [(0, .long ((xs 1)).toInt64), (2, .long 0), (4, .long (-1))]) (st2 := [.int (lg_cmp ((xs 1)).toInt64 (-1 : Int64))]) (h3 := rn_H) 3 (M := tbM198) rfl rfl ?_
          refine ek_pu (lv2 := [(0, .long ((xs 1)).toInt64), (2, .long 0), (4, .long (-1))]) (st2 := []) (M := tbM198) rfl rfl rfl (if_pos hc3) ?_
          refine ek_k (pc2 := 18) (lv2 := [(0, .long ((xs 1)).toInt64), (2, .long 0), (4, .long (-1))]) (st2 := [.int 0]) (h3 := rn_H) 1 (M := tbM198) rfl rfl ?_
          refine ek_ret (r := some (.int 0)) (M := tbM198) rfl rfl rfl ?_
          refine ek_ret (r := some (.int 0)) (M := tbM264) rfl rfl rfl ?_
          refine ek_k (pc2 := 9) (lv2 := [(0, .ref 40), (1, .int (xs 1)), (2, .int (xs 2)), (3, .int (xs 3)), (4, .int (xs 4)), (5, .int 1)]) (st2 := [.int (-1)]) (h3 := rn_H) 2 (M := tbM286) rfl rfl ?_
          refine ek_ret (r := some (.int (-1))) (M := tbM286) rfl rfl rfl ?_
          refine ek_ret (r := some (.int (-1))) (M := tbM285) rfl rfl rfl ?_
          refine ek_k (pc2 := 990) (lv2 := [(3, .int 6), (2, .ref 40), (1, .ref 2), (0, .ref 0)]) (st2 := [.int 1]) (h3 := rn_H) 10 (M := tbM0) rfl rfl ?_
          refine ek_end (r := some (.int 1)) (M := tbM0) rfl rfl rfl ?_
          exact rn_fin (S := rn_S) rfl rn_S1 rn_S2
        · exfalso; (try simp only [lg_lt, lg_gt, lg_le, lg_ge, lg_z] at hc0 hc1 hc2 hc3); simp only [← Int32.toInt_inj, ← Int64.toInt_inj, Int32.lt_iff_toInt_lt, Int32.le_iff_toInt_le, Int64.lt_iff_toInt_lt, Int64.le_iff_toInt_le, Int32.toInt_toInt64, rn_im4, rn_lm4, rn_im3, rn_lm3, rn_im2, rn_lm2, rn_im1, rn_lm1, rn_i0, rn_l0, rn_i1, rn_l1, rn_i2, rn_l2, rn_i3, rn_l3, rn_i4, rn_l4, rn_i5, rn_l5, rn_i6, rn_l6, rn_i7, rn_l7, rn_i8, rn_l8] at hc0 hc1 hc2 hc3; omega
    · exfalso; (try simp only [lg_lt, lg_gt, lg_le, lg_ge, lg_z] at hc0 hc1); simp only [← Int32.toInt_inj, ← Int64.toInt_inj, Int32.lt_iff_toInt_lt, Int32.le_iff_toInt_le, Int64.lt_iff_toInt_lt, Int64.le_iff_toInt_le, Int32.toInt_toInt64, rn_im4, rn_lm4, rn_im3, rn_lm3, rn_im2, rn_lm2, rn_im1, rn_lm1, rn_i0, rn_l0, rn_i1, rn_l1, rn_i2, rn_l2, rn_i3, rn_l3, rn_i4, rn_l4, rn_i5, rn_l5, rn_i6, rn_l6, rn_i7, rn_l7, rn_i8, rn_l8] at hc0 hc1; omega
set_option maxRecDepth 100000 in
set_option maxHeartbeats 40000000 in
theorem rn_op20 (xs : Nat → Int32) (hx : (xs 0) &&& (31 : Int32) = 20) : am_ek tbT (tb_ro 6 xs) rn_P 2048 84000 0 33 [(3, .int 0), (2, .ref 40), (1, .ref 2), (0, .ref 0)] [.int ((xs 0) &&& (31 : Int32))] rn_H [] := by
  rw [hx]
  by_cases hc0 : (xs 1) < (0 : Int32)
  · by_cases hc1 : (lg_cmp ((xs 1)).toInt64 (0 : Int64)) < (0 : Int32)
    · refine ek_k (pc2 := 849) (lv2 := [(3, .int 0), (2, .ref 40), (1, .ref 2), (0, .ref 0)]) (st2 := [.int (xs 2), .int (xs 1), .ref 2]) (h3 := rn_H) 12 (M := tbM0) rfl rfl ?_
      refine ek_k (pc2 := 859) (lv2 := [(3, .int 0), (2, .ref 40), (1, .ref 2), (0, .ref 0)]) (st2 := [.int (xs 4), .int (xs 3), .int (xs 2), .int (xs 1), .ref 2]) (h3 := rn_H) 10 (M := tbM0) rfl rfl ?_
      refine ek_call (f1 := 2047) (w1 := 83976) (M := tbM0) (k := 191) (M2 := tbM191) (as := [.ref 2, .int (xs 1), .int (xs 2), .int (xs 3), .int (xs 4)]) (rest := []) rfl rfl rfl rfl rfl rfl (Nat.le_of_ble_eq_true rfl) (Nat.le_of_ble_eq_true rfl) (Nat.le_of_ble_eq_true rfl) ?_
      refine ek_k (pc2 := 9) (lv2 := [(0, .ref 2), (1, .int (xs 1)), (2, .int (xs 2)), (3, .int (xs 3)), (4, .int (xs 4))]) (st2 := [.int (xs 4), .int (xs 3), .int (xs 2), .int (xs 1), .ref 34]) (h3 := rn_H) 6 (M := tbM191) rfl rfl ?_
      refine ek_call (f1 := 2046) (w1 := 83950) (M := tbM191) (k := 168) (M2 := tbM168) (as := [.ref 34, .int (xs 1), .int (xs 2), .int (xs 3), .int (xs 4)]) (rest := []) rfl rfl rfl rfl rfl rfl (Nat.le_of_ble_eq_true rfl) (Nat.le_of_ble_eq_true rfl) (Nat.le_of_ble_eq_true rfl) ?_
      refine ek_k (pc2 := 5) (lv2 := [(0, .ref 34), (1, .int (xs 1)), (2, .int (xs 2)), (3, .int (xs 3)), (4, .int (xs 4))]) (st2 := [.int (xs 1), .ref 14]) (h3 := rn_H) 3 (M := tbM168) rfl rfl ?_
      refine ek_call (f1 := 2045) (w1 := 83929) (M := tbM168) (k := 83) (M2 := tbM83) (as := [.ref 14, .int (xs 1)]) (rest := []) rfl rfl rfl rfl rfl rfl (Nat.le_of_ble_eq_true rfl) (Nat.le_of_ble_eq_true rfl) (Nat.le_of_ble_eq_true rfl) ?_
      refine ek_k (pc2 := 1) (lv2 := [(0, .ref 14), (1, .int (xs 1))]) (st2 := [.int (xs 1)]) (h3 := rn_H) 1 (M := tbM83) rfl rfl ?_
      refine ek_pu (lv2 := [(0, .ref 14), (1, .int (xs 1))]) (st2 := []) (M := tbM83) rfl rfl rfl (if_pos hc0) ?_
      refine ek_k (pc2 := 22) (lv2 := [(0, .ref 14), (1, .int (xs 1))]) (st2 := [.null]) (h3 := rn_H) 1 (M := tbM83) rfl rfl ?_
      refine ek_ret (r := some (.null)) (M := tbM83) rfl rfl rfl ?_
      refine ek_k (pc2 := 16) (lv2 := [(5, .null), (0, .ref 34), (1, .int (xs 1)), (2, .int (xs 2)), (3, .int (xs 3)), (4, .int (xs 4))]) (st2 := [.int 0]) (h3 := rn_H) 4 (M := tbM168) rfl rfl ?_
      refine ek_ret (r := some (.int 0)) (M := tbM168) rfl rfl rfl ?_
      refine ek_k (pc2 := 28) (lv2 := [(0, .ref 2), (1, .int (xs 1)), (2, .int (xs 2)), (3, .int (xs 3)), (4, .int (xs 4))]) (st2 := [.int (-1)]) (h3 := rn_H) 2 (M := tbM191) rfl rfl ?_
      refine ek_ret (r := some (.int (-1))) (M := tbM191) rfl rfl rfl ?_
      refine ek_k (pc2 := 874) (lv2 := [(3, .int 0), (2, .ref 40), (1, .ref 2), (0, .ref 0)]) (st2 := [.ref 0, .int (xs 2), .int (xs 1), .ref 40, .int (-1)]) (h3 := rn_H) 12 (M := tbM0) rfl rfl ?_
      refine ek_k (pc2 := 883) (lv2 := [(3, .int 0), (2, .ref 40), (1, .ref 2), (0, .ref 0)]) (st2 := [.int (xs 4), .int (xs 3), .int (xs 2), .int (xs 1), .ref 40, .int (-1)]) (h3 := rn_H) 9 (M := tbM0) rfl rfl ?_
      refine ek_call (f1 := 2047) (w1 := 83976) (M := tbM0) (k := 297) (M2 := tbM297) (as := [.ref 40, .int (xs 1), .int (xs 2), .int (xs 3), .int (xs 4)]) (rest := [.int (-1)]) rfl rfl rfl rfl rfl rfl (Nat.le_of_ble_eq_true rfl) (Nat.le_of_ble_eq_true rfl) (Nat.le_of_ble_eq_true rfl) ?_
      refine ek_k (pc2 := 7) (lv2 := [(0, .ref 40), (1, .int (xs 1)), (2, .int (xs 2)), (3, .int (xs 3)), (4, .int (xs 4))]) (st2 := [.int 0, .int (xs 4), .int (xs 3), .int (xs 2), .int (xs 1), .ref 40]) (h3 := rn_H) 6 (M := tbM297) rfl rfl ?_
      refine ek_call (f1 := 2046) (w1 := 83946) (M := tbM297) (k := 286) (M2 := tbM286) (as := [.ref 40, .int (xs 1), .int (xs 2), .int (xs 3), .int (xs 4), .int 0]) (rest := []) rfl rfl rfl rfl rfl rfl (Nat.le_of_ble_eq_true rfl) (Nat.le_of_ble_eq_true rfl) (Nat.le_of_ble_eq_true rfl) ?_
      refine ek_k (pc2 := 2) (lv2 := [(0, .ref 40), (1, .int (xs 1)), (2, .int (xs 2)), (3, .int (xs 3)), (4, .int (xs 4)), (5, .int 0)]) (st2 := [.int (xs 1), .ref 40]) (h3 := rn_H) 2 (M := tbM286) rfl rfl ?_
      refine ek_call (f1 := 2045) (w1 := 83925) (M := tbM286) (k := 264) (M2 := tbM264) (as := [.ref 40, .int (xs 1)]) (rest := []) rfl rfl rfl rfl rfl rfl (Nat.le_of_ble_eq_true rfl) (Nat.le_of_ble_eq_true rfl) (Nat.le_of_ble_eq_true rfl) ?_
      refine ek_k (pc2 := 10) (lv2 := [(0, .ref 40), (1, .int (xs 1))]) (st2 := [.long (-1), .long 0, .long ((xs 1)).toInt64]) (h3 := rn_H) 8 (M := tbM264) rfl rfl ?_
      refine ek_call (f1 := 2044) (w1 := 83900) (M := tbM264) (k := 198) (M2 := tbM198) (as := [.long ((xs 1)).toInt64, .long 0, .long (-1)]) (rest := []) rfl rfl rfl rfl rfl rfl (Nat.le_of_ble_eq_true rfl) (Nat.le_of_ble_eq_true rfl) (Nat.le_of_ble_eq_true rfl) ?_
      refine ek_k (pc2 := 3) (lv2 := [(0, .long ((xs 1)).toInt64), (2, .long 0), (4, .long (-1))]) (st2 := [.int (lg_cmp ((xs 1)).toInt64 (0 : Int64))]) (h3 := rn_H) 3 (M := tbM198) rfl rfl ?_
      refine ek_pu (lv2 := [(0, .long ((xs 1)).toInt64), (2, .long 0), (4, .long (-1))]) (st2 := []) (M := tbM198) rfl rfl rfl (if_pos hc1) ?_
      refine ek_k (pc2 := 18) (lv2 := [(0, .long ((xs 1)).toInt64), (2, .long 0), (4, .long (-1))]) (st2 := [.int 0]) (h3 := rn_H) 1 (M := tbM198) rfl rfl ?_
      refine ek_ret (r := some (.int 0)) (M := tbM198) rfl rfl rfl ?_
      refine ek_ret (r := some (.int 0)) (M := tbM264) rfl rfl rfl ?_
      refine ek_k (pc2 := 9) (lv2 := [(0, .ref 40), (1, .int (xs 1)), (2, .int (xs 2)), (3, .int (xs 3)), (4, .int (xs 4)), (5, .int 0)]) (st2 := [.int (-1)]) (h3 := rn_H) 2 (M := tbM286) rfl rfl ?_
      refine ek_ret (r := some (.int (-1))) (M := tbM286) rfl rfl rfl ?_
      refine ek_ret (r := some (.int (-1))) (M := tbM297) rfl rfl rfl ?_
      refine ek_k (pc2 := 990) (lv2 := [(3, .int 6), (2, .ref 40), (1, .ref 2), (0, .ref 0)]) (st2 := [.int 1]) (h3 := rn_H) 10 (M := tbM0) rfl rfl ?_
      refine ek_end (r := some (.int 1)) (M := tbM0) rfl rfl rfl ?_
      exact rn_fin (S := rn_S) rfl rn_S1 rn_S2
    · exfalso; (try simp only [lg_lt, lg_gt, lg_le, lg_ge, lg_z] at hc0 hc1); simp only [← Int32.toInt_inj, ← Int64.toInt_inj, Int32.lt_iff_toInt_lt, Int32.le_iff_toInt_le, Int64.lt_iff_toInt_lt, Int64.le_iff_toInt_le, Int32.toInt_toInt64, rn_im4, rn_lm4, rn_im3, rn_lm3, rn_im2, rn_lm2, rn_im1, rn_lm1, rn_i0, rn_l0, rn_i1, rn_l1, rn_i2, rn_l2, rn_i3, rn_l3, rn_i4, rn_l4, rn_i5, rn_l5, rn_i6, rn_l6, rn_i7, rn_l7, rn_i8, rn_l8] at hc0 hc1; omega
  · by_cases hc1 : (0 : Int32) ≤ (xs 1)
    · by_cases hc2 : (lg_cmp ((xs 1)).toInt64 (0 : Int64)) < (0 : Int32)
      · exfalso; (try simp only [lg_lt, lg_gt, lg_le, lg_ge, lg_z] at hc0 hc1 hc2); simp only [← Int32.toInt_inj, ← Int64.toInt_inj, Int32.lt_iff_toInt_lt, Int32.le_iff_toInt_le, Int64.lt_iff_toInt_lt, Int64.le_iff_toInt_le, Int32.toInt_toInt64, rn_im4, rn_lm4, rn_im3, rn_lm3, rn_im2, rn_lm2, rn_im1, rn_lm1, rn_i0, rn_l0, rn_i1, rn_l1, rn_i2, rn_l2, rn_i3, rn_l3, rn_i4, rn_l4, rn_i5, rn_l5, rn_i6, rn_l6, rn_i7, rn_l7, rn_i8, rn_l8] at hc0 hc1 hc2; omega
      · by_cases hc3 : (0 : Int32) < (lg_cmp ((xs 1)).toInt64 (-1 : Int64))
        · refine ek_k (pc2 := 849) (lv2 := [(3, .int 0), (2, .ref 40), (1, .ref 2), (0, .ref 0)]) (st2 := [.int (xs 2), .int (xs 1), .ref 2]) (h3 := rn_H) 12 (M := tbM0) rfl rfl ?_
          refine ek_k (pc2 := 859) (lv2 := [(3, .int 0), (2, .ref 40), (1, .ref 2), (0, .ref 0)]) (st2 := [.int (xs 4), .int (xs 3), .int (xs 2), .int (xs 1), .ref 2]) (h3 := rn_H) 10 (M := tbM0) rfl rfl ?_
          refine ek_call (f1 := 2047) (w1 := 83976) (M := tbM0) (k := 191) (M2 := tbM191) (as := [.ref 2, .int (xs 1), .int (xs 2), .int (xs 3), .int (xs 4)]) (rest := []) rfl rfl rfl rfl rfl rfl (Nat.le_of_ble_eq_true rfl) (Nat.le_of_ble_eq_true rfl) (Nat.le_of_ble_eq_true rfl) ?_
          refine ek_k (pc2 := 9) (lv2 := [(0, .ref 2), (1, .int (xs 1)), (2, .int (xs 2)), (3, .int (xs 3)), (4, .int (xs 4))]) (st2 := [.int (xs 4), .int (xs 3), .int (xs 2), .int (xs 1), .ref 34]) (h3 := rn_H) 6 (M := tbM191) rfl rfl ?_
          refine ek_call (f1 := 2046) (w1 := 83950) (M := tbM191) (k := 168) (M2 := tbM168) (as := [.ref 34, .int (xs 1), .int (xs 2), .int (xs 3), .int (xs 4)]) (rest := []) rfl rfl rfl rfl rfl rfl (Nat.le_of_ble_eq_true rfl) (Nat.le_of_ble_eq_true rfl) (Nat.le_of_ble_eq_true rfl) ?_
          refine ek_k (pc2 := 5) (lv2 := [(0, .ref 34), (1, .int (xs 1)), (2, .int (xs 2)), (3, .int (xs 3)), (4, .int (xs 4))]) (st2 := [.int (xs 1), .ref 14]) (h3 := rn_H) 3 (M := tbM168) rfl rfl ?_
          refine ek_call (f1 := 2045) (w1 := 83929) (M := tbM168) (k := 83) (M2 := tbM83) (as := [.ref 14, .int (xs 1)]) (rest := []) rfl rfl rfl rfl rfl rfl (Nat.le_of_ble_eq_true rfl) (Nat.le_of_ble_eq_true rfl) (Nat.le_of_ble_eq_true rfl) ?_
          refine ek_k (pc2 := 1) (lv2 := [(0, .ref 14), (1, .int (xs 1))]) (st2 := [.int (xs 1)]) (h3 := rn_H) 1 (M := tbM83) rfl rfl ?_
          refine ek_pu (lv2 := [(0, .ref 14), (1, .int (xs 1))]) (st2 := []) (M := tbM83) rfl rfl rfl (if_neg hc0) ?_
          refine ek_k (pc2 := 9) (lv2 := [(0, .ref 14), (1, .int (xs 1))]) (st2 := [.int 0, .int (xs 1)]) (h3 := rn_H) 3 (M := tbM83) rfl rfl ?_
          refine ek_pu (lv2 := [(0, .ref 14), (1, .int (xs 1))]) (st2 := []) (M := tbM83) rfl rfl rfl (if_pos hc1) ?_
          refine ek_k (pc2 := 22) (lv2 := [(0, .ref 14), (1, .int (xs 1))]) (st2 := [.null]) (h3 := rn_H) 1 (M := tbM83) rfl rfl ?_
          refine ek_ret (r := some (.null)) (M := tbM83) rfl rfl rfl ?_
          refine ek_k (pc2 := 16) (lv2 := [(5, .null), (0, .ref 34), (1, .int (xs 1)), (2, .int (xs 2)), (3, .int (xs 3)), (4, .int (xs 4))]) (st2 := [.int 0]) (h3 := rn_H) 4 (M := tbM168) rfl rfl ?_
          refine ek_ret (r := some (.int 0)) (M := tbM168) rfl rfl rfl ?_
          refine ek_k (pc2 := 28) (lv2 := [(0, .ref 2), (1, .int (xs 1)), (2, .int (xs 2)), (3, .int (xs 3)), (4, .int (xs 4))]) (st2 := [.int (-1)]) (h3 := rn_H) 2 (M := tbM191) rfl rfl ?_
          refine ek_ret (r := some (.int (-1))) (M := tbM191) rfl rfl rfl ?_
          refine ek_k (pc2 := 874) (lv2 := [(3, .int 0), (2, .ref 40), (1, .ref 2), (0, .ref 0)]) (st2 := [.ref 0, .int (xs 2), .int (xs 1), .ref 40, .int (-1)]) (h3 := rn_H) 12 (M := tbM0) rfl rfl ?_
          refine ek_k (pc2 := 883) (lv2 := [(3, .int 0), (2, .ref 40), (1, .ref 2), (0, .ref 0)]) (st2 := [.int (xs 4), .int (xs 3), .int (xs 2), .int (xs 1), .ref 40, .int (-1)]) (h3 := rn_H) 9 (M := tbM0) rfl rfl ?_
          refine ek_call (f1 := 2047) (w1 := 83976) (M := tbM0) (k := 297) (M2 := tbM297) (as := [.ref 40, .int (xs 1), .int (xs 2), .int (xs 3), .int (xs 4)]) (rest := [.int (-1)]) rfl rfl rfl rfl rfl rfl (Nat.le_of_ble_eq_true rfl) (Nat.le_of_ble_eq_true rfl) (Nat.le_of_ble_eq_true rfl) ?_
          refine ek_k (pc2 := 7) (lv2 := [(0, .ref 40), (1, .int (xs 1)), (2, .int (xs 2)), (3, .int (xs 3)), (4, .int (xs 4))]) (st2 := [.int 0, .int (xs 4), .int (xs 3), .int (xs 2), .int (xs 1), .ref 40]) (h3 := rn_H) 6 (M := tbM297) rfl rfl ?_
          refine ek_call (f1 := 2046) (w1 := 83946) (M := tbM297) (k := 286) (M2 := tbM286) (as := [.ref 40, .int (xs 1), .int (xs 2), .int (xs 3), .int (xs 4), .int 0]) (rest := []) rfl rfl rfl rfl rfl rfl (Nat.le_of_ble_eq_true rfl) (Nat.le_of_ble_eq_true rfl) (Nat.le_of_ble_eq_true rfl) ?_
          refine ek_k (pc2 := 2) (lv2 := [(0, .ref 40), (1, .int (xs 1)), (2, .int (xs 2)), (3, .int (xs 3)), (4, .int (xs 4)), (5, .int 0)]) (st2 := [.int (xs 1), .ref 40]) (h3 := rn_H) 2 (M := tbM286) rfl rfl ?_
          refine ek_call (f1 := 2045) (w1 := 83925) (M := tbM286) (k := 264) (M2 := tbM264) (as := [.ref 40, .int (xs 1)]) (rest := []) rfl rfl rfl rfl rfl rfl (Nat.le_of_ble_eq_true rfl) (Nat.le_of_ble_eq_true rfl) (Nat.le_of_ble_eq_true rfl) ?_
          refine ek_k (pc2 := 10) (lv2 := [(0, .ref 40), (1, .int (xs 1))]) (st2 := [.long (-1), .long 0, .long ((xs 1)).toInt64]) (h3 := rn_H) 8 (M := tbM264) rfl rfl ?_
          refine ek_call (f1 := 2044) (w1 := 83900) (M := tbM264) (k := 198) (M2 := tbM198) (as := [.long ((xs 1)).toInt64, .long 0, .long (-1)]) (rest := []) rfl rfl rfl rfl rfl rfl (Nat.le_of_ble_eq_true rfl) (Nat.le_of_ble_eq_true rfl) (Nat.le_of_ble_eq_true rfl) ?_
          refine ek_k (pc2 := 3) (lv2 := [(0, .long ((xs 1)).toInt64), (2, .long 0), (4, .long (-1))]) (st2 := [.int (lg_cmp ((xs 1)).toInt64 (0 : Int64))]) (h3 := rn_H) 3 (M := tbM198) rfl rfl ?_
          refine ek_pu (lv2 := [(0, .long ((xs 1)).toInt64), (2, .long 0), (4, .long (-1))]) (st2 := []) (M := tbM198) rfl rfl rfl (if_neg hc2) ?_
          refine ek_k (pc2 := 10) (lv2 := [(0, .long ((xs 1)).toInt64), (2, .long 0), (4, .long (-1))]) (st2 := [.int (lg_cmp ((xs 1)).toInt64 (-1 : Int64))]) (h3 := rn_H) 3 (M := tbM198) rfl rfl ?_
          refine ek_pu (lv2 := [(0, .long ((xs 1)).toInt64), (2, .long 0), (4, .long (-1))]) (st2 := []) (M := tbM198) rfl rfl rfl (if_pos hc3) ?_
          refine ek_k (pc2 := 18) (lv2 := [(0, .long ((xs 1)).toInt64), (2, .long 0), (4, .long (-1))]) (st2 := [.int 0]) (h3 := rn_H) 1 (M := tbM198) rfl rfl ?_
          refine ek_ret (r := some (.int 0)) (M := tbM198) rfl rfl rfl ?_
          refine ek_ret (r := some (.int 0)) (M := tbM264) rfl rfl rfl ?_
          refine ek_k (pc2 := 9) (lv2 := [(0, .ref 40), (1, .int (xs 1)), (2, .int (xs 2)), (3, .int (xs 3)), (4, .int (xs 4)), (5, .int 0)]) (st2 := [.int (-1)]) (h3 := rn_H) 2 (M := tbM286) rfl rfl ?_
          refine ek_ret (r := some (.int (-1))) (M := tbM286) rfl rfl rfl ?_
          refine ek_ret (r := some (.int (-1))) (M := tbM297) rfl rfl rfl ?_
          refine ek_k (pc2 := 990) (lv2 := [(3, .int 6), (2, .ref 40), (1, .ref 2), (0, .ref 0)]) (st2 := [.int 1]) (h3 := rn_H) 10 (M := tbM0) rfl rfl ?_
          refine ek_end (r := some (.int 1)) (M := tbM0) rfl rfl rfl ?_
          exact rn_fin (S := rn_S) rfl rn_S1 rn_S2
        · exfalso; (try simp only [lg_lt, lg_gt, lg_le, lg_ge, lg_z] at hc0 hc1 hc2 hc3); simp only [← Int32.toInt_inj, ← Int64.toInt_inj, Int32.lt_iff_toInt_lt, Int32.le_iff_toInt_le, Int64.lt_iff_toInt_lt, Int64.le_iff_toInt_le, Int32.toInt_toInt64, rn_im4, rn_lm4, rn_im3, rn_lm3, rn_im2, rn_lm2, rn_im1, rn_lm1, rn_i0, rn_l0, rn_i1, rn_l1, rn_i2, rn_l2, rn_i3, rn_l3, rn_i4, rn_l4, rn_i5, rn_l5, rn_i6, rn_l6, rn_i7, rn_l7, rn_i8, rn_l8] at hc0 hc1 hc2 hc3; omega
    · exfalso; (try simp only [lg_lt, lg_gt, lg_le, lg_ge, lg_z] at hc0 hc1); simp only [← Int32.toInt_inj, ← Int64.toInt_inj, Int32.lt_iff_toInt_lt, Int32.le_iff_toInt_le, Int64.lt_iff_toInt_lt, Int64.le_iff_toInt_le, Int32.toInt_toInt64, rn_im4, rn_lm4, rn_im3, rn_lm3, rn_im2, rn_lm2, rn_im1, rn_lm1, rn_i0, rn_l0, rn_i1, rn_l1, rn_i2, rn_l2, rn_i3, rn_l3, rn_i4, rn_l4, rn_i5, rn_l5, rn_i6, rn_l6, rn_i7, rn_l7, rn_i8, rn_l8] at hc0 hc1; omega
set_option maxRecDepth 100000 in
set_option maxHeartbeats 40000000 in
theorem rn_op22 (xs : Nat → Int32) (hx : (xs 0) &&& (31 : Int32) = 22) : am_ek tbT (tb_ro 6 xs) rn_P 2048 84000 0 33 [(3, .int 0), (2, .ref 40), (1, .ref 2), (0, .ref 0)] [.int ((xs 0) &&& (31 : Int32))] rn_H [] := by
  rw [hx]
  by_cases hc0 : (xs 1) < (0 : Int32)
  · by_cases hc1 : (lg_cmp ((xs 1)).toInt64 (0 : Int64)) < (0 : Int32)
    · refine ek_k (pc2 := 920) (lv2 := [(3, .int 0), (2, .ref 40), (1, .ref 2), (0, .ref 0)]) (st2 := [.int (xs 1), .ref 2]) (h3 := rn_H) 7 (M := tbM0) rfl rfl ?_
      refine ek_call (f1 := 2047) (w1 := 83979) (M := tbM0) (k := 193) (M2 := tbM193) (as := [.ref 2, .int (xs 1)]) (rest := []) rfl rfl rfl rfl rfl rfl (Nat.le_of_ble_eq_true rfl) (Nat.le_of_ble_eq_true rfl) (Nat.le_of_ble_eq_true rfl) ?_
      refine ek_k (pc2 := 1) (lv2 := [(0, .ref 2), (1, .int (xs 1))]) (st2 := [.int (xs 1)]) (h3 := rn_H) 1 (M := tbM193) rfl rfl ?_
      refine ek_pu (lv2 := [(0, .ref 2), (1, .int (xs 1))]) (st2 := []) (M := tbM193) rfl rfl rfl (if_pos hc0) ?_
      refine ek_k (pc2 := 29) (lv2 := [(0, .ref 2), (1, .int (xs 1))]) (st2 := [.int (-4)]) (h3 := rn_H) 2 (M := tbM193) rfl rfl ?_
      refine ek_ret (r := some (.int (-4))) (M := tbM193) rfl rfl rfl ?_
      refine ek_k (pc2 := 929) (lv2 := [(3, .int 0), (2, .ref 40), (1, .ref 2), (0, .ref 0)]) (st2 := [.int (xs 1), .ref 40, .int (-4)]) (h3 := rn_H) 6 (M := tbM0) rfl rfl ?_
      refine ek_call (f1 := 2047) (w1 := 83979) (M := tbM0) (k := 299) (M2 := tbM299) (as := [.ref 40, .int (xs 1)]) (rest := [.int (-4)]) rfl rfl rfl rfl rfl rfl (Nat.le_of_ble_eq_true rfl) (Nat.le_of_ble_eq_true rfl) (Nat.le_of_ble_eq_true rfl) ?_
      refine ek_k (pc2 := 23) (lv2 := [(0, .ref 40), (1, .int (xs 1))]) (st2 := [.int (-1), .long 0, .long ((xs 1)).toInt64]) (h3 := rn_H) 12 (M := tbM299) rfl rfl ?_
      refine ek_k (pc2 := 24) (lv2 := [(0, .ref 40), (1, .int (xs 1))]) (st2 := [.long (-1), .long 0, .long ((xs 1)).toInt64]) (h3 := rn_H) 1 (M := tbM299) rfl rfl ?_
      refine ek_call (f1 := 2046) (w1 := 83954) (M := tbM299) (k := 198) (M2 := tbM198) (as := [.long ((xs 1)).toInt64, .long 0, .long (-1)]) (rest := []) rfl rfl rfl rfl rfl rfl (Nat.le_of_ble_eq_true rfl) (Nat.le_of_ble_eq_true rfl) (Nat.le_of_ble_eq_true rfl) ?_
      refine ek_k (pc2 := 3) (lv2 := [(0, .long ((xs 1)).toInt64), (2, .long 0), (4, .long (-1))]) (st2 := [.int (lg_cmp ((xs 1)).toInt64 (0 : Int64))]) (h3 := rn_H) 3 (M := tbM198) rfl rfl ?_
      refine ek_pu (lv2 := [(0, .long ((xs 1)).toInt64), (2, .long 0), (4, .long (-1))]) (st2 := []) (M := tbM198) rfl rfl rfl (if_pos hc1) ?_
      refine ek_k (pc2 := 18) (lv2 := [(0, .long ((xs 1)).toInt64), (2, .long 0), (4, .long (-1))]) (st2 := [.int 0]) (h3 := rn_H) 1 (M := tbM198) rfl rfl ?_
      refine ek_ret (r := some (.int 0)) (M := tbM198) rfl rfl rfl ?_
      refine ek_k (pc2 := 41) (lv2 := [(0, .ref 40), (1, .int (xs 1))]) (st2 := [.int (-4)]) (h3 := rn_H) 2 (M := tbM299) rfl rfl ?_
      refine ek_ret (r := some (.int (-4))) (M := tbM299) rfl rfl rfl ?_
      refine ek_k (pc2 := 990) (lv2 := [(3, .int 6), (2, .ref 40), (1, .ref 2), (0, .ref 0)]) (st2 := [.int 1]) (h3 := rn_H) 10 (M := tbM0) rfl rfl ?_
      refine ek_end (r := some (.int 1)) (M := tbM0) rfl rfl rfl ?_
      exact rn_fin (S := rn_S) rfl rn_S1 rn_S2
    · exfalso; (try simp only [lg_lt, lg_gt, lg_le, lg_ge, lg_z] at hc0 hc1); simp only [← Int32.toInt_inj, ← Int64.toInt_inj, Int32.lt_iff_toInt_lt, Int32.le_iff_toInt_le, Int64.lt_iff_toInt_lt, Int64.le_iff_toInt_le, Int32.toInt_toInt64, rn_im4, rn_lm4, rn_im3, rn_lm3, rn_im2, rn_lm2, rn_im1, rn_lm1, rn_i0, rn_l0, rn_i1, rn_l1, rn_i2, rn_l2, rn_i3, rn_l3, rn_i4, rn_l4, rn_i5, rn_l5, rn_i6, rn_l6, rn_i7, rn_l7, rn_i8, rn_l8] at hc0 hc1; omega
  · by_cases hc1 : (lg_cmp ((xs 1)).toInt64 (0 : Int64)) < (0 : Int32)
    · exfalso; (try simp only [lg_lt, lg_gt, lg_le, lg_ge, lg_z] at hc0 hc1); simp only [← Int32.toInt_inj, ← Int64.toInt_inj, Int32.lt_iff_toInt_lt, Int32.le_iff_toInt_le, Int64.lt_iff_toInt_lt, Int64.le_iff_toInt_le, Int32.toInt_toInt64, rn_im4, rn_lm4, rn_im3, rn_lm3, rn_im2, rn_lm2, rn_im1, rn_lm1, rn_i0, rn_l0, rn_i1, rn_l1, rn_i2, rn_l2, rn_i3, rn_l3, rn_i4, rn_l4, rn_i5, rn_l5, rn_i6, rn_l6, rn_i7, rn_l7, rn_i8, rn_l8] at hc0 hc1; omega
    · by_cases hc2 : (0 : Int32) < (lg_cmp ((xs 1)).toInt64 (-1 : Int64))
      · refine ek_k (pc2 := 920) (lv2 := [(3, .int 0), (2, .ref 40), (1, .ref 2), (0, .ref 0)]) (st2 := [.int (xs 1), .ref 2]) (h3 := rn_H) 7 (M := tbM0) rfl rfl ?_
        refine ek_call (f1 := 2047) (w1 := 83979) (M := tbM0) (k := 193) (M2 := tbM193) (as := [.ref 2, .int (xs 1)]) (rest := []) rfl rfl rfl rfl rfl rfl (Nat.le_of_ble_eq_true rfl) (Nat.le_of_ble_eq_true rfl) (Nat.le_of_ble_eq_true rfl) ?_
        refine ek_k (pc2 := 1) (lv2 := [(0, .ref 2), (1, .int (xs 1))]) (st2 := [.int (xs 1)]) (h3 := rn_H) 1 (M := tbM193) rfl rfl ?_
        refine ek_pu (lv2 := [(0, .ref 2), (1, .int (xs 1))]) (st2 := []) (M := tbM193) rfl rfl rfl (if_neg hc0) ?_
        refine ek_k (pc2 := 12) (lv2 := [(0, .ref 2), (1, .int (xs 1))]) (st2 := [.int 0, .int (xs 1)]) (h3 := rn_H) 4 (M := tbM193) rfl rfl ?_
        refine ek_pu (lv2 := [(0, .ref 2), (1, .int (xs 1))]) (st2 := []) (M := tbM193) rfl rfl rfl (if_neg hc0) ?_
        refine ek_k (pc2 := 29) (lv2 := [(0, .ref 2), (1, .int (xs 1))]) (st2 := [.int (-4)]) (h3 := rn_H) 2 (M := tbM193) rfl rfl ?_
        refine ek_ret (r := some (.int (-4))) (M := tbM193) rfl rfl rfl ?_
        refine ek_k (pc2 := 929) (lv2 := [(3, .int 0), (2, .ref 40), (1, .ref 2), (0, .ref 0)]) (st2 := [.int (xs 1), .ref 40, .int (-4)]) (h3 := rn_H) 6 (M := tbM0) rfl rfl ?_
        refine ek_call (f1 := 2047) (w1 := 83979) (M := tbM0) (k := 299) (M2 := tbM299) (as := [.ref 40, .int (xs 1)]) (rest := [.int (-4)]) rfl rfl rfl rfl rfl rfl (Nat.le_of_ble_eq_true rfl) (Nat.le_of_ble_eq_true rfl) (Nat.le_of_ble_eq_true rfl) ?_
        refine ek_k (pc2 := 23) (lv2 := [(0, .ref 40), (1, .int (xs 1))]) (st2 := [.int (-1), .long 0, .long ((xs 1)).toInt64]) (h3 := rn_H) 12 (M := tbM299) rfl rfl ?_
        refine ek_k (pc2 := 24) (lv2 := [(0, .ref 40), (1, .int (xs 1))]) (st2 := [.long (-1), .long 0, .long ((xs 1)).toInt64]) (h3 := rn_H) 1 (M := tbM299) rfl rfl ?_
        refine ek_call (f1 := 2046) (w1 := 83954) (M := tbM299) (k := 198) (M2 := tbM198) (as := [.long ((xs 1)).toInt64, .long 0, .long (-1)]) (rest := []) rfl rfl rfl rfl rfl rfl (Nat.le_of_ble_eq_true rfl) (Nat.le_of_ble_eq_true rfl) (Nat.le_of_ble_eq_true rfl) ?_
        refine ek_k (pc2 := 3) (lv2 := [(0, .long ((xs 1)).toInt64), (2, .long 0), (4, .long (-1))]) (st2 := [.int (lg_cmp ((xs 1)).toInt64 (0 : Int64))]) (h3 := rn_H) 3 (M := tbM198) rfl rfl ?_
        refine ek_pu (lv2 := [(0, .long ((xs 1)).toInt64), (2, .long 0), (4, .long (-1))]) (st2 := []) (M := tbM198) rfl rfl rfl (if_neg hc1) ?_
        refine ek_k (pc2 := 10) (lv2 := [(0, .long ((xs 1)).toInt64), (2, .long 0), (4, .long (-1))]) (st2 := [.int (lg_cmp ((xs 1)).toInt64 (-1 : Int64))]) (h3 := rn_H) 3 (M := tbM198) rfl rfl ?_
        refine ek_pu (lv2 := [(0, .long ((xs 1)).toInt64), (2, .long 0), (4, .long (-1))]) (st2 := []) (M := tbM198) rfl rfl rfl (if_pos hc2) ?_
        refine ek_k (pc2 := 18) (lv2 := [(0, .long ((xs 1)).toInt64), (2, .long 0), (4, .long (-1))]) (st2 := [.int 0]) (h3 := rn_H) 1 (M := tbM198) rfl rfl ?_
        refine ek_ret (r := some (.int 0)) (M := tbM198) rfl rfl rfl ?_
        refine ek_k (pc2 := 41) (lv2 := [(0, .ref 40), (1, .int (xs 1))]) (st2 := [.int (-4)]) (h3 := rn_H) 2 (M := tbM299) rfl rfl ?_
        refine ek_ret (r := some (.int (-4))) (M := tbM299) rfl rfl rfl ?_
        refine ek_k (pc2 := 990) (lv2 := [(3, .int 6), (2, .ref 40), (1, .ref 2), (0, .ref 0)]) (st2 := [.int 1]) (h3 := rn_H) 10 (M := tbM0) rfl rfl ?_
        refine ek_end (r := some (.int 1)) (M := tbM0) rfl rfl rfl ?_
        exact rn_fin (S := rn_S) rfl rn_S1 rn_S2
      · exfalso; (try simp only [lg_lt, lg_gt, lg_le, lg_ge, lg_z] at hc0 hc1 hc2); simp only [← Int32.toInt_inj, ← Int64.toInt_inj, Int32.lt_iff_toInt_lt, Int32.le_iff_toInt_le, Int64.lt_iff_toInt_lt, Int64.le_iff_toInt_le, Int32.toInt_toInt64, rn_im4, rn_lm4, rn_im3, rn_lm3, rn_im2, rn_lm2, rn_im1, rn_lm1, rn_i0, rn_l0, rn_i1, rn_l1, rn_i2, rn_l2, rn_i3, rn_l3, rn_i4, rn_l4, rn_i5, rn_l5, rn_i6, rn_l6, rn_i7, rn_l7, rn_i8, rn_l8] at hc0 hc1 hc2; omega
set_option maxRecDepth 100000 in
set_option maxHeartbeats 40000000 in
theorem rn_op23 (xs : Nat → Int32) (hx : (xs 0) &&& (31 : Int32) = 23) : am_ek tbT (tb_ro 6 xs) rn_P 2048 84000 0 33 [(3, .int 0), (2, .ref 40), (1, .ref 2), (0, .ref 0)] [.int ((xs 0) &&& (31 : Int32))] rn_H [] := by
  rw [hx]
  by_cases hc0 : (xs 1) < (0 : Int32)
  · by_cases hc1 : (lg_cmp ((xs 1)).toInt64 (0 : Int64)) < (0 : Int32)
    · refine ek_k (pc2 := 943) (lv2 := [(3, .int 0), (2, .ref 40), (1, .ref 2), (0, .ref 0)]) (st2 := [.int (xs 1), .ref 2]) (h3 := rn_H) 7 (M := tbM0) rfl rfl ?_
      refine ek_call (f1 := 2047) (w1 := 83979) (M := tbM0) (k := 194) (M2 := tbM194) (as := [.ref 2, .int (xs 1)]) (rest := []) rfl rfl rfl rfl rfl rfl (Nat.le_of_ble_eq_true rfl) (Nat.le_of_ble_eq_true rfl) (Nat.le_of_ble_eq_true rfl) ?_
      refine ek_k (pc2 := 1) (lv2 := [(0, .ref 2), (1, .int (xs 1))]) (st2 := [.int (xs 1)]) (h3 := rn_H) 1 (M := tbM194) rfl rfl ?_
      refine ek_pu (lv2 := [(0, .ref 2), (1, .int (xs 1))]) (st2 := []) (M := tbM194) rfl rfl rfl (if_pos hc0) ?_
      refine ek_k (pc2 := 29) (lv2 := [(0, .ref 2), (1, .int (xs 1))]) (st2 := [.int (-4)]) (h3 := rn_H) 2 (M := tbM194) rfl rfl ?_
      refine ek_ret (r := some (.int (-4))) (M := tbM194) rfl rfl rfl ?_
      refine ek_k (pc2 := 952) (lv2 := [(3, .int 0), (2, .ref 40), (1, .ref 2), (0, .ref 0)]) (st2 := [.int (xs 1), .ref 40, .int (-4)]) (h3 := rn_H) 6 (M := tbM0) rfl rfl ?_
      refine ek_call (f1 := 2047) (w1 := 83979) (M := tbM0) (k := 300) (M2 := tbM300) (as := [.ref 40, .int (xs 1)]) (rest := [.int (-4)]) rfl rfl rfl rfl rfl rfl (Nat.le_of_ble_eq_true rfl) (Nat.le_of_ble_eq_true rfl) (Nat.le_of_ble_eq_true rfl) ?_
      refine ek_k (pc2 := 10) (lv2 := [(0, .ref 40), (1, .int (xs 1))]) (st2 := [.long (-1), .long 0, .long ((xs 1)).toInt64]) (h3 := rn_H) 8 (M := tbM300) rfl rfl ?_
      refine ek_call (f1 := 2046) (w1 := 83954) (M := tbM300) (k := 198) (M2 := tbM198) (as := [.long ((xs 1)).toInt64, .long 0, .long (-1)]) (rest := []) rfl rfl rfl rfl rfl rfl (Nat.le_of_ble_eq_true rfl) (Nat.le_of_ble_eq_true rfl) (Nat.le_of_ble_eq_true rfl) ?_
      refine ek_k (pc2 := 3) (lv2 := [(0, .long ((xs 1)).toInt64), (2, .long 0), (4, .long (-1))]) (st2 := [.int (lg_cmp ((xs 1)).toInt64 (0 : Int64))]) (h3 := rn_H) 3 (M := tbM198) rfl rfl ?_
      refine ek_pu (lv2 := [(0, .long ((xs 1)).toInt64), (2, .long 0), (4, .long (-1))]) (st2 := []) (M := tbM198) rfl rfl rfl (if_pos hc1) ?_
      refine ek_k (pc2 := 18) (lv2 := [(0, .long ((xs 1)).toInt64), (2, .long 0), (4, .long (-1))]) (st2 := [.int 0]) (h3 := rn_H) 1 (M := tbM198) rfl rfl ?_
      refine ek_ret (r := some (.int 0)) (M := tbM198) rfl rfl rfl ?_
      refine ek_k (pc2 := 27) (lv2 := [(0, .ref 40), (1, .int (xs 1))]) (st2 := [.int (-4)]) (h3 := rn_H) 2 (M := tbM300) rfl rfl ?_
      refine ek_ret (r := some (.int (-4))) (M := tbM300) rfl rfl rfl ?_
      refine ek_k (pc2 := 990) (lv2 := [(3, .int 6), (2, .ref 40), (1, .ref 2), (0, .ref 0)]) (st2 := [.int 1]) (h3 := rn_H) 10 (M := tbM0) rfl rfl ?_
      refine ek_end (r := some (.int 1)) (M := tbM0) rfl rfl rfl ?_
      exact rn_fin (S := rn_S) rfl rn_S1 rn_S2
    · exfalso; (try simp only [lg_lt, lg_gt, lg_le, lg_ge, lg_z] at hc0 hc1); simp only [← Int32.toInt_inj, ← Int64.toInt_inj, Int32.lt_iff_toInt_lt, Int32.le_iff_toInt_le, Int64.lt_iff_toInt_lt, Int64.le_iff_toInt_le, Int32.toInt_toInt64, rn_im4, rn_lm4, rn_im3, rn_lm3, rn_im2, rn_lm2, rn_im1, rn_lm1, rn_i0, rn_l0, rn_i1, rn_l1, rn_i2, rn_l2, rn_i3, rn_l3, rn_i4, rn_l4, rn_i5, rn_l5, rn_i6, rn_l6, rn_i7, rn_l7, rn_i8, rn_l8] at hc0 hc1; omega
  · by_cases hc1 : (lg_cmp ((xs 1)).toInt64 (0 : Int64)) < (0 : Int32)
    · exfalso; (try simp only [lg_lt, lg_gt, lg_le, lg_ge, lg_z] at hc0 hc1); simp only [← Int32.toInt_inj, ← Int64.toInt_inj, Int32.lt_iff_toInt_lt, Int32.le_iff_toInt_le, Int64.lt_iff_toInt_lt, Int64.le_iff_toInt_le, Int32.toInt_toInt64, rn_im4, rn_lm4, rn_im3, rn_lm3, rn_im2, rn_lm2, rn_im1, rn_lm1, rn_i0, rn_l0, rn_i1, rn_l1, rn_i2, rn_l2, rn_i3, rn_l3, rn_i4, rn_l4, rn_i5, rn_l5, rn_i6, rn_l6, rn_i7, rn_l7, rn_i8, rn_l8] at hc0 hc1; omega
    · by_cases hc2 : (0 : Int32) < (lg_cmp ((xs 1)).toInt64 (-1 : Int64))
      · refine ek_k (pc2 := 943) (lv2 := [(3, .int 0), (2, .ref 40), (1, .ref 2), (0, .ref 0)]) (st2 := [.int (xs 1), .ref 2]) (h3 := rn_H) 7 (M := tbM0) rfl rfl ?_
        refine ek_call (f1 := 2047) (w1 := 83979) (M := tbM0) (k := 194) (M2 := tbM194) (as := [.ref 2, .int (xs 1)]) (rest := []) rfl rfl rfl rfl rfl rfl (Nat.le_of_ble_eq_true rfl) (Nat.le_of_ble_eq_true rfl) (Nat.le_of_ble_eq_true rfl) ?_
        refine ek_k (pc2 := 1) (lv2 := [(0, .ref 2), (1, .int (xs 1))]) (st2 := [.int (xs 1)]) (h3 := rn_H) 1 (M := tbM194) rfl rfl ?_
        refine ek_pu (lv2 := [(0, .ref 2), (1, .int (xs 1))]) (st2 := []) (M := tbM194) rfl rfl rfl (if_neg hc0) ?_
        refine ek_k (pc2 := 12) (lv2 := [(0, .ref 2), (1, .int (xs 1))]) (st2 := [.int 0, .int (xs 1)]) (h3 := rn_H) 4 (M := tbM194) rfl rfl ?_
        refine ek_pu (lv2 := [(0, .ref 2), (1, .int (xs 1))]) (st2 := []) (M := tbM194) rfl rfl rfl (if_neg hc0) ?_
        refine ek_k (pc2 := 29) (lv2 := [(0, .ref 2), (1, .int (xs 1))]) (st2 := [.int (-4)]) (h3 := rn_H) 2 (M := tbM194) rfl rfl ?_
        refine ek_ret (r := some (.int (-4))) (M := tbM194) rfl rfl rfl ?_
        refine ek_k (pc2 := 952) (lv2 := [(3, .int 0), (2, .ref 40), (1, .ref 2), (0, .ref 0)]) (st2 := [.int (xs 1), .ref 40, .int (-4)]) (h3 := rn_H) 6 (M := tbM0) rfl rfl ?_
        refine ek_call (f1 := 2047) (w1 := 83979) (M := tbM0) (k := 300) (M2 := tbM300) (as := [.ref 40, .int (xs 1)]) (rest := [.int (-4)]) rfl rfl rfl rfl rfl rfl (Nat.le_of_ble_eq_true rfl) (Nat.le_of_ble_eq_true rfl) (Nat.le_of_ble_eq_true rfl) ?_
        refine ek_k (pc2 := 10) (lv2 := [(0, .ref 40), (1, .int (xs 1))]) (st2 := [.long (-1), .long 0, .long ((xs 1)).toInt64]) (h3 := rn_H) 8 (M := tbM300) rfl rfl ?_
        refine ek_call (f1 := 2046) (w1 := 83954) (M := tbM300) (k := 198) (M2 := tbM198) (as := [.long ((xs 1)).toInt64, .long 0, .long (-1)]) (rest := []) rfl rfl rfl rfl rfl rfl (Nat.le_of_ble_eq_true rfl) (Nat.le_of_ble_eq_true rfl) (Nat.le_of_ble_eq_true rfl) ?_
        refine ek_k (pc2 := 3) (lv2 := [(0, .long ((xs 1)).toInt64), (2, .long 0), (4, .long (-1))]) (st2 := [.int (lg_cmp ((xs 1)).toInt64 (0 : Int64))]) (h3 := rn_H) 3 (M := tbM198) rfl rfl ?_
        refine ek_pu (lv2 := [(0, .long ((xs 1)).toInt64), (2, .long 0), (4, .long (-1))]) (st2 := []) (M := tbM198) rfl rfl rfl (if_neg hc1) ?_
        refine ek_k (pc2 := 10) (lv2 := [(0, .long ((xs 1)).toInt64), (2, .long 0), (4, .long (-1))]) (st2 := [.int (lg_cmp ((xs 1)).toInt64 (-1 : Int64))]) (h3 := rn_H) 3 (M := tbM198) rfl rfl ?_
        refine ek_pu (lv2 := [(0, .long ((xs 1)).toInt64), (2, .long 0), (4, .long (-1))]) (st2 := []) (M := tbM198) rfl rfl rfl (if_pos hc2) ?_
        refine ek_k (pc2 := 18) (lv2 := [(0, .long ((xs 1)).toInt64), (2, .long 0), (4, .long (-1))]) (st2 := [.int 0]) (h3 := rn_H) 1 (M := tbM198) rfl rfl ?_
        refine ek_ret (r := some (.int 0)) (M := tbM198) rfl rfl rfl ?_
        refine ek_k (pc2 := 27) (lv2 := [(0, .ref 40), (1, .int (xs 1))]) (st2 := [.int (-4)]) (h3 := rn_H) 2 (M := tbM300) rfl rfl ?_
        refine ek_ret (r := some (.int (-4))) (M := tbM300) rfl rfl rfl ?_
        refine ek_k (pc2 := 990) (lv2 := [(3, .int 6), (2, .ref 40), (1, .ref 2), (0, .ref 0)]) (st2 := [.int 1]) (h3 := rn_H) 10 (M := tbM0) rfl rfl ?_
        refine ek_end (r := some (.int 1)) (M := tbM0) rfl rfl rfl ?_
        exact rn_fin (S := rn_S) rfl rn_S1 rn_S2
      · exfalso; (try simp only [lg_lt, lg_gt, lg_le, lg_ge, lg_z] at hc0 hc1 hc2); simp only [← Int32.toInt_inj, ← Int64.toInt_inj, Int32.lt_iff_toInt_lt, Int32.le_iff_toInt_le, Int64.lt_iff_toInt_lt, Int64.le_iff_toInt_le, Int32.toInt_toInt64, rn_im4, rn_lm4, rn_im3, rn_lm3, rn_im2, rn_lm2, rn_im1, rn_lm1, rn_i0, rn_l0, rn_i1, rn_l1, rn_i2, rn_l2, rn_i3, rn_l3, rn_i4, rn_l4, rn_i5, rn_l5, rn_i6, rn_l6, rn_i7, rn_l7, rn_i8, rn_l8] at hc0 hc1 hc2; omega
