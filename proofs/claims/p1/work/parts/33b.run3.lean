set_option maxRecDepth 100000 in
set_option maxHeartbeats 40000000 in
theorem rn_op5 (xs : Nat → Int32) (hx : (xs 0) &&& (31 : Int32) = 5) : am_ek tbT (tb_ro 6 xs) rn_P 2048 84000 0 33 [(3, .int 0), (2, .ref 40), (1, .ref 2), (0, .ref 0)] [.int ((xs 0) &&& (31 : Int32))] rn_H [] := by
  rw [hx]
  by_cases hc0 : (xs 1) < (0 : Int32)
  · by_cases hc1 : (lg_cmp ((xs 1)).toInt64 (0 : Int64)) < (0 : Int32)
    · refine ek_k (pc2 := 294) (lv2 := [(3, .int 0), (2, .ref 40), (1, .ref 2), (0, .ref 0)]) (st2 := [.int (xs 2), .int (xs 1), .ref 2]) (h3 := rn_H) 12 (M := tbM0) rfl rfl ?_
      refine ek_call (f1 := 2047) (w1 := 83977) (M := tbM0) (k := 131) (M2 := tbM131) (as := [.ref 2, .int (xs 1), .int (xs 2)]) (rest := []) rfl rfl rfl rfl rfl rfl (Nat.le_of_ble_eq_true rfl) (Nat.le_of_ble_eq_true rfl) (Nat.le_of_ble_eq_true rfl) ?_
      refine ek_k (pc2 := 5) (lv2 := [(0, .ref 2), (1, .int (xs 1)), (2, .int (xs 2))]) (st2 := [.int (xs 1), .ref 8]) (h3 := rn_H) 3 (M := tbM131) rfl rfl ?_
      refine ek_call (f1 := 2046) (w1 := 83956) (M := tbM131) (k := 34) (M2 := tbM34) (as := [.ref 8, .int (xs 1)]) (rest := []) rfl rfl rfl rfl rfl rfl (Nat.le_of_ble_eq_true rfl) (Nat.le_of_ble_eq_true rfl) (Nat.le_of_ble_eq_true rfl) ?_
      refine ek_k (pc2 := 1) (lv2 := [(0, .ref 8), (1, .int (xs 1))]) (st2 := [.int (xs 1)]) (h3 := rn_H) 1 (M := tbM34) rfl rfl ?_
      refine ek_pu (lv2 := [(0, .ref 8), (1, .int (xs 1))]) (st2 := []) (M := tbM34) rfl rfl rfl (if_pos hc0) ?_
      refine ek_k (pc2 := 17) (lv2 := [(0, .ref 8), (1, .int (xs 1))]) (st2 := [.int 0]) (h3 := rn_H) 1 (M := tbM34) rfl rfl ?_
      refine ek_ret (r := some (.int 0)) (M := tbM34) rfl rfl rfl ?_
      refine ek_k (pc2 := 22) (lv2 := [(0, .ref 2), (1, .int (xs 1)), (2, .int (xs 2))]) (st2 := [.int (-1)]) (h3 := rn_H) 2 (M := tbM131) rfl rfl ?_
      refine ek_ret (r := some (.int (-1))) (M := tbM131) rfl rfl rfl ?_
      refine ek_k (pc2 := 308) (lv2 := [(3, .int 0), (2, .ref 40), (1, .ref 2), (0, .ref 0)]) (st2 := [.int (xs 2), .int (xs 1), .ref 40, .int (-1)]) (h3 := rn_H) 11 (M := tbM0) rfl rfl ?_
      refine ek_call (f1 := 2047) (w1 := 83978) (M := tbM0) (k := 266) (M2 := tbM266) (as := [.ref 40, .int (xs 1), .int (xs 2)]) (rest := [.int (-1)]) rfl rfl rfl rfl rfl rfl (Nat.le_of_ble_eq_true rfl) (Nat.le_of_ble_eq_true rfl) (Nat.le_of_ble_eq_true rfl) ?_
      refine ek_k (pc2 := 2) (lv2 := [(0, .ref 40), (1, .int (xs 1)), (2, .int (xs 2))]) (st2 := [.int (xs 1), .ref 40]) (h3 := rn_H) 2 (M := tbM266) rfl rfl ?_
      refine ek_call (f1 := 2046) (w1 := 83957) (M := tbM266) (k := 267) (M2 := tbM267) (as := [.ref 40, .int (xs 1)]) (rest := []) rfl rfl rfl rfl rfl rfl (Nat.le_of_ble_eq_true rfl) (Nat.le_of_ble_eq_true rfl) (Nat.le_of_ble_eq_true rfl) ?_
      refine ek_k (pc2 := 10) (lv2 := [(0, .ref 40), (1, .int (xs 1))]) (st2 := [.long (-1), .long 0, .long ((xs 1)).toInt64]) (h3 := rn_H) 8 (M := tbM267) rfl rfl ?_
      refine ek_call (f1 := 2045) (w1 := 83932) (M := tbM267) (k := 198) (M2 := tbM198) (as := [.long ((xs 1)).toInt64, .long 0, .long (-1)]) (rest := []) rfl rfl rfl rfl rfl rfl (Nat.le_of_ble_eq_true rfl) (Nat.le_of_ble_eq_true rfl) (Nat.le_of_ble_eq_true rfl) ?_
      refine ek_k (pc2 := 3) (lv2 := [(0, .long ((xs 1)).toInt64), (2, .long 0), (4, .long (-1))]) (st2 := [.int (lg_cmp ((xs 1)).toInt64 (0 : Int64))]) (h3 := rn_H) 3 (M := tbM198) rfl rfl ?_
      refine ek_pu (lv2 := [(0, .long ((xs 1)).toInt64), (2, .long 0), (4, .long (-1))]) (st2 := []) (M := tbM198) rfl rfl rfl (if_pos hc1) ?_
      refine ek_k (pc2 := 18) (lv2 := [(0, .long ((xs 1)).toInt64), (2, .long 0), (4, .long (-1))]) (st2 := [.int 0]) (h3 := rn_H) 1 (M := tbM198) rfl rfl ?_
      refine ek_ret (r := some (.int 0)) (M := tbM198) rfl rfl rfl ?_
      refine ek_ret (r := some (.int 0)) (M := tbM267) rfl rfl rfl ?_
      refine ek_k (pc2 := 21) (lv2 := [(0, .ref 40), (1, .int (xs 1)), (2, .int (xs 2))]) (st2 := [.int (-1)]) (h3 := rn_H) 2 (M := tbM266) rfl rfl ?_
      refine ek_ret (r := some (.int (-1))) (M := tbM266) rfl rfl rfl ?_
      refine ek_k (pc2 := 990) (lv2 := [(3, .int 6), (2, .ref 40), (1, .ref 2), (0, .ref 0)]) (st2 := [.int 1]) (h3 := rn_H) 10 (M := tbM0) rfl rfl ?_
      refine ek_end (r := some (.int 1)) (M := tbM0) rfl rfl rfl ?_
      exact rn_fin (S := rn_S) rfl rn_S1 rn_S2
    · exfalso; (try simp only [lg_lt, lg_gt, lg_le, lg_ge, lg_z] at hc0 hc1); simp only [← Int32.toInt_inj, ← Int64.toInt_inj, Int32.lt_iff_toInt_lt, Int32.le_iff_toInt_le, Int64.lt_iff_toInt_lt, Int64.le_iff_toInt_le, Int32.toInt_toInt64, rn_im4, rn_lm4, rn_im3, rn_lm3, rn_im2, rn_lm2, rn_im1, rn_lm1, rn_i0, rn_l0, rn_i1, rn_l1, rn_i2, rn_l2, rn_i3, rn_l3, rn_i4, rn_l4, rn_i5, rn_l5, rn_i6, rn_l6, rn_i7, rn_l7, rn_i8, rn_l8] at hc0 hc1; omega
  · by_cases hc1 : (0 : Int32) ≤ (xs 1)
    · by_cases hc2 : (lg_cmp ((xs 1)).toInt64 (0 : Int64)) < (0 : Int32)
      · exfalso; (try simp only [lg_lt, lg_gt, lg_le, lg_ge, lg_z] at hc0 hc1 hc2); simp only [← Int32.toInt_inj, ← Int64.toInt_inj, Int32.lt_iff_toInt_lt, Int32.le_iff_toInt_le, Int64.lt_iff_toInt_lt, Int64.le_iff_toInt_le, Int32.toInt_toInt64, rn_im4, rn_lm4, rn_im3, rn_lm3, rn_im2, rn_lm2, rn_im1, rn_lm1, rn_i0, rn_l0, rn_i1, rn_l1, rn_i2, rn_l2, rn_i3, rn_l3, rn_i4, rn_l4, rn_i5, rn_l5, rn_i6, rn_l6, rn_i7, rn_l7, rn_i8, rn_l8] at hc0 hc1 hc2; omega
      · by_cases hc3 : (0 : Int32) < (lg_cmp ((xs 1)).toInt64 (-1 : Int64))
        · refine ek_k (pc2 := 294) (lv2 := [(3, .int 0), (2, .ref 40), (1, .ref 2), (0, .ref 0)]) (st2 := [.int (xs 2), .int (xs 1), .ref 2]) (h3 := rn_H) 12 (M := tbM0) rfl rfl ?_
          refine ek_call (f1 := 2047) (w1 := 83977) (M := tbM0) (k := 131) (M2 := tbM131) (as := [.ref 2, .int (xs 1), .int (xs 2)]) (rest := []) rfl rfl rfl rfl rfl rfl (Nat.le_of_ble_eq_true rfl) (Nat.le_of_ble_eq_true rfl) (Nat.le_of_ble_eq_true rfl) ?_
          refine ek_k (pc2 := 5) (lv2 := [(0, .ref 2), (1, .int (xs 1)), (2, .int (xs 2))]) (st2 := [.int (xs 1), .ref 8]) (h3 := rn_H) 3 (M := tbM131) rfl rfl ?_
          refine ek_call (f1 := 2046) (w1 := 83956) (M := tbM131) (k := 34) (M2 := tbM34) (as := [.ref 8, .int (xs 1)]) (rest := []) rfl rfl rfl rfl rfl rfl (Nat.le_of_ble_eq_true rfl) (Nat.le_of_ble_eq_true rfl) (Nat.le_of_ble_eq_true rfl) ?_
          refine ek_k (pc2 := 1) (lv2 := [(0, .ref 8), (1, .int (xs 1))]) (st2 := [.int (xs 1)]) (h3 := rn_H) 1 (M := tbM34) rfl rfl ?_
          refine ek_pu (lv2 := [(0, .ref 8), (1, .int (xs 1))]) (st2 := []) (M := tbM34) rfl rfl rfl (if_neg hc0) ?_
          refine ek_k (pc2 := 9) (lv2 := [(0, .ref 8), (1, .int (xs 1))]) (st2 := [.int 0, .int (xs 1)]) (h3 := rn_H) 3 (M := tbM34) rfl rfl ?_
          refine ek_pu (lv2 := [(0, .ref 8), (1, .int (xs 1))]) (st2 := []) (M := tbM34) rfl rfl rfl (if_pos hc1) ?_
          refine ek_k (pc2 := 17) (lv2 := [(0, .ref 8), (1, .int (xs 1))]) (st2 := [.int 0]) (h3 := rn_H) 1 (M := tbM34) rfl rfl ?_
          refine ek_ret (r := some (.int 0)) (M := tbM34) rfl rfl rfl ?_
          refine ek_k (pc2 := 22) (lv2 := [(0, .ref 2), (1, .int (xs 1)), (2, .int (xs 2))]) (st2 := [.int (-1)]) (h3 := rn_H) 2 (M := tbM131) rfl rfl ?_
          refine ek_ret (r := some (.int (-1))) (M := tbM131) rfl rfl rfl ?_
          refine ek_k (pc2 := 308) (lv2 := [(3, .int 0), (2, .ref 40), (1, .ref 2), (0, .ref 0)]) (st2 := [.int (xs 2), .int (xs 1), .ref 40, .int (-1)]) (h3 := rn_H) 11 (M := tbM0) rfl rfl ?_
          refine ek_call (f1 := 2047) (w1 := 83978) (M := tbM0) (k := 266) (M2 := tbM266) (as := [.ref 40, .int (xs 1), .int (xs 2)]) (rest := [.int (-1)]) rfl rfl rfl rfl rfl rfl (Nat.le_of_ble_eq_true rfl) (Nat.le_of_ble_eq_true rfl) (Nat.le_of_ble_eq_true rfl) ?_
          refine ek_k (pc2 := 2) (lv2 := [(0, .ref 40), (1, .int (xs 1)), (2, .int (xs 2))]) (st2 := [.int (xs 1), .ref 40]) (h3 := rn_H) 2 (M := tbM266) rfl rfl ?_
          refine ek_call (f1 := 2046) (w1 := 83957) (M := tbM266) (k := 267) (M2 := tbM267) (as := [.ref 40, .int (xs 1)]) (rest := []) rfl rfl rfl rfl rfl rfl (Nat.le_of_ble_eq_true rfl) (Nat.le_of_ble_eq_true rfl) (Nat.le_of_ble_eq_true rfl) ?_
          refine ek_k (pc2 := 10) (lv2 := [(0, .ref 40), (1, .int (xs 1))]) (st2 := [.long (-1), .long 0, .long ((xs 1)).toInt64]) (h3 := rn_H) 8 (M := tbM267) rfl rfl ?_
          refine ek_call (f1 := 2045) (w1 := 83932) (M := tbM267) (k := 198) (M2 := tbM198) (as := [.long ((xs 1)).toInt64, .long 0, .long (-1)]) (rest := []) rfl rfl rfl rfl rfl rfl (Nat.le_of_ble_eq_true rfl) (Nat.le_of_ble_eq_true rfl) (Nat.le_of_ble_eq_true rfl) ?_
          refine ek_k (pc2 := 3) (lv2 := [(0, .long ((xs 1)).toInt64), (2, .long 0), (4, .long (-1))]) (st2 := [.int (lg_cmp ((xs 1)).toInt64 (0 : Int64))]) (h3 := rn_H) 3 (M := tbM198) rfl rfl ?_
          refine ek_pu (lv2 := [(0, .long ((xs 1)).toInt64), (2, .long 0), (4, .long (-1))]) (st2 := []) (M := tbM198) rfl rfl rfl (if_neg hc2) ?_
          refine ek_k (pc2 := 10) (lv2 := [(0, .long ((xs 1)).toInt64), (2, .long 0), (4, .long (-1))]) (st2 := [.int (lg_cmp ((xs 1)).toInt64 (-1 : Int64))]) (h3 := rn_H) 3 (M := tbM198) rfl rfl ?_
          refine ek_pu (lv2 := [(0, .long ((xs 1)).toInt64), (2, .long 0), (4, .long (-1))]) (st2 := []) (M := tbM198) rfl rfl rfl (if_pos hc3) ?_
          refine ek_k (pc2 := 18) (lv2 := [(0, .long ((xs 1)).toInt64), (2, .long 0), (4, .long (-1))]) (st2 := [.int 0]) (h3 := rn_H) 1 (M := tbM198) rfl rfl ?_
          refine ek_ret (r := some (.int 0)) (M := tbM198) rfl rfl rfl ?_
          refine ek_ret (r := some (.int 0)) (M := tbM267) rfl rfl rfl ?_
          refine ek_k (pc2 := 21) (lv2 := [(0, .ref 40), (1, .int (xs 1)), (2, .int (xs 2))]) (st2 := [.int (-1)]) (h3 := rn_H) 2 (M := tbM266) rfl rfl ?_
          refine ek_ret (r := some (.int (-1))) (M := tbM266) rfl rfl rfl ?_
          refine ek_k (pc2 := 990) (lv2 := [(3, .int 6), (2, .ref 40), (1, .ref 2), (0, .ref 0)]) (st2 := [.int 1]) (h3 := rn_H) 10 (M := tbM0) rfl rfl ?_
          refine ek_end (r := some (.int 1)) (M := tbM0) rfl rfl rfl ?_
          exact rn_fin (S := rn_S) rfl rn_S1 rn_S2
        · exfalso; (try simp only [lg_lt, lg_gt, lg_le, lg_ge, lg_z] at hc0 hc1 hc2 hc3); simp only [← Int32.toInt_inj, ← Int64.toInt_inj, Int32.lt_iff_toInt_lt, Int32.le_iff_toInt_le, Int64.lt_iff_toInt_lt, Int64.le_iff_toInt_le, Int32.toInt_toInt64, rn_im4, rn_lm4, rn_im3, rn_lm3, rn_im2, rn_lm2, rn_im1, rn_lm1, rn_i0, rn_l0, rn_i1, rn_l1, rn_i2, rn_l2, rn_i3, rn_l3, rn_i4, rn_l4, rn_i5, rn_l5, rn_i6, rn_l6, rn_i7, rn_l7, rn_i8, rn_l8] at hc0 hc1 hc2 hc3; omega
    · exfalso; (try simp only [lg_lt, lg_gt, lg_le, lg_ge, lg_z] at hc0 hc1); simp only [← Int32.toInt_inj, ← Int64.toInt_inj, Int32.lt_iff_toInt_lt, Int32.le_iff_toInt_le, Int64.lt_iff_toInt_lt, Int64.le_iff_toInt_le, Int32.toInt_toInt64, rn_im4, rn_lm4, rn_im3, rn_lm3, rn_im2, rn_lm2, rn_im1, rn_lm1, rn_i0, rn_l0, rn_i1, rn_l1, rn_i2, rn_l2, rn_i3, rn_l3, rn_i4, rn_l4, rn_i5, rn_l5, rn_i6, rn_l6, rn_i7, rn_l7, rn_i8, rn_l8] at hc0 hc1; omega
set_option maxRecDepth 100000 in
set_option maxHeartbeats 40000000 in
theorem rn_op6 (xs : Nat → Int32) (hx : (xs 0) &&& (31 : Int32) = 6) : am_ek tbT (tb_ro 6 xs) rn_P 2048 84000 0 33 [(3, .int 0), (2, .ref 40), (1, .ref 2), (0, .ref 0)] [.int ((xs 0) &&& (31 : Int32))] rn_H [] := by
  rw [hx]
  refine ek_k (pc2 := 328) (lv2 := [(3, .int 0), (2, .ref 40), (1, .ref 2), (0, .ref 0)]) (st2 := [.int 0, .ref 0, .long (((xs 1)).toInt64 <<< (((32 : Int32) : Int32).toInt64 &&& 63)), .ref 2]) (h3 := rn_H) 12 (M := tbM0) rfl rfl ?_
  refine ek_k (pc2 := 337) (lv2 := [(3, .int 0), (2, .ref 40), (1, .ref 2), (0, .ref 0)]) (st2 := [.long ((((xs 1)).toInt64 <<< (((32 : Int32) : Int32).toInt64 &&& 63)) ||| (((xs 2)).toInt64 &&& (4294967295 : Int64))), .ref 2]) (h3 := rn_H) 7 (M := tbM0) rfl rfl ?_
  refine ek_call (f1 := 2047) (w1 := 83977) (M := tbM0) (k := 133) (M2 := tbM133) (as := [.ref 2, .long ((((xs 1)).toInt64 <<< (((32 : Int32) : Int32).toInt64 &&& 63)) ||| (((xs 2)).toInt64 &&& (4294967295 : Int64)))]) (rest := []) rfl rfl rfl rfl rfl rfl (Nat.le_of_ble_eq_true rfl) (Nat.le_of_ble_eq_true rfl) (Nat.le_of_ble_eq_true rfl) ?_
  refine ek_k (pc2 := 5) (lv2 := [(0, .ref 2), (1, .long ((((xs 1)).toInt64 <<< (((32 : Int32) : Int32).toInt64 &&& 63)) ||| (((xs 2)).toInt64 &&& (4294967295 : Int64))))]) (st2 := [.long ((((xs 1)).toInt64 <<< (((32 : Int32) : Int32).toInt64 &&& 63)) ||| (((xs 2)).toInt64 &&& (4294967295 : Int64))), .ref 8]) (h3 := rn_H) 3 (M := tbM133) rfl rfl ?_
  refine ek_call (f1 := 2046) (w1 := 83954) (M := tbM133) (k := 28) (M2 := tbM28) (as := [.ref 8, .long ((((xs 1)).toInt64 <<< (((32 : Int32) : Int32).toInt64 &&& 63)) ||| (((xs 2)).toInt64 &&& (4294967295 : Int64)))]) (rest := []) rfl rfl rfl rfl rfl rfl (Nat.le_of_ble_eq_true rfl) (Nat.le_of_ble_eq_true rfl) (Nat.le_of_ble_eq_true rfl) ?_
  refine ek_k (pc2 := 30) (lv2 := [(3, .int 0), (0, .ref 8), (1, .long ((((xs 1)).toInt64 <<< (((32 : Int32) : Int32).toInt64 &&& 63)) ||| (((xs 2)).toInt64 &&& (4294967295 : Int64))))]) (st2 := [.int (-1)]) (h3 := rn_H) 7 (M := tbM28) rfl rfl ?_
  refine ek_ret (r := some (.int (-1))) (M := tbM28) rfl rfl rfl ?_
  refine ek_k (pc2 := 19) (lv2 := [(3, .int (-1)), (0, .ref 2), (1, .long ((((xs 1)).toInt64 <<< (((32 : Int32) : Int32).toInt64 &&& 63)) ||| (((xs 2)).toInt64 &&& (4294967295 : Int64))))]) (st2 := [.int (-4)]) (h3 := rn_H) 5 (M := tbM133) rfl rfl ?_
  refine ek_ret (r := some (.int (-4))) (M := tbM133) rfl rfl rfl ?_
  refine ek_k (pc2 := 353) (lv2 := [(3, .int 0), (2, .ref 40), (1, .ref 2), (0, .ref 0)]) (st2 := [.int 2, .int 0, .ref 0, .long (((xs 1)).toInt64 <<< (((32 : Int32) : Int32).toInt64 &&& 63)), .ref 40, .int (-4)]) (h3 := rn_H) 12 (M := tbM0) rfl rfl ?_
  refine ek_k (pc2 := 361) (lv2 := [(3, .int 0), (2, .ref 40), (1, .ref 2), (0, .ref 0)]) (st2 := [.long ((((xs 1)).toInt64 <<< (((32 : Int32) : Int32).toInt64 &&& 63)) ||| (((xs 2)).toInt64 &&& (4294967295 : Int64))), .ref 40, .int (-4)]) (h3 := rn_H) 6 (M := tbM0) rfl rfl ?_
  refine ek_call (f1 := 2047) (w1 := 83978) (M := tbM0) (k := 268) (M2 := tbM268) (as := [.ref 40, .long ((((xs 1)).toInt64 <<< (((32 : Int32) : Int32).toInt64 &&& 63)) ||| (((xs 2)).toInt64 &&& (4294967295 : Int64)))]) (rest := [.int (-4)]) rfl rfl rfl rfl rfl rfl (Nat.le_of_ble_eq_true rfl) (Nat.le_of_ble_eq_true rfl) (Nat.le_of_ble_eq_true rfl) ?_
  refine ek_k (pc2 := 2) (lv2 := [(0, .ref 40), (1, .long ((((xs 1)).toInt64 <<< (((32 : Int32) : Int32).toInt64 &&& 63)) ||| (((xs 2)).toInt64 &&& (4294967295 : Int64))))]) (st2 := [.long ((((xs 1)).toInt64 <<< (((32 : Int32) : Int32).toInt64 &&& 63)) ||| (((xs 2)).toInt64 &&& (4294967295 : Int64))), .ref 40]) (h3 := rn_H) 2 (M := tbM268) rfl rfl ?_
  refine ek_call (f1 := 2046) (w1 := 83954) (M := tbM268) (k := 211) (M2 := tbM211) (as := [.ref 40, .long ((((xs 1)).toInt64 <<< (((32 : Int32) : Int32).toInt64 &&& 63)) ||| (((xs 2)).toInt64 &&& (4294967295 : Int64)))]) (rest := []) rfl rfl rfl rfl rfl rfl (Nat.le_of_ble_eq_true rfl) (Nat.le_of_ble_eq_true rfl) (Nat.le_of_ble_eq_true rfl) ?_
  refine ek_k (pc2 := 41) (lv2 := [(4, .int 0), (3, .int (-4)), (0, .ref 40), (1, .long ((((xs 1)).toInt64 <<< (((32 : Int32) : Int32).toInt64 &&& 63)) ||| (((xs 2)).toInt64 &&& (4294967295 : Int64))))]) (st2 := [.int (-4)]) (h3 := rn_H) 9 (M := tbM211) rfl rfl ?_
  refine ek_ret (r := some (.int (-4))) (M := tbM211) rfl rfl rfl ?_
  refine ek_ret (r := some (.int (-4))) (M := tbM268) rfl rfl rfl ?_
  refine ek_k (pc2 := 990) (lv2 := [(3, .int 6), (2, .ref 40), (1, .ref 2), (0, .ref 0)]) (st2 := [.int 1]) (h3 := rn_H) 10 (M := tbM0) rfl rfl ?_
  refine ek_end (r := some (.int 1)) (M := tbM0) rfl rfl rfl ?_
  exact rn_fin (S := rn_S) rfl rn_S1 rn_S2
set_option maxRecDepth 100000 in
set_option maxHeartbeats 40000000 in
theorem rn_op7 (xs : Nat → Int32) (hx : (xs 0) &&& (31 : Int32) = 7) : am_ek tbT (tb_ro 6 xs) rn_P 2048 84000 0 33 [(3, .int 0), (2, .ref 40), (1, .ref 2), (0, .ref 0)] [.int ((xs 0) &&& (31 : Int32))] rn_H [] := by
  rw [hx]
  by_cases hc0 : (xs 1) < (0 : Int32)
  · by_cases hc1 : (lg_cmp ((xs 1)).toInt64 (0 : Int64)) < (0 : Int32)
    · refine ek_k (pc2 := 380) (lv2 := [(3, .int 0), (2, .ref 40), (1, .ref 2), (0, .ref 0)]) (st2 := [.int (xs 2), .int (xs 1), .ref 2]) (h3 := rn_H) 12 (M := tbM0) rfl rfl ?_
      refine ek_call (f1 := 2047) (w1 := 83977) (M := tbM0) (k := 134) (M2 := tbM134) (as := [.ref 2, .int (xs 1), .int (xs 2)]) (rest := []) rfl rfl rfl rfl rfl rfl (Nat.le_of_ble_eq_true rfl) (Nat.le_of_ble_eq_true rfl) (Nat.le_of_ble_eq_true rfl) ?_
      refine ek_k (pc2 := 5) (lv2 := [(0, .ref 2), (1, .int (xs 1)), (2, .int (xs 2))]) (st2 := [.int (xs 1), .ref 14]) (h3 := rn_H) 3 (M := tbM134) rfl rfl ?_
      refine ek_call (f1 := 2046) (w1 := 83956) (M := tbM134) (k := 83) (M2 := tbM83) (as := [.ref 14, .int (xs 1)]) (rest := []) rfl rfl rfl rfl rfl rfl (Nat.le_of_ble_eq_true rfl) (Nat.le_of_ble_eq_true rfl) (Nat.le_of_ble_eq_true rfl) ?_
      refine ek_k (pc2 := 1) (lv2 := [(0, .ref 14), (1, .int (xs 1))]) (st2 := [.int (xs 1)]) (h3 := rn_H) 1 (M := tbM83) rfl rfl ?_
      refine ek_pu (lv2 := [(0, .ref 14), (1, .int (xs 1))]) (st2 := []) (M := tbM83) rfl rfl rfl (if_pos hc0) ?_
      refine ek_k (pc2 := 22) (lv2 := [(0, .ref 14), (1, .int (xs 1))]) (st2 := [.null]) (h3 := rn_H) 1 (M := tbM83) rfl rfl ?_
      refine ek_ret (r := some (.null)) (M := tbM83) rfl rfl rfl ?_
      refine ek_k (pc2 := 24) (lv2 := [(3, .null), (0, .ref 2), (1, .int (xs 1)), (2, .int (xs 2))]) (st2 := [.int (-1)]) (h3 := rn_H) 4 (M := tbM134) rfl rfl ?_
      refine ek_ret (r := some (.int (-1))) (M := tbM134) rfl rfl rfl ?_
      refine ek_k (pc2 := 394) (lv2 := [(3, .int 0), (2, .ref 40), (1, .ref 2), (0, .ref 0)]) (st2 := [.int (xs 2), .int (xs 1), .ref 40, .int (-1)]) (h3 := rn_H) 11 (M := tbM0) rfl rfl ?_
      refine ek_call (f1 := 2047) (w1 := 83978) (M := tbM0) (k := 269) (M2 := tbM269) (as := [.ref 40, .int (xs 1), .int (xs 2)]) (rest := [.int (-1)]) rfl rfl rfl rfl rfl rfl (Nat.le_of_ble_eq_true rfl) (Nat.le_of_ble_eq_true rfl) (Nat.le_of_ble_eq_true rfl) ?_
      refine ek_k (pc2 := 2) (lv2 := [(0, .ref 40), (1, .int (xs 1)), (2, .int (xs 2))]) (st2 := [.int (xs 1), .ref 40]) (h3 := rn_H) 2 (M := tbM269) rfl rfl ?_
      refine ek_call (f1 := 2046) (w1 := 83957) (M := tbM269) (k := 264) (M2 := tbM264) (as := [.ref 40, .int (xs 1)]) (rest := []) rfl rfl rfl rfl rfl rfl (Nat.le_of_ble_eq_true rfl) (Nat.le_of_ble_eq_true rfl) (Nat.le_of_ble_eq_true rfl) ?_
      refine ek_k (pc2 := 10) (lv2 := [(0, .ref 40), (1, .int (xs 1))]) (st2 := [.long (-1), .long 0, .long ((xs 1)).toInt64]) (h3 := rn_H) 8 (M := tbM264) rfl rfl ?_
      refine ek_call (f1 := 2045) (w1 := 83932) (M := tbM264) (k := 198) (M2 := tbM198) (as := [.long ((xs 1)).toInt64, .long 0, .long (-1)]) (rest := []) rfl rfl rfl rfl rfl rfl (Nat.le_of_ble_eq_true rfl) (Nat.le_of_ble_eq_true rfl) (Nat.le_of_ble_eq_true rfl) ?_
      refine ek_k (pc2 := 3) (lv2 := [(0, .long ((xs 1)).toInt64), (2, .long 0), (4, .long (-1))]) (st2 := [.int (lg_cmp ((xs 1)).toInt64 (0 : Int64))]) (h3 := rn_H) 3 (M := tbM198) rfl rfl ?_
      refine ek_pu (lv2 := [(0, .long ((xs 1)).toInt64), (2, .long 0), (4, .long (-1))]) (st2 := []) (M := tbM198) rfl rfl rfl (if_pos hc1) ?_
      refine ek_k (pc2 := 18) (lv2 := [(0, .long ((xs 1)).toInt64), (2, .long 0), (4, .long (-1))]) (st2 := [.int 0]) (h3 := rn_H) 1 (M := tbM198) rfl rfl ?_
      refine ek_ret (r := some (.int 0)) (M := tbM198) rfl rfl rfl ?_
      refine ek_ret (r := some (.int 0)) (M := tbM264) rfl rfl rfl ?_
      refine ek_k (pc2 := 21) (lv2 := [(0, .ref 40), (1, .int (xs 1)), (2, .int (xs 2))]) (st2 := [.int (-1)]) (h3 := rn_H) 2 (M := tbM269) rfl rfl ?_
      refine ek_ret (r := some (.int (-1))) (M := tbM269) rfl rfl rfl ?_
      refine ek_k (pc2 := 990) (lv2 := [(3, .int 6), (2, .ref 40), (1, .ref 2), (0, .ref 0)]) (st2 := [.int 1]) (h3 := rn_H) 10 (M := tbM0) rfl rfl ?_
      refine ek_end (r := some (.int 1)) (M := tbM0) rfl rfl rfl ?_
      exact rn_fin (S := rn_S) rfl rn_S1 rn_S2
    · exfalso; (try simp only [lg_lt, lg_gt, lg_le, lg_ge, lg_z] at hc0 hc1); simp only [← Int32.toInt_inj, ← Int64.toInt_inj, Int32.lt_iff_toInt_lt, Int32.le_iff_toInt_le, Int64.lt_iff_toInt_lt, Int64.le_iff_toInt_le, Int32.toInt_toInt64, rn_im4, rn_lm4, rn_im3, rn_lm3, rn_im2, rn_lm2, rn_im1, rn_lm1, rn_i0, rn_l0, rn_i1, rn_l1, rn_i2, rn_l2, rn_i3, rn_l3, rn_i4, rn_l4, rn_i5, rn_l5, rn_i6, rn_l6, rn_i7, rn_l7, rn_i8, rn_l8] at hc0 hc1; omega
  · by_cases hc1 : (0 : Int32) ≤ (xs 1)
    · by_cases hc2 : (lg_cmp ((xs 1)).toInt64 (0 : Int64)) < (0 : Int32)
      · exfalso; (try simp only [lg_lt, lg_gt, lg_le, lg_ge, lg_z] at hc0 hc1 hc2); simp only [← Int32.toInt_inj, ← Int64.toInt_inj, Int32.lt_iff_toInt_lt, Int32.le_iff_toInt_le, Int64.lt_iff_toInt_lt, Int64.le_iff_toInt_le, Int32.toInt_toInt64, rn_im4, rn_lm4, rn_im3, rn_lm3, rn_im2, rn_lm2, rn_im1, rn_lm1, rn_i0, rn_l0, rn_i1, rn_l1, rn_i2, rn_l2, rn_i3, rn_l3, rn_i4, rn_l4, rn_i5, rn_l5, rn_i6, rn_l6, rn_i7, rn_l7, rn_i8, rn_l8] at hc0 hc1 hc2; omega
      · by_cases hc3 : (0 : Int32) < (lg_cmp ((xs 1)).toInt64 (-1 : Int64))
        · refine ek_k (pc2 := 380) (lv2 := [(3, .int 0), (2, .ref 40), (1, .ref 2), (0, .ref 0)]) (st2 := [.int (xs 2), .int (xs 1), .ref 2]) (h3 := rn_H) 12 (M := tbM0) rfl rfl ?_
          refine ek_call (f1 := 2047) (w1 := 83977) (M := tbM0) (k := 134) (M2 := tbM134) (as := [.ref 2, .int (xs 1), .int (xs 2)]) (rest := []) rfl rfl rfl rfl rfl rfl (Nat.le_of_ble_eq_true rfl) (Nat.le_of_ble_eq_true rfl) (Nat.le_of_ble_eq_true rfl) ?_
          refine ek_k (pc2 := 5) (lv2 := [(0, .ref 2), (1, .int (xs 1)), (2, .int (xs 2))]) (st2 := [.int (xs 1), .ref 14]) (h3 := rn_H) 3 (M := tbM134) rfl rfl ?_
          refine ek_call (f1 := 2046) (w1 := 83956) (M := tbM134) (k := 83) (M2 := tbM83) (as := [.ref 14, .int (xs 1)]) (rest := []) rfl rfl rfl rfl rfl rfl (Nat.le_of_ble_eq_true rfl) (Nat.le_of_ble_eq_true rfl) (Nat.le_of_ble_eq_true rfl) ?_
          refine ek_k (pc2 := 1) (lv2 := [(0, .ref 14), (1, .int (xs 1))]) (st2 := [.int (xs 1)]) (h3 := rn_H) 1 (M := tbM83) rfl rfl ?_
          refine ek_pu (lv2 := [(0, .ref 14), (1, .int (xs 1))]) (st2 := []) (M := tbM83) rfl rfl rfl (if_neg hc0) ?_
          refine ek_k (pc2 := 9) (lv2 := [(0, .ref 14), (1, .int (xs 1))]) (st2 := [.int 0, .int (xs 1)]) (h3 := rn_H) 3 (M := tbM83) rfl rfl ?_
          refine ek_pu (lv2 := [(0, .ref 14), (1, .int (xs 1))]) (st2 := []) (M := tbM83) rfl rfl rfl (if_pos hc1) ?_
          refine ek_k (pc2 := 22) (lv2 := [(0, .ref 14), (1, .int (xs 1))]) (st2 := [.null]) (h3 := rn_H) 1 (M := tbM83) rfl rfl ?_
          refine ek_ret (r := some (.null)) (M := tbM83) rfl rfl rfl ?_
          refine ek_k (pc2 := 24) (lv2 := [(3, .null), (0, .ref 2), (1, .int (xs 1)), (2, .int (xs 2))]) (st2 := [.int (-1)]) (h3 := rn_H) 4 (M := tbM134) rfl rfl ?_
          refine ek_ret (r := some (.int (-1))) (M := tbM134) rfl rfl rfl ?_
          refine ek_k (pc2 := 394) (lv2 := [(3, .int 0), (2, .ref 40), (1, .ref 2), (0, .ref 0)]) (st2 := [.int (xs 2), .int (xs 1), .ref 40, .int (-1)]) (h3 := rn_H) 11 (M := tbM0) rfl rfl ?_
          refine ek_call (f1 := 2047) (w1 := 83978) (M := tbM0) (k := 269) (M2 := tbM269) (as := [.ref 40, .int (xs 1), .int (xs 2)]) (rest := [.int (-1)]) rfl rfl rfl rfl rfl rfl (Nat.le_of_ble_eq_true rfl) (Nat.le_of_ble_eq_true rfl) (Nat.le_of_ble_eq_true rfl) ?_
          refine ek_k (pc2 := 2) (lv2 := [(0, .ref 40), (1, .int (xs 1)), (2, .int (xs 2))]) (st2 := [.int (xs 1), .ref 40]) (h3 := rn_H) 2 (M := tbM269) rfl rfl ?_
          refine ek_call (f1 := 2046) (w1 := 83957) (M := tbM269) (k := 264) (M2 := tbM264) (as := [.ref 40, .int (xs 1)]) (rest := []) rfl rfl rfl rfl rfl rfl (Nat.le_of_ble_eq_true rfl) (Nat.le_of_ble_eq_true rfl) (Nat.le_of_ble_eq_true rfl) ?_
          refine ek_k (pc2 := 10) (lv2 := [(0, .ref 40), (1, .int (xs 1))]) (st2 := [.long (-1), .long 0, .long ((xs 1)).toInt64]) (h3 := rn_H) 8 (M := tbM264) rfl rfl ?_
          refine ek_call (f1 := 2045) (w1 := 83932) (M := tbM264) (k := 198) (M2 := tbM198) (as := [.long ((xs 1)).toInt64, .long 0, .long (-1)]) (rest := []) rfl rfl rfl rfl rfl rfl (Nat.le_of_ble_eq_true rfl) (Nat.le_of_ble_eq_true rfl) (Nat.le_of_ble_eq_true rfl) ?_
          refine ek_k (pc2 := 3) (lv2 := [(0, .long ((xs 1)).toInt64), (2, .long 0), (4, .long (-1))]) (st2 := [.int (lg_cmp ((xs 1)).toInt64 (0 : Int64))]) (h3 := rn_H) 3 (M := tbM198) rfl rfl ?_
          refine ek_pu (lv2 := [(0, .long ((xs 1)).toInt64), (2, .long 0), (4, .long (-1))]) (st2 := []) (M := tbM198) rfl rfl rfl (if_neg hc2) ?_
          refine ek_k (pc2 := 10) (lv2 := [(0, .long ((xs 1)).toInt64), (2, .long 0), (4, .long (-1))]) (st2 := [.int (lg_cmp ((xs 1)).toInt64 (-1 : Int64))]) (h3 := rn_H) 3 (M := tbM198) rfl rfl ?_
          refine ek_pu (lv2 := [(0, .long ((xs 1)).toInt64), (2, .long 0), (4, .long (-1))]) (st2 := []) (M := tbM198) rfl rfl rfl (if_pos hc3) ?_
          refine ek_k (pc2 := 18) (lv2 := [(0, .long ((xs 1)).toInt64), (2, .long 0), (4, .long (-1))]) (st2 := [.int 0]) (h3 := rn_H) 1 (M := tbM198) rfl rfl ?_
          refine ek_ret (r := some (.int 0)) (M := tbM198) rfl rfl rfl ?_
          refine ek_ret (r := some (.int 0)) (M := tbM264) rfl rfl rfl ?_
          refine ek_k (pc2 := 21) (lv2 := [(0, .ref 40), (1, .int (xs 1)), (2, .int (xs 2))]) (st2 := [.int (-1)]) (h3 := rn_H) 2 (M := tbM269) rfl rfl ?_
          refine ek_ret (r := some (.int (-1))) (M := tbM269) rfl rfl rfl ?_
          refine ek_k (pc2 := 990) (lv2 := [(3, .int 6), (2, .ref 40), (1, .ref 2), (0, .ref 0)]) (st2 := [.int 1]) (h3 := rn_H) 10 (M := tbM0) rfl rfl ?_
          refine ek_end (r := some (.int 1)) (M := tbM0) rfl rfl rfl ?_
          exact rn_fin (S := rn_S) rfl rn_S1 rn_S2
        · exfalso; (try simp only [lg_lt, lg_gt, lg_le, lg_ge, lg_z] at hc0 hc1 hc2 hc3); simp only [← Int32.toInt_inj, ← Int64.toInt_inj, Int32.lt_iff_toInt_lt, Int32.le_iff_toInt_le, Int64.lt_iff_toInt_lt, Int64.le_iff_toInt_le, Int32.toInt_toInt64, rn_im4, rn_lm4, rn_im3, rn_lm3, rn_im2, rn_lm2, rn_im1, rn_lm1, rn_i0, rn_l0, rn_i1, rn_l1, rn_i2, rn_l2, rn_i3, rn_l3, rn_i4, rn_l4, rn_i5, rn_l5, rn_i6, rn_l6, rn_i7, rn_l7, rn_i8, rn_l8] at hc0 hc1 hc2 hc3; omega
    · exfalso; (try simp only [lg_lt, lg_gt, lg_le, lg_ge, lg_z] at hc0 hc1); simp only [← Int32.toInt_inj, ← Int64.toInt_inj, Int32.lt_iff_toInt_lt, Int32.le_iff_toInt_le, Int64.lt_iff_toInt_lt, Int64.le_iff_toInt_le, Int32.toInt_toInt64, rn_im4, rn_lm4, rn_im3, rn_lm3, rn_im2, rn_lm2, rn_im1, rn_lm1, rn_i0, rn_l0, rn_i1, rn_l1, rn_i2, rn_l2, rn_i3, rn_l3, rn_i4, rn_l4, rn_i5, rn_l5, rn_i6, rn_l6, rn_i7, rn_l7, rn_i8, rn_l8] at hc0 hc1; omega
set_option maxRecDepth 100000 in
set_option maxHeartbeats 40000000 in
theorem rn_op8 (xs : Nat → Int32) (hx : (xs 0) &&& (31 : Int32) = 8) : am_ek tbT (tb_ro 6 xs) rn_P 2048 84000 0 33 [(3, .int 0), (2, .ref 40), (1, .ref 2), (0, .ref 0)] [.int ((xs 0) &&& (31 : Int32))] rn_H [] := by
  rw [hx]
  by_cases hc0 : (xs 1) < (0 : Int32)
  · by_cases hc1 : (lg_cmp ((xs 1)).toInt64 (0 : Int64)) < (0 : Int32)
    · refine ek_k (pc2 := 413) (lv2 := [(3, .int 0), (2, .ref 40), (1, .ref 2), (0, .ref 0)]) (st2 := [.int (xs 2), .int (xs 1), .ref 2]) (h3 := rn_H) 12 (M := tbM0) rfl rfl ?_
      refine ek_k (pc2 := 418) (lv2 := [(3, .int 0), (2, .ref 40), (1, .ref 2), (0, .ref 0)]) (st2 := [.int (xs 3), .int (xs 2), .int (xs 1), .ref 2]) (h3 := rn_H) 5 (M := tbM0) rfl rfl ?_
      refine ek_call (f1 := 2047) (w1 := 83976) (M := tbM0) (k := 136) (M2 := tbM136) (as := [.ref 2, .int (xs 1), .int (xs 2), .int (xs 3)]) (rest := []) rfl rfl rfl rfl rfl rfl (Nat.le_of_ble_eq_true rfl) (Nat.le_of_ble_eq_true rfl) (Nat.le_of_ble_eq_true rfl) ?_
      refine ek_k (pc2 := 5) (lv2 := [(0, .ref 2), (1, .int (xs 1)), (2, .int (xs 2)), (3, .int (xs 3))]) (st2 := [.int (xs 1), .ref 14]) (h3 := rn_H) 3 (M := tbM136) rfl rfl ?_
      refine ek_call (f1 := 2046) (w1 := 83955) (M := tbM136) (k := 83) (M2 := tbM83) (as := [.ref 14, .int (xs 1)]) (rest := []) rfl rfl rfl rfl rfl rfl (Nat.le_of_ble_eq_true rfl) (Nat.le_of_ble_eq_true rfl) (Nat.le_of_ble_eq_true rfl) ?_
      refine ek_k (pc2 := 1) (lv2 := [(0, .ref 14), (1, .int (xs 1))]) (st2 := [.int (xs 1)]) (h3 := rn_H) 1 (M := tbM83) rfl rfl ?_
      refine ek_pu (lv2 := [(0, .ref 14), (1, .int (xs 1))]) (st2 := []) (M := tbM83) rfl rfl rfl (if_pos hc0) ?_
      refine ek_k (pc2 := 22) (lv2 := [(0, .ref 14), (1, .int (xs 1))]) (st2 := [.null]) (h3 := rn_H) 1 (M := tbM83) rfl rfl ?_
      refine ek_ret (r := some (.null)) (M := tbM83) rfl rfl rfl ?_
      refine ek_k (pc2 := 37) (lv2 := [(4, .null), (0, .ref 2), (1, .int (xs 1)), (2, .int (xs 2)), (3, .int (xs 3))]) (st2 := [.int (-1)]) (h3 := rn_H) 4 (M := tbM136) rfl rfl ?_
      refine ek_ret (r := some (.int (-1))) (M := tbM136) rfl rfl rfl ?_
      refine ek_k (pc2 := 433) (lv2 := [(3, .int 0), (2, .ref 40), (1, .ref 2), (0, .ref 0)]) (st2 := [.ref 0, .int (xs 2), .int (xs 1), .ref 40, .int (-1)]) (h3 := rn_H) 12 (M := tbM0) rfl rfl ?_
      refine ek_k (pc2 := 437) (lv2 := [(3, .int 0), (2, .ref 40), (1, .ref 2), (0, .ref 0)]) (st2 := [.int (xs 3), .int (xs 2), .int (xs 1), .ref 40, .int (-1)]) (h3 := rn_H) 4 (M := tbM0) rfl rfl ?_
      refine ek_call (f1 := 2047) (w1 := 83974) (M := tbM0) (k := 271) (M2 := tbM271) (as := [.ref 40, .int (xs 1), .int (xs 2), .int (xs 3)]) (rest := [.int (-1)]) rfl rfl rfl rfl rfl rfl (Nat.le_of_ble_eq_true rfl) (Nat.le_of_ble_eq_true rfl) (Nat.le_of_ble_eq_true rfl) ?_
      refine ek_k (pc2 := 2) (lv2 := [(0, .ref 40), (1, .int (xs 1)), (2, .int (xs 2)), (3, .int (xs 3))]) (st2 := [.int (xs 1), .ref 40]) (h3 := rn_H) 2 (M := tbM271) rfl rfl ?_
      refine ek_call (f1 := 2046) (w1 := 83953) (M := tbM271) (k := 264) (M2 := tbM264) (as := [.ref 40, .int (xs 1)]) (rest := []) rfl rfl rfl rfl rfl rfl (Nat.le_of_ble_eq_true rfl) (Nat.le_of_ble_eq_true rfl) (Nat.le_of_ble_eq_true rfl) ?_
      refine ek_k (pc2 := 10) (lv2 := [(0, .ref 40), (1, .int (xs 1))]) (st2 := [.long (-1), .long 0, .long ((xs 1)).toInt64]) (h3 := rn_H) 8 (M := tbM264) rfl rfl ?_
      refine ek_call (f1 := 2045) (w1 := 83928) (M := tbM264) (k := 198) (M2 := tbM198) (as := [.long ((xs 1)).toInt64, .long 0, .long (-1)]) (rest := []) rfl rfl rfl rfl rfl rfl (Nat.le_of_ble_eq_true rfl) (Nat.le_of_ble_eq_true rfl) (Nat.le_of_ble_eq_true rfl) ?_
      refine ek_k (pc2 := 3) (lv2 := [(0, .long ((xs 1)).toInt64), (2, .long 0), (4, .long (-1))]) (st2 := [.int (lg_cmp ((xs 1)).toInt64 (0 : Int64))]) (h3 := rn_H) 3 (M := tbM198) rfl rfl ?_
      refine ek_pu (lv2 := [(0, .long ((xs 1)).toInt64), (2, .long 0), (4, .long (-1))]) (st2 := []) (M := tbM198) rfl rfl rfl (if_pos hc1) ?_
      refine ek_k (pc2 := 18) (lv2 := [(0, .long ((xs 1)).toInt64), (2, .long 0), (4, .long (-1))]) (st2 := [.int 0]) (h3 := rn_H) 1 (M := tbM198) rfl rfl ?_
      refine ek_ret (r := some (.int 0)) (M := tbM198) rfl rfl rfl ?_
      refine ek_ret (r := some (.int 0)) (M := tbM264) rfl rfl rfl ?_
      refine ek_k (pc2 := 39) (lv2 := [(0, .ref 40), (1, .int (xs 1)), (2, .int (xs 2)), (3, .int (xs 3))]) (st2 := [.int (-1)]) (h3 := rn_H) 2 (M := tbM271) rfl rfl ?_
      refine ek_ret (r := some (.int (-1))) (M := tbM271) rfl rfl rfl ?_
      refine ek_k (pc2 := 990) (lv2 := [(3, .int 6), (2, .ref 40), (1, .ref 2), (0, .ref 0)]) (st2 := [.int 1]) (h3 := rn_H) 10 (M := tbM0) rfl rfl ?_
      refine ek_end (r := some (.int 1)) (M := tbM0) rfl rfl rfl ?_
      exact rn_fin (S := rn_S) rfl rn_S1 rn_S2
    · exfalso; (try simp only [lg_lt, lg_gt, lg_le, lg_ge, lg_z] at hc0 hc1); simp only [← Int32.toInt_inj, ← Int64.toInt_inj, Int32.lt_iff_toInt_lt, Int32.le_iff_toInt_le, Int64.lt_iff_toInt_lt, Int64.le_iff_toInt_le, Int32.toInt_toInt64, rn_im4, rn_lm4, rn_im3, rn_lm3, rn_im2, rn_lm2, rn_im1, rn_lm1, rn_i0, rn_l0, rn_i1, rn_l1, rn_i2, rn_l2, rn_i3, rn_l3, rn_i4, rn_l4, rn_i5, rn_l5, rn_i6, rn_l6, rn_i7, rn_l7, rn_i8, rn_l8] at hc0 hc1; omega
  · by_cases hc1 : (0 : Int32) ≤ (xs 1)
    · by_cases hc2 : (lg_cmp ((xs 1)).toInt64 (0 : Int64)) < (0 : Int32)
      · exfalso; (try simp only [lg_lt, lg_gt, lg_le, lg_ge, lg_z] at hc0 hc1 hc2); simp only [← Int32.toInt_inj, ← Int64.toInt_inj, Int32.lt_iff_toInt_lt, Int32.le_iff_toInt_le, Int64.lt_iff_toInt_lt, Int64.le_iff_toInt_le, Int32.toInt_toInt64, rn_im4, rn_lm4, rn_im3, rn_lm3, rn_im2, rn_lm2, rn_im1, rn_lm1, rn_i0, rn_l0, rn_i1, rn_l1, rn_i2, rn_l2, rn_i3, rn_l3, rn_i4, rn_l4, rn_i5, rn_l5, rn_i6, rn_l6, rn_i7, rn_l7, rn_i8, rn_l8] at hc0 hc1 hc2; omega
      · by_cases hc3 : (0 : Int32) < (lg_cmp ((xs 1)).toInt64 (-1 : Int64))
        · refine ek_k (pc2 := 413) (lv2 := [(3, .int 0), (2, .ref 40), (1, .ref 2), (0, .ref 0)]) (st2 := [.int (xs 2), .int (xs 1), .ref 2]) (h3 := rn_H) 12 (M := tbM0) rfl rfl ?_
          refine ek_k (pc2 := 418) (lv2 := [(3, .int 0), (2, .ref 40), (1, .ref 2), (0, .ref 0)]) (st2 := [.int (xs 3), .int (xs 2), .int (xs 1), .ref 2]) (h3 := rn_H) 5 (M := tbM0) rfl rfl ?_
          refine ek_call (f1 := 2047) (w1 := 83976) (M := tbM0) (k := 136) (M2 := tbM136) (as := [.ref 2, .int (xs 1), .int (xs 2), .int (xs 3)]) (rest := []) rfl rfl rfl rfl rfl rfl (Nat.le_of_ble_eq_true rfl) (Nat.le_of_ble_eq_true rfl) (Nat.le_of_ble_eq_true rfl) ?_
          refine ek_k (pc2 := 5) (lv2 := [(0, .ref 2), (1, .int (xs 1)), (2, .int (xs 2)), (3, .int (xs 3))]) (st2 := [.int (xs 1), .ref 14]) (h3 := rn_H) 3 (M := tbM136) rfl rfl ?_
          refine ek_call (f1 := 2046) (w1 := 83955) (M := tbM136) (k := 83) (M2 := tbM83) (as := [.ref 14, .int (xs 1)]) (rest := []) rfl rfl rfl rfl rfl rfl (Nat.le_of_ble_eq_true rfl) (Nat.le_of_ble_eq_true rfl) (Nat.le_of_ble_eq_true rfl) ?_
          refine ek_k (pc2 := 1) (lv2 := [(0, .ref 14), (1, .int (xs 1))]) (st2 := [.int (xs 1)]) (h3 := rn_H) 1 (M := tbM83) rfl rfl ?_
          refine ek_pu (lv2 := [(0, .ref 14), (1, .int (xs 1))]) (st2 := []) (M := tbM83) rfl rfl rfl (if_neg hc0) ?_
          refine ek_k (pc2 := 9) (lv2 := [(0, .ref 14), (1, .int (xs 1))]) (st2 := [.int 0, .int (xs 1)]) (h3 := rn_H) 3 (M := tbM83) rfl rfl ?_
          refine ek_pu (lv2 := [(0, .ref 14), (1, .int (xs 1))]) (st2 := []) (M := tbM83) rfl rfl rfl (if_pos hc1) ?_
          refine ek_k (pc2 := 22) (lv2 := [(0, .ref 14), (1, .int (xs 1))]) (st2 := [.null]) (h3 := rn_H) 1 (M := tbM83) rfl rfl ?_
          refine ek_ret (r := some (.null)) (M := tbM83) rfl rfl rfl ?_
          refine ek_k (pc2 := 37) (lv2 := [(4, .null), (0, .ref 2), (1, .int (xs 1)), (2, .int (xs 2)), (3, .int (xs 3))]) (st2 := [.int (-1)]) (h3 := rn_H) 4 (M := tbM136) rfl rfl ?_
          refine ek_ret (r := some (.int (-1))) (M := tbM136) rfl rfl rfl ?_
          refine ek_k (pc2 := 433) (lv2 := [(3, .int 0), (2, .ref 40), (1, .ref 2), (0, .ref 0)]) (st2 := [.ref 0, .int (xs 2), .int (xs 1), .ref 40, .int (-1)]) (h3 := rn_H) 12 (M := tbM0) rfl rfl ?_
          refine ek_k (pc2 := 437) (lv2 := [(3, .int 0), (2, .ref 40), (1, .ref 2), (0, .ref 0)]) (st2 := [.int (xs 3), .int (xs 2), .int (xs 1), .ref 40, .int (-1)]) (h3 := rn_H) 4 (M := tbM0) rfl rfl ?_
          refine ek_call (f1 := 2047) (w1 := 83974) (M := tbM0) (k := 271) (M2 := tbM271) (as := [.ref 40, .int (xs 1), .int (xs 2), .int (xs 3)]) (rest := [.int (-1)]) rfl rfl rfl rfl rfl rfl (Nat.le_of_ble_eq_true rfl) (Nat.le_of_ble_eq_true rfl) (Nat.le_of_ble_eq_true rfl) ?_
          refine ek_k (pc2 := 2) (lv2 := [(0, .ref 40), (1, .int (xs 1)), (2, .int (xs 2)), (3, .int (xs 3))]) (st2 := [.int (xs 1), .ref 40]) (h3 := rn_H) 2 (M := tbM271) rfl rfl ?_
          refine ek_call (f1 := 2046) (w1 := 83953) (M := tbM271) (k := 264) (M2 := tbM264) (as := [.ref 40, .int (xs 1)]) (rest := []) rfl rfl rfl rfl rfl rfl (Nat.le_of_ble_eq_true rfl) (Nat.le_of_ble_eq_true rfl) (Nat.le_of_ble_eq_true rfl) ?_
          refine ek_k (pc2 := 10) (lv2 := [(0, .ref 40), (1, .int (xs 1))]) (st2 := [.long (-1), .long 0, .long ((xs 1)).toInt64]) (h3 := rn_H) 8 (M := tbM264) rfl rfl ?_
          refine ek_call (f1 := 2045) (w1 := 83928) (M := tbM264) (k := 198) (M2 := tbM198) (as := [.long ((xs 1)).toInt64, .long 0, .long (-1)]) (rest := []) rfl rfl rfl rfl rfl rfl (Nat.le_of_ble_eq_true rfl) (Nat.le_of_ble_eq_true rfl) (Nat.le_of_ble_eq_true rfl) ?_
          refine ek_k (pc2 := 3) (lv2 := [(0, .long ((xs 1)).toInt64), (2, .long 0), (4, .long (-1))]) (st2 := [.int (lg_cmp ((xs 1)).toInt64 (0 : Int64))]) (h3 := rn_H) 3 (M := tbM198) rfl rfl ?_
          refine ek_pu (lv2 := [(0, .long ((xs 1)).toInt64), (2, .long 0), (4, .long (-1))]) (st2 := []) (M := tbM198) rfl rfl rfl (if_neg hc2) ?_
          refine ek_k (pc2 := 10) (lv2 := [(0, .long ((xs 1)).toInt64), (2, .long 0), (4, .long (-1))]) (st2 := [.int (lg_cmp ((xs 1)).toInt64 (-1 : Int64))]) (h3 := rn_H) 3 (M := tbM198) rfl rfl ?_
          refine ek_pu (lv2 := [(0, .long ((xs 1)).toInt64), (2, .long 0), (4, .long (-1))]) (st2 := []) (M := tbM198) rfl rfl rfl (if_pos hc3) ?_
          refine ek_k (pc2 := 18) (lv2 := [(0, .long ((xs 1)).toInt64), (2, .long 0), (4, .long (-1))]) (st2 := [.int 0]) (h3 := rn_H) 1 (M := tbM198) rfl rfl ?_
          refine ek_ret (r := some (.int 0)) (M := tbM198) rfl rfl rfl ?_
          refine ek_ret (r := some (.int 0)) (M := tbM264) rfl rfl rfl ?_
          refine ek_k (pc2 := 39) (lv2 := [(0, .ref 40), (1, .int (xs 1)), (2, .int (xs 2)), (3, .int (xs 3))]) (st2 := [.int (-1)]) (h3 := rn_H) 2 (M := tbM271) rfl rfl ?_
          refine ek_ret (r := some (.int (-1))) (M := tbM271) rfl rfl rfl ?_
          refine ek_k (pc2 := 990) (lv2 := [(3, .int 6), (2, .ref 40), (1, .ref 2), (0, .ref 0)]) (st2 := [.int 1]) (h3 := rn_H) 10 (M := tbM0) rfl rfl ?_
          refine ek_end (r := some (.int 1)) (M := tbM0) rfl rfl rfl ?_
          exact rn_fin (S := rn_S) rfl rn_S1 rn_S2
        · exfalso; (try simp only [lg_lt, lg_gt, lg_le, lg_ge, lg_z] at hc0 hc1 hc2 hc3); simp only [← Int32.toInt_inj, ← Int64.toInt_inj, Int32.lt_iff_toInt_lt, Int32.le_iff_toInt_le, Int64.lt_iff_toInt_lt, Int64.le_iff_toInt_le, Int32.toInt_toInt64, rn_im4, rn_lm4, rn_im3, rn_lm3, rn_im2, rn_lm2, rn_im1, rn_lm1, rn_i0, rn_l0, rn_i1, rn_l1, rn_i2, rn_l2, rn_i3, rn_l3, rn_i4, rn_l4, rn_i5, rn_l5, rn_i6, rn_l6, rn_i7, rn_l7, rn_i8, rn_l8] at hc0 hc1 hc2 hc3; omega
    · exfalso; (try simp only [lg_lt, lg_gt, lg_le, lg_ge, lg_z] at hc0 hc1); simp only [← Int32.toInt_inj, ← Int64.toInt_inj, Int32.lt_iff_toInt_lt, Int32.le_iff_toInt_le, Int64.lt_iff_toInt_lt, Int64.le_iff_toInt_le, Int32.toInt_toInt64, rn_im4, rn_lm4, rn_im3, rn_lm3, rn_im2, rn_lm2, rn_im1, rn_lm1, rn_i0, rn_l0, rn_i1, rn_l1, rn_i2, rn_l2, rn_i3, rn_l3, rn_i4, rn_l4, rn_i5, rn_l5, rn_i6, rn_l6, rn_i7, rn_l7, rn_i8, rn_l8] at hc0 hc1; omega
set_option maxRecDepth 100000 in
set_option maxHeartbeats 40000000 in
theorem rn_op9 (xs : Nat → Int32) (hx : (xs 0) &&& (31 : Int32) = 9) : am_ek tbT (tb_ro 6 xs) rn_P 2048 84000 0 33 [(3, .int 0), (2, .ref 40), (1, .ref 2), (0, .ref 0)] [.int ((xs 0) &&& (31 : Int32))] rn_H [] := by
  rw [hx]
  by_cases hc0 : (xs 1) < (0 : Int32)
  · by_cases hc1 : (lg_cmp ((xs 1)).toInt64 (0 : Int64)) < (0 : Int32)
    · refine ek_k (pc2 := 456) (lv2 := [(3, .int 0), (2, .ref 40), (1, .ref 2), (0, .ref 0)]) (st2 := [.int (xs 2), .int (xs 1), .ref 2]) (h3 := rn_H) 12 (M := tbM0) rfl rfl ?_
      refine ek_k (pc2 := 461) (lv2 := [(3, .int 0), (2, .ref 40), (1, .ref 2), (0, .ref 0)]) (st2 := [.int (xs 3), .int (xs 2), .int (xs 1), .ref 2]) (h3 := rn_H) 5 (M := tbM0) rfl rfl ?_
      refine ek_call (f1 := 2047) (w1 := 83976) (M := tbM0) (k := 140) (M2 := tbM140) (as := [.ref 2, .int (xs 1), .int (xs 2), .int (xs 3)]) (rest := []) rfl rfl rfl rfl rfl rfl (Nat.le_of_ble_eq_true rfl) (Nat.le_of_ble_eq_true rfl) (Nat.le_of_ble_eq_true rfl) ?_
      refine ek_k (pc2 := 5) (lv2 := [(0, .ref 2), (1, .int (xs 1)), (2, .int (xs 2)), (3, .int (xs 3))]) (st2 := [.int (xs 1), .ref 14]) (h3 := rn_H) 3 (M := tbM140) rfl rfl ?_
      refine ek_call (f1 := 2046) (w1 := 83955) (M := tbM140) (k := 83) (M2 := tbM83) (as := [.ref 14, .int (xs 1)]) (rest := []) rfl rfl rfl rfl rfl rfl (Nat.le_of_ble_eq_true rfl) (Nat.le_of_ble_eq_true rfl) (Nat.le_of_ble_eq_true rfl) ?_
      refine ek_k (pc2 := 1) (lv2 := [(0, .ref 14), (1, .int (xs 1))]) (st2 := [.int (xs 1)]) (h3 := rn_H) 1 (M := tbM83) rfl rfl ?_
      refine ek_pu (lv2 := [(0, .ref 14), (1, .int (xs 1))]) (st2 := []) (M := tbM83) rfl rfl rfl (if_pos hc0) ?_
      refine ek_k (pc2 := 22) (lv2 := [(0, .ref 14), (1, .int (xs 1))]) (st2 := [.null]) (h3 := rn_H) 1 (M := tbM83) rfl rfl ?_
      refine ek_ret (r := some (.null)) (M := tbM83) rfl rfl rfl ?_
      refine ek_k (pc2 := 46) (lv2 := [(4, .null), (0, .ref 2), (1, .int (xs 1)), (2, .int (xs 2)), (3, .int (xs 3))]) (st2 := [.int (-1)]) (h3 := rn_H) 4 (M := tbM140) rfl rfl ?_
      refine ek_ret (r := some (.int (-1))) (M := tbM140) rfl rfl rfl ?_
      refine ek_k (pc2 := 476) (lv2 := [(3, .int 0), (2, .ref 40), (1, .ref 2), (0, .ref 0)]) (st2 := [.ref 0, .int (xs 2), .int (xs 1), .ref 40, .int (-1)]) (h3 := rn_H) 12 (M := tbM0) rfl rfl ?_
      refine ek_k (pc2 := 480) (lv2 := [(3, .int 0), (2, .ref 40), (1, .ref 2), (0, .ref 0)]) (st2 := [.int (xs 3), .int (xs 2), .int (xs 1), .ref 40, .int (-1)]) (h3 := rn_H) 4 (M := tbM0) rfl rfl ?_
      refine ek_call (f1 := 2047) (w1 := 83975) (M := tbM0) (k := 272) (M2 := tbM272) (as := [.ref 40, .int (xs 1), .int (xs 2), .int (xs 3)]) (rest := [.int (-1)]) rfl rfl rfl rfl rfl rfl (Nat.le_of_ble_eq_true rfl) (Nat.le_of_ble_eq_true rfl) (Nat.le_of_ble_eq_true rfl) ?_
      refine ek_k (pc2 := 2) (lv2 := [(0, .ref 40), (1, .int (xs 1)), (2, .int (xs 2)), (3, .int (xs 3))]) (st2 := [.int (xs 1), .ref 40]) (h3 := rn_H) 2 (M := tbM272) rfl rfl ?_
      refine ek_call (f1 := 2046) (w1 := 83954) (M := tbM272) (k := 264) (M2 := tbM264) (as := [.ref 40, .int (xs 1)]) (rest := []) rfl rfl rfl rfl rfl rfl (Nat.le_of_ble_eq_true rfl) (Nat.le_of_ble_eq_true rfl) (Nat.le_of_ble_eq_true rfl) ?_
      refine ek_k (pc2 := 10) (lv2 := [(0, .ref 40), (1, .int (xs 1))]) (st2 := [.long (-1), .long 0, .long ((xs 1)).toInt64]) (h3 := rn_H) 8 (M := tbM264) rfl rfl ?_
      refine ek_call (f1 := 2045) (w1 := 83929) (M := tbM264) (k := 198) (M2 := tbM198) (as := [.long ((xs 1)).toInt64, .long 0, .long (-1)]) (rest := []) rfl rfl rfl rfl rfl rfl (Nat.le_of_ble_eq_true rfl) (Nat.le_of_ble_eq_true rfl) (Nat.le_of_ble_eq_true rfl) ?_
      refine ek_k (pc2 := 3) (lv2 := [(0, .long ((xs 1)).toInt64), (2, .long 0), (4, .long (-1))]) (st2 := [.int (lg_cmp ((xs 1)).toInt64 (0 : Int64))]) (h3 := rn_H) 3 (M := tbM198) rfl rfl ?_
      refine ek_pu (lv2 := [(0, .long ((xs 1)).toInt64), (2, .long 0), (4, .long (-1))]) (st2 := []) (M := tbM198) rfl rfl rfl (if_pos hc1) ?_
      refine ek_k (pc2 := 18) (lv2 := [(0, .long ((xs 1)).toInt64), (2, .long 0), (4, .long (-1))]) (st2 := [.int 0]) (h3 := rn_H) 1 (M := tbM198) rfl rfl ?_
      refine ek_ret (r := some (.int 0)) (M := tbM198) rfl rfl rfl ?_
      refine ek_ret (r := some (.int 0)) (M := tbM264) rfl rfl rfl ?_
      refine ek_k (pc2 := 51) (lv2 := [(0, .ref 40), (1, .int (xs 1)), (2, .int (xs 2)), (3, .int (xs 3))]) (st2 := [.int (-1)]) (h3 := rn_H) 2 (M := tbM272) rfl rfl ?_
      refine ek_ret (r := some (.int (-1))) (M := tbM272) rfl rfl rfl ?_
      refine ek_k (pc2 := 990) (lv2 := [(3, .int 6), (2, .ref 40), (1, .ref 2), (0, .ref 0)]) (st2 := [.int 1]) (h3 := rn_H) 10 (M := tbM0) rfl rfl ?_
      refine ek_end (r := some (.int 1)) (M := tbM0) rfl rfl rfl ?_
      exact rn_fin (S := rn_S) rfl rn_S1 rn_S2
    · exfalso; (try simp only [lg_lt, lg_gt, lg_le, lg_ge, lg_z] at hc0 hc1); simp only [← Int32.toInt_inj, ← Int64.toInt_inj, Int32.lt_iff_toInt_lt, Int32.le_iff_toInt_le, Int64.lt_iff_toInt_lt, Int64.le_iff_toInt_le, Int32.toInt_toInt64, rn_im4, rn_lm4, rn_im3, rn_lm3, rn_im2, rn_lm2, rn_im1, rn_lm1, rn_i0, rn_l0, rn_i1, rn_l1, rn_i2, rn_l2, rn_i3, rn_l3, rn_i4, rn_l4, rn_i5, rn_l5, rn_i6, rn_l6, rn_i7, rn_l7, rn_i8, rn_l8] at hc0 hc1; omega
  · by_cases hc1 : (0 : Int32) ≤ (xs 1)
    · by_cases hc2 : (lg_cmp ((xs 1)).toInt64 (0 : Int64)) < (0 : Int32)
      · exfalso; (try simp only [lg_lt, lg_gt, lg_le, lg_ge, lg_z] at hc0 hc1 hc2); simp only [← Int32.toInt_inj, ← Int64.toInt_inj, Int32.lt_iff_toInt_lt, Int32.le_iff_toInt_le, Int64.lt_iff_toInt_lt, Int64.le_iff_toInt_le, Int32.toInt_toInt64, rn_im4, rn_lm4, rn_im3, rn_lm3, rn_im2, rn_lm2, rn_im1, rn_lm1, rn_i0, rn_l0, rn_i1, rn_l1, rn_i2, rn_l2, rn_i3, rn_l3, rn_i4, rn_l4, rn_i5, rn_l5, rn_i6, rn_l6, rn_i7, rn_l7, rn_i8, rn_l8] at hc0 hc1 hc2; omega
      · by_cases hc3 : (0 : Int32) < (lg_cmp ((xs 1)).toInt64 (-1 : Int64))
        · refine ek_k (pc2 := 456) (lv2 := [(3, .int 0), (2, .ref 40), (1, .ref 2), (0, .ref 0)]) (st2 := [.int (xs 2), .int (xs 1), .ref 2]) (h3 := rn_H) 12 (M := tbM0) rfl rfl ?_
          refine ek_k (pc2 := 461) (lv2 := [(3, .int 0), (2, .ref 40), (1, .ref 2), (0, .ref 0)]) (st2 := [.int (xs 3), .int (xs 2), .int (xs 1), .ref 2]) (h3 := rn_H) 5 (M := tbM0) rfl rfl ?_
          refine ek_call (f1 := 2047) (w1 := 83976) (M := tbM0) (k := 140) (M2 := tbM140) (as := [.ref 2, .int (xs 1), .int (xs 2), .int (xs 3)]) (rest := []) rfl rfl rfl rfl rfl rfl (Nat.le_of_ble_eq_true rfl) (Nat.le_of_ble_eq_true rfl) (Nat.le_of_ble_eq_true rfl) ?_
          refine ek_k (pc2 := 5) (lv2 := [(0, .ref 2), (1, .int (xs 1)), (2, .int (xs 2)), (3, .int (xs 3))]) (st2 := [.int (xs 1), .ref 14]) (h3 := rn_H) 3 (M := tbM140) rfl rfl ?_
          refine ek_call (f1 := 2046) (w1 := 83955) (M := tbM140) (k := 83) (M2 := tbM83) (as := [.ref 14, .int (xs 1)]) (rest := []) rfl rfl rfl rfl rfl rfl (Nat.le_of_ble_eq_true rfl) (Nat.le_of_ble_eq_true rfl) (Nat.le_of_ble_eq_true rfl) ?_
          refine ek_k (pc2 := 1) (lv2 := [(0, .ref 14), (1, .int (xs 1))]) (st2 := [.int (xs 1)]) (h3 := rn_H) 1 (M := tbM83) rfl rfl ?_
          refine ek_pu (lv2 := [(0, .ref 14), (1, .int (xs 1))]) (st2 := []) (M := tbM83) rfl rfl rfl (if_neg hc0) ?_
          refine ek_k (pc2 := 9) (lv2 := [(0, .ref 14), (1, .int (xs 1))]) (st2 := [.int 0, .int (xs 1)]) (h3 := rn_H) 3 (M := tbM83) rfl rfl ?_
          refine ek_pu (lv2 := [(0, .ref 14), (1, .int (xs 1))]) (st2 := []) (M := tbM83) rfl rfl rfl (if_pos hc1) ?_
          refine ek_k (pc2 := 22) (lv2 := [(0, .ref 14), (1, .int (xs 1))]) (st2 := [.null]) (h3 := rn_H) 1 (M := tbM83) rfl rfl ?_
          refine ek_ret (r := some (.null)) (M := tbM83) rfl rfl rfl ?_
          refine ek_k (pc2 := 46) (lv2 := [(4, .null), (0, .ref 2), (1, .int (xs 1)), (2, .int (xs 2)), (3, .int (xs 3))]) (st2 := [.int (-1)]) (h3 := rn_H) 4 (M := tbM140) rfl rfl ?_
          refine ek_ret (r := some (.int (-1))) (M := tbM140) rfl rfl rfl ?_
          refine ek_k (pc2 := 476) (lv2 := [(3, .int 0), (2, .ref 40), (1, .ref 2), (0, .ref 0)]) (st2 := [.ref 0, .int (xs 2), .int (xs 1), .ref 40, .int (-1)]) (h3 := rn_H) 12 (M := tbM0) rfl rfl ?_
          refine ek_k (pc2 := 480) (lv2 := [(3, .int 0), (2, .ref 40), (1, .ref 2), (0, .ref 0)]) (st2 := [.int (xs 3), .int (xs 2), .int (xs 1), .ref 40, .int (-1)]) (h3 := rn_H) 4 (M := tbM0) rfl rfl ?_
          refine ek_call (f1 := 2047) (w1 := 83975) (M := tbM0) (k := 272) (M2 := tbM272) (as := [.ref 40, .int (xs 1), .int (xs 2), .int (xs 3)]) (rest := [.int (-1)]) rfl rfl rfl rfl rfl rfl (Nat.le_of_ble_eq_true rfl) (Nat.le_of_ble_eq_true rfl) (Nat.le_of_ble_eq_true rfl) ?_
          refine ek_k (pc2 := 2) (lv2 := [(0, .ref 40), (1, .int (xs 1)), (2, .int (xs 2)), (3, .int (xs 3))]) (st2 := [.int (xs 1), .ref 40]) (h3 := rn_H) 2 (M := tbM272) rfl rfl ?_
          refine ek_call (f1 := 2046) (w1 := 83954) (M := tbM272) (k := 264) (M2 := tbM264) (as := [.ref 40, .int (xs 1)]) (rest := []) rfl rfl rfl rfl rfl rfl (Nat.le_of_ble_eq_true rfl) (Nat.le_of_ble_eq_true rfl) (Nat.le_of_ble_eq_true rfl) ?_
          refine ek_k (pc2 := 10) (lv2 := [(0, .ref 40), (1, .int (xs 1))]) (st2 := [.long (-1), .long 0, .long ((xs 1)).toInt64]) (h3 := rn_H) 8 (M := tbM264) rfl rfl ?_
          refine ek_call (f1 := 2045) (w1 := 83929) (M := tbM264) (k := 198) (M2 := tbM198) (as := [.long ((xs 1)).toInt64, .long 0, .long (-1)]) (rest := []) rfl rfl rfl rfl rfl rfl (Nat.le_of_ble_eq_true rfl) (Nat.le_of_ble_eq_true rfl) (Nat.le_of_ble_eq_true rfl) ?_
          refine ek_k (pc2 := 3) (lv2 := [(0, .long ((xs 1)).toInt64), (2, .long 0), (4, .long (-1))]) (st2 := [.int (lg_cmp ((xs 1)).toInt64 (0 : Int64))]) (h3 := rn_H) 3 (M := tbM198) rfl rfl ?_
          refine ek_pu (lv2 := [(0, .long ((xs 1)).toInt64), (2, .long 0), (4, .long (-1))]) (st2 := []) (M := tbM198) rfl rfl rfl (if_neg hc2) ?_
          refine ek_k (pc2 := 10) (lv2 := [(0, .long ((xs 1)).toInt64), (2, .long 0), (4, .long (-1))]) (st2 := [.int (lg_cmp ((xs 1)).toInt64 (-1 : Int64))]) (h3 := rn_H) 3 (M := tbM198) rfl rfl ?_
          refine ek_pu (lv2 := [(0, .long ((xs 1)).toInt64), (2, .long 0), (4, .long (-1))]) (st2 := []) (M := tbM198) rfl rfl rfl (if_pos hc3) ?_
          refine ek_k (pc2 := 18) (lv2 := [(0, .long ((xs 1)).toInt64), (2, .long 0), (4, .long (-1))]) (st2 := [.int 0]) (h3 := rn_H) 1 (M := tbM198) rfl rfl ?_
          refine ek_ret (r := some (.int 0)) (M := tbM198) rfl rfl rfl ?_
          refine ek_ret (r := some (.int 0)) (M := tbM264) rfl rfl rfl ?_
          refine ek_k (pc2 := 51) (lv2 := [(0, .ref 40), (1, .int (xs 1)), (2, .int (xs 2)), (3, .int (xs 3))]) (st2 := [.int (-1)]) (h3 := rn_H) 2 (M := tbM272) rfl rfl ?_
          refine ek_ret (r := some (.int (-1))) (M := tbM272) rfl rfl rfl ?_
          refine ek_k (pc2 := 990) (lv2 := [(3, .int 6), (2, .ref 40), (1, .ref 2), (0, .ref 0)]) (st2 := [.int 1]) (h3 := rn_H) 10 (M := tbM0) rfl rfl ?_
          refine ek_end (r := some (.int 1)) (M := tbM0) rfl rfl rfl ?_
          exact rn_fin (S := rn_S) rfl rn_S1 rn_S2
        · exfalso; (try simp only [lg_lt, lg_gt, lg_le, lg_ge, lg_z] at hc0 hc1 hc2 hc3); simp only [← Int32.toInt_inj, ← Int64.toInt_inj, Int32.lt_iff_toInt_lt, Int32.le_iff_toInt_le, Int64.lt_iff_toInt_lt, Int64.le_iff_toInt_le, Int32.toInt_toInt64, rn_im4, rn_lm4, rn_im3, rn_lm3, rn_im2, rn_lm2, rn_im1, rn_lm1, rn_i0, rn_l0, rn_i1, rn_l1, rn_i2, rn_l2, rn_i3, rn_l3, rn_i4, rn_l4, rn_i5, rn_l5, rn_i6, rn_l6, rn_i7, rn_l7, rn_i8, rn_l8] at hc0 hc1 hc2 hc3; omega
    · exfalso; (try simp only [lg_lt, lg_gt, lg_le, lg_ge, lg_z] at hc0 hc1); simp only [← Int32.toInt_inj, ← Int64.toInt_inj, Int32.lt_iff_toInt_lt, Int32.le_iff_toInt_le, Int64.lt_iff_toInt_lt, Int64.le_iff_toInt_le, Int32.toInt_toInt64, rn_im4, rn_lm4, rn_im3, rn_lm3, rn_im2, rn_lm2, rn_im1, rn_lm1, rn_i0, rn_l0, rn_i1, rn_l1, rn_i2, rn_l2, rn_i3, rn_l3, rn_i4, rn_l4, rn_i5, rn_l5, rn_i6, rn_l6, rn_i7, rn_l7, rn_i8, rn_l8] at hc0 hc1; omega
set_option maxRecDepth 100000 in
set_option maxHeartbeats 40000000 in
theorem rn_op10 (xs : Nat → Int32) (hx : (xs 0) &&& (31 : Int32) = 10) : am_ek tbT (tb_ro 6 xs) rn_P 2048 84000 0 33 [(3, .int 0), (2, .ref 40), (1, .ref 2), (0, .ref 0)] [.int ((xs 0) &&& (31 : Int32))] rn_H [] := by
  rw [hx]
  by_cases hc0 : (xs 1) < (0 : Int32)
  · by_cases hc1 : (lg_cmp ((xs 1)).toInt64 (0 : Int64)) < (0 : Int32)
    · refine ek_k (pc2 := 494) (lv2 := [(3, .int 0), (2, .ref 40), (1, .ref 2), (0, .ref 0)]) (st2 := [.int (xs 1), .ref 2]) (h3 := rn_H) 7 (M := tbM0) rfl rfl ?_
      refine ek_call (f1 := 2047) (w1 := 83978) (M := tbM0) (k := 142) (M2 := tbM142) (as := [.ref 2, .int (xs 1)]) (rest := []) rfl rfl rfl rfl rfl rfl (Nat.le_of_ble_eq_true rfl) (Nat.le_of_ble_eq_true rfl) (Nat.le_of_ble_eq_true rfl) ?_
      refine ek_k (pc2 := 5) (lv2 := [(0, .ref 2), (1, .int (xs 1))]) (st2 := [.int (xs 1), .ref 14]) (h3 := rn_H) 3 (M := tbM142) rfl rfl ?_
      refine ek_call (f1 := 2046) (w1 := 83957) (M := tbM142) (k := 83) (M2 := tbM83) (as := [.ref 14, .int (xs 1)]) (rest := []) rfl rfl rfl rfl rfl rfl (Nat.le_of_ble_eq_true rfl) (Nat.le_of_ble_eq_true rfl) (Nat.le_of_ble_eq_true rfl) ?_
      refine ek_k (pc2 := 1) (lv2 := [(0, .ref 14), (1, .int (xs 1))]) (st2 := [.int (xs 1)]) (h3 := rn_H) 1 (M := tbM83) rfl rfl ?_
      refine ek_pu (lv2 := [(0, .ref 14), (1, .int (xs 1))]) (st2 := []) (M := tbM83) rfl rfl rfl (if_pos hc0) ?_
      refine ek_k (pc2 := 22) (lv2 := [(0, .ref 14), (1, .int (xs 1))]) (st2 := [.null]) (h3 := rn_H) 1 (M := tbM83) rfl rfl ?_
      refine ek_ret (r := some (.null)) (M := tbM83) rfl rfl rfl ?_
      refine ek_k (pc2 := 14) (lv2 := [(2, .null), (0, .ref 2), (1, .int (xs 1))]) (st2 := [.int (-1)]) (h3 := rn_H) 4 (M := tbM142) rfl rfl ?_
      refine ek_ret (r := some (.int (-1))) (M := tbM142) rfl rfl rfl ?_
      refine ek_k (pc2 := 503) (lv2 := [(3, .int 0), (2, .ref 40), (1, .ref 2), (0, .ref 0)]) (st2 := [.int (xs 1), .ref 40, .int (-1)]) (h3 := rn_H) 6 (M := tbM0) rfl rfl ?_
      refine ek_call (f1 := 2047) (w1 := 83977) (M := tbM0) (k := 273) (M2 := tbM273) (as := [.ref 40, .int (xs 1)]) (rest := [.int (-1)]) rfl rfl rfl rfl rfl rfl (Nat.le_of_ble_eq_true rfl) (Nat.le_of_ble_eq_true rfl) (Nat.le_of_ble_eq_true rfl) ?_
      refine ek_k (pc2 := 2) (lv2 := [(0, .ref 40), (1, .int (xs 1))]) (st2 := [.int (xs 1), .ref 40]) (h3 := rn_H) 2 (M := tbM273) rfl rfl ?_
      refine ek_call (f1 := 2046) (w1 := 83956) (M := tbM273) (k := 264) (M2 := tbM264) (as := [.ref 40, .int (xs 1)]) (rest := []) rfl rfl rfl rfl rfl rfl (Nat.le_of_ble_eq_true rfl) (Nat.le_of_ble_eq_true rfl) (Nat.le_of_ble_eq_true rfl) ?_
      refine ek_k (pc2 := 10) (lv2 := [(0, .ref 40), (1, .int (xs 1))]) (st2 := [.long (-1), .long 0, .long ((xs 1)).toInt64]) (h3 := rn_H) 8 (M := tbM264) rfl rfl ?_
      refine ek_call (f1 := 2045) (w1 := 83931) (M := tbM264) (k := 198) (M2 := tbM198) (as := [.long ((xs 1)).toInt64, .long 0, .long (-1)]) (rest := []) rfl rfl rfl rfl rfl rfl (Nat.le_of_ble_eq_true rfl) (Nat.le_of_ble_eq_true rfl) (Nat.le_of_ble_eq_true rfl) ?_
      refine ek_k (pc2 := 3) (lv2 := [(0, .long ((xs 1)).toInt64), (2, .long 0), (4, .long (-1))]) (st2 := [.int (lg_cmp ((xs 1)).toInt64 (0 : Int64))]) (h3 := rn_H) 3 (M := tbM198) rfl rfl ?_
      refine ek_pu (lv2 := [(0, .long ((xs 1)).toInt64), (2, .long 0), (4, .long (-1))]) (st2 := []) (M := tbM198) rfl rfl rfl (if_pos hc1) ?_
      refine ek_k (pc2 := 18) (lv2 := [(0, .long ((xs 1)).toInt64), (2, .long 0), (4, .long (-1))]) (st2 := [.int 0]) (h3 := rn_H) 1 (M := tbM198) rfl rfl ?_
      refine ek_ret (r := some (.int 0)) (M := tbM198) rfl rfl rfl ?_
      refine ek_ret (r := some (.int 0)) (M := tbM264) rfl rfl rfl ?_
      refine ek_k (pc2 := 9) (lv2 := [(0, .ref 40), (1, .int (xs 1))]) (st2 := [.int (-1)]) (h3 := rn_H) 2 (M := tbM273) rfl rfl ?_
      refine ek_ret (r := some (.int (-1))) (M := tbM273) rfl rfl rfl ?_
      refine ek_k (pc2 := 990) (lv2 := [(3, .int 6), (2, .ref 40), (1, .ref 2), (0, .ref 0)]) (st2 := [.int 1]) (h3 := rn_H) 10 (M := tbM0) rfl rfl ?_
      refine ek_end (r := some (.int 1)) (M := tbM0) rfl rfl rfl ?_
      exact rn_fin (S := rn_S) rfl rn_S1 rn_S2
    · exfalso; (try simp only [lg_lt, lg_gt, lg_le, lg_ge, lg_z] at hc0 hc1); simp only [← Int32.toInt_inj, ← Int64.toInt_inj, Int32.lt_iff_toInt_lt, Int32.le_iff_toInt_le, Int64.lt_iff_toInt_lt, Int64.le_iff_toInt_le, Int32.toInt_toInt64, rn_im4, rn_lm4, rn_im3, rn_lm3, rn_im2, rn_lm2, rn_im1, rn_lm1, rn_i0, rn_l0, rn_i1, rn_l1, rn_i2, rn_l2, rn_i3, rn_l3, rn_i4, rn_l4, rn_i5, rn_l5, rn_i6, rn_l6, rn_i7, rn_l7, rn_i8, rn_l8] at hc0 hc1; omega
  · by_cases hc1 : (0 : Int32) ≤ (xs 1)
    · by_cases hc2 : (lg_cmp ((xs 1)).toInt64 (0 : Int64)) < (0 : Int32)
      · exfalso; (try simp only [lg_lt, lg_gt, lg_le, lg_ge, lg_z] at hc0 hc1 hc2); simp only [← Int32.toInt_inj, ← Int64.toInt_inj, Int32.lt_iff_toInt_lt, Int32.le_iff_toInt_le, Int64.lt_iff_toInt_lt, Int64.le_iff_toInt_le, Int32.toInt_toInt64, rn_im4, rn_lm4, rn_im3, rn_lm3, rn_im2, rn_lm2, rn_im1, rn_lm1, rn_i0, rn_l0, rn_i1, rn_l1, rn_i2, rn_l2, rn_i3, rn_l3, rn_i4, rn_l4, rn_i5, rn_l5, rn_i6, rn_l6, rn_i7, rn_l7, rn_i8, rn_l8] at hc0 hc1 hc2; omega
      · by_cases hc3 : (0 : Int32) < (lg_cmp ((xs 1)).toInt64 (-1 : Int64))
        · refine ek_k (pc2 := 494) (lv2 := [(3, .int 0), (2, .ref 40), (1, .ref 2), (0, .ref 0)]) (st2 := [.int (xs 1), .ref 2]) (h3 := rn_H) 7 (M := tbM0) rfl rfl ?_
          refine ek_call (f1 := 2047) (w1 := 83978) (M := tbM0) (k := 142) (M2 := tbM142) (as := [.ref 2, .int (xs 1)]) (rest := []) rfl rfl rfl rfl rfl rfl (Nat.le_of_ble_eq_true rfl) (Nat.le_of_ble_eq_true rfl) (Nat.le_of_ble_eq_true rfl) ?_
          refine ek_k (pc2 := 5) (lv2 := [(0, .ref 2), (1, .int (xs 1))]) (st2 := [.int (xs 1), .ref 14]) (h3 := rn_H) 3 (M := tbM142) rfl rfl ?_
          refine ek_call (f1 := 2046) (w1 := 83957) (M := tbM142) (k := 83) (M2 := tbM83) (as := [.ref 14, .int (xs 1)]) (rest := []) rfl rfl rfl rfl rfl rfl (Nat.le_of_ble_eq_true rfl) (Nat.le_of_ble_eq_true rfl) (Nat.le_of_ble_eq_true rfl) ?_
          refine ek_k (pc2 := 1) (lv2 := [(0, .ref 14), (1, .int (xs 1))]) (st2 := [.int (xs 1)]) (h3 := rn_H) 1 (M := tbM83) rfl rfl ?_
          refine ek_pu (lv2 := [(0, .ref 14), (1, .int (xs 1))]) (st2 := []) (M := tbM83) rfl rfl rfl (if_neg hc0) ?_
          refine ek_k (pc2 := 9) (lv2 := [(0, .ref 14), (1, .int (xs 1))]) (st2 := [.int 0, .int (xs 1)]) (h3 := rn_H) 3 (M := tbM83) rfl rfl ?_
          refine ek_pu (lv2 := [(0, .ref 14), (1, .int (xs 1))]) (st2 := []) (M := tbM83) rfl rfl rfl (if_pos hc1) ?_
          refine ek_k (pc2 := 22) (lv2 := [(0, .ref 14), (1, .int (xs 1))]) (st2 := [.null]) (h3 := rn_H) 1 (M := tbM83) rfl rfl ?_
          refine ek_ret (r := some (.null)) (M := tbM83) rfl rfl rfl ?_
          refine ek_k (pc2 := 14) (lv2 := [(2, .null), (0, .ref 2), (1, .int (xs 1))]) (st2 := [.int (-1)]) (h3 := rn_H) 4 (M := tbM142) rfl rfl ?_
          refine ek_ret (r := some (.int (-1))) (M := tbM142) rfl rfl rfl ?_
          refine ek_k (pc2 := 503) (lv2 := [(3, .int 0), (2, .ref 40), (1, .ref 2), (0, .ref 0)]) (st2 := [.int (xs 1), .ref 40, .int (-1)]) (h3 := rn_H) 6 (M := tbM0) rfl rfl ?_
          refine ek_call (f1 := 2047) (w1 := 83977) (M := tbM0) (k := 273) (M2 := tbM273) (as := [.ref 40, .int (xs 1)]) (rest := [.int (-1)]) rfl rfl rfl rfl rfl rfl (Nat.le_of_ble_eq_true rfl) (Nat.le_of_ble_eq_true rfl) (Nat.le_of_ble_eq_true rfl) ?_
          refine ek_k (pc2 := 2) (lv2 := [(0, .ref 40), (1, .int (xs 1))]) (st2 := [.int (xs 1), .ref 40]) (h3 := rn_H) 2 (M := tbM273) rfl rfl ?_
          refine ek_call (f1 := 2046) (w1 := 83956) (M := tbM273) (k := 264) (M2 := tbM264) (as := [.ref 40, .int (xs 1)]) (rest := []) rfl rfl rfl rfl rfl rfl (Nat.le_of_ble_eq_true rfl) (Nat.le_of_ble_eq_true rfl) (Nat.le_of_ble_eq_true rfl) ?_
          refine ek_k (pc2 := 10) (lv2 := [(0, .ref 40), (1, .int (xs 1))]) (st2 := [.long (-1), .long 0, .long ((xs 1)).toInt64]) (h3 := rn_H) 8 (M := tbM264) rfl rfl ?_
          refine ek_call (f1 := 2045) (w1 := 83931) (M := tbM264) (k := 198) (M2 := tbM198) (as := [.long ((xs 1)).toInt64, .long 0, .long (-1)]) (rest := []) rfl rfl rfl rfl rfl rfl (Nat.le_of_ble_eq_true rfl) (Nat.le_of_ble_eq_true rfl) (Nat.le_of_ble_eq_true rfl) ?_
          refine ek_k (pc2 := 3) (lv2 := [(0, .long ((xs 1)).toInt64), (2, .long 0), (4, .long (-1))]) (st2 := [.int (lg_cmp ((xs 1)).toInt64 (0 : Int64))]) (h3 := rn_H) 3 (M := tbM198) rfl rfl ?_
          refine ek_pu (lv2 := [(0, .long ((xs 1)).toInt64), (2, .long 0), (4, .long (-1))]) (st2 := []) (M := tbM198) rfl rfl rfl (if_neg hc2) ?_
          refine ek_k (pc2 := 10) (lv2 := [(0, .long ((xs 1)).toInt64), (2, .long 0), (4, .long (-1))]) (st2 := [.int (lg_cmp ((xs 1)).toInt64 (-1 : Int64))]) (h3 := rn_H) 3 (M := tbM198) rfl rfl ?_
          refine ek_pu (lv2 := [(0, .long ((xs 1)).toInt64), (2, .long 0), (4, .long (-1))]) (st2 := []) (M := tbM198) rfl rfl rfl (if_pos hc3) ?_
          refine ek_k (pc2 := 18) (lv2 := [(0, .long ((xs 1)).toInt64), (2, .long 0), (4, .long (-1))]) (st2 := [.int 0]) (h3 := rn_H) 1 (M := tbM198) rfl rfl ?_
          refine ek_ret (r := some (.int 0)) (M := tbM198) rfl rfl rfl ?_
          refine ek_ret (r := some (.int 0)) (M := tbM264) rfl rfl rfl ?_
          refine ek_k (pc2 := 9) (lv2 := [(0, .ref 40), (1, .int (xs 1))]) (st2 := [.int (-1)]) (h3 := rn_H) 2 (M := tbM273) rfl rfl ?_
          refine ek_ret (r := some (.int (-1))) (M := tbM273) rfl rfl rfl ?_
          refine ek_k (pc2 := 990) (lv2 := [(3, .int 6), (2, .ref 40), (1, .ref 2), (0, .ref 0)]) (st2 := [.int 1]) (h3 := rn_H) 10 (M := tbM0) rfl rfl ?_
          refine ek_end (r := some (.int 1)) (M := tbM0) rfl rfl rfl ?_
          exact rn_fin (S := rn_S) rfl rn_S1 rn_S2
        · exfalso; (try simp only [lg_lt, lg_gt, lg_le, lg_ge, lg_z] at hc0 hc1 hc2 hc3); simp only [← Int32.toInt_inj, ← Int64.toInt_inj, Int32.lt_iff_toInt_lt, Int32.le_iff_toInt_le, Int64.lt_iff_toInt_lt, Int64.le_iff_toInt_le, Int32.toInt_toInt64, rn_im4, rn_lm4, rn_im3, rn_lm3, rn_im2, rn_lm2, rn_im1, rn_lm1, rn_i0, rn_l0, rn_i1, rn_l1, rn_i2, rn_l2, rn_i3, rn_l3, rn_i4, rn_l4, rn_i5, rn_l5, rn_i6, rn_l6, rn_i7, rn_l7, rn_i8, rn_l8] at hc0 hc1 hc2 hc3; omega
    · exfalso; (try simp only [lg_lt, lg_gt, lg_le, lg_ge, lg_z] at hc0 hc1); simp only [← Int32.toInt_inj, ← Int64.toInt_inj, Int32.lt_iff_toInt_lt, Int32.le_iff_toInt_le, Int64.lt_iff_toInt_lt, Int64.le_iff_toInt_le, Int32.toInt_toInt64, rn_im4, rn_lm4, rn_im3, rn_lm3, rn_im2, rn_lm2, rn_im1, rn_lm1, rn_i0, rn_l0, rn_i1, rn_l1, rn_i2, rn_l2, rn_i3, rn_l3, rn_i4, rn_l4, rn_i5, rn_l5, rn_i6, rn_l6, rn_i7, rn_l7, rn_i8, rn_l8] at hc0 hc1; omega
set_option maxRecDepth 100000 in
set_option maxHeartbeats 40000000 in
theorem rn_op11 (xs : Nat → Int32) (hx : (xs 0) &&& (31 : Int32) = 11) : am_ek tbT (tb_ro 6 xs) rn_P 2048 84000 0 33 [(3, .int 0), (2, .ref 40), (1, .ref 2), (0, .ref 0)] [.int ((xs 0) &&& (31 : Int32))] rn_H [] := by
  rw [hx]
  by_cases hc0 : (xs 1) < (0 : Int32)
  · by_cases hc1 : (lg_cmp ((xs 1)).toInt64 (0 : Int64)) < (0 : Int32)
    · refine ek_k (pc2 := 522) (lv2 := [(3, .int 0), (2, .ref 40), (1, .ref 2), (0, .ref 0)]) (st2 := [.int (xs 2), .int (xs 1), .ref 2]) (h3 := rn_H) 12 (M := tbM0) rfl rfl ?_
      refine ek_call (f1 := 2047) (w1 := 83977) (M := tbM0) (k := 145) (M2 := tbM145) (as := [.ref 2, .int (xs 1), .int (xs 2)]) (rest := []) rfl rfl rfl rfl rfl rfl (Nat.le_of_ble_eq_true rfl) (Nat.le_of_ble_eq_true rfl) (Nat.le_of_ble_eq_true rfl) ?_
      refine ek_k (pc2 := 5) (lv2 := [(0, .ref 2), (1, .int (xs 1)), (2, .int (xs 2))]) (st2 := [.int (xs 1), .ref 14]) (h3 := rn_H) 3 (M := tbM145) rfl rfl ?_
      refine ek_call (f1 := 2046) (w1 := 83956) (M := tbM145) (k := 83) (M2 := tbM83) (as := [.ref 14, .int (xs 1)]) (rest := []) rfl rfl rfl rfl rfl rfl (Nat.le_of_ble_eq_true rfl) (Nat.le_of_ble_eq_true rfl) (Nat.le_of_ble_eq_true rfl) ?_
      refine ek_k (pc2 := 1) (lv2 := [(0, .ref 14), (1, .int (xs 1))]) (st2 := [.int (xs 1)]) (h3 := rn_H) 1 (M := tbM83) rfl rfl ?_
      refine ek_pu (lv2 := [(0, .ref 14), (1, .int (xs 1))]) (st2 := []) (M := tbM83) rfl rfl rfl (if_pos hc0) ?_
      refine ek_k (pc2 := 22) (lv2 := [(0, .ref 14), (1, .int (xs 1))]) (st2 := [.null]) (h3 := rn_H) 1 (M := tbM83) rfl rfl ?_
      refine ek_ret (r := some (.null)) (M := tbM83) rfl rfl rfl ?_
      refine ek_k (pc2 := 26) (lv2 := [(3, .null), (0, .ref 2), (1, .int (xs 1)), (2, .int (xs 2))]) (st2 := [.int (-1)]) (h3 := rn_H) 4 (M := tbM145) rfl rfl ?_
      refine ek_ret (r := some (.int (-1))) (M := tbM145) rfl rfl rfl ?_
      refine ek_k (pc2 := 536) (lv2 := [(3, .int 0), (2, .ref 40), (1, .ref 2), (0, .ref 0)]) (st2 := [.int (xs 2), .int (xs 1), .ref 40, .int (-1)]) (h3 := rn_H) 11 (M := tbM0) rfl rfl ?_
      refine ek_call (f1 := 2047) (w1 := 83976) (M := tbM0) (k := 274) (M2 := tbM274) (as := [.ref 40, .int (xs 1), .int (xs 2)]) (rest := [.int (-1)]) rfl rfl rfl rfl rfl rfl (Nat.le_of_ble_eq_true rfl) (Nat.le_of_ble_eq_true rfl) (Nat.le_of_ble_eq_true rfl) ?_
      refine ek_k (pc2 := 2) (lv2 := [(0, .ref 40), (1, .int (xs 1)), (2, .int (xs 2))]) (st2 := [.int (xs 1), .ref 40]) (h3 := rn_H) 2 (M := tbM274) rfl rfl ?_
      refine ek_call (f1 := 2046) (w1 := 83955) (M := tbM274) (k := 264) (M2 := tbM264) (as := [.ref 40, .int (xs 1)]) (rest := []) rfl rfl rfl rfl rfl rfl (Nat.le_of_ble_eq_true rfl) (Nat.le_of_ble_eq_true rfl) (Nat.le_of_ble_eq_true rfl) ?_
      refine ek_k (pc2 := 10) (lv2 := [(0, .ref 40), (1, .int (xs 1))]) (st2 := [.long (-1), .long 0, .long ((xs 1)).toInt64]) (h3 := rn_H) 8 (M := tbM264) rfl rfl ?_
      refine ek_call (f1 := 2045) (w1 := 83930) (M := tbM264) (k := 198) (M2 := tbM198) (as := [.long ((xs 1)).toInt64, .long 0, .long (-1)]) (rest := []) rfl rfl rfl rfl rfl rfl (Nat.le_of_ble_eq_true rfl) (Nat.le_of_ble_eq_true rfl) (Nat.le_of_ble_eq_true rfl) ?_
      refine ek_k (pc2 := 3) (lv2 := [(0, .long ((xs 1)).toInt64), (2, .long 0), (4, .long (-1))]) (st2 := [.int (lg_cmp ((xs 1)).toInt64 (0 : Int64))]) (h3 := rn_H) 3 (M := tbM198) rfl rfl ?_
      refine ek_pu (lv2 := [(0, .long ((xs 1)).toInt64), (2, .long 0), (4, .long (-1))]) (st2 := []) (M := tbM198) rfl rfl rfl (if_pos hc1) ?_
      refine ek_k (pc2 := 18) (lv2 := [(0, .long ((xs 1)).toInt64), (2, .long 0), (4, .long (-1))]) (st2 := [.int 0]) (h3 := rn_H) 1 (M := tbM198) rfl rfl ?_
      refine ek_ret (r := some (.int 0)) (M := tbM198) rfl rfl rfl ?_
      refine ek_ret (r := some (.int 0)) (M := tbM264) rfl rfl rfl ?_
      refine ek_k (pc2 := 27) (lv2 := [(0, .ref 40), (1, .int (xs 1)), (2, .int (xs 2))]) (st2 := [.int (-1)]) (h3 := rn_H) 2 (M := tbM274) rfl rfl ?_
      refine ek_ret (r := some (.int (-1))) (M := tbM274) rfl rfl rfl ?_
      refine ek_k (pc2 := 990) (lv2 := [(3, .int 6), (2, .ref 40), (1, .ref 2), (0, .ref 0)]) (st2 := [.int 1]) (h3 := rn_H) 10 (M := tbM0) rfl rfl ?_
      refine ek_end (r := some (.int 1)) (M := tbM0) rfl rfl rfl ?_
      exact rn_fin (S := rn_S) rfl rn_S1 rn_S2
    · exfalso; (try simp only [lg_lt, lg_gt, lg_le, lg_ge, lg_z] at hc0 hc1); simp only [← Int32.toInt_inj, ← Int64.toInt_inj, Int32.lt_iff_toInt_lt, Int32.le_iff_toInt_le, Int64.lt_iff_toInt_lt, Int64.le_iff_toInt_le, Int32.toInt_toInt64, rn_im4, rn_lm4, rn_im3, rn_lm3, rn_im2, rn_lm2, rn_im1, rn_lm1, rn_i0, rn_l0, rn_i1, rn_l1, rn_i2, rn_l2, rn_i3, rn_l3, rn_i4, rn_l4, rn_i5, rn_l5, rn_i6, rn_l6, rn_i7, rn_l7, rn_i8, rn_l8] at hc0 hc1; omega
  · by_cases hc1 : (0 : Int32) ≤ (xs 1)
    · by_cases hc2 : (lg_cmp ((xs 1)).toInt64 (0 : Int64)) < (0 : Int32)
      · exfalso; (try simp only [lg_lt, lg_gt, lg_le, lg_ge, lg_z] at hc0 hc1 hc2); simp only [← Int32.toInt_inj, ← Int64.toInt_inj, Int32.lt_iff_toInt_lt, Int32.le_iff_toInt_le, Int64.lt_iff_toInt_lt, Int64.le_iff_toInt_le, Int32.toInt_toInt64, rn_im4, rn_lm4, rn_im3, rn_lm3, rn_im2, rn_lm2, rn_im1, rn_lm1, rn_i0, rn_l0, rn_i1, rn_l1, rn_i2, rn_l2, rn_i3, rn_l3, rn_i4, rn_l4, rn_i5, rn_l5, rn_i6, rn_l6, rn_i7, rn_l7, rn_i8, rn_l8] at hc0 hc1 hc2; omega
      · by_cases hc3 : (0 : Int32) < (lg_cmp ((xs 1)).toInt64 (-1 : Int64))
        · refine ek_k (pc2 := 522) (lv2 := [(3, .int 0), (2, .ref 40), (1, .ref 2), (0, .ref 0)]) (st2 := [.int (xs 2), .int (xs 1), .ref 2]) (h3 := rn_H) 12 (M := tbM0) rfl rfl ?_
          refine ek_call (f1 := 2047) (w1 := 83977) (M := tbM0) (k := 145) (M2 := tbM145) (as := [.ref 2, .int (xs 1), .int (xs 2)]) (rest := []) rfl rfl rfl rfl rfl rfl (Nat.le_of_ble_eq_true rfl) (Nat.le_of_ble_eq_true rfl) (Nat.le_of_ble_eq_true rfl) ?_
          refine ek_k (pc2 := 5) (lv2 := [(0, .ref 2), (1, .int (xs 1)), (2, .int (xs 2))]) (st2 := [.int (xs 1), .ref 14]) (h3 := rn_H) 3 (M := tbM145) rfl rfl ?_
          refine ek_call (f1 := 2046) (w1 := 83956) (M := tbM145) (k := 83) (M2 := tbM83) (as := [.ref 14, .int (xs 1)]) (rest := []) rfl rfl rfl rfl rfl rfl (Nat.le_of_ble_eq_true rfl) (Nat.le_of_ble_eq_true rfl) (Nat.le_of_ble_eq_true rfl) ?_
          refine ek_k (pc2 := 1) (lv2 := [(0, .ref 14), (1, .int (xs 1))]) (st2 := [.int (xs 1)]) (h3 := rn_H) 1 (M := tbM83) rfl rfl ?_
          refine ek_pu (lv2 := [(0, .ref 14), (1, .int (xs 1))]) (st2 := []) (M := tbM83) rfl rfl rfl (if_neg hc0) ?_
          refine ek_k (pc2 := 9) (lv2 := [(0, .ref 14), (1, .int (xs 1))]) (st2 := [.int 0, .int (xs 1)]) (h3 := rn_H) 3 (M := tbM83) rfl rfl ?_
          refine ek_pu (lv2 := [(0, .ref 14), (1, .int (xs 1))]) (st2 := []) (M := tbM83) rfl rfl rfl (if_pos hc1) ?_
          refine ek_k (pc2 := 22) (lv2 := [(0, .ref 14), (1, .int (xs 1))]) (st2 := [.null]) (h3 := rn_H) 1 (M := tbM83) rfl rfl ?_
          refine ek_ret (r := some (.null)) (M := tbM83) rfl rfl rfl ?_
          refine ek_k (pc2 := 26) (lv2 := [(3, .null), (0, .ref 2), (1, .int (xs 1)), (2, .int (xs 2))]) (st2 := [.int (-1)]) (h3 := rn_H) 4 (M := tbM145) rfl rfl ?_
          refine ek_ret (r := some (.int (-1))) (M := tbM145) rfl rfl rfl ?_
          refine ek_k (pc2 := 536) (lv2 := [(3, .int 0), (2, .ref 40), (1, .ref 2), (0, .ref 0)]) (st2 := [.int (xs 2), .int (xs 1), .ref 40, .int (-1)]) (h3 := rn_H) 11 (M := tbM0) rfl rfl ?_
          refine ek_call (f1 := 2047) (w1 := 83976) (M := tbM0) (k := 274) (M2 := tbM274) (as := [.ref 40, .int (xs 1), .int (xs 2)]) (rest := [.int (-1)]) rfl rfl rfl rfl rfl rfl (Nat.le_of_ble_eq_true rfl) (Nat.le_of_ble_eq_true rfl) (Nat.le_of_ble_eq_true rfl) ?_
          refine ek_k (pc2 := 2) (lv2 := [(0, .ref 40), (1, .int (xs 1)), (2, .int (xs 2))]) (st2 := [.int (xs 1), .ref 40]) (h3 := rn_H) 2 (M := tbM274) rfl rfl ?_
          refine ek_call (f1 := 2046) (w1 := 83955) (M := tbM274) (k := 264) (M2 := tbM264) (as := [.ref 40, .int (xs 1)]) (rest := []) rfl rfl rfl rfl rfl rfl (Nat.le_of_ble_eq_true rfl) (Nat.le_of_ble_eq_true rfl) (Nat.le_of_ble_eq_true rfl) ?_
          refine ek_k (pc2 := 10) (lv2 := [(0, .ref 40), (1, .int (xs 1))]) (st2 := [.long (-1), .long 0, .long ((xs 1)).toInt64]) (h3 := rn_H) 8 (M := tbM264) rfl rfl ?_
          refine ek_call (f1 := 2045) (w1 := 83930) (M := tbM264) (k := 198) (M2 := tbM198) (as := [.long ((xs 1)).toInt64, .long 0, .long (-1)]) (rest := []) rfl rfl rfl rfl rfl rfl (Nat.le_of_ble_eq_true rfl) (Nat.le_of_ble_eq_true rfl) (Nat.le_of_ble_eq_true rfl) ?_
          refine ek_k (pc2 := 3) (lv2 := [(0, .long ((xs 1)).toInt64), (2, .long 0), (4, .long (-1))]) (st2 := [.int (lg_cmp ((xs 1)).toInt64 (0 : Int64))]) (h3 := rn_H) 3 (M := tbM198) rfl rfl ?_
          refine ek_pu (lv2 := [(0, .long ((xs 1)).toInt64), (2, .long 0), (4, .long (-1))]) (st2 := []) (M := tbM198) rfl rfl rfl (if_neg hc2) ?_
          refine ek_k (pc2 := 10) (lv2 := [(0, .long ((xs 1)).toInt64), (2, .long 0), (4, .long (-1))]) (st2 := [.int (lg_cmp ((xs 1)).toInt64 (-1 : Int64))]) (h3 := rn_H) 3 (M := tbM198) rfl rfl ?_
          refine ek_pu (lv2 := [(0, .long ((xs 1)).toInt64), (2, .long 0), (4, .long (-1))]) (st2 := []) (M := tbM198) rfl rfl rfl (if_pos hc3) ?_
          refine ek_k (pc2 := 18) (lv2 := [(0, .long ((xs 1)).toInt64), (2, .long 0), (4, .long (-1))]) (st2 := [.int 0]) (h3 := rn_H) 1 (M := tbM198) rfl rfl ?_
          refine ek_ret (r := some (.int 0)) (M := tbM198) rfl rfl rfl ?_
          refine ek_ret (r := some (.int 0)) (M := tbM264) rfl rfl rfl ?_
          refine ek_k (pc2 := 27) (lv2 := [(0, .ref 40), (1, .int (xs 1)), (2, .int (xs 2))]) (st2 := [.int (-1)]) (h3 := rn_H) 2 (M := tbM274) rfl rfl ?_
          refine ek_ret (r := some (.int (-1))) (M := tbM274) rfl rfl rfl ?_
          refine ek_k (pc2 := 990) (lv2 := [(3, .int 6), (2, .ref 40), (1, .ref 2), (0, .ref 0)]) (st2 := [.int 1]) (h3 := rn_H) 10 (M := tbM0) rfl rfl ?_
          refine ek_end (r := some (.int 1)) (M := tbM0) rfl rfl rfl ?_
          exact rn_fin (S := rn_S) rfl rn_S1 rn_S2
        · exfalso; (try simp only [lg_lt, lg_gt, lg_le, lg_ge, lg_z] at hc0 hc1 hc2 hc3); simp only [← Int32.toInt_inj, ← Int64.toInt_inj, Int32.lt_iff_toInt_lt, Int32.le_iff_toInt_le, Int64.lt_iff_toInt_lt, Int64.le_iff_toInt_le, Int32.toInt_toInt64, rn_im4, rn_lm4, rn_im3, rn_lm3, rn_im2, rn_lm2, rn_im1, rn_lm1, rn_i0, rn_l0, rn_i1, rn_l1, rn_i2, rn_l2, rn_i3, rn_l3, rn_i4, rn_l4, rn_i5, rn_l5, rn_i6, rn_l6, rn_i7, rn_l7, rn_i8, rn_l8] at hc0 hc1 hc2 hc3; omega
    · exfalso; (try simp only [lg_lt, lg_gt, lg_le, lg_ge, lg_z] at hc0 hc1); simp only [← Int32.toInt_inj, ← Int64.toInt_inj, Int32.lt_iff_toInt_lt, Int32.le_iff_toInt_le, Int64.lt_iff_toInt_lt, Int64.le_iff_toInt_le, Int32.toInt_toInt64, rn_im4, rn_lm4, rn_im3, rn_lm3, rn_im2, rn_lm2, rn_im1, rn_lm1, rn_i0, rn_l0, rn_i1, rn_l1, rn_i2, rn_l2, rn_i3, rn_l3, rn_i4, rn_l4, rn_i5, rn_l5, rn_i6, rn_l6, rn_i7, rn_l7, rn_i8, rn_l8] at hc0 hc1; omega
