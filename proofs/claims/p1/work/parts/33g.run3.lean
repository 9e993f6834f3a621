set_option maxRecDepth 100000 in
set_option maxHeartbeats 40000000 in
theorem rn_op21_0 (xs : Nat → Int32) (hx : (xs 0) &&& (31 : Int32) = 21) (hs : xs 1 = 0) : am_ek tbT (tb_ro 6 xs) rn_P 2048 84000 0 33 [(3, .int 0), (2, .ref 40), (1, .ref 2), (0, .ref 0)] [.int ((xs 0) &&& (31 : Int32))] rn_H [] := by
  rw [hx]
  refine ek_k (pc2 := 897) (lv2 := [(3, .int 0), (2, .ref 40), (1, .ref 2), (0, .ref 0)]) (st2 := [.int (xs 1), .ref 2]) (h3 := rn_H) 7 (M := tbM0) rfl rfl ?_
  rw [hs]
  refine ek_call (f1 := 2047) (w1 := 83979) (M := tbM0) (k := 192) (M2 := tbM192) (as := [.ref 2, .int 0]) (rest := []) rfl rfl rfl rfl rfl rfl (Nat.le_of_ble_eq_true rfl) (Nat.le_of_ble_eq_true rfl) (Nat.le_of_ble_eq_true rfl) ?_
  refine ek_k (pc2 := 23) (lv2 := [(0, .ref 2), (1, .int 0)]) (st2 := [.int 0]) (h3 := rn_H) 10 (M := tbM192) rfl rfl ?_
  refine ek_ret (r := some (.int 0)) (M := tbM192) rfl rfl rfl ?_
  refine ek_k (pc2 := 906) (lv2 := [(3, .int 0), (2, .ref 40), (1, .ref 2), (0, .ref 0)]) (st2 := [.int (xs 1), .ref 40, .int 0]) (h3 := rn_H) 6 (M := tbM0) rfl rfl ?_
  rw [hs]
  refine ek_call (f1 := 2047) (w1 := 83979) (M := tbM0) (k := 298) (M2 := tbM298) (as := [.ref 40, .int 0]) (rest := [.int 0]) rfl rfl rfl rfl rfl rfl (Nat.le_of_ble_eq_true rfl) (Nat.le_of_ble_eq_true rfl) (Nat.le_of_ble_eq_true rfl) ?_
  refine ek_k (pc2 := 6) (lv2 := [(0, .ref 40), (1, .int 0)]) (st2 := [.long 6, .long 0, .long 0]) (h3 := rn_H) 4 (M := tbM298) rfl rfl ?_
  refine ek_call (f1 := 2046) (w1 := 83954) (M := tbM298) (k := 198) (M2 := tbM198) (as := [.long 0, .long 0, .long 6]) (rest := []) rfl rfl rfl rfl rfl rfl (Nat.le_of_ble_eq_true rfl) (Nat.le_of_ble_eq_true rfl) (Nat.le_of_ble_eq_true rfl) ?_
  refine ek_k (pc2 := 18) (lv2 := [(0, .long 0), (2, .long 0), (4, .long 6)]) (st2 := [.int 1]) (h3 := rn_H) 10 (M := tbM198) rfl rfl ?_
  refine ek_ret (r := some (.int 1)) (M := tbM198) rfl rfl rfl ?_
  refine ek_k (pc2 := 22) (lv2 := [(0, .ref 40), (1, .int 0)]) (st2 := [.int 0]) (h3 := rn_H) 5 (M := tbM298) rfl rfl ?_
  refine ek_ret (r := some (.int 0)) (M := tbM298) rfl rfl rfl ?_
  refine ek_k (pc2 := 990) (lv2 := [(3, .int 6), (2, .ref 40), (1, .ref 2), (0, .ref 0)]) (st2 := [.int 1]) (h3 := rn_H) 10 (M := tbM0) rfl rfl ?_
  refine ek_end (r := some (.int 1)) (M := tbM0) rfl rfl rfl ?_
  exact rn_fin (S := rn_S) rfl rn_S1 rn_S2
set_option maxRecDepth 100000 in
set_option maxHeartbeats 40000000 in
theorem rn_op21_1 (xs : Nat → Int32) (hx : (xs 0) &&& (31 : Int32) = 21) (hs : xs 1 = 1) : am_ek tbT (tb_ro 6 xs) rn_P 2048 84000 0 33 [(3, .int 0), (2, .ref 40), (1, .ref 2), (0, .ref 0)] [.int ((xs 0) &&& (31 : Int32))] rn_H [] := by
  rw [hx]
  refine ek_k (pc2 := 897) (lv2 := [(3, .int 0), (2, .ref 40), (1, .ref 2), (0, .ref 0)]) (st2 := [.int (xs 1), .ref 2]) (h3 := rn_H) 7 (M := tbM0) rfl rfl ?_
  rw [hs]
  refine ek_call (f1 := 2047) (w1 := 83979) (M := tbM0) (k := 192) (M2 := tbM192) (as := [.ref 2, .int 1]) (rest := []) rfl rfl rfl rfl rfl rfl (Nat.le_of_ble_eq_true rfl) (Nat.le_of_ble_eq_true rfl) (Nat.le_of_ble_eq_true rfl) ?_
  refine ek_k (pc2 := 23) (lv2 := [(0, .ref 2), (1, .int 1)]) (st2 := [.int 0]) (h3 := rn_H) 10 (M := tbM192) rfl rfl ?_
  refine ek_ret (r := some (.int 0)) (M := tbM192) rfl rfl rfl ?_
  refine ek_k (pc2 := 906) (lv2 := [(3, .int 0), (2, .ref 40), (1, .ref 2), (0, .ref 0)]) (st2 := [.int (xs 1), .ref 40, .int 0]) (h3 := rn_H) 6 (M := tbM0) rfl rfl ?_
  rw [hs]
  refine ek_call (f1 := 2047) (w1 := 83979) (M := tbM0) (k := 298) (M2 := tbM298) (as := [.ref 40, .int 1]) (rest := [.int 0]) rfl rfl rfl rfl rfl rfl (Nat.le_of_ble_eq_true rfl) (Nat.le_of_ble_eq_true rfl) (Nat.le_of_ble_eq_true rfl) ?_
  refine ek_k (pc2 := 6) (lv2 := [(0, .ref 40), (1, .int 1)]) (st2 := [.long 6, .long 0, .long 1]) (h3 := rn_H) 4 (M := tbM298) rfl rfl ?_
  refine ek_call (f1 := 2046) (w1 := 83954) (M := tbM298) (k := 198) (M2 := tbM198) (as := [.long 1, .long 0, .long 6]) (rest := []) rfl rfl rfl rfl rfl rfl (Nat.le_of_ble_eq_true rfl) (Nat.le_of_ble_eq_true rfl) (Nat.le_of_ble_eq_true rfl) ?_
  refine ek_k (pc2 := 18) (lv2 := [(0, .long 1), (2, .long 0), (4, .long 6)]) (st2 := [.int 1]) (h3 := rn_H) 10 (M := tbM198) rfl rfl ?_
  refine ek_ret (r := some (.int 1)) (M := tbM198) rfl rfl rfl ?_
  refine ek_k (pc2 := 22) (lv2 := [(0, .ref 40), (1, .int 1)]) (st2 := [.int 0]) (h3 := rn_H) 5 (M := tbM298) rfl rfl ?_
  refine ek_ret (r := some (.int 0)) (M := tbM298) rfl rfl rfl ?_
  refine ek_k (pc2 := 990) (lv2 := [(3, .int 6), (2, .ref 40), (1, .ref 2), (0, .ref 0)]) (st2 := [.int 1]) (h3 := rn_H) 10 (M := tbM0) rfl rfl ?_
  refine ek_end (r := some (.int 1)) (M := tbM0) rfl rfl rfl ?_
  exact rn_fin (S := rn_S) rfl rn_S1 rn_S2
set_option maxRecDepth 100000 in
set_option maxHeartbeats 40000000 in
theorem rn_op21_2 (xs : Nat → Int32) (hx : (xs 0) &&& (31 : Int32) = 21) (hs : xs 1 = 2) : am_ek tbT (tb_ro 6 xs) rn_P 2048 84000 0 33 [(3, .int 0), (2, .ref 40), (1, .ref 2), (0, .ref 0)] [.int ((xs 0) &&& (31 : Int32))] rn_H [] := by
  rw [hx]
  refine ek_k (pc2 := 897) (lv2 := [(3, .int 0), (2, .ref 40), (1, .ref 2), (0, .ref 0)]) (st2 := [.int (xs 1), .ref 2]) (h3 := rn_H) 7 (M := tbM0) rfl rfl ?_
  rw [hs]
  refine ek_call (f1 := 2047) (w1 := 83979) (M := tbM0) (k := 192) (M2 := tbM192) (as := [.ref 2, .int 2]) (rest := []) rfl rfl rfl rfl rfl rfl (Nat.le_of_ble_eq_true rfl) (Nat.le_of_ble_eq_true rfl) (Nat.le_of_ble_eq_true rfl) ?_
  refine ek_k (pc2 := 23) (lv2 := [(0, .ref 2), (1, .int 2)]) (st2 := [.int 0]) (h3 := rn_H) 10 (M := tbM192) rfl rfl ?_
  refine ek_ret (r := some (.int 0)) (M := tbM192) rfl rfl rfl ?_
  refine ek_k (pc2 := 906) (lv2 := [(3, .int 0), (2, .ref 40), (1, .ref 2), (0, .ref 0)]) (st2 := [.int (xs 1), .ref 40, .int 0]) (h3 := rn_H) 6 (M := tbM0) rfl rfl ?_
  rw [hs]
  refine ek_call (f1 := 2047) (w1 := 83979) (M := tbM0) (k := 298) (M2 := tbM298) (as := [.ref 40, .int 2]) (rest := [.int 0]) rfl rfl rfl rfl rfl rfl (Nat.le_of_ble_eq_true rfl) (Nat.le_of_ble_eq_true rfl) (Nat.le_of_ble_eq_true rfl) ?_
  refine ek_k (pc2 := 6) (lv2 := [(0, .ref 40), (1, .int 2)]) (st2 := [.long 6, .long 0, .long 2]) (h3 := rn_H) 4 (M := tbM298) rfl rfl ?_
  refine ek_call (f1 := 2046) (w1 := 83954) (M := tbM298) (k := 198) (M2 := tbM198) (as := [.long 2, .long 0, .long 6]) (rest := []) rfl rfl rfl rfl rfl rfl (Nat.le_of_ble_eq_true rfl) (Nat.le_of_ble_eq_true rfl) (Nat.le_of_ble_eq_true rfl) ?_
  refine ek_k (pc2 := 18) (lv2 := [(0, .long 2), (2, .long 0), (4, .long 6)]) (st2 := [.int 1]) (h3 := rn_H) 10 (M := tbM198) rfl rfl ?_
  refine ek_ret (r := some (.int 1)) (M := tbM198) rfl rfl rfl ?_
  refine ek_k (pc2 := 22) (lv2 := [(0, .ref 40), (1, .int 2)]) (st2 := [.int 0]) (h3 := rn_H) 5 (M := tbM298) rfl rfl ?_
  refine ek_ret (r := some (.int 0)) (M := tbM298) rfl rfl rfl ?_
  refine ek_k (pc2 := 990) (lv2 := [(3, .int 6), (2, .ref 40), (1, .ref 2), (0, .ref 0)]) (st2 := [.int 1]) (h3 := rn_H) 10 (M := tbM0) rfl rfl ?_
  refine ek_end (r := some (.int 1)) (M := tbM0) rfl rfl rfl ?_
  exact rn_fin (S := rn_S) rfl rn_S1 rn_S2
set_option maxRecDepth 100000 in
set_option maxHeartbeats 40000000 in
theorem rn_op21_3 (xs : Nat → Int32) (hx : (xs 0) &&& (31 : Int32) = 21) (hs : xs 1 = 3) : am_ek tbT (tb_ro 6 xs) rn_P 2048 84000 0 33 [(3, .int 0), (2, .ref 40), (1, .ref 2), (0, .ref 0)] [.int ((xs 0) &&& (31 : Int32))] rn_H [] := by
  rw [hx]
  refine ek_k (pc2 := 897) (lv2 := [(3, .int 0), (2, .ref 40), (1, .ref 2), (0, .ref 0)]) (st2 := [.int (xs 1), .ref 2]) (h3 := rn_H) 7 (M := tbM0) rfl rfl ?_
  rw [hs]
  refine ek_call (f1 := 2047) (w1 := 83979) (M := tbM0) (k := 192) (M2 := tbM192) (as := [.ref 2, .int 3]) (rest := []) rfl rfl rfl rfl rfl rfl (Nat.le_of_ble_eq_true rfl) (Nat.le_of_ble_eq_true rfl) (Nat.le_of_ble_eq_true rfl) ?_
  refine ek_k (pc2 := 23) (lv2 := [(0, .ref 2), (1, .int 3)]) (st2 := [.int 0]) (h3 := rn_H) 10 (M := tbM192) rfl rfl ?_
  refine ek_ret (r := some (.int 0)) (M := tbM192) rfl rfl rfl ?_
  refine ek_k (pc2 := 906) (lv2 := [(3, .int 0), (2, .ref 40), (1, .ref 2), (0, .ref 0)]) (st2 := [.int (xs 1), .ref 40, .int 0]) (h3 := rn_H) 6 (M := tbM0) rfl rfl ?_
  rw [hs]
  refine ek_call (f1 := 2047) (w1 := 83979) (M := tbM0) (k := 298) (M2 := tbM298) (as := [.ref 40, .int 3]) (rest := [.int 0]) rfl rfl rfl rfl rfl rfl (Nat.le_of_ble_eq_true rfl) (Nat.le_of_ble_eq_true rfl) (Nat.le_of_ble_eq_true rfl) ?_
  refine ek_k (pc2 := 6) (lv2 := [(0, .ref 40), (1, .int 3)]) (st2 := [.long 6, .long 0, .long 3]) (h3 := rn_H) 4 (M := tbM298) rfl rfl ?_
  refine ek_call (f1 := 2046) (w1 := 83954) (M := tbM298) (k := 198) (M2 := tbM198) (as := [.long 3, .long 0, .long 6]) (rest := []) rfl rfl rfl rfl rfl rfl (Nat.le_of_ble_eq_true rfl) (Nat.le_of_ble_eq_true rfl) (Nat.le_of_ble_eq_true rfl) ?_
  refine ek_k (pc2 := 18) (lv2 := [(0, .long 3), (2, .long 0), (4, .long 6)]) (st2 := [.int 1]) (h3 := rn_H) 10 (M := tbM198) rfl rfl ?_
  refine ek_ret (r := some (.int 1)) (M := tbM198) rfl rfl rfl ?_
  refine ek_k (pc2 := 22) (lv2 := [(0, .ref 40), (1, .int 3)]) (st2 := [.int 0]) (h3 := rn_H) 5 (M := tbM298) rfl rfl ?_
  refine ek_ret (r := some (.int 0)) (M := tbM298) rfl rfl rfl ?_
  refine ek_k (pc2 := 990) (lv2 := [(3, .int 6), (2, .ref 40), (1, .ref 2), (0, .ref 0)]) (st2 := [.int 1]) (h3 := rn_H) 10 (M := tbM0) rfl rfl ?_
  refine ek_end (r := some (.int 1)) (M := tbM0) rfl rfl rfl ?_
  exact rn_fin (S := rn_S) rfl rn_S1 rn_S2
set_option maxRecDepth 100000 in
set_option maxHeartbeats 40000000 in
theorem rn_op21_4 (xs : Nat → Int32) (hx : (xs 0) &&& (31 : Int32) = 21) (hs : xs 1 = 4) : am_ek tbT (tb_ro 6 xs) rn_P 2048 84000 0 33 [(3, .int 0), (2, .ref 40), (1, .ref 2), (0, .ref 0)] [.int ((xs 0) &&& (31 : Int32))] rn_H [] := by
  rw [hx]
  refine ek_k (pc2 := 897) (lv2 := [(3, .int 0), (2, .ref 40), (1, .ref 2), (0, .ref 0)]) (st2 := [.int (xs 1), .ref 2]) (h3 := rn_H) 7 (M := tbM0) rfl rfl ?_
  rw [hs]
  refine ek_call (f1 := 2047) (w1 := 83979) (M := tbM0) (k := 192) (M2 := tbM192) (as := [.ref 2, .int 4]) (rest := []) rfl rfl rfl rfl rfl rfl (Nat.le_of_ble_eq_true rfl) (Nat.le_of_ble_eq_true rfl) (Nat.le_of_ble_eq_true rfl) ?_
  refine ek_k (pc2 := 23) (lv2 := [(0, .ref 2), (1, .int 4)]) (st2 := [.int 0]) (h3 := rn_H) 10 (M := tbM192) rfl rfl ?_
  refine ek_ret (r := some (.int 0)) (M := tbM192) rfl rfl rfl ?_
  refine ek_k (pc2 := 906) (lv2 := [(3, .int 0), (2, .ref 40), (1, .ref 2), (0, .ref 0)]) (st2 := [.int (xs 1), .ref 40, .int 0]) (h3 := rn_H) 6 (M := tbM0) rfl rfl ?_
  rw [hs]
  refine ek_call (f1 := 2047) (w1 := 83979) (M := tbM0) (k := 298) (M2 := tbM298) (as := [.ref 40, .int 4]) (rest := [.int 0]) rfl rfl rfl rfl rfl rfl (Nat.le_of_ble_eq_true rfl) (Nat.le_of_ble_eq_true rfl) (Nat.le_of_ble_eq_true rfl) ?_
  refine ek_k (pc2 := 6) (lv2 := [(0, .ref 40), (1, .int 4)]) (st2 := [.long 6, .long 0, .long 4]) (h3 := rn_H) 4 (M := tbM298) rfl rfl ?_
  refine ek_call (f1 := 2046) (w1 := 83954) (M := tbM298) (k := 198) (M2 := tbM198) (as := [.long 4, .long 0, .long 6]) (rest := []) rfl rfl rfl rfl rfl rfl (Nat.le_of_ble_eq_true rfl) (Nat.le_of_ble_eq_true rfl) (Nat.le_of_ble_eq_true rfl) ?_
  refine ek_k (pc2 := 18) (lv2 := [(0, .long 4), (2, .long 0), (4, .long 6)]) (st2 := [.int 1]) (h3 := rn_H) 10 (M := tbM198) rfl rfl ?_
  refine ek_ret (r := some (.int 1)) (M := tbM198) rfl rfl rfl ?_
  refine ek_k (pc2 := 22) (lv2 := [(0, .ref 40), (1, .int 4)]) (st2 := [.int 0]) (h3 := rn_H) 5 (M := tbM298) rfl rfl ?_
  refine ek_ret (r := some (.int 0)) (M := tbM298) rfl rfl rfl ?_
  refine ek_k (pc2 := 990) (lv2 := [(3, .int 6), (2, .ref 40), (1, .ref 2), (0, .ref 0)]) (st2 := [.int 1]) (h3 := rn_H) 10 (M := tbM0) rfl rfl ?_
  refine ek_end (r := some (.int 1)) (M := tbM0) rfl rfl rfl ?_
  exact rn_fin (S := rn_S) rfl rn_S1 rn_S2
set_option maxRecDepth 100000 in
set_option maxHeartbeats 40000000 in
theorem rn_op21_5 (xs : Nat → Int32) (hx : (xs 0) &&& (31 : Int32) = 21) (hs : xs 1 = 5) : am_ek tbT (tb_ro 6 xs) rn_P 2048 84000 0 33 [(3, .int 0), (2, .ref 40), (1, .ref 2), (0, .ref 0)] [.int ((xs 0) &&& (31 : Int32))] rn_H [] := by
  rw [hx]
  refine ek_k (pc2 := 897) (lv2 := [(3, .int 0), (2, .ref 40), (1, .ref 2), (0, .ref 0)]) (st2 := [.int (xs 1), .ref 2]) (h3 := rn_H) 7 (M := tbM0) rfl rfl ?_
  rw [hs]
  refine ek_call (f1 := 2047) (w1 := 83979) (M := tbM0) (k := 192) (M2 := tbM192) (as := [.ref 2, .int 5]) (rest := []) rfl rfl rfl rfl rfl rfl (Nat.le_of_ble_eq_true rfl) (Nat.le_of_ble_eq_true rfl) (Nat.le_of_ble_eq_true rfl) ?_
  refine ek_k (pc2 := 23) (lv2 := [(0, .ref 2), (1, .int 5)]) (st2 := [.int 0]) (h3 := rn_H) 10 (M := tbM192) rfl rfl ?_
  refine ek_ret (r := some (.int 0)) (M := tbM192) rfl rfl rfl ?_
  refine ek_k (pc2 := 906) (lv2 := [(3, .int 0), (2, .ref 40), (1, .ref 2), (0, .ref 0)]) (st2 := [.int (xs 1), .ref 40, .int 0]) (h3 := rn_H) 6 (M := tbM0) rfl rfl ?_
  rw [hs]
  refine ek_call (f1 := 2047) (w1 := 83979) (M := tbM0) (k := 298) (M2 := tbM298) (as := [.ref 40, .int 5]) (rest := [.int 0]) rfl rfl rfl rfl rfl rfl (Nat.le_of_ble_eq_true rfl) (Nat.le_of_ble_eq_true rfl) (Nat.le_of_ble_eq_true rfl) ?_
  refine ek_k (pc2 := 6) (lv2 := [(0, .ref 40), (1, .int 5)]) (st2 := [.long 6, .long 0, .long 5]) (h3 := rn_H) 4 (M := tbM298) rfl rfl ?_
  refine ek_call (f1 := 2046) (w1 := 83954) (M := tbM298) (k := 198) (M2 := tbM198) (as := [.long 5, .long 0, .long 6]) (rest := []) rfl rfl rfl rfl rfl rfl (Nat.le_of_ble_eq_true rfl) (Nat.le_of_ble_eq_true rfl) (Nat.le_of_ble_eq_true rfl) ?_
  refine ek_k (pc2 := 18) (lv2 := [(0, .long 5), (2, .long 0), (4, .long 6)]) (st2 := [.int 1]) (h3 := rn_H) 10 (M := tbM198) rfl rfl ?_
  refine ek_ret (r := some (.int 1)) (M := tbM198) rfl rfl rfl ?_
  refine ek_k (pc2 := 22) (lv2 := [(0, .ref 40), (1, .int 5)]) (st2 := [.int 0]) (h3 := rn_H) 5 (M := tbM298) rfl rfl ?_
  refine ek_ret (r := some (.int 0)) (M := tbM298) rfl rfl rfl ?_
  refine ek_k (pc2 := 990) (lv2 := [(3, .int 6), (2, .ref 40), (1, .ref 2), (0, .ref 0)]) (st2 := [.int 1]) (h3 := rn_H) 10 (M := tbM0) rfl rfl ?_
  refine ek_end (r := some (.int 1)) (M := tbM0) rfl rfl rfl ?_
  exact rn_fin (S := rn_S) rfl rn_S1 rn_S2
set_option maxRecDepth 100000 in
set_option maxHeartbeats 40000000 in
theorem rn_op21_6 (xs : Nat → Int32) (hx : (xs 0) &&& (31 : Int32) = 21) (hs : xs 1 = 6) : am_ek tbT (tb_ro 6 xs) rn_P 2048 84000 0 33 [(3, .int 0), (2, .ref 40), (1, .ref 2), (0, .ref 0)] [.int ((xs 0) &&& (31 : Int32))] rn_H [] := by
  rw [hx]
  refine ek_k (pc2 := 897) (lv2 := [(3, .int 0), (2, .ref 40), (1, .ref 2), (0, .ref 0)]) (st2 := [.int (xs 1), .ref 2]) (h3 := rn_H) 7 (M := tbM0) rfl rfl ?_
  rw [hs]
  refine ek_call (f1 := 2047) (w1 := 83979) (M := tbM0) (k := 192) (M2 := tbM192) (as := [.ref 2, .int 6]) (rest := []) rfl rfl rfl rfl rfl rfl (Nat.le_of_ble_eq_true rfl) (Nat.le_of_ble_eq_true rfl) (Nat.le_of_ble_eq_true rfl) ?_
  refine ek_k (pc2 := 23) (lv2 := [(0, .ref 2), (1, .int 6)]) (st2 := [.int 0]) (h3 := rn_H) 10 (M := tbM192) rfl rfl ?_
  refine ek_ret (r := some (.int 0)) (M := tbM192) rfl rfl rfl ?_
  refine ek_k (pc2 := 906) (lv2 := [(3, .int 0), (2, .ref 40), (1, .ref 2), (0, .ref 0)]) (st2 := [.int (xs 1), .ref 40, .int 0]) (h3 := rn_H) 6 (M := tbM0) rfl rfl ?_
  rw [hs]
  refine ek_call (f1 := 2047) (w1 := 83979) (M := tbM0) (k := 298) (M2 := tbM298) (as := [.ref 40, .int 6]) (rest := [.int 0]) rfl rfl rfl rfl rfl rfl (Nat.le_of_ble_eq_true rfl) (Nat.le_of_ble_eq_true rfl) (Nat.le_of_ble_eq_true rfl) ?_
  refine ek_k (pc2 := 6) (lv2 := [(0, .ref 40), (1, .int 6)]) (st2 := [.long 6, .long 0, .long 6]) (h3 := rn_H) 4 (M := tbM298) rfl rfl ?_
  refine ek_call (f1 := 2046) (w1 := 83954) (M := tbM298) (k := 198) (M2 := tbM198) (as := [.long 6, .long 0, .long 6]) (rest := []) rfl rfl rfl rfl rfl rfl (Nat.le_of_ble_eq_true rfl) (Nat.le_of_ble_eq_true rfl) (Nat.le_of_ble_eq_true rfl) ?_
  refine ek_k (pc2 := 18) (lv2 := [(0, .long 6), (2, .long 0), (4, .long 6)]) (st2 := [.int 1]) (h3 := rn_H) 10 (M := tbM198) rfl rfl ?_
  refine ek_ret (r := some (.int 1)) (M := tbM198) rfl rfl rfl ?_
  refine ek_k (pc2 := 22) (lv2 := [(0, .ref 40), (1, .int 6)]) (st2 := [.int 0]) (h3 := rn_H) 5 (M := tbM298) rfl rfl ?_
  refine ek_ret (r := some (.int 0)) (M := tbM298) rfl rfl rfl ?_
  refine ek_k (pc2 := 990) (lv2 := [(3, .int 6), (2, .ref 40), (1, .ref 2), (0, .ref 0)]) (st2 := [.int 1]) (h3 := rn_H) 10 (M := tbM0) rfl rfl ?_
  refine ek_end (r := some (.int 1)) (M := tbM0) rfl rfl rfl ?_
  exact rn_fin (S := rn_S) rfl rn_S1 rn_S2
set_option maxRecDepth 100000 in
set_option maxHeartbeats 40000000 in
theorem rn_op21_x (xs : Nat → Int32) (hx : (xs 0) &&& (31 : Int32) = 21) (hE : xs 1 < (0 : Int32) ∨ (6 : Int32) < xs 1) : am_ek tbT (tb_ro 6 xs) rn_P 2048 84000 0 33 [(3, .int 0), (2, .ref 40), (1, .ref 2), (0, .ref 0)] [.int ((xs 0) &&& (31 : Int32))] rn_H [] := by
  rw [hx]
  by_cases hc0 : (xs 1) < (0 : Int32)
  · by_cases hc1 : (lg_cmp ((xs 1)).toInt64 (0 : Int64)) < (0 : Int32)
    · refine ek_k (pc2 := 897) (lv2 := [(3, .int 0), (2, .ref 40), (1, .ref 2), (0, .ref 0)]) (st2 := [.int (xs 1), .ref 2]) (h3 := rn_H) 7 (M := tbM0) rfl rfl ?_
      refine ek_call (f1 := 2047) (w1 := 83979) (M := tbM0) (k := 192) (M2 := tbM192) (as := [.ref 2, .int (xs 1)]) (rest := []) rfl rfl rfl rfl rfl rfl (Nat.le_of_ble_eq_true rfl) (Nat.le_of_ble_eq_true rfl) (Nat.le_of_ble_eq_true rfl) ?_
      refine ek_k (pc2 := 1) (lv2 := [(0, .ref 2), (1, .int (xs 1))]) (st2 := [.int (xs 1)]) (h3 := rn_H) 1 (M := tbM192) rfl rfl ?_
      refine ek_pu (lv2 := [(0, .ref 2), (1, .int (xs 1))]) (st2 := []) (M := tbM192) rfl rfl rfl (if_pos hc0) ?_
      refine ek_k (pc2 := 23) (lv2 := [(0, .ref 2), (1, .int (xs 1))]) (st2 := [.int (-1)]) (h3 := rn_H) 2 (M := tbM192) rfl rfl ?_
      refine ek_ret (r := some (.int (-1))) (M := tbM192) rfl rfl rfl ?_
      refine ek_k (pc2 := 906) (lv2 := [(3, .int 0), (2, .ref 40), (1, .ref 2), (0, .ref 0)]) (st2 := [.int (xs 1), .ref 40, .int (-1)]) (h3 := rn_H) 6 (M := tbM0) rfl rfl ?_
      refine ek_call (f1 := 2047) (w1 := 83979) (M := tbM0) (k := 298) (M2 := tbM298) (as := [.ref 40, .int (xs 1)]) (rest := [.int (-1)]) rfl rfl rfl rfl rfl rfl (Nat.le_of_ble_eq_true rfl) (Nat.le_of_ble_eq_true rfl) (Nat.le_of_ble_eq_true rfl) ?_
      refine ek_k (pc2 := 6) (lv2 := [(0, .ref 40), (1, .int (xs 1))]) (st2 := [.long 6, .long 0, .long ((xs 1)).toInt64]) (h3 := rn_H) 4 (M := tbM298) rfl rfl ?_
      refine ek_call (f1 := 2046) (w1 := 83954) (M := tbM298) (k := 198) (M2 := tbM198) (as := [.long ((xs 1)).toInt64, .long 0, .long 6]) (rest := []) rfl rfl rfl rfl rfl rfl (Nat.le_of_ble_eq_true rfl) (Nat.le_of_ble_eq_true rfl) (Nat.le_of_ble_eq_true rfl) ?_
      refine ek_k (pc2 := 3) (lv2 := [(0, .long ((xs 1)).toInt64), (2, .long 0), (4, .long 6)]) (st2 := [.int (lg_cmp ((xs 1)).toInt64 (0 : Int64))]) (h3 := rn_H) 3 (M := tbM198) rfl rfl ?_
      refine ek_pu (lv2 := [(0, .long ((xs 1)).toInt64), (2, .long 0), (4, .long 6)]) (st2 := []) (M := tbM198) rfl rfl rfl (if_pos hc1) ?_
      refine ek_k (pc2 := 18) (lv2 := [(0, .long ((xs 1)).toInt64), (2, .long 0), (4, .long 6)]) (st2 := [.int 0]) (h3 := rn_H) 1 (M := tbM198) rfl rfl ?_
      refine ek_ret (r := some (.int 0)) (M := tbM198) rfl rfl rfl ?_
      refine ek_k (pc2 := 13) (lv2 := [(0, .ref 40), (1, .int (xs 1))]) (st2 := [.int (-1)]) (h3 := rn_H) 2 (M := tbM298) rfl rfl ?_
      refine ek_ret (r := some (.int (-1))) (M := tbM298) rfl rfl rfl ?_
      refine ek_k (pc2 := 990) (lv2 := [(3, .int 6), (2, .ref 40), (1, .ref 2), (0, .ref 0)]) (st2 := [.int 1]) (h3 := rn_H) 10 (M := tbM0) rfl rfl ?_
      refine ek_end (r := some (.int 1)) (M := tbM0) rfl rfl rfl ?_
      exact rn_fin (S := rn_S) rfl rn_S1 rn_S2
    · exfalso; (try simp only [lg_lt, lg_gt, lg_le, lg_ge, lg_z] at hE hc0 hc1); simp only [← Int32.toInt_inj, ← Int64.toInt_inj, Int32.lt_iff_toInt_lt, Int32.le_iff_toInt_le, Int64.lt_iff_toInt_lt, Int64.le_iff_toInt_le, Int32.toInt_toInt64, rn_im4, rn_lm4, rn_im3, rn_lm3, rn_im2, rn_lm2, rn_im1, rn_lm1, rn_i0, rn_l0, rn_i1, rn_l1, rn_i2, rn_l2, rn_i3, rn_l3, rn_i4, rn_l4, rn_i5, rn_l5, rn_i6, rn_l6, rn_i7, rn_l7, rn_i8, rn_l8] at hE hc0 hc1; omega
  · by_cases hc1 : (xs 1) < (7 : Int32)
    · exfalso; (try simp only [lg_lt, lg_gt, lg_le, lg_ge, lg_z] at hE hc0 hc1); simp only [← Int32.toInt_inj, ← Int64.toInt_inj, Int32.lt_iff_toInt_lt, Int32.le_iff_toInt_le, Int64.lt_iff_toInt_lt, Int64.le_iff_toInt_le, Int32.toInt_toInt64, rn_im4, rn_lm4, rn_im3, rn_lm3, rn_im2, rn_lm2, rn_im1, rn_lm1, rn_i0, rn_l0, rn_i1, rn_l1, rn_i2, rn_l2, rn_i3, rn_l3, rn_i4, rn_l4, rn_i5, rn_l5, rn_i6, rn_l6, rn_i7, rn_l7, rn_i8, rn_l8] at hE hc0 hc1; omega
    · by_cases hc2 : (lg_cmp ((xs 1)).toInt64 (0 : Int64)) < (0 : Int32)
      · exfalso; (try simp only [lg_lt, lg_gt, lg_le, lg_ge, lg_z] at hE hc0 hc1 hc2); simp only [← Int32.toInt_inj, ← Int64.toInt_inj, Int32.lt_iff_toInt_lt, Int32.le_iff_toInt_le, Int64.lt_iff_toInt_lt, Int64.le_iff_toInt_le, Int32.toInt_toInt64, rn_im4, rn_lm4, rn_im3, rn_lm3, rn_im2, rn_lm2, rn_im1, rn_lm1, rn_i0, rn_l0, rn_i1, rn_l1, rn_i2, rn_l2, rn_i3, rn_l3, rn_i4, rn_l4, rn_i5, rn_l5, rn_i6, rn_l6, rn_i7, rn_l7, rn_i8, rn_l8] at hE hc0 hc1 hc2; omega
      · by_cases hc3 : (0 : Int32) < (lg_cmp ((xs 1)).toInt64 (6 : Int64))
        · refine ek_k (pc2 := 897) (lv2 := [(3, .int 0), (2, .ref 40), (1, .ref 2), (0, .ref 0)]) (st2 := [.int (xs 1), .ref 2]) (h3 := rn_H) 7 (M := tbM0) rfl rfl ?_
          refine ek_call (f1 := 2047) (w1 := 83979) (M := tbM0) (k := 192) (M2 := tbM192) (as := [.ref 2, .int (xs 1)]) (rest := []) rfl rfl rfl rfl rfl rfl (Nat.le_of_ble_eq_true rfl) (Nat.le_of_ble_eq_true rfl) (Nat.le_of_ble_eq_true rfl) ?_
          refine ek_k (pc2 := 1) (lv2 := [(0, .ref 2), (1, .int (xs 1))]) (st2 := [.int (xs 1)]) (h3 := rn_H) 1 (M := tbM192) rfl rfl ?_
          refine ek_pu (lv2 := [(0, .ref 2), (1, .int (xs 1))]) (st2 := []) (M := tbM192) rfl rfl rfl (if_neg hc0) ?_
          refine ek_k (pc2 := 7) (lv2 := [(0, .ref 2), (1, .int (xs 1))]) (st2 := [.int 7, .int (xs 1)]) (h3 := rn_H) 2 (M := tbM192) rfl rfl ?_
          refine ek_pu (lv2 := [(0, .ref 2), (1, .int (xs 1))]) (st2 := []) (M := tbM192) rfl rfl rfl (if_neg hc1) ?_
          refine ek_k (pc2 := 23) (lv2 := [(0, .ref 2), (1, .int (xs 1))]) (st2 := [.int (-1)]) (h3 := rn_H) 2 (M := tbM192) rfl rfl ?_
          refine ek_ret (r := some (.int (-1))) (M := tbM192) rfl rfl rfl ?_
          refine ek_k (pc2 := 906) (lv2 := [(3, .int 0), (2, .ref 40), (1, .ref 2), (0, .ref 0)]) (st2 := [.int (xs 1), .ref 40, .int (-1)]) (h3 := rn_H) 6 (M := tbM0) rfl rfl ?_
          refine ek_call (f1 := 2047) (w1 := 83979) (M := tbM0) (k := 298) (M2 := tbM298) (as := [.ref 40, .int (xs 1)]) (rest := [.int (-1)]) rfl rfl rfl rfl rfl rfl (Nat.le_of_ble_eq_true rfl) (Nat.le_of_ble_eq_true rfl) (Nat.le_of_ble_eq_true rfl) ?_
          refine ek_k (pc2 := 6) (lv2 := [(0, .ref 40), (1, .int (xs 1))]) (st2 := [.long 6, .long 0, .long ((xs 1)).toInt64]) (h3 := rn_H) 4 (M := tbM298) rfl rfl ?_
          refine ek_call (f1 := 2046) (w1 := 83954) (M := tbM298) (k := 198) (M2 := tbM198) (as := [.long ((xs 1)).toInt64, .long 0, .long 6]) (rest := []) rfl rfl rfl rfl rfl rfl (Nat.le_of_ble_eq_true rfl) (Nat.le_of_ble_eq_true rfl) (Nat.le_of_ble_eq_true rfl) ?_
          refine ek_k (pc2 := 3) (lv2 := [(0, .long ((xs 1)).toInt64), (2, .long 0), (4, .long 6)]) (st2 := [.int (lg_cmp ((xs 1)).toInt64 (0 : Int64))]) (h3 := rn_H) 3 (M := tbM198) rfl rfl ?_
          refine ek_pu (lv2 := [(0, .long ((xs 1)).toInt64), (2, .long 0), (4, .long 6)]) (st2 := []) (M := tbM198) rfl rfl rfl (if_neg hc2) ?_
          refine ek_k (pc2 := 10) (lv2 := [(0, .long ((xs 1)).toInt64), (2, .long 0), (4, .long 6)]) (st2 := [.int (lg_cmp ((xs 1)).toInt64 (6 : Int64))]) (h3 := rn_H) 3 (M := tbM198) rfl rfl ?_
          refine ek_pu (lv2 := [(0, .long ((xs 1)).toInt64), (2, .long 0), (4, .long 6)]) (st2 := []) (M := tbM198) rfl rfl rfl (if_pos hc3) ?_
          refine ek_k (pc2 := 18) (lv2 := [(0, .long ((xs 1)).toInt64), (2, .long 0), (4, .long 6)]) (st2 := [.int 0]) (h3 := rn_H) 1 (M := tbM198) rfl rfl ?_
          refine ek_ret (r := some (.int 0)) (M := tbM198) rfl rfl rfl ?_
          refine ek_k (pc2 := 13) (lv2 := [(0, .ref 40), (1, .int (xs 1))]) (st2 := [.int (-1)]) (h3 := rn_H) 2 (M := tbM298) rfl rfl ?_
          refine ek_ret (r := some (.int (-1))) (M := tbM298) rfl rfl rfl ?_
          refine ek_k (pc2 := 990) (lv2 := [(3, .int 6), (2, .ref 40), (1, .ref 2), (0, .ref 0)]) (st2 := [.int 1]) (h3 := rn_H) 10 (M := tbM0) rfl rfl ?_
          refine ek_end (r := some (.int 1)) (M := tbM0) rfl rfl rfl ?_
          exact rn_fin (S := rn_S) rfl rn_S1 rn_S2
        · exfalso; (try simp only [lg_lt, lg_gt, lg_le, lg_ge, lg_z] at hE hc0 hc1 hc2 hc3); simp only [← Int32.toInt_inj, ← Int64.toInt_inj, Int32.lt_iff_toInt_lt, Int32.le_iff_toInt_le, Int64.lt_iff_toInt_lt, Int64.le_iff_toInt_le, Int32.toInt_toInt64, rn_im4, rn_lm4, rn_im3, rn_lm3, rn_im2, rn_lm2, rn_im1, rn_lm1, rn_i0, rn_l0, rn_i1, rn_l1, rn_i2, rn_l2, rn_i3, rn_l3, rn_i4, rn_l4, rn_i5, rn_l5, rn_i6, rn_l6, rn_i7, rn_l7, rn_i8, rn_l8] at hE hc0 hc1 hc2 hc3; omega
