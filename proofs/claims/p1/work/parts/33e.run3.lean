set_option maxRecDepth 100000 in
set_option maxHeartbeats 40000000 in
theorem rn_op25 (xs : Nat → Int32) (hx : (xs 0) &&& (31 : Int32) = 25) : am_ek tbT (tb_ro 6 xs) rn_P 2048 84000 0 33 [(3, .int 0), (2, .ref 40), (1, .ref 2), (0, .ref 0)] [.int ((xs 0) &&& (31 : Int32))] rn_H [] := by
  rw [hx]
  refine ek_k (pc2 := 990) (lv2 := [(3, .int 6), (2, .ref 40), (1, .ref 2), (0, .ref 0)]) (st2 := [.int 1]) (h3 := rn_H) 10 (M := tbM0) rfl rfl ?_
  refine ek_end (r := some (.int 1)) (M := tbM0) rfl rfl rfl ?_
  exact rn_fin (S := rn_S) rfl rn_S1 rn_S2
set_option maxRecDepth 100000 in
set_option maxHeartbeats 40000000 in
theorem rn_op26 (xs : Nat → Int32) (hx : (xs 0) &&& (31 : Int32) = 26) : am_ek tbT (tb_ro 6 xs) rn_P 2048 84000 0 33 [(3, .int 0), (2, .ref 40), (1, .ref 2), (0, .ref 0)] [.int ((xs 0) &&& (31 : Int32))] rn_H [] := by
  rw [hx]
  refine ek_k (pc2 := 990) (lv2 := [(3, .int 6), (2, .ref 40), (1, .ref 2), (0, .ref 0)]) (st2 := [.int 1]) (h3 := rn_H) 10 (M := tbM0) rfl rfl ?_
  refine ek_end (r := some (.int 1)) (M := tbM0) rfl rfl rfl ?_
  exact rn_fin (S := rn_S) rfl rn_S1 rn_S2
set_option maxRecDepth 100000 in
set_option maxHeartbeats 40000000 in
theorem rn_op27 (xs : Nat → Int32) (hx : (xs 0) &&& (31 : Int32) = 27) : am_ek tbT (tb_ro 6 xs) rn_P 2048 84000 0 33 [(3, .int 0), (2, .ref 40), (1, .ref 2), (0, .ref 0)] [.int ((xs 0) &&& (31 : Int32))] rn_H [] := by
  rw [hx]
  refine ek_k (pc2 := 990) (lv2 := [(3, .int 6), (2, .ref 40), (1, .ref 2), (0, .ref 0)]) (st2 := [.int 1]) (h3 := rn_H) 10 (M := tbM0) rfl rfl ?_
  refine ek_end (r := some (.int 1)) (M := tbM0) rfl rfl rfl ?_
  exact rn_fin (S := rn_S) rfl rn_S1 rn_S2
set_option maxRecDepth 100000 in
set_option maxHeartbeats 40000000 in
theorem rn_op28 (xs : Nat → Int32) (hx : (xs 0) &&& (31 : Int32) = 28) : am_ek tbT (tb_ro 6 xs) rn_P 2048 84000 0 33 [(3, .int 0), (2, .ref 40), (1, .ref 2), (0, .ref 0)] [.int ((xs 0) &&& (31 : Int32))] rn_H [] := by
  rw [hx]
  refine ek_k (pc2 := 990) (lv2 := [(3, .int 6), (2, .ref 40), (1, .ref 2), (0, .ref 0)]) (st2 := [.int 1]) (h3 := rn_H) 10 (M := tbM0) rfl rfl ?_
  refine ek_end (r := some (.int 1)) (M := tbM0) rfl rfl rfl ?_
  exact rn_fin (S := rn_S) rfl rn_S1 rn_S2
set_option maxRecDepth 100000 in
set_option maxHeartbeats 40000000 in
theorem rn_op29 (xs : Nat → Int32) (hx : (xs 0) &&& (31 : Int32) = 29) : am_ek tbT (tb_ro 6 xs) rn_P 2048 84000 0 33 [(3, .int 0), (2, .ref 40), (1, .ref 2), (0, .ref 0)] [.int ((xs 0) &&& (31 : Int32))] rn_H [] := by
  rw [hx]
  refine ek_k (pc2 := 990) (lv2 := [(3, .int 6), (2, .ref 40), (1, .ref 2), (0, .ref 0)]) (st2 := [.int 1]) (h3 := rn_H) 10 (M := tbM0) rfl rfl ?_
  refine ek_end (r := some (.int 1)) (M := tbM0) rfl rfl rfl ?_
  exact rn_fin (S := rn_S) rfl rn_S1 rn_S2
set_option maxRecDepth 100000 in
set_option maxHeartbeats 40000000 in
theorem rn_op30 (xs : Nat → Int32) (hx : (xs 0) &&& (31 : Int32) = 30) : am_ek tbT (tb_ro 6 xs) rn_P 2048 84000 0 33 [(3, .int 0), (2, .ref 40), (1, .ref 2), (0, .ref 0)] [.int ((xs 0) &&& (31 : Int32))] rn_H [] := by
  rw [hx]
  refine ek_k (pc2 := 990) (lv2 := [(3, .int 6), (2, .ref 40), (1, .ref 2), (0, .ref 0)]) (st2 := [.int 1]) (h3 := rn_H) 10 (M := tbM0) rfl rfl ?_
  refine ek_end (r := some (.int 1)) (M := tbM0) rfl rfl rfl ?_
  exact rn_fin (S := rn_S) rfl rn_S1 rn_S2
set_option maxRecDepth 100000 in
set_option maxHeartbeats 40000000 in
theorem rn_op31 (xs : Nat → Int32) (hx : (xs 0) &&& (31 : Int32) = 31) : am_ek tbT (tb_ro 6 xs) rn_P 2048 84000 0 33 [(3, .int 0), (2, .ref 40), (1, .ref 2), (0, .ref 0)] [.int ((xs 0) &&& (31 : Int32))] rn_H [] := by
  rw [hx]
  refine ek_k (pc2 := 990) (lv2 := [(3, .int 6), (2, .ref 40), (1, .ref 2), (0, .ref 0)]) (st2 := [.int 1]) (h3 := rn_H) 10 (M := tbM0) rfl rfl ?_
  refine ek_end (r := some (.int 1)) (M := tbM0) rfl rfl rfl ?_
  exact rn_fin (S := rn_S) rfl rn_S1 rn_S2
