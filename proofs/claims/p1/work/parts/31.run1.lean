set_option maxRecDepth 100000 in
set_option maxHeartbeats 40000000 in
theorem rn_L0 (xs : Nat → Int32) (P : Option Value → List am_E → Prop) (K : P (some (.int 1)) rn_H) : am_ek tbT (tb_ro 0 xs) P 2048 84000 0 18 [(3, .int 0), (2, .ref 40), (1, .ref 2), (0, .ref 0)] [] rn_H [] := by
  refine ek_k (pc2 := 990) (lv2 := [(3, .int 0), (2, .ref 40), (1, .ref 2), (0, .ref 0)]) (st2 := [.int 1]) (h3 := rn_H) 7 (M := tbM0) rfl rfl ?_
  refine ek_end (r := some (.int 1)) (M := tbM0) rfl rfl rfl ?_
  exact K
set_option maxRecDepth 100000 in
set_option maxHeartbeats 40000000 in
theorem rn_L1 (xs : Nat → Int32) (P : Option Value → List am_E → Prop) (K : P (some (.int 1)) rn_H) : am_ek tbT (tb_ro 1 xs) P 2048 84000 0 18 [(3, .int 0), (2, .ref 40), (1, .ref 2), (0, .ref 0)] [] rn_H [] := by
  refine ek_k (pc2 := 990) (lv2 := [(3, .int 0), (2, .ref 40), (1, .ref 2), (0, .ref 0)]) (st2 := [.int 1]) (h3 := rn_H) 7 (M := tbM0) rfl rfl ?_
  refine ek_end (r := some (.int 1)) (M := tbM0) rfl rfl rfl ?_
  exact K
set_option maxRecDepth 100000 in
set_option maxHeartbeats 40000000 in
theorem rn_L2 (xs : Nat → Int32) (P : Option Value → List am_E → Prop) (K : P (some (.int 1)) rn_H) : am_ek tbT (tb_ro 2 xs) P 2048 84000 0 18 [(3, .int 0), (2, .ref 40), (1, .ref 2), (0, .ref 0)] [] rn_H [] := by
  refine ek_k (pc2 := 990) (lv2 := [(3, .int 0), (2, .ref 40), (1, .ref 2), (0, .ref 0)]) (st2 := [.int 1]) (h3 := rn_H) 7 (M := tbM0) rfl rfl ?_
  refine ek_end (r := some (.int 1)) (M := tbM0) rfl rfl rfl ?_
  exact K
set_option maxRecDepth 100000 in
set_option maxHeartbeats 40000000 in
theorem rn_L3 (xs : Nat → Int32) (P : Option Value → List am_E → Prop) (K : P (some (.int 1)) rn_H) : am_ek tbT (tb_ro 3 xs) P 2048 84000 0 18 [(3, .int 0), (2, .ref 40), (1, .ref 2), (0, .ref 0)] [] rn_H [] := by
  refine ek_k (pc2 := 990) (lv2 := [(3, .int 0), (2, .ref 40), (1, .ref 2), (0, .ref 0)]) (st2 := [.int 1]) (h3 := rn_H) 7 (M := tbM0) rfl rfl ?_
  refine ek_end (r := some (.int 1)) (M := tbM0) rfl rfl rfl ?_
  exact K
set_option maxRecDepth 100000 in
set_option maxHeartbeats 40000000 in
theorem rn_L4 (xs : Nat → Int32) (P : Option Value → List am_E → Prop) (K : P (some (.int 1)) rn_H) : am_ek tbT (tb_ro 4 xs) P 2048 84000 0 18 [(3, .int 0), (2, .ref 40), (1, .ref 2), (0, .ref 0)] [] rn_H [] := by
  refine ek_k (pc2 := 990) (lv2 := [(3, .int 0), (2, .ref 40), (1, .ref 2), (0, .ref 0)]) (st2 := [.int 1]) (h3 := rn_H) 7 (M := tbM0) rfl rfl ?_
  refine ek_end (r := some (.int 1)) (M := tbM0) rfl rfl rfl ?_
  exact K
set_option maxRecDepth 100000 in
set_option maxHeartbeats 40000000 in
theorem rn_L5 (xs : Nat → Int32) (P : Option Value → List am_E → Prop) (K : P (some (.int 1)) rn_H) : am_ek tbT (tb_ro 5 xs) P 2048 84000 0 18 [(3, .int 0), (2, .ref 40), (1, .ref 2), (0, .ref 0)] [] rn_H [] := by
  refine ek_k (pc2 := 990) (lv2 := [(3, .int 0), (2, .ref 40), (1, .ref 2), (0, .ref 0)]) (st2 := [.int 1]) (h3 := rn_H) 7 (M := tbM0) rfl rfl ?_
  refine ek_end (r := some (.int 1)) (M := tbM0) rfl rfl rfl ?_
  exact K
set_option maxRecDepth 100000 in
set_option maxHeartbeats 40000000 in
theorem rn_L6 (xs : Nat → Int32) (P : Option Value → List am_E → Prop) (K : am_ek tbT (tb_ro 6 xs) P 2048 84000 0 33 [(3, .int 0), (2, .ref 40), (1, .ref 2), (0, .ref 0)] [.int ((xs 0) &&& (31 : Int32))] rn_H []) : am_ek tbT (tb_ro 6 xs) P 2048 84000 0 18 [(3, .int 0), (2, .ref 40), (1, .ref 2), (0, .ref 0)] [] rn_H [] := by
  refine ek_k (pc2 := 33) (lv2 := [(3, .int 0), (2, .ref 40), (1, .ref 2), (0, .ref 0)]) (st2 := [.int ((xs 0) &&& (31 : Int32))]) (h3 := rn_H) 11 (M := tbM0) rfl rfl ?_
  exact K
