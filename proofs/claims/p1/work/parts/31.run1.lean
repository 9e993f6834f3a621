set_option maxRecDepth 100000 in
set_option maxHeartbeats 40000000 in
theorem rn_L0 (xs : Nat → Int32) (P : Option Value → List am_E → Prop) (K : P (some (.int 1)) rn_H) : am_ek tbT (tb_ro 0 xs) P 2048 84000 0 18 [(3, .int 0), (2, .ref 40), (1, .ref 2), (0, .ref 0)] [] rn_H [] := by
  refine ek_k (pc2 := 990) (lv2 := [(3, .int 0), (2, .ref 40), (1, .ref 2), (0, .ref 0)]) (st2 := [.int 1]) (h3 := rn_H) 7 (M := tbM0) rfl rfl ?_
  refine ek_end (r := some (.int 1)) (M := tbM0) rfl rfl rfl ?_
  exact K
set_option maxRecDepth 100000 in
set_option maxHeartbeats 40000000 in
theorem rn_L1 (xs : Nat → Int32) (P : Option Value → List am_E → Prop) (K : P (some (.int 1)) rn_H) : am_ek tbT (tb_ro 1 xs) P 2048 84000 0 18 [(3, .int 0), (2, .ref 40), (1, .ref 2), (0, .ref 0)] [] rn_H [] := by
  refine ek_k (pc2 := 990) (lv2 := [(3, .int 0), (2, .ref 40), (1, .ref 2), (0, .ref 0)]) (st2 := [.int 1]) (h3 := rn_H) 7 (M := tbM0) rfl rfl ?_
  refine ek_end (r := some (.int 1)) (M := tbM0) rfl rfl rfl ?_
  exact K
set_option maxRecDepth 100000 in
set_option maxHeartbeats 40000000 in
theorem rn_L2 (xs : Nat → Int32) (P : Option Value → List am_E → Prop) (K : P (some (.int 1)) rn_H) : am_ek tbT (tb_ro 2 xs) P 2048 84000 0 18 [(3, .int 0), (2, .ref 40), (1, .ref 2), (0, .ref 0)] [] rn_H [] := by
  refine ek_k (pc2 := 990) (lv2 := [(3, .int 0), (2, .ref 40), (1, .ref 2), (0, .ref 0)]) (st2 := [.int 1]) (h3 := rn_H) 7 (M := tbM0) rfl rfl ?_
  refine ek_end (r := some (.int 1)) (M := tbM0) rfl rfl rfl ?_
  exact K
set_option maxRecDepth 100000 in
set_option maxHeartbeats 40000000 in
theorem rn_L3 (xs : Nat → Int32) (P : Option Value → List am_E → Prop) (K : P (some (.int 1)) rn_H) : am_ek tbT (tb_ro 3 xs) P 2048 84000 0 18 [(3, .int 0), (2, .ref 40), (1, .ref 2), (0, .ref 0)] [] rn_H [] := by
  refine ek_k (pc2 := 990) (lv2 := [(3, .int 0), (2, .ref 40), (1, .ref 2), (0, .ref 0)]) (st2 := [.int 1]) (h3 := rn_H) 7 (M := tbM0) rfl rfl ?_
  refine ek_end (r := some (.int 1)) (M := tbM0) rfl rfl rfl ?_
  exact K
set_option maxRecDepth 100000 in
set_option maxHeartbeats 40000000 in
theorem rn_L4 (xs : Nat → Int32) (P : Option Value → List am_E → Prop) (K : P (some (.int 1)) rn_H) : am_ek tbT (tb_ro 4 xs) P 2048 84000 0 18 [(3, .int 0), (2, .ref 40), (1, .ref 2), (0, .ref 0)] [] rn_H [] := by
  refine ek_k (pc2 := 990) (lv2 := [(3, .int 0), (2, .ref 40), (1, .ref 2), (0, .ref 0)]) (st2 := [.int 1]) (h3 := rn_H) 7 (M := tbM0) rfl rfl ?_
  refine ek_end (r := some (.int 1)) (M := tbM0) rfl rfl rfl ?_
  exact K
set_option maxRecDepth 100000 in
set_option maxHeartbeats 40000000 in
theorem rn_L5 (xs : Nat → Int32) (P : Option Value → List am_E → Prop) (K : P (some (.int 1)) rn_H) : am_ek tbT (tb_ro 5 xs) P 2048 84000 0 18 [(3, .int 0), (2, .ref 40), (1, .ref 2), (0, .ref 0)] [] rn_H [] := by
  refine ek_k (pc2 := 990) (lv2 := [(3, .int 0), (2, .ref 40), (1, .ref 2), (0, .ref 0)]) (st2 := [.int 1]) (h3 := rn_H) 7 (M := tbM0) rfl rfl ?_
  refine ek_end (r := some (.int 1)) (M := tbM0) rfl rfl rfl ?_
  exact K
set_option maxRecDepth 100000 in
set_option maxHeartbeats 40000000 in
theorem rn_L6 (xs : Nat → Int32) (P : Option Value → List am_E → Prop) (K : am_ek tbT (tb_ro 6 xs) P 2048 84000 0 33 [(3, .int 0), (2, .ref 40), (1, .ref 2), (0, .ref 0)] [.int ((xs 0) &&& (31 : Int32))] rn_H []) : am_ek tbT (tb_ro 6 xs) P 2048 84000 0 18 [(3, .int 0), (2, .ref 40), (1, .ref 2), (0, .ref 0)] [] rn_H [] := by
  refine ek_k (pc2 := 33) (lv2 := [(3, .int 0), (2, .ref 40), (1, .ref 2), (0, .ref 0)]) (st2 := [.int ((xs 0) &&& (31 : Int32))]) (h3 := rn_H) 11 (M := tbM0) rfl rfl ?_
  exact K
def rn_S : List Nat := [9, 10, 1600, 1601, 1601, 1601, 6, 24, 24, 24, 24, 96, 8, 12, 8, 10, 120, 120, 120, 120, 120, 120, 16, 201, 9, 160, 160, 160, 160, 640, 160, 4, 12, 3, 8, 7, 32, 8, 130, 1600, 24, 24, 24, 96, 1700, 1700, 1700, 1700, 1700, 1700, 1700, 1700, 1700, 1700, 192, 1536, 1536, 8, 8, 8, 8, 8, 8, 8, 64, 12, 12, 36, 12, 12, 192, 192, 192, 768, 768, 384, 192, 192, 192, 192, 192, 192, 576, 576, 40, 40, 41, 33000, 33000, 33000, 33000, 40, 2000, 2000, 2000, 2000, 1700, 13, 13, 13, 3900, 3900, 3900, 3900, 3900, 3900, 3900, 3900, 3900, 3900, 3900, 3900, 3900, 400, 400, 400, 400, 400, 100, 100, 100, 100, 100, 300, 300, 192, 160, 160, 160, 160, 640, 300, 300, 3, 8, 32, 8]
theorem rn_S1 : rn_S.length ≤ 600000 := by decide +kernel
theorem rn_S2 : rn_S.sum ≤ 7302250 := by decide +kernel
theorem rn_fin {h : List am_E} {S : List Nat} (hS : h.map am_sz = S) (h1 : S.length ≤ 600000) (h2 : S.sum ≤ 7302250) : rn_P (some (.int 1)) h := by
  refine ⟨rfl, ?_, ?_⟩
  · rw [← hS, List.length_map] at h1; exact h1
  · unfold am_sl; rw [hS]; exact h2
theorem rn_PH : rn_P (some (.int 1)) rn_H := rn_fin (S := rn_S) rfl rn_S1 rn_S2
