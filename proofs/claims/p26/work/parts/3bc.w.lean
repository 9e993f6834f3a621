/-- LetterPostModel.value(II)I -/
def wM_value_20 (Q : Int → e3_H → e3_G → Prop)  (H : e3_H) (G : e3_G) : Prop :=
  Q (-4) H G
def wM_value_117 (Q : Int → e3_H → e3_G → Prop) (s0 : Int) (H : e3_H) (G : e3_G) : Prop :=
  Q s0 H G
def wM_value_115 (Q : Int → e3_H → e3_G → Prop)  (H : e3_H) (G : e3_G) : Prop :=
  (wM_value_117 Q (-4) H G)
def wM_value (Q : Int → e3_H → e3_G → Prop) (l1 : Int) (l2 : Int) (H : e3_H) (G : e3_G) : Prop :=
  (wM_isValue (fun x3 H1 G2 => (((x3 : Int) = 0 → (wM_value_20 Q H1 G2)) ∧ (¬ ((x3 : Int) = 0) → (wM_in (fun x6 H4 G5 => (((x6 : Int) = 0 → (wM_value_20 Q H4 G5)) ∧ (¬ ((x6 : Int) = 0) → (((l2 : Int) = 0 → ((0 : Int) ≤ l1 ∧ (l1 : Int) < 160) ∧ Q (H4 128 l1) H4 G5) ∧ ((l2 : Int) = 1 → ((0 : Int) ≤ l1 ∧ (l1 : Int) < 160) ∧ Q (H4 129 l1) H4 G5) ∧ ((l2 : Int) = 2 → ((0 : Int) ≤ l1 ∧ (l1 : Int) < 160) ∧ Q (H4 131 l1) H4 G5) ∧ ((l2 : Int) < 0 ∨ 2 < l2 → ((0 : Int) ≤ l1 ∧ (l1 : Int) < 160) ∧ ((((H4 128 l1) : Int) = 4 → ((0 : Int) ≤ l1 ∧ (l1 : Int) < 160) ∧ ((0 : Int) ≤ (H4 129 l1) ∧ ((H4 129 l1) : Int) < 24) ∧ ((((e3_w32 (l2 - 3)) : Int) < (H4 44 (H4 129 l1)) → ((0 : Int) ≤ (e3_w32 ((e3_w32 ((e3_w32 (4 * l1)) + l2)) - 3)) ∧ ((e3_w32 ((e3_w32 ((e3_w32 (4 * l1)) + l2)) - 3)) : Int) < 640) ∧ (wM_value_117 Q (H4 132 (e3_w32 ((e3_w32 ((e3_w32 (4 * l1)) + l2)) - 3))) H4 G5)) ∧ (¬ (((e3_w32 (l2 - 3)) : Int) < (H4 44 (H4 129 l1))) → (wM_value_115 Q H4 G5)))) ∧ (¬ (((H4 128 l1) : Int) = 4) → (wM_value_115 Q H4 G5)))))))) l2 0 6 H1 G2)))) l1 H G)
set_option maxRecDepth 100000 in
set_option maxHeartbeats 4000000 in
theorem sM_value_20 (L : Nat) (xs : Nat → Int32) (Q : Int → e3_H → e3_G → Prop)  (H : e3_H) (G : e3_G) (h : wM_value_20 Q  H G) : e3_Ev (wB L xs) 2 46 283 20 [(3, 0), (3, 0), (3, 0)] [] H G (e3_q0 Q) := by
  unfold wM_value_20 at h
  refine e3_K [0] 22 [(3, 0), (3, 0), (3, 0)] [(0, (-4))] (H) (G) (wZ L xs) (M := tbM283) rfl rfl trivial ?_
  exact e3_reti (M := tbM283) rfl rfl rfl ⟨_, rfl, h⟩
set_option maxRecDepth 100000 in
set_option maxHeartbeats 4000000 in
theorem sM_value_117 (L : Nat) (xs : Nat → Int32) (Q : Int → e3_H → e3_G → Prop) (s0 : Int) (H : e3_H) (G : e3_G) (h : wM_value_117 Q s0 H G) : e3_Ev (wB L xs) 2 46 283 117 [(3, 0), (3, 0), (3, 0)] [(0, s0)] H G (e3_q0 Q) := by
  unfold wM_value_117 at h
  exact e3_reti (M := tbM283) rfl rfl rfl ⟨_, rfl, h⟩
set_option maxRecDepth 100000 in
set_option maxHeartbeats 4000000 in
theorem sM_value_115 (L : Nat) (xs : Nat → Int32) (Q : Int → e3_H → e3_G → Prop)  (H : e3_H) (G : e3_G) (h : wM_value_115 Q  H G) : e3_Ev (wB L xs) 2 46 283 115 [(3, 0), (3, 0), (3, 0)] [] H G (e3_q0 Q) := by
  unfold wM_value_115 at h
  refine e3_K [0] 117 [(3, 0), (3, 0), (3, 0)] [(0, (-4))] (H) (G) (wZ L xs) (M := tbM283) rfl rfl trivial ?_
  exact sM_value_117 L xs Q _ _ _ h
set_option maxRecDepth 100000 in
set_option maxHeartbeats 4000000 in
theorem sM_value (L : Nat) (xs : Nat → Int32) (Q : Int → e3_H → e3_G → Prop) (l1 : Int) (l2 : Int) (H : e3_H) (G : e3_G) (h : wM_value Q l1 l2 H G) : e3_Ev (wB L xs) 2 46 283 0 [(2, 40), (0, l1), (0, l2)] [] H G (e3_q0 Q) := by
  unfold wM_value at h
  refine e3_K [0, 0] 2 [(2, 40), (0, l1), (0, l2)] [(0, l1), (2, 40)] (H) (G) (wZ L xs) (M := tbM283) rfl rfl trivial ?_
  refine e3_call (o := 0) (k := 281) (M2 := tbM281) (f1 := 1) (w1 := 25) (as := [(2, 40), (0, l1)]) (rest := []) (M := tbM283) rfl rfl rfl trivial (Nat.le_of_ble_eq_true rfl) (Nat.le_of_ble_eq_true rfl) (Nat.le_of_ble_eq_true rfl) ?_
  refine e3_mono (sM_isValue L xs _ _ _ _ h) (fun r H1 G2 h => ?_)
  obtain ⟨x3, rfl, h⟩ := h
  change e3_Ev _ _ _ _ 5 [(2, 40), (0, l1), (0, l2)] [(0, x3)] H1 G2 _
  refine e3_br (M := tbM283) rfl rfl rfl Iff.rfl (fun hc => ?_) (fun hc => ?_)
  · replace h := h.1 hc
    refine e3_fgt [false, false, false] ?_
    exact sM_value_20 L xs Q _ _ h
  · replace h := h.2 hc
    refine e3_K [0, 0, 0, 2] 14 [(2, 40), (0, l1), (0, l2)] [(1, 6), (1, 0), (1, l2)] (H1) (G2) (wZ L xs) (M := tbM283) rfl rfl ⟨trivial, trivial⟩ ?_
    refine e3_call (o := 0) (k := 198) (M2 := tbM198) (f1 := 0) (w1 := 0) (as := [(1, l2), (1, 0), (1, 6)]) (rest := []) (M := tbM283) rfl rfl rfl trivial (Nat.le_of_ble_eq_true rfl) (Nat.le_of_ble_eq_true rfl) (Nat.le_of_ble_eq_true rfl) ?_
    refine e3_mono (sM_in L xs _ _ _ _ _ _ h) (fun r H4 G5 h => ?_)
    obtain ⟨x6, rfl, h⟩ := h
    change e3_Ev _ _ _ _ 17 [(2, 40), (0, l1), (0, l2)] [(0, x6)] H4 G5 _
    refine e3_br (M := tbM283) rfl rfl rfl Iff.rfl (fun hc => ?_) (fun hc => ?_)
    · replace h := h.1 hc
      refine e3_fgt [false, false, false] ?_
      exact sM_value_20 L xs Q _ _ h
    · replace h := h.2 hc
      refine e3_K [0] 24 [(2, 40), (0, l1), (0, l2)] [(0, l2)] (H4) (G5) (wZ L xs) (M := tbM283) rfl rfl trivial ?_
      by_cases hc0 : (l2 : Int) = 0
      · replace h := h.1 hc0
        refine e3_sw (M := tbM283) rfl rfl hc0 rfl ?_
        obtain ⟨o7, h⟩ := h
        refine e3_K [0, 4, 0, 2] 58 [(2, 40), (0, l1), (0, l2)] [(0, (H4 128 l1))] (H4) (G5) (wZ L xs) (M := tbM283) rfl rfl ⟨trivial, o7, trivial⟩ ?_
        exact e3_reti (M := tbM283) rfl rfl rfl ⟨_, rfl, h⟩
      replace h := h.2
      by_cases hc1 : (l2 : Int) = 1
      · replace h := h.1 hc1
        refine e3_sw (M := tbM283) rfl rfl hc1 rfl ?_
        obtain ⟨o8, h⟩ := h
        refine e3_K [0, 4, 0, 2] 65 [(2, 40), (0, l1), (0, l2)] [(0, (H4 129 l1))] (H4) (G5) (wZ L xs) (M := tbM283) rfl rfl ⟨trivial, o8, trivial⟩ ?_
        exact e3_reti (M := tbM283) rfl rfl rfl ⟨_, rfl, h⟩
      replace h := h.2
      by_cases hc2 : (l2 : Int) = 2
      · replace h := h.1 hc2
        refine e3_sw (M := tbM283) rfl rfl hc2 rfl ?_
        obtain ⟨o9, h⟩ := h
        refine e3_K [0, 4, 0, 2] 72 [(2, 40), (0, l1), (0, l2)] [(0, (H4 131 l1))] (H4) (G5) (wZ L xs) (M := tbM283) rfl rfl ⟨trivial, o9, trivial⟩ ?_
        exact e3_reti (M := tbM283) rfl rfl rfl ⟨_, rfl, h⟩
      replace h := h.2
      replace h := h (by omega)
      refine e3_sw (M := tbM283) rfl rfl rfl ((e3_swdt (by omega)).trans rfl) ?_
      obtain ⟨o10, h⟩ := h
      refine e3_K [0, 4, 0, 2, 0] 80 [(2, 40), (0, l1), (0, l2)] [(0, 4), (0, (H4 128 l1))] (H4) (G5) (wZ L xs) (M := tbM283) rfl rfl ⟨trivial, o10, trivial⟩ ?_
      refine e3_br (M := tbM283) rfl rfl rfl Iff.rfl (fun hc => ?_) (fun hc => ?_)
      · replace h := h.1 hc
        obtain ⟨o11, o12, h⟩ := h
        refine e3_K [0, 0, 0, 0, 4, 0, 4, 0, 2, 2] 97 [(2, 40), (0, l1), (0, l2)] [(0, (H4 44 (H4 129 l1))), (0, (e3_w32 (l2 - 3)))] (H4) (G5) (wZ L xs) (M := tbM283) rfl rfl ⟨trivial, trivial, o11, o12, trivial⟩ ?_
        refine e3_br (M := tbM283) rfl rfl rfl Iff.rfl (fun hc => ?_) (fun hc => ?_)
        · replace h := h.1 hc
          obtain ⟨o13, h⟩ := h
          refine e3_K [0, 4, 0, 0, 0, 0, 0, 0, 0, 2, 0] 117 [(2, 40), (0, l1), (0, l2)] [(0, (H4 132 (e3_w32 ((e3_w32 ((e3_w32 (4 * l1)) + l2)) - 3))))] (H4) (G5) (wZ L xs) (M := tbM283) rfl rfl ⟨trivial, o13, trivial⟩ ?_
          refine e3_fgt [false, false, false] ?_
          exact sM_value_117 L xs Q _ _ _ h
        · replace h := h.2 hc
          refine e3_fgt [false, false, false] ?_
          exact sM_value_115 L xs Q _ _ h
      · replace h := h.2 hc
        refine e3_fgt [false, false, false] ?_
        exact sM_value_115 L xs Q _ _ h
/-- LetterPostModel.alike(II)I -/
def wM_alike_16 (Q : Int → e3_H → e3_G → Prop)  (H : e3_H) (G : e3_G) : Prop :=
  Q (-1) H G
def wM_alike_126 (Q : Int → e3_H → e3_G → Prop)  (H : e3_H) (G : e3_G) : Prop :=
  Q 0 H G
def wM_alike_204 (Q : Int → e3_H → e3_G → Prop) (k34 : Int → e3_H → e3_G → Prop) (l3 : Int) (H : e3_H) (G : e3_G) : Prop :=
  (k34 l3 H G)
def wM_alike_131 (Q : Int → e3_H → e3_G → Prop) (k34 : Int → e3_H → e3_G → Prop) : Nat → Int → Int → Int → Int → e3_H → e3_G → Prop
  | 0, _, _, _, _, _, _ => False
  | nn + 1, l3, l4, l5, l6, H, G => ((0 : Int) ≤ l4 ∧ (l4 : Int) < 160) ∧ ((((H 128 l4) : Int) = 4 → ((0 : Int) ≤ l4 ∧ (l4 : Int) < 160) ∧ ((0 : Int) ≤ (H 129 l4) ∧ ((H 129 l4) : Int) < 24) ∧ (((l6 : Int) < (H 44 (H 129 l4)) → ((0 : Int) ≤ (e3_w32 ((e3_w32 (4 * l4)) + l6)) ∧ ((e3_w32 ((e3_w32 (4 * l4)) + l6)) : Int) < 640) ∧ ((0 : Int) ≤ l3 ∧ (l3 : Int) < 300) ∧ ∀ H4 : e3_H, H4 = e3_up H 133 l3 (H 132 (e3_w32 ((e3_w32 (4 * l4)) + l6))) → ((0 : Int) ≤ (e3_w32 ((e3_w32 (4 * l5)) + l6)) ∧ ((e3_w32 ((e3_w32 (4 * l5)) + l6)) : Int) < 640) ∧ ((0 : Int) ≤ l3 ∧ (l3 : Int) < 300) ∧ ∀ H7 : e3_H, H7 = e3_up H4 134 l3 (H4 132 (e3_w32 ((e3_w32 (4 * l5)) + l6))) → (wM_alike_131 Q k34 nn (e3_w32 (l3 + 1)) l4 l5 (e3_w32 (l6 + 1)) H7 G)) ∧ (¬ ((l6 : Int) < (H 44 (H 129 l4))) → (wM_alike_204 Q k34 l3 H G)))) ∧ (¬ (((H 128 l4) : Int) = 4) → (wM_alike_204 Q k34 l3 H G)))
def wM_alike_34 (Q : Int → e3_H → e3_G → Prop) : Nat → Int → e3_H → e3_G → Prop
  | 0, _, _, _ => False
  | nn + 1, l3, H, G => (((0 : Int) < l3 → ((0 : Int) ≤ (e3_w32 (l3 + (-1))) ∧ ((e3_w32 (l3 + (-1))) : Int) < 300) ∧ ((0 : Int) ≤ (e3_w32 (l3 + (-1))) ∧ ((e3_w32 (l3 + (-1))) : Int) < 300) ∧ ((0 : Int) ≤ (H 133 (e3_w32 (l3 + (-1)))) ∧ ((H 133 (e3_w32 (l3 + (-1)))) : Int) < 160) ∧ ((0 : Int) ≤ (H 134 (e3_w32 (l3 + (-1)))) ∧ ((H 134 (e3_w32 (l3 + (-1)))) : Int) < 160) ∧ ((((H 128 (H 133 (e3_w32 (l3 + (-1))))) : Int) = (H 128 (H 134 (e3_w32 (l3 + (-1))))) → ((0 : Int) ≤ (H 133 (e3_w32 (l3 + (-1)))) ∧ ((H 133 (e3_w32 (l3 + (-1)))) : Int) < 160) ∧ ((0 : Int) ≤ (H 134 (e3_w32 (l3 + (-1)))) ∧ ((H 134 (e3_w32 (l3 + (-1)))) : Int) < 160) ∧ ((((H 129 (H 133 (e3_w32 (l3 + (-1))))) : Int) = (H 129 (H 134 (e3_w32 (l3 + (-1))))) → ((0 : Int) ≤ (H 133 (e3_w32 (l3 + (-1)))) ∧ ((H 133 (e3_w32 (l3 + (-1)))) : Int) < 160) ∧ ((0 : Int) ≤ (H 134 (e3_w32 (l3 + (-1)))) ∧ ((H 134 (e3_w32 (l3 + (-1)))) : Int) < 160) ∧ ((((H 130 (H 133 (e3_w32 (l3 + (-1))))) : Int) = (H 130 (H 134 (e3_w32 (l3 + (-1))))) → ((0 : Int) ≤ (H 133 (e3_w32 (l3 + (-1)))) ∧ ((H 133 (e3_w32 (l3 + (-1)))) : Int) < 160) ∧ ((0 : Int) ≤ (H 134 (e3_w32 (l3 + (-1)))) ∧ ((H 134 (e3_w32 (l3 + (-1)))) : Int) < 160) ∧ ((((H 131 (H 133 (e3_w32 (l3 + (-1))))) : Int) = (H 131 (H 134 (e3_w32 (l3 + (-1))))) → (∃ n, wM_alike_131 Q (fun l3 H G => wM_alike_34 Q nn l3 H G) n (e3_w32 (l3 + (-1))) (H 133 (e3_w32 (l3 + (-1)))) (H 134 (e3_w32 (l3 + (-1)))) 0 H G)) ∧ (¬ (((H 131 (H 133 (e3_w32 (l3 + (-1))))) : Int) = (H 131 (H 134 (e3_w32 (l3 + (-1)))))) → (wM_alike_126 Q H G)))) ∧ (¬ (((H 130 (H 133 (e3_w32 (l3 + (-1))))) : Int) = (H 130 (H 134 (e3_w32 (l3 + (-1)))))) → (wM_alike_126 Q H G)))) ∧ (¬ (((H 129 (H 133 (e3_w32 (l3 + (-1))))) : Int) = (H 129 (H 134 (e3_w32 (l3 + (-1)))))) → (wM_alike_126 Q H G)))) ∧ (¬ (((H 128 (H 133 (e3_w32 (l3 + (-1))))) : Int) = (H 128 (H 134 (e3_w32 (l3 + (-1)))))) → (wM_alike_126 Q H G)))) ∧ (¬ ((0 : Int) < l3) → Q 1 H G))
def wM_alike (Q : Int → e3_H → e3_G → Prop) (l1 : Int) (l2 : Int) (H : e3_H) (G : e3_G) : Prop :=
  (wM_isValue (fun x3 H1 G2 => (((x3 : Int) = 0 → (wM_alike_16 Q H1 G2)) ∧ (¬ ((x3 : Int) = 0) → (wM_isValue (fun x6 H4 G5 => (((x6 : Int) = 0 → (wM_alike_16 Q H4 G5)) ∧ (¬ ((x6 : Int) = 0) → ∀ H7 : e3_H, H7 = e3_up H4 133 0 l1 → ∀ H8 : e3_H, H8 = e3_up H7 134 0 l2 → (∃ n, wM_alike_34 Q n 1 H8 G5)))) l2 H1 G2)))) l1 H G)
set_option maxRecDepth 100000 in
set_option maxHeartbeats 4000000 in
theorem sM_alike_16 (L : Nat) (xs : Nat → Int32) (Q : Int → e3_H → e3_G → Prop)  (H : e3_H) (G : e3_G) (h : wM_alike_16 Q  H G) : e3_Ev (wB L xs) 2 46 284 16 [(3, 0), (3, 0), (3, 0), (3, 0), (3, 0), (3, 0), (3, 0)] [] H G (e3_q0 Q) := by
  unfold wM_alike_16 at h
  refine e3_K [0] 17 [(3, 0), (3, 0), (3, 0), (3, 0), (3, 0), (3, 0), (3, 0)] [(0, (-1))] (H) (G) (wZ L xs) (M := tbM284) rfl rfl trivial ?_
  exact e3_reti (M := tbM284) rfl rfl rfl ⟨_, rfl, h⟩
set_option maxRecDepth 100000 in
set_option maxHeartbeats 4000000 in
theorem sM_alike_126 (L : Nat) (xs : Nat → Int32) (Q : Int → e3_H → e3_G → Prop)  (H : e3_H) (G : e3_G) (h : wM_alike_126 Q  H G) : e3_Ev (wB L xs) 2 46 284 126 [(3, 0), (3, 0), (3, 0), (3, 0), (3, 0), (3, 0), (3, 0)] [] H G (e3_q0 Q) := by
  unfold wM_alike_126 at h
  refine e3_K [0] 127 [(3, 0), (3, 0), (3, 0), (3, 0), (3, 0), (3, 0), (3, 0)] [(0, 0)] (H) (G) (wZ L xs) (M := tbM284) rfl rfl trivial ?_
  exact e3_reti (M := tbM284) rfl rfl rfl ⟨_, rfl, h⟩
set_option maxRecDepth 100000 in
set_option maxHeartbeats 4000000 in
theorem sM_alike_204 (L : Nat) (xs : Nat → Int32) (Q : Int → e3_H → e3_G → Prop) (k34 : Int → e3_H → e3_G → Prop) (hk34 : ∀ (l3 : Int) (H : e3_H) (G : e3_G), k34 l3 H G → e3_Ev (wB L xs) 2 46 284 34 [(2, 40), (3, 0), (3, 0), (0, l3), (3, 0), (3, 0), (3, 0)] [] H G (e3_q0 Q)) (l3 : Int) (H : e3_H) (G : e3_G) (h : wM_alike_204 Q k34 l3 H G) : e3_Ev (wB L xs) 2 46 284 204 [(2, 40), (3, 0), (3, 0), (0, l3), (3, 0), (3, 0), (3, 0)] [] H G (e3_q0 Q) := by
  unfold wM_alike_204 at h
  refine e3_K [0] 34 [(2, 40), (3, 0), (3, 0), (0, l3), (3, 0), (3, 0), (3, 0)] [] (H) (G) (wZ L xs) (M := tbM284) rfl rfl trivial ?_
  exact hk34 _ _ _ h
set_option maxRecDepth 100000 in
set_option maxHeartbeats 4000000 in
theorem sM_alike_131 (L : Nat) (xs : Nat → Int32) (Q : Int → e3_H → e3_G → Prop) (k34 : Int → e3_H → e3_G → Prop) (hk34 : ∀ (l3 : Int) (H : e3_H) (G : e3_G), k34 l3 H G → e3_Ev (wB L xs) 2 46 284 34 [(2, 40), (3, 0), (3, 0), (0, l3), (3, 0), (3, 0), (3, 0)] [] H G (e3_q0 Q)) : ∀ (nl : Nat) (l3 : Int) (l4 : Int) (l5 : Int) (l6 : Int) (H : e3_H) (G : e3_G), wM_alike_131 Q k34 nl l3 l4 l5 l6 H G → e3_Ev (wB L xs) 2 46 284 131 [(2, 40), (3, 0), (3, 0), (0, l3), (0, l4), (0, l5), (0, l6)] [] H G (e3_q0 Q) := by
  intro nl
  induction nl with
  | zero => intro l3 l4 l5 l6 H G h; exact h.elim
  | succ nn ih =>
    intro l3 l4 l5 l6 H G h
    have h : ((0 : Int) ≤ l4 ∧ (l4 : Int) < 160) ∧ ((((H 128 l4) : Int) = 4 → ((0 : Int) ≤ l4 ∧ (l4 : Int) < 160) ∧ ((0 : Int) ≤ (H 129 l4) ∧ ((H 129 l4) : Int) < 24) ∧ (((l6 : Int) < (H 44 (H 129 l4)) → ((0 : Int) ≤ (e3_w32 ((e3_w32 (4 * l4)) + l6)) ∧ ((e3_w32 ((e3_w32 (4 * l4)) + l6)) : Int) < 640) ∧ ((0 : Int) ≤ l3 ∧ (l3 : Int) < 300) ∧ ∀ H4 : e3_H, H4 = e3_up H 133 l3 (H 132 (e3_w32 ((e3_w32 (4 * l4)) + l6))) → ((0 : Int) ≤ (e3_w32 ((e3_w32 (4 * l5)) + l6)) ∧ ((e3_w32 ((e3_w32 (4 * l5)) + l6)) : Int) < 640) ∧ ((0 : Int) ≤ l3 ∧ (l3 : Int) < 300) ∧ ∀ H7 : e3_H, H7 = e3_up H4 134 l3 (H4 132 (e3_w32 ((e3_w32 (4 * l5)) + l6))) → (wM_alike_131 Q k34 nn (e3_w32 (l3 + 1)) l4 l5 (e3_w32 (l6 + 1)) H7 G)) ∧ (¬ ((l6 : Int) < (H 44 (H 129 l4))) → (wM_alike_204 Q k34 l3 H G)))) ∧ (¬ (((H 128 l4) : Int) = 4) → (wM_alike_204 Q k34 l3 H G))) := h
    obtain ⟨o1, h⟩ := h
    refine e3_K [0, 4, 0, 2, 0] 139 [(2, 40), (3, 0), (3, 0), (0, l3), (0, l4), (0, l5), (0, l6)] [(0, 4), (0, (H 128 l4))] (H) (G) (wZ L xs) (M := tbM284) rfl rfl ⟨trivial, o1, trivial⟩ ?_
    refine e3_br (M := tbM284) rfl rfl rfl Iff.rfl (fun hc => ?_) (fun hc => ?_)
    · replace h := h.1 hc
      obtain ⟨o2, o3, h⟩ := h
      refine e3_K [0, 0, 4, 0, 4, 0, 2, 2] 156 [(2, 40), (3, 0), (3, 0), (0, l3), (0, l4), (0, l5), (0, l6)] [(0, (H 44 (H 129 l4))), (0, l6)] (H) (G) (wZ L xs) (M := tbM284) rfl rfl ⟨trivial, trivial, o2, o3, trivial⟩ ?_
      refine e3_br (M := tbM284) rfl rfl rfl Iff.rfl (fun hc => ?_) (fun hc => ?_)
      · replace h := h.1 hc
        obtain ⟨o5, o6, h⟩ := h
        refine e3_K [0, 4, 0, 0, 4, 0, 0, 0, 0, 0, 2, 2] 177 [(2, 40), (3, 0), (3, 0), (0, l3), (0, l4), (0, l5), (0, l6)] [] (e3_up H 133 l3 (H 132 (e3_w32 ((e3_w32 (4 * l4)) + l6)))) (G) (wZ L xs) (M := tbM284) rfl rfl ⟨trivial, trivial, o5, o6, trivial⟩ ?_
        generalize hH4 : (e3_up H 133 l3 (H 132 (e3_w32 ((e3_w32 (4 * l4)) + l6)))) = H4
        replace h := h H4 hH4.symm
        obtain ⟨o8, o9, h⟩ := h
        refine e3_K [0, 4, 0, 0, 4, 0, 0, 0, 0, 0, 2, 2] 195 [(2, 40), (3, 0), (3, 0), (0, l3), (0, l4), (0, l5), (0, l6)] [] (e3_up H4 134 l3 (H4 132 (e3_w32 ((e3_w32 (4 * l5)) + l6)))) (G) (wZ L xs) (M := tbM284) rfl rfl ⟨trivial, trivial, o8, o9, trivial⟩ ?_
        generalize hH7 : (e3_up H4 134 l3 (H4 132 (e3_w32 ((e3_w32 (4 * l5)) + l6)))) = H7
        replace h := h H7 hH7.symm
        refine e3_K [0, 0, 0] 131 [(2, 40), (3, 0), (3, 0), (0, (e3_w32 (l3 + 1))), (0, l4), (0, l5), (0, (e3_w32 (l6 + 1)))] [] (H7) (G) (wZ L xs) (M := tbM284) rfl rfl trivial ?_
        exact ih _ _ _ _ _ _ h
      · replace h := h.2 hc
        refine e3_fgt [true, false, false, true, false, false, false] ?_
        exact sM_alike_204 L xs Q k34 hk34 _ _ _ h
    · replace h := h.2 hc
      refine e3_fgt [true, false, false, true, false, false, false] ?_
      exact sM_alike_204 L xs Q k34 hk34 _ _ _ h
set_option maxRecDepth 100000 in
set_option maxHeartbeats 4000000 in
theorem sM_alike_34 (L : Nat) (xs : Nat → Int32) (Q : Int → e3_H → e3_G → Prop) : ∀ (nl : Nat) (l3 : Int) (H : e3_H) (G : e3_G), wM_alike_34 Q nl l3 H G → e3_Ev (wB L xs) 2 46 284 34 [(2, 40), (3, 0), (3, 0), (0, l3), (3, 0), (3, 0), (3, 0)] [] H G (e3_q0 Q) := by
  intro nl
  induction nl with
  | zero => intro l3 H G h; exact h.elim
  | succ nn ih =>
    intro l3 H G h
    have h : (((0 : Int) < l3 → ((0 : Int) ≤ (e3_w32 (l3 + (-1))) ∧ ((e3_w32 (l3 + (-1))) : Int) < 300) ∧ ((0 : Int) ≤ (e3_w32 (l3 + (-1))) ∧ ((e3_w32 (l3 + (-1))) : Int) < 300) ∧ ((0 : Int) ≤ (H 133 (e3_w32 (l3 + (-1)))) ∧ ((H 133 (e3_w32 (l3 + (-1)))) : Int) < 160) ∧ ((0 : Int) ≤ (H 134 (e3_w32 (l3 + (-1)))) ∧ ((H 134 (e3_w32 (l3 + (-1)))) : Int) < 160) ∧ ((((H 128 (H 133 (e3_w32 (l3 + (-1))))) : Int) = (H 128 (H 134 (e3_w32 (l3 + (-1))))) → ((0 : Int) ≤ (H 133 (e3_w32 (l3 + (-1)))) ∧ ((H 133 (e3_w32 (l3 + (-1)))) : Int) < 160) ∧ ((0 : Int) ≤ (H 134 (e3_w32 (l3 + (-1)))) ∧ ((H 134 (e3_w32 (l3 + (-1)))) : Int) < 160) ∧ ((((H 129 (H 133 (e3_w32 (l3 + (-1))))) : Int) = (H 129 (H 134 (e3_w32 (l3 + (-1))))) → ((0 : Int) ≤ (H 133 (e3_w32 (l3 + (-1)))) ∧ ((H 133 (e3_w32 (l3 + (-1)))) : Int) < 160) ∧ ((0 : Int) ≤ (H 134 (e3_w32 (l3 + (-1)))) ∧ ((H 134 (e3_w32 (l3 + (-1)))) : Int) < 160) ∧ ((((H 130 (H 133 (e3_w32 (l3 + (-1))))) : Int) = (H 130 (H 134 (e3_w32 (l3 + (-1))))) → ((0 : Int) ≤ (H 133 (e3_w32 (l3 + (-1)))) ∧ ((H 133 (e3_w32 (l3 + (-1)))) : Int) < 160) ∧ ((0 : Int) ≤ (H 134 (e3_w32 (l3 + (-1)))) ∧ ((H 134 (e3_w32 (l3 + (-1)))) : Int) < 160) ∧ ((((H 131 (H 133 (e3_w32 (l3 + (-1))))) : Int) = (H 131 (H 134 (e3_w32 (l3 + (-1))))) → (∃ n, wM_alike_131 Q (fun l3 H G => wM_alike_34 Q nn l3 H G) n (e3_w32 (l3 + (-1))) (H 133 (e3_w32 (l3 + (-1)))) (H 134 (e3_w32 (l3 + (-1)))) 0 H G)) ∧ (¬ (((H 131 (H 133 (e3_w32 (l3 + (-1))))) : Int) = (H 131 (H 134 (e3_w32 (l3 + (-1)))))) → (wM_alike_126 Q H G)))) ∧ (¬ (((H 130 (H 133 (e3_w32 (l3 + (-1))))) : Int) = (H 130 (H 134 (e3_w32 (l3 + (-1)))))) → (wM_alike_126 Q H G)))) ∧ (¬ (((H 129 (H 133 (e3_w32 (l3 + (-1))))) : Int) = (H 129 (H 134 (e3_w32 (l3 + (-1)))))) → (wM_alike_126 Q H G)))) ∧ (¬ (((H 128 (H 133 (e3_w32 (l3 + (-1))))) : Int) = (H 128 (H 134 (e3_w32 (l3 + (-1)))))) → (wM_alike_126 Q H G)))) ∧ (¬ ((0 : Int) < l3) → Q 1 H G)) := h
    refine e3_K [0] 35 [(2, 40), (3, 0), (3, 0), (0, l3), (3, 0), (3, 0), (3, 0)] [(0, l3)] (H) (G) (wZ L xs) (M := tbM284) rfl rfl trivial ?_
    refine e3_br (M := tbM284) rfl rfl rfl Iff.rfl (fun hc => ?_) (fun hc => ?_)
    · replace h := h.1 hc
      obtain ⟨o1, o2, o3, o4, h⟩ := h
      refine e3_K [0, 0, 4, 0, 2, 0, 0, 4, 0, 2, 0, 0, 4, 0, 2, 0, 4, 0, 2] 71 [(2, 40), (3, 0), (3, 0), (0, (e3_w32 (l3 + (-1)))), (0, (H 133 (e3_w32 (l3 + (-1))))), (0, (H 134 (e3_w32 (l3 + (-1))))), (3, 0)] [(0, (H 128 (H 134 (e3_w32 (l3 + (-1)))))), (0, (H 128 (H 133 (e3_w32 (l3 + (-1))))))] (H) (G) (wZ L xs) (M := tbM284) rfl rfl ⟨trivial, o1, trivial, o2, trivial, o3, trivial, o4, trivial⟩ ?_
      refine e3_br (M := tbM284) rfl rfl rfl Iff.rfl (fun hc => ?_) (fun hc => ?_)
      · replace h := h.1 hc
        obtain ⟨o5, o6, h⟩ := h
        refine e3_K [0, 4, 0, 2, 0, 4, 0, 2] 88 [(2, 40), (3, 0), (3, 0), (0, (e3_w32 (l3 + (-1)))), (0, (H 133 (e3_w32 (l3 + (-1))))), (0, (H 134 (e3_w32 (l3 + (-1))))), (3, 0)] [(0, (H 129 (H 134 (e3_w32 (l3 + (-1)))))), (0, (H 129 (H 133 (e3_w32 (l3 + (-1))))))] (H) (G) (wZ L xs) (M := tbM284) rfl rfl ⟨trivial, o5, trivial, o6, trivial⟩ ?_
        refine e3_br (M := tbM284) rfl rfl rfl Iff.rfl (fun hc => ?_) (fun hc => ?_)
        · replace h := h.1 hc
          obtain ⟨o7, o8, h⟩ := h
          refine e3_K [0, 4, 0, 2, 0, 4, 0, 2, 0] 106 [(2, 40), (3, 0), (3, 0), (0, (e3_w32 (l3 + (-1)))), (0, (H 133 (e3_w32 (l3 + (-1))))), (0, (H 134 (e3_w32 (l3 + (-1))))), (3, 0)] [(0, (e3_cmp (H 130 (H 133 (e3_w32 (l3 + (-1))))) (H 130 (H 134 (e3_w32 (l3 + (-1)))))))] (H) (G) (wZ L xs) (M := tbM284) rfl rfl ⟨trivial, o7, trivial, o8, trivial⟩ ?_
          refine e3_br (M := tbM284) rfl rfl rfl e3_cmp_eq (fun hc => ?_) (fun hc => ?_)
          · replace h := h.1 hc
            obtain ⟨o9, o10, h⟩ := h
            refine e3_K [0, 4, 0, 2, 0, 4, 0, 2] 123 [(2, 40), (3, 0), (3, 0), (0, (e3_w32 (l3 + (-1)))), (0, (H 133 (e3_w32 (l3 + (-1))))), (0, (H 134 (e3_w32 (l3 + (-1))))), (3, 0)] [(0, (H 131 (H 134 (e3_w32 (l3 + (-1)))))), (0, (H 131 (H 133 (e3_w32 (l3 + (-1))))))] (H) (G) (wZ L xs) (M := tbM284) rfl rfl ⟨trivial, o9, trivial, o10, trivial⟩ ?_
            refine e3_br (M := tbM284) rfl rfl rfl Iff.rfl (fun hc => ?_) (fun hc => ?_)
            · replace h := h.1 hc
              refine e3_K [0, 0] 131 [(2, 40), (3, 0), (3, 0), (0, (e3_w32 (l3 + (-1)))), (0, (H 133 (e3_w32 (l3 + (-1))))), (0, (H 134 (e3_w32 (l3 + (-1))))), (0, 0)] [] (H) (G) (wZ L xs) (M := tbM284) rfl rfl trivial ?_
              obtain ⟨nl, h⟩ := h
              exact sM_alike_131 L xs Q (fun l3 H G => wM_alike_34 Q nn l3 H G) ih nl _ _ _ _ _ _ h
            · replace h := h.2 hc
              refine e3_fgt [false, false, false, false, false, false, false] ?_
              exact sM_alike_126 L xs Q _ _ h
          · replace h := h.2 hc
            refine e3_fgt [false, false, false, false, false, false, false] ?_
            exact sM_alike_126 L xs Q _ _ h
        · replace h := h.2 hc
          refine e3_fgt [false, false, false, false, false, false, false] ?_
          exact sM_alike_126 L xs Q _ _ h
      · replace h := h.2 hc
        refine e3_fgt [false, false, false, false, false, false, false] ?_
        exact sM_alike_126 L xs Q _ _ h
    · replace h := h.2 hc
      refine e3_K [0] 208 [(2, 40), (3, 0), (3, 0), (0, l3), (3, 0), (3, 0), (3, 0)] [(0, 1)] (H) (G) (wZ L xs) (M := tbM284) rfl rfl trivial ?_
      exact e3_reti (M := tbM284) rfl rfl rfl ⟨_, rfl, h⟩
set_option maxRecDepth 100000 in
set_option maxHeartbeats 4000000 in
theorem sM_alike (L : Nat) (xs : Nat → Int32) (Q : Int → e3_H → e3_G → Prop) (l1 : Int) (l2 : Int) (H : e3_H) (G : e3_G) (h : wM_alike Q l1 l2 H G) : e3_Ev (wB L xs) 2 46 284 0 [(2, 40), (0, l1), (0, l2), (3, 0), (3, 0), (3, 0), (3, 0)] [] H G (e3_q0 Q) := by
  unfold wM_alike at h
  refine e3_K [0, 0] 2 [(2, 40), (0, l1), (0, l2), (3, 0), (3, 0), (3, 0), (3, 0)] [(0, l1), (2, 40)] (H) (G) (wZ L xs) (M := tbM284) rfl rfl trivial ?_
  refine e3_call (o := 0) (k := 281) (M2 := tbM281) (f1 := 1) (w1 := 25) (as := [(2, 40), (0, l1)]) (rest := []) (M := tbM284) rfl rfl rfl trivial (Nat.le_of_ble_eq_true rfl) (Nat.le_of_ble_eq_true rfl) (Nat.le_of_ble_eq_true rfl) ?_
  refine e3_mono (sM_isValue L xs _ _ _ _ h) (fun r H1 G2 h => ?_)
  obtain ⟨x3, rfl, h⟩ := h
  change e3_Ev _ _ _ _ 5 [(2, 40), (0, l1), (0, l2), (3, 0), (3, 0), (3, 0), (3, 0)] [(0, x3)] H1 G2 _
  refine e3_br (M := tbM284) rfl rfl rfl Iff.rfl (fun hc => ?_) (fun hc => ?_)
  · replace h := h.1 hc
    refine e3_fgt [false, false, false, false, false, false, false] ?_
    exact sM_alike_16 L xs Q _ _ h
  · replace h := h.2 hc
    refine e3_K [0, 0] 10 [(2, 40), (0, l1), (0, l2), (3, 0), (3, 0), (3, 0), (3, 0)] [(0, l2), (2, 40)] (H1) (G2) (wZ L xs) (M := tbM284) rfl rfl trivial ?_
    refine e3_call (o := 0) (k := 281) (M2 := tbM281) (f1 := 1) (w1 := 25) (as := [(2, 40), (0, l2)]) (rest := []) (M := tbM284) rfl rfl rfl trivial (Nat.le_of_ble_eq_true rfl) (Nat.le_of_ble_eq_true rfl) (Nat.le_of_ble_eq_true rfl) ?_
    refine e3_mono (sM_isValue L xs _ _ _ _ h) (fun r H4 G5 h => ?_)
    obtain ⟨x6, rfl, h⟩ := h
    change e3_Ev _ _ _ _ 13 [(2, 40), (0, l1), (0, l2), (3, 0), (3, 0), (3, 0), (3, 0)] [(0, x6)] H4 G5 _
    refine e3_br (M := tbM284) rfl rfl rfl Iff.rfl (fun hc => ?_) (fun hc => ?_)
    · replace h := h.1 hc
      refine e3_fgt [false, false, false, false, false, false, false] ?_
      exact sM_alike_16 L xs Q _ _ h
    · replace h := h.2 hc
      refine e3_K [0, 4, 0, 0, 2] 25 [(2, 40), (0, l1), (0, l2), (3, 0), (3, 0), (3, 0), (3, 0)] [] (e3_up H4 133 0 l1) (G5) (wZ L xs) (M := tbM284) rfl rfl ⟨trivial, ⟨by decide, by decide⟩, trivial⟩ ?_
      generalize hH7 : (e3_up H4 133 0 l1) = H7
      replace h := h H7 hH7.symm
      refine e3_K [0, 4, 0, 0, 2] 32 [(2, 40), (0, l1), (0, l2), (3, 0), (3, 0), (3, 0), (3, 0)] [] (e3_up H7 134 0 l2) (G5) (wZ L xs) (M := tbM284) rfl rfl ⟨trivial, ⟨by decide, by decide⟩, trivial⟩ ?_
      generalize hH8 : (e3_up H7 134 0 l2) = H8
      replace h := h H8 hH8.symm
      refine e3_K [0, 0] 34 [(2, 40), (0, l1), (0, l2), (0, 1), (3, 0), (3, 0), (3, 0)] [] (H8) (G5) (wZ L xs) (M := tbM284) rfl rfl trivial ?_
      refine e3_fgt [true, false, false, true, false, false, false] ?_
      obtain ⟨nl, h⟩ := h
      exact sM_alike_34 L xs Q nl _ _ _ h
/-- LetterPostModel.fitsHere(II)Z -/
def wM_fitsHere_75 (Q : Int → e3_H → e3_G → Prop) (s0 : Int) (H : e3_H) (G : e3_G) : Prop :=
  ((s0 : Int) = 0 ∨ s0 = 1) ∧ Q s0 H G
def wM_fitsHere_74 (Q : Int → e3_H → e3_G → Prop)  (H : e3_H) (G : e3_G) : Prop :=
  (wM_fitsHere_75 Q 0 H G)
def wM_fitsHere_96 (Q : Int → e3_H → e3_G → Prop) (s0 : Int) (H : e3_H) (G : e3_G) : Prop :=
  ((s0 : Int) = 0 ∨ s0 = 1) ∧ Q s0 H G
def wM_fitsHere_118 (Q : Int → e3_H → e3_G → Prop) (s0 : Int) (H : e3_H) (G : e3_G) : Prop :=
  ((s0 : Int) = 0 ∨ s0 = 1) ∧ Q s0 H G
def wM_fitsHere_134 (Q : Int → e3_H → e3_G → Prop) (s0 : Int) (H : e3_H) (G : e3_G) : Prop :=
  ((s0 : Int) = 0 ∨ s0 = 1) ∧ Q s0 H G
def wM_fitsHere_169 (Q : Int → e3_H → e3_G → Prop) (s0 : Int) (H : e3_H) (G : e3_G) : Prop :=
  ((s0 : Int) = 0 ∨ s0 = 1) ∧ Q s0 H G
def wM_fitsHere_168 (Q : Int → e3_H → e3_G → Prop)  (H : e3_H) (G : e3_G) : Prop :=
  (wM_fitsHere_169 Q 0 H G)
def wM_fitsHere (Q : Int → e3_H → e3_G → Prop) (l1 : Int) (l2 : Int) (H : e3_H) (G : e3_G) : Prop :=
  ((0 : Int) ≤ l1 ∧ (l1 : Int) < 1700) ∧ ((((H 46 l1) : Int) = 1 → ((0 : Int) ≤ l2 ∧ (l2 : Int) < 160) ∧ ((0 : Int) ≤ l1 ∧ (l1 : Int) < 1700) ∧ ((((H 129 l2) : Int) < (H 48 l1) → (wM_fitsHere_74 Q H G)) ∧ (¬ (((H 129 l2) : Int) < (H 48 l1)) → ((0 : Int) ≤ l2 ∧ (l2 : Int) < 160) ∧ ((0 : Int) ≤ l1 ∧ (l1 : Int) < 1700) ∧ ((((H 49 l1) : Int) < (H 129 l2) → (wM_fitsHere_74 Q H G)) ∧ (¬ (((H 49 l1) : Int) < (H 129 l2)) → (wM_fitsHere_75 Q 1 H G)))))) ∧ (((H 46 l1) : Int) = 2 → ((0 : Int) ≤ l2 ∧ (l2 : Int) < 160) ∧ ((0 : Int) ≤ l1 ∧ (l1 : Int) < 1700) ∧ ((((H 129 l2) : Int) = (H 48 l1) → (wM_fitsHere_96 Q 1 H G)) ∧ (¬ (((H 129 l2) : Int) = (H 48 l1)) → (wM_fitsHere_96 Q 0 H G)))) ∧ (((H 46 l1) : Int) = 3 → ((0 : Int) ≤ l2 ∧ (l2 : Int) < 160) ∧ ((0 : Int) ≤ l1 ∧ (l1 : Int) < 1700) ∧ ((((H 130 l2) : Int) = (H 50 l1) → (wM_fitsHere_118 Q 1 H G)) ∧ (¬ (((H 130 l2) : Int) = (H 50 l1)) → (wM_fitsHere_118 Q 0 H G)))) ∧ (((H 46 l1) : Int) = 4 → ((0 : Int) ≤ l2 ∧ (l2 : Int) < 160) ∧ ((((H 128 l2) : Int) = 3 → (wM_fitsHere_134 Q 1 H G)) ∧ (¬ (((H 128 l2) : Int) = 3) → (wM_fitsHere_134 Q 0 H G)))) ∧ (((H 46 l1) : Int) = 5 → ((0 : Int) ≤ l2 ∧ (l2 : Int) < 160) ∧ ((((H 128 l2) : Int) = 4 → ((0 : Int) ≤ l2 ∧ (l2 : Int) < 160) ∧ ((0 : Int) ≤ l1 ∧ (l1 : Int) < 1700) ∧ (wM_isOf (fun x16 H14 G15 => (((x16 : Int) = 0 → (wM_fitsHere_168 Q H14 G15)) ∧ (¬ ((x16 : Int) = 0) → (wM_fitsHere_169 Q 1 H14 G15)))) (H 129 l2) (H 48 l1) H G)) ∧ (¬ (((H 128 l2) : Int) = 4) → (wM_fitsHere_168 Q H G)))) ∧ (((H 46 l1) : Int) < 1 ∨ 5 < (H 46 l1) → Q 1 H G))
set_option maxRecDepth 100000 in
set_option maxHeartbeats 4000000 in
theorem sM_fitsHere_75 (L : Nat) (xs : Nat → Int32) (Q : Int → e3_H → e3_G → Prop) (s0 : Int) (H : e3_H) (G : e3_G) (h : wM_fitsHere_75 Q s0 H G) : e3_Ev (wB L xs) 1 23 289 75 [(3, 0), (3, 0), (3, 0)] [(0, s0)] H G (e3_q0 Q) := by
  unfold wM_fitsHere_75 at h
  exact e3_retb (M := tbM289) rfl rfl rfl h.1 ⟨_, rfl, h.2⟩
set_option maxRecDepth 100000 in
set_option maxHeartbeats 4000000 in
theorem sM_fitsHere_74 (L : Nat) (xs : Nat → Int32) (Q : Int → e3_H → e3_G → Prop)  (H : e3_H) (G : e3_G) (h : wM_fitsHere_74 Q  H G) : e3_Ev (wB L xs) 1 23 289 74 [(3, 0), (3, 0), (3, 0)] [] H G (e3_q0 Q) := by
  unfold wM_fitsHere_74 at h
  refine e3_K [0] 75 [(3, 0), (3, 0), (3, 0)] [(0, 0)] (H) (G) (wZ L xs) (M := tbM289) rfl rfl trivial ?_
  exact sM_fitsHere_75 L xs Q _ _ _ h
set_option maxRecDepth 100000 in
set_option maxHeartbeats 4000000 in
theorem sM_fitsHere_96 (L : Nat) (xs : Nat → Int32) (Q : Int → e3_H → e3_G → Prop) (s0 : Int) (H : e3_H) (G : e3_G) (h : wM_fitsHere_96 Q s0 H G) : e3_Ev (wB L xs) 1 23 289 96 [(3, 0), (3, 0), (3, 0)] [(0, s0)] H G (e3_q0 Q) := by
  unfold wM_fitsHere_96 at h
  exact e3_retb (M := tbM289) rfl rfl rfl h.1 ⟨_, rfl, h.2⟩
set_option maxRecDepth 100000 in
set_option maxHeartbeats 4000000 in
theorem sM_fitsHere_118 (L : Nat) (xs : Nat → Int32) (Q : Int → e3_H → e3_G → Prop) (s0 : Int) (H : e3_H) (G : e3_G) (h : wM_fitsHere_118 Q s0 H G) : e3_Ev (wB L xs) 1 23 289 118 [(3, 0), (3, 0), (3, 0)] [(0, s0)] H G (e3_q0 Q) := by
  unfold wM_fitsHere_118 at h
  exact e3_retb (M := tbM289) rfl rfl rfl h.1 ⟨_, rfl, h.2⟩
set_option maxRecDepth 100000 in
set_option maxHeartbeats 4000000 in
theorem sM_fitsHere_134 (L : Nat) (xs : Nat → Int32) (Q : Int → e3_H → e3_G → Prop) (s0 : Int) (H : e3_H) (G : e3_G) (h : wM_fitsHere_134 Q s0 H G) : e3_Ev (wB L xs) 1 23 289 134 [(3, 0), (3, 0), (3, 0)] [(0, s0)] H G (e3_q0 Q) := by
  unfold wM_fitsHere_134 at h
  exact e3_retb (M := tbM289) rfl rfl rfl h.1 ⟨_, rfl, h.2⟩
set_option maxRecDepth 100000 in
set_option maxHeartbeats 4000000 in
theorem sM_fitsHere_169 (L : Nat) (xs : Nat → Int32) (Q : Int → e3_H → e3_G → Prop) (s0 : Int) (H : e3_H) (G : e3_G) (h : wM_fitsHere_169 Q s0 H G) : e3_Ev (wB L xs) 1 23 289 169 [(3, 0), (3, 0), (3, 0)] [(0, s0)] H G (e3_q0 Q) := by
  unfold wM_fitsHere_169 at h
  exact e3_retb (M := tbM289) rfl rfl rfl h.1 ⟨_, rfl, h.2⟩
set_option maxRecDepth 100000 in
set_option maxHeartbeats 4000000 in
theorem sM_fitsHere_168 (L : Nat) (xs : Nat → Int32) (Q : Int → e3_H → e3_G → Prop)  (H : e3_H) (G : e3_G) (h : wM_fitsHere_168 Q  H G) : e3_Ev (wB L xs) 1 23 289 168 [(3, 0), (3, 0), (3, 0)] [] H G (e3_q0 Q) := by
  unfold wM_fitsHere_168 at h
  refine e3_K [0] 169 [(3, 0), (3, 0), (3, 0)] [(0, 0)] (H) (G) (wZ L xs) (M := tbM289) rfl rfl trivial ?_
  exact sM_fitsHere_169 L xs Q _ _ _ h
set_option maxRecDepth 100000 in
set_option maxHeartbeats 4000000 in
theorem sM_fitsHere (L : Nat) (xs : Nat → Int32) (Q : Int → e3_H → e3_G → Prop) (l1 : Int) (l2 : Int) (H : e3_H) (G : e3_G) (h : wM_fitsHere Q l1 l2 H G) : e3_Ev (wB L xs) 1 23 289 0 [(2, 40), (0, l1), (0, l2)] [] H G (e3_q0 Q) := by
  unfold wM_fitsHere at h
  obtain ⟨o1, h⟩ := h
  refine e3_K [0, 4, 0, 2] 6 [(2, 40), (0, l1), (0, l2)] [(0, (H 46 l1))] (H) (G) (wZ L xs) (M := tbM289) rfl rfl ⟨trivial, o1, trivial⟩ ?_
  by_cases hc0 : ((H 46 l1) : Int) = 1
  · replace h := h.1 hc0
    refine e3_sw (M := tbM289) rfl rfl hc0 rfl ?_
    obtain ⟨o2, o3, h⟩ := h
    refine e3_K [0, 4, 0, 2, 0, 4, 0, 2] 52 [(2, 40), (0, l1), (0, l2)] [(0, (H 48 l1)), (0, (H 129 l2))] (H) (G) (wZ L xs) (M := tbM289) rfl rfl ⟨trivial, o2, trivial, o3, trivial⟩ ?_
    refine e3_br (M := tbM289) rfl rfl rfl Iff.rfl (fun hc => ?_) (fun hc => ?_)
    · replace h := h.1 hc
      refine e3_fgt [false, false, false] ?_
      exact sM_fitsHere_74 L xs Q _ _ h
    · replace h := h.2 hc
      obtain ⟨o4, o5, h⟩ := h
      refine e3_K [0, 4, 0, 2, 0, 4, 0, 2] 67 [(2, 40), (0, l1), (0, l2)] [(0, (H 49 l1)), (0, (H 129 l2))] (H) (G) (wZ L xs) (M := tbM289) rfl rfl ⟨trivial, o4, trivial, o5, trivial⟩ ?_
      refine e3_br (M := tbM289) rfl rfl rfl Iff.rfl (fun hc => ?_) (fun hc => ?_)
      · replace h := h.1 hc
        refine e3_fgt [false, false, false] ?_
        exact sM_fitsHere_74 L xs Q _ _ h
      · replace h := h.2 hc
        refine e3_K [0, 0] 75 [(2, 40), (0, l1), (0, l2)] [(0, 1)] (H) (G) (wZ L xs) (M := tbM289) rfl rfl trivial ?_
        refine e3_fgt [false, false, false] ?_
        exact sM_fitsHere_75 L xs Q _ _ _ h
  replace h := h.2
  by_cases hc1 : ((H 46 l1) : Int) = 2
  · replace h := h.1 hc1
    refine e3_sw (M := tbM289) rfl rfl hc1 rfl ?_
    obtain ⟨o6, o7, h⟩ := h
    refine e3_K [0, 4, 0, 2, 0, 4, 0, 2] 88 [(2, 40), (0, l1), (0, l2)] [(0, (H 48 l1)), (0, (H 129 l2))] (H) (G) (wZ L xs) (M := tbM289) rfl rfl ⟨trivial, o6, trivial, o7, trivial⟩ ?_
    refine e3_br (M := tbM289) rfl rfl rfl Iff.rfl (fun hc => ?_) (fun hc => ?_)
    · replace h := h.1 hc
      refine e3_K [0, 0] 96 [(2, 40), (0, l1), (0, l2)] [(0, 1)] (H) (G) (wZ L xs) (M := tbM289) rfl rfl trivial ?_
      refine e3_fgt [false, false, false] ?_
      exact sM_fitsHere_96 L xs Q _ _ _ h
    · replace h := h.2 hc
      refine e3_K [0] 96 [(2, 40), (0, l1), (0, l2)] [(0, 0)] (H) (G) (wZ L xs) (M := tbM289) rfl rfl trivial ?_
      refine e3_fgt [false, false, false] ?_
      exact sM_fitsHere_96 L xs Q _ _ _ h
  replace h := h.2
  by_cases hc2 : ((H 46 l1) : Int) = 3
  · replace h := h.1 hc2
    refine e3_sw (M := tbM289) rfl rfl hc2 rfl ?_
    obtain ⟨o8, o9, h⟩ := h
    refine e3_K [0, 4, 0, 2, 0, 4, 0, 2, 0] 110 [(2, 40), (0, l1), (0, l2)] [(0, (e3_cmp (H 130 l2) (H 50 l1)))] (H) (G) (wZ L xs) (M := tbM289) rfl rfl ⟨trivial, o8, trivial, o9, trivial⟩ ?_
    refine e3_br (M := tbM289) rfl rfl rfl e3_cmp_eq (fun hc => ?_) (fun hc => ?_)
    · replace h := h.1 hc
      refine e3_K [0, 0] 118 [(2, 40), (0, l1), (0, l2)] [(0, 1)] (H) (G) (wZ L xs) (M := tbM289) rfl rfl trivial ?_
      refine e3_fgt [false, false, false] ?_
      exact sM_fitsHere_118 L xs Q _ _ _ h
    · replace h := h.2 hc
      refine e3_K [0] 118 [(2, 40), (0, l1), (0, l2)] [(0, 0)] (H) (G) (wZ L xs) (M := tbM289) rfl rfl trivial ?_
      refine e3_fgt [false, false, false] ?_
      exact sM_fitsHere_118 L xs Q _ _ _ h
  replace h := h.2
  by_cases hc3 : ((H 46 l1) : Int) = 4
  · replace h := h.1 hc3
    refine e3_sw (M := tbM289) rfl rfl hc3 rfl ?_
    obtain ⟨o10, h⟩ := h
    refine e3_K [0, 4, 0, 2, 0] 126 [(2, 40), (0, l1), (0, l2)] [(0, 3), (0, (H 128 l2))] (H) (G) (wZ L xs) (M := tbM289) rfl rfl ⟨trivial, o10, trivial⟩ ?_
    refine e3_br (M := tbM289) rfl rfl rfl Iff.rfl (fun hc => ?_) (fun hc => ?_)
    · replace h := h.1 hc
      refine e3_K [0, 0] 134 [(2, 40), (0, l1), (0, l2)] [(0, 1)] (H) (G) (wZ L xs) (M := tbM289) rfl rfl trivial ?_
      refine e3_fgt [false, false, false] ?_
      exact sM_fitsHere_134 L xs Q _ _ _ h
    · replace h := h.2 hc
      refine e3_K [0] 134 [(2, 40), (0, l1), (0, l2)] [(0, 0)] (H) (G) (wZ L xs) (M := tbM289) rfl rfl trivial ?_
      refine e3_fgt [false, false, false] ?_
      exact sM_fitsHere_134 L xs Q _ _ _ h
  replace h := h.2
  by_cases hc4 : ((H 46 l1) : Int) = 5
  · replace h := h.1 hc4
    refine e3_sw (M := tbM289) rfl rfl hc4 rfl ?_
    obtain ⟨o11, h⟩ := h
    refine e3_K [0, 4, 0, 2, 0] 142 [(2, 40), (0, l1), (0, l2)] [(0, 4), (0, (H 128 l2))] (H) (G) (wZ L xs) (M := tbM289) rfl rfl ⟨trivial, o11, trivial⟩ ?_
    refine e3_br (M := tbM289) rfl rfl rfl Iff.rfl (fun hc => ?_) (fun hc => ?_)
    · replace h := h.1 hc
      obtain ⟨o12, o13, h⟩ := h
      refine e3_K [0, 0, 4, 0, 2, 0, 4, 0, 2] 158 [(2, 40), (0, l1), (0, l2)] [(0, (H 48 l1)), (0, (H 129 l2)), (2, 40)] (H) (G) (wZ L xs) (M := tbM289) rfl rfl ⟨trivial, o12, trivial, o13, trivial⟩ ?_
      refine e3_call (o := 0) (k := 223) (M2 := tbM223) (f1 := 0) (w1 := 0) (as := [(2, 40), (0, (H 129 l2)), (0, (H 48 l1))]) (rest := []) (M := tbM289) rfl rfl rfl trivial (Nat.le_of_ble_eq_true rfl) (Nat.le_of_ble_eq_true rfl) (Nat.le_of_ble_eq_true rfl) ?_
      refine e3_mono (sM_isOf L xs _ _ _ _ _ h) (fun r H14 G15 h => ?_)
      obtain ⟨x16, rfl, h⟩ := h
      change e3_Ev _ _ _ _ 161 [(2, 40), (0, l1), (0, l2)] [(0, x16)] H14 G15 _
      refine e3_br (M := tbM289) rfl rfl rfl Iff.rfl (fun hc => ?_) (fun hc => ?_)
      · replace h := h.1 hc
        refine e3_fgt [false, false, false] ?_
        exact sM_fitsHere_168 L xs Q _ _ h
      · replace h := h.2 hc
        refine e3_K [0, 0] 169 [(2, 40), (0, l1), (0, l2)] [(0, 1)] (H14) (G15) (wZ L xs) (M := tbM289) rfl rfl trivial ?_
        refine e3_fgt [false, false, false] ?_
        exact sM_fitsHere_169 L xs Q _ _ _ h
    · replace h := h.2 hc
      refine e3_fgt [false, false, false] ?_
      exact sM_fitsHere_168 L xs Q _ _ h
  replace h := h.2
  replace h := h (by omega)
  refine e3_sw (M := tbM289) rfl rfl rfl ((e3_swdt (by omega)).trans rfl) ?_
  refine e3_K [0] 171 [(2, 40), (0, l1), (0, l2)] [(0, 1)] (H) (G) (wZ L xs) (M := tbM289) rfl rfl trivial ?_
  exact e3_retb (M := tbM289) rfl rfl rfl (Or.inr rfl) ⟨_, rfl, h⟩
/-- LetterPostModel.binds0(II)Z -/
def wM_binds0_111 (Q : Int → e3_H → e3_G → Prop) (k18 : e3_H → e3_G → Prop)  (H : e3_H) (G : e3_G) : Prop :=
  (k18 H G)
def wM_binds0_18 (Q : Int → e3_H → e3_G → Prop) : Nat → e3_H → e3_G → Prop
  | 0, _, _ => False
  | nn + 1, H, G => (((0 : Int) < (H 40 71) → (wM_nextPattern (fun x3 H1 G2 => ((0 : Int) ≤ (H1 40 71) ∧ ((H1 40 71) : Int) < 2000) ∧ (wM_fitsHere (fun x7 H5 G6 => (((x7 : Int) = 0 → Q 0 H5 G6) ∧ (¬ ((x7 : Int) = 0) → (wM_notes (fun H8 G9 => ((0 : Int) ≤ x3 ∧ (x3 : Int) < 1700) ∧ ((((H8 46 x3) : Int) = 5 → ((0 : Int) ≤ x3 ∧ (x3 : Int) < 1700) ∧ ((((H8 51 x3) : Int) = (-4) → (wM_binds0_111 Q (fun  H G => wM_binds0_18 Q nn  H G) H8 G9)) ∧ (¬ (((H8 51 x3) : Int) = (-4)) → ((0 : Int) ≤ x3 ∧ (x3 : Int) < 1700) ∧ ((0 : Int) ≤ (H8 40 71) ∧ ((H8 40 71) : Int) < 2000) ∧ ((0 : Int) ≤ (H8 40 71) ∧ ((H8 40 71) : Int) < 2000) ∧ (wM_waitAll (fun H16 G17 => (wM_binds0_111 Q (fun  H G => wM_binds0_18 Q nn  H G) H16 G17)) (H8 51 x3) (H8 95 (H8 40 71)) (H8 96 (H8 40 71)) (H1 97 (H1 40 71)) H8 G9)))) ∧ (¬ (((H8 46 x3) : Int) = 5) → (wM_binds0_111 Q (fun  H G => wM_binds0_18 Q nn  H G) H8 G9)))) x3 (H1 97 (H1 40 71)) H5 G6)))) x3 (H1 97 (H1 40 71)) H1 G2)) H G)) ∧ (¬ ((0 : Int) < (H 40 71)) → Q 1 H G))
def wM_binds0 (Q : Int → e3_H → e3_G → Prop) (l1 : Int) (l2 : Int) (H : e3_H) (G : e3_G) : Prop :=
  ∀ H1 : e3_H, H1 = e3_up H 40 71 0 → ((0 : Int) ≤ l1 ∧ (l1 : Int) < 192) ∧ (wM_waitAll (fun H3 G4 => (∃ n, wM_binds0_18 Q n H3 G4)) (H1 72 l1) l2 0 0 H1 G)
set_option maxRecDepth 100000 in
set_option maxHeartbeats 4000000 in
theorem sM_binds0_111 (L : Nat) (xs : Nat → Int32) (Q : Int → e3_H → e3_G → Prop) (k18 : e3_H → e3_G → Prop) (hk18 : ∀ (H : e3_H) (G : e3_G), k18  H G → e3_Ev (wB L xs) 2 53 288 18 [(2, 40), (3, 0), (3, 0), (3, 0), (3, 0)] [] H G (e3_q0 Q))  (H : e3_H) (G : e3_G) (h : wM_binds0_111 Q k18  H G) : e3_Ev (wB L xs) 2 53 288 111 [(2, 40), (3, 0), (3, 0), (3, 0), (3, 0)] [] H G (e3_q0 Q) := by
  unfold wM_binds0_111 at h
  refine e3_K [0] 18 [(2, 40), (3, 0), (3, 0), (3, 0), (3, 0)] [] (H) (G) (wZ L xs) (M := tbM288) rfl rfl trivial ?_
  exact hk18 _ _ h
set_option maxRecDepth 100000 in
set_option maxHeartbeats 4000000 in
theorem sM_binds0_18 (L : Nat) (xs : Nat → Int32) (Q : Int → e3_H → e3_G → Prop) : ∀ (nl : Nat) (H : e3_H) (G : e3_G), wM_binds0_18 Q nl  H G → e3_Ev (wB L xs) 2 53 288 18 [(2, 40), (3, 0), (3, 0), (3, 0), (3, 0)] [] H G (e3_q0 Q) := by
  intro nl
  induction nl with
  | zero => intro  H G h; exact h.elim
  | succ nn ih =>
    intro  H G h
    have h : (((0 : Int) < (H 40 71) → (wM_nextPattern (fun x3 H1 G2 => ((0 : Int) ≤ (H1 40 71) ∧ ((H1 40 71) : Int) < 2000) ∧ (wM_fitsHere (fun x7 H5 G6 => (((x7 : Int) = 0 → Q 0 H5 G6) ∧ (¬ ((x7 : Int) = 0) → (wM_notes (fun H8 G9 => ((0 : Int) ≤ x3 ∧ (x3 : Int) < 1700) ∧ ((((H8 46 x3) : Int) = 5 → ((0 : Int) ≤ x3 ∧ (x3 : Int) < 1700) ∧ ((((H8 51 x3) : Int) = (-4) → (wM_binds0_111 Q (fun  H G => wM_binds0_18 Q nn  H G) H8 G9)) ∧ (¬ (((H8 51 x3) : Int) = (-4)) → ((0 : Int) ≤ x3 ∧ (x3 : Int) < 1700) ∧ ((0 : Int) ≤ (H8 40 71) ∧ ((H8 40 71) : Int) < 2000) ∧ ((0 : Int) ≤ (H8 40 71) ∧ ((H8 40 71) : Int) < 2000) ∧ (wM_waitAll (fun H16 G17 => (wM_binds0_111 Q (fun  H G => wM_binds0_18 Q nn  H G) H16 G17)) (H8 51 x3) (H8 95 (H8 40 71)) (H8 96 (H8 40 71)) (H1 97 (H1 40 71)) H8 G9)))) ∧ (¬ (((H8 46 x3) : Int) = 5) → (wM_binds0_111 Q (fun  H G => wM_binds0_18 Q nn  H G) H8 G9)))) x3 (H1 97 (H1 40 71)) H5 G6)))) x3 (H1 97 (H1 40 71)) H1 G2)) H G)) ∧ (¬ ((0 : Int) < (H 40 71)) → Q 1 H G)) := h
    refine e3_K [0, 2] 22 [(2, 40), (3, 0), (3, 0), (3, 0), (3, 0)] [(0, (H 40 71))] (H) (G) (wZ L xs) (M := tbM288) rfl rfl ⟨trivial, trivial⟩ ?_
    refine e3_br (M := tbM288) rfl rfl rfl Iff.rfl (fun hc => ?_) (fun hc => ?_)
    · replace h := h.1 hc
      refine e3_K [0] 26 [(2, 40), (3, 0), (3, 0), (3, 0), (3, 0)] [(2, 40)] (H) (G) (wZ L xs) (M := tbM288) rfl rfl trivial ?_
      refine e3_call (o := 0) (k := 247) (M2 := tbM247) (f1 := 1) (w1 := 22) (as := [(2, 40)]) (rest := []) (M := tbM288) rfl rfl rfl trivial (Nat.le_of_ble_eq_true rfl) (Nat.le_of_ble_eq_true rfl) (Nat.le_of_ble_eq_true rfl) ?_
      refine e3_mono (sM_nextPattern L xs _ _ _ h) (fun r H1 G2 h => ?_)
      obtain ⟨x3, rfl, h⟩ := h
      change e3_Ev _ _ _ _ 29 [(2, 40), (3, 0), (3, 0), (3, 0), (3, 0)] [(0, x3)] H1 G2 _
      obtain ⟨o4, h⟩ := h
      refine e3_K [0, 0, 4, 0, 2, 2, 0, 0, 0, 0] 45 [(2, 40), (3, 0), (3, 0), (0, x3), (0, (H1 97 (H1 40 71)))] [(0, (H1 97 (H1 40 71))), (0, x3), (2, 40)] (H1) (G2) (wZ L xs) (M := tbM288) rfl rfl ⟨trivial, trivial, o4, trivial⟩ ?_
      refine e3_call (o := 0) (k := 289) (M2 := tbM289) (f1 := 1) (w1 := 23) (as := [(2, 40), (0, x3), (0, (H1 97 (H1 40 71)))]) (rest := []) (M := tbM288) rfl rfl rfl trivial (Nat.le_of_ble_eq_true rfl) (Nat.le_of_ble_eq_true rfl) (Nat.le_of_ble_eq_true rfl) ?_
      refine e3_mono (sM_fitsHere L xs _ _ _ _ _ h) (fun r H5 G6 h => ?_)
      obtain ⟨x7, rfl, h⟩ := h
      change e3_Ev _ _ _ _ 48 [(2, 40), (3, 0), (3, 0), (0, x3), (0, (H1 97 (H1 40 71)))] [(0, x7)] H5 G6 _
      refine e3_br (M := tbM288) rfl rfl rfl Iff.rfl (fun hc => ?_) (fun hc => ?_)
      · replace h := h.1 hc
        refine e3_K [0] 52 [(2, 40), (3, 0), (3, 0), (0, x3), (0, (H1 97 (H1 40 71)))] [(0, 0)] (H5) (G6) (wZ L xs) (M := tbM288) rfl rfl trivial ?_
        exact e3_retb (M := tbM288) rfl rfl rfl (Or.inl rfl) ⟨_, rfl, h⟩
      · replace h := h.2 hc
        refine e3_K [0, 0, 0] 57 [(2, 40), (3, 0), (3, 0), (0, x3), (0, (H1 97 (H1 40 71)))] [(0, (H1 97 (H1 40 71))), (0, x3), (2, 40)] (H5) (G6) (wZ L xs) (M := tbM288) rfl rfl trivial ?_
        refine e3_call (o := 0) (k := 248) (M2 := tbM248) (f1 := 0) (w1 := 0) (as := [(2, 40), (0, x3), (0, (H1 97 (H1 40 71)))]) (rest := []) (M := tbM288) rfl rfl rfl trivial (Nat.le_of_ble_eq_true rfl) (Nat.le_of_ble_eq_true rfl) (Nat.le_of_ble_eq_true rfl) ?_
        refine e3_mono (sM_notes L xs _ _ _ _ _ h) (fun r H8 G9 h => ?_)
        obtain ⟨rfl, h⟩ := h
        change e3_Ev _ _ _ _ 60 [(2, 40), (3, 0), (3, 0), (0, x3), (0, (H1 97 (H1 40 71)))] [] H8 G9 _
        obtain ⟨o11, h⟩ := h
        refine e3_K [0, 4, 0, 2, 0] 67 [(2, 40), (3, 0), (3, 0), (0, x3), (0, (H1 97 (H1 40 71)))] [(0, 5), (0, (H8 46 x3))] (H8) (G9) (wZ L xs) (M := tbM288) rfl rfl ⟨trivial, o11, trivial⟩ ?_
        refine e3_br (M := tbM288) rfl rfl rfl Iff.rfl (fun hc => ?_) (fun hc => ?_)
        · replace h := h.1 hc
          obtain ⟨o12, h⟩ := h
          refine e3_K [0, 4, 0, 2, 0] 78 [(2, 40), (3, 0), (3, 0), (0, x3), (0, (H1 97 (H1 40 71)))] [(0, (-4)), (0, (H8 51 x3))] (H8) (G9) (wZ L xs) (M := tbM288) rfl rfl ⟨trivial, o12, trivial⟩ ?_
          refine e3_br (M := tbM288) rfl rfl rfl Iff.rfl (fun hc => ?_) (fun hc => ?_)
          · replace h := h.1 hc
            refine e3_fgt [true, false, false, false, false] ?_
            exact sM_binds0_111 L xs Q (fun  H G => wM_binds0_18 Q nn  H G) ih _ _ h
          · replace h := h.2 hc
            obtain ⟨o13, o14, o15, h⟩ := h
            refine e3_K [0, 0, 4, 0, 2, 0, 4, 0, 2, 2, 0, 4, 0, 2, 2, 0] 108 [(2, 40), (3, 0), (3, 0), (0, x3), (0, (H1 97 (H1 40 71)))] [(0, (H1 97 (H1 40 71))), (0, (H8 96 (H8 40 71))), (0, (H8 95 (H8 40 71))), (0, (H8 51 x3)), (2, 40)] (H8) (G9) (wZ L xs) (M := tbM288) rfl rfl ⟨trivial, o13, trivial, trivial, o14, trivial, trivial, o15, trivial⟩ ?_
            refine e3_call (o := 0) (k := 245) (M2 := tbM245) (f1 := 1) (w1 := 24) (as := [(2, 40), (0, (H8 51 x3)), (0, (H8 95 (H8 40 71))), (0, (H8 96 (H8 40 71))), (0, (H1 97 (H1 40 71)))]) (rest := []) (M := tbM288) rfl rfl rfl trivial (Nat.le_of_ble_eq_true rfl) (Nat.le_of_ble_eq_true rfl) (Nat.le_of_ble_eq_true rfl) ?_
            refine e3_mono (sM_waitAll L xs _ _ _ _ _ _ _ h) (fun r H16 G17 h => ?_)
            obtain ⟨rfl, h⟩ := h
            change e3_Ev _ _ _ _ 111 [(2, 40), (3, 0), (3, 0), (0, x3), (0, (H1 97 (H1 40 71)))] [] H16 G17 _
            refine e3_fgt [true, false, false, false, false] ?_
            exact sM_binds0_111 L xs Q (fun  H G => wM_binds0_18 Q nn  H G) ih _ _ h
        · replace h := h.2 hc
          refine e3_fgt [true, false, false, false, false] ?_
          exact sM_binds0_111 L xs Q (fun  H G => wM_binds0_18 Q nn  H G) ih _ _ h
    · replace h := h.2 hc
      refine e3_K [0] 115 [(2, 40), (3, 0), (3, 0), (3, 0), (3, 0)] [(0, 1)] (H) (G) (wZ L xs) (M := tbM288) rfl rfl trivial ?_
      exact e3_retb (M := tbM288) rfl rfl rfl (Or.inr rfl) ⟨_, rfl, h⟩
set_option maxRecDepth 100000 in
set_option maxHeartbeats 4000000 in
theorem sM_binds0 (L : Nat) (xs : Nat → Int32) (Q : Int → e3_H → e3_G → Prop) (l1 : Int) (l2 : Int) (H : e3_H) (G : e3_G) (h : wM_binds0 Q l1 l2 H G) : e3_Ev (wB L xs) 2 53 288 0 [(2, 40), (0, l1), (0, l2), (3, 0), (3, 0)] [] H G (e3_q0 Q) := by
  unfold wM_binds0 at h
  refine e3_K [0, 0, 2] 5 [(2, 40), (0, l1), (0, l2), (3, 0), (3, 0)] [] (e3_up H 40 71 0) (G) (wZ L xs) (M := tbM288) rfl rfl ⟨trivial, trivial⟩ ?_
  generalize hH1 : (e3_up H 40 71 0) = H1
  replace h := h H1 hH1.symm
  obtain ⟨o2, h⟩ := h
  refine e3_K [0, 0, 4, 0, 2, 0, 0, 0] 15 [(2, 40), (0, l1), (0, l2), (3, 0), (3, 0)] [(0, 0), (0, 0), (0, l2), (0, (H1 72 l1)), (2, 40)] (H1) (G) (wZ L xs) (M := tbM288) rfl rfl ⟨trivial, o2, trivial⟩ ?_
  refine e3_call (o := 0) (k := 245) (M2 := tbM245) (f1 := 1) (w1 := 24) (as := [(2, 40), (0, (H1 72 l1)), (0, l2), (0, 0), (0, 0)]) (rest := []) (M := tbM288) rfl rfl rfl trivial (Nat.le_of_ble_eq_true rfl) (Nat.le_of_ble_eq_true rfl) (Nat.le_of_ble_eq_true rfl) ?_
  refine e3_mono (sM_waitAll L xs _ _ _ _ _ _ _ h) (fun r H3 G4 h => ?_)
  obtain ⟨rfl, h⟩ := h
  change e3_Ev _ _ _ _ 18 [(2, 40), (0, l1), (0, l2), (3, 0), (3, 0)] [] H3 G4 _
  refine e3_fgt [true, false, false, false, false] ?_
  obtain ⟨nl, h⟩ := h
  exact sM_binds0_18 L xs Q nl _ _ h
/-- LetterPostModel.term(I)I -/
def wM_term_35 (Q : Int → e3_H → e3_G → Prop) (s0 : Int) (H : e3_H) (G : e3_G) : Prop :=
  Q s0 H G
def wM_term (Q : Int → e3_H → e3_G → Prop) (l1 : Int) (H : e3_H) (G : e3_G) : Prop :=
  ((0 : Int) ≤ l1 ∧ (l1 : Int) < 768) ∧ ((((H 75 l1) : Int) = 2 → ((0 : Int) ≤ l1 ∧ (l1 : Int) < 768) ∧ ((0 : Int) ≤ (H 76 l1) ∧ ((H 76 l1) : Int) < 8) ∧ ((0 : Int) ≤ (H 136 (H 76 l1)) ∧ ((H 136 (H 76 l1)) : Int) < 160) ∧ (wM_term_35 Q (H 129 (H 136 (H 76 l1))) H G)) ∧ (¬ (((H 75 l1) : Int) = 2) → ((0 : Int) ≤ l1 ∧ (l1 : Int) < 768) ∧ (wM_term_35 Q (H 76 l1) H G)))
set_option maxRecDepth 100000 in
set_option maxHeartbeats 4000000 in
theorem sM_term_35 (L : Nat) (xs : Nat → Int32) (Q : Int → e3_H → e3_G → Prop) (s0 : Int) (H : e3_H) (G : e3_G) (h : wM_term_35 Q s0 H G) : e3_Ev (wB L xs) 0 0 292 35 [(3, 0), (3, 0)] [(0, s0)] H G (e3_q0 Q) := by
  unfold wM_term_35 at h
  exact e3_reti (M := tbM292) rfl rfl rfl ⟨_, rfl, h⟩
set_option maxRecDepth 100000 in
set_option maxHeartbeats 4000000 in
theorem sM_term (L : Nat) (xs : Nat → Int32) (Q : Int → e3_H → e3_G → Prop) (l1 : Int) (H : e3_H) (G : e3_G) (h : wM_term Q l1 H G) : e3_Ev (wB L xs) 0 0 292 0 [(2, 40), (0, l1)] [] H G (e3_q0 Q) := by
  unfold wM_term at h
  obtain ⟨o1, h⟩ := h
  refine e3_K [0, 4, 0, 2, 0] 7 [(2, 40), (0, l1)] [(0, 2), (0, (H 75 l1))] (H) (G) (wZ L xs) (M := tbM292) rfl rfl ⟨trivial, o1, trivial⟩ ?_
  refine e3_br (M := tbM292) rfl rfl rfl Iff.rfl (fun hc => ?_) (fun hc => ?_)
  · replace h := h.1 hc
    obtain ⟨o2, o3, o4, h⟩ := h
    refine e3_K [0, 4, 0, 4, 0, 4, 0, 2, 2, 2, 0] 35 [(2, 40), (0, l1)] [(0, (H 129 (H 136 (H 76 l1))))] (H) (G) (wZ L xs) (M := tbM292) rfl rfl ⟨trivial, trivial, trivial, o2, o3, o4, trivial⟩ ?_
    refine e3_fgt [false, false] ?_
    exact sM_term_35 L xs Q _ _ _ h
  · replace h := h.2 hc
    obtain ⟨o5, h⟩ := h
    refine e3_K [0, 4, 0, 2] 35 [(2, 40), (0, l1)] [(0, (H 76 l1))] (H) (G) (wZ L xs) (M := tbM292) rfl rfl ⟨trivial, o5, trivial⟩ ?_
    refine e3_fgt [false, false] ?_
    exact sM_term_35 L xs Q _ _ _ h
/-- LetterPostModel.isThrown(II)Z -/
def wM_isThrown_44 (Q : Int → e3_H → e3_G → Prop) (s0 : Int) (H : e3_H) (G : e3_G) : Prop :=
  ((s0 : Int) = 0 ∨ s0 = 1) ∧ Q s0 H G
def wM_isThrown_43 (Q : Int → e3_H → e3_G → Prop)  (H : e3_H) (G : e3_G) : Prop :=
  (wM_isThrown_44 Q 0 H G)
def wM_isThrown_23 (Q : Int → e3_H → e3_G → Prop) (l1 : Int) (l2 : Int) (H : e3_H) (G : e3_G) : Prop :=
  (wM_term (fun x3 H1 G2 => (((x3 : Int) = 0 → (wM_isThrown_44 Q 1 H1 G2)) ∧ (¬ ((x3 : Int) = 0) → (wM_isThrown_43 Q H1 G2)))) (e3_w32 ((e3_w32 ((e3_w32 (4 * l1)) + (e3_w32 (2 * l2)))) + 1)) H G)
def wM_isThrown (Q : Int → e3_H → e3_G → Prop) (l1 : Int) (l2 : Int) (H : e3_H) (G : e3_G) : Prop :=
  ((0 : Int) ≤ (e3_w32 ((e3_w32 (2 * l1)) + l2)) ∧ ((e3_w32 ((e3_w32 (2 * l1)) + l2)) : Int) < 384) ∧ ((((H 77 (e3_w32 ((e3_w32 (2 * l1)) + l2))) : Int) = 47 → (wM_isThrown_23 Q l1 l2 H G)) ∧ (¬ (((H 77 (e3_w32 ((e3_w32 (2 * l1)) + l2))) : Int) = 47) → ((((H 77 (e3_w32 ((e3_w32 (2 * l1)) + l2))) : Int) = 37 → (wM_isThrown_23 Q l1 l2 H G)) ∧ (¬ (((H 77 (e3_w32 ((e3_w32 (2 * l1)) + l2))) : Int) = 37) → (wM_isThrown_43 Q H G)))))
set_option maxRecDepth 100000 in
set_option maxHeartbeats 4000000 in
theorem sM_isThrown_44 (L : Nat) (xs : Nat → Int32) (Q : Int → e3_H → e3_G → Prop) (s0 : Int) (H : e3_H) (G : e3_G) (h : wM_isThrown_44 Q s0 H G) : e3_Ev (wB L xs) 1 21 291 44 [(3, 0), (3, 0), (3, 0), (3, 0)] [(0, s0)] H G (e3_q0 Q) := by
  unfold wM_isThrown_44 at h
  exact e3_retb (M := tbM291) rfl rfl rfl h.1 ⟨_, rfl, h.2⟩
set_option maxRecDepth 100000 in
set_option maxHeartbeats 4000000 in
theorem sM_isThrown_43 (L : Nat) (xs : Nat → Int32) (Q : Int → e3_H → e3_G → Prop)  (H : e3_H) (G : e3_G) (h : wM_isThrown_43 Q  H G) : e3_Ev (wB L xs) 1 21 291 43 [(3, 0), (3, 0), (3, 0), (3, 0)] [] H G (e3_q0 Q) := by
  unfold wM_isThrown_43 at h
  refine e3_K [0] 44 [(3, 0), (3, 0), (3, 0), (3, 0)] [(0, 0)] (H) (G) (wZ L xs) (M := tbM291) rfl rfl trivial ?_
  exact sM_isThrown_44 L xs Q _ _ _ h
set_option maxRecDepth 100000 in
set_option maxHeartbeats 4000000 in
theorem sM_isThrown_23 (L : Nat) (xs : Nat → Int32) (Q : Int → e3_H → e3_G → Prop) (l1 : Int) (l2 : Int) (H : e3_H) (G : e3_G) (h : wM_isThrown_23 Q l1 l2 H G) : e3_Ev (wB L xs) 1 21 291 23 [(2, 40), (0, l1), (0, l2), (3, 0)] [] H G (e3_q0 Q) := by
  unfold wM_isThrown_23 at h
  refine e3_K [0, 0, 0, 0, 0, 0, 0, 0, 0, 0] 33 [(2, 40), (0, l1), (0, l2), (3, 0)] [(0, (e3_w32 ((e3_w32 ((e3_w32 (4 * l1)) + (e3_w32 (2 * l2)))) + 1))), (2, 40)] (H) (G) (wZ L xs) (M := tbM291) rfl rfl trivial ?_
  refine e3_call (o := 0) (k := 292) (M2 := tbM292) (f1 := 0) (w1 := 0) (as := [(2, 40), (0, (e3_w32 ((e3_w32 ((e3_w32 (4 * l1)) + (e3_w32 (2 * l2)))) + 1)))]) (rest := []) (M := tbM291) rfl rfl rfl trivial (Nat.le_of_ble_eq_true rfl) (Nat.le_of_ble_eq_true rfl) (Nat.le_of_ble_eq_true rfl) ?_
  refine e3_mono (sM_term L xs _ _ _ _ h) (fun r H1 G2 h => ?_)
  obtain ⟨x3, rfl, h⟩ := h
  change e3_Ev _ _ _ _ 36 [(2, 40), (0, l1), (0, l2), (3, 0)] [(0, x3)] H1 G2 _
  refine e3_br (M := tbM291) rfl rfl rfl Iff.rfl (fun hc => ?_) (fun hc => ?_)
  · replace h := h.1 hc
    refine e3_K [0, 0] 44 [(2, 40), (0, l1), (0, l2), (3, 0)] [(0, 1)] (H1) (G2) (wZ L xs) (M := tbM291) rfl rfl trivial ?_
    refine e3_fgt [false, false, false, false] ?_
    exact sM_isThrown_44 L xs Q _ _ _ h
  · replace h := h.2 hc
    refine e3_fgt [false, false, false, false] ?_
    exact sM_isThrown_43 L xs Q _ _ h
set_option maxRecDepth 100000 in
set_option maxHeartbeats 4000000 in
theorem sM_isThrown (L : Nat) (xs : Nat → Int32) (Q : Int → e3_H → e3_G → Prop) (l1 : Int) (l2 : Int) (H : e3_H) (G : e3_G) (h : wM_isThrown Q l1 l2 H G) : e3_Ev (wB L xs) 1 21 291 0 [(2, 40), (0, l1), (0, l2), (3, 0)] [] H G (e3_q0 Q) := by
  unfold wM_isThrown at h
  obtain ⟨o1, h⟩ := h
  refine e3_K [0, 4, 0, 0, 0, 0, 0, 2, 0, 0, 0] 14 [(2, 40), (0, l1), (0, l2), (0, (H 77 (e3_w32 ((e3_w32 (2 * l1)) + l2))))] [(0, 47), (0, (H 77 (e3_w32 ((e3_w32 (2 * l1)) + l2))))] (H) (G) (wZ L xs) (M := tbM291) rfl rfl ⟨trivial, o1, trivial⟩ ?_
  refine e3_br (M := tbM291) rfl rfl rfl Iff.rfl (fun hc => ?_) (fun hc => ?_)
  · replace h := h.1 hc
    refine e3_fgt [true, true, true, false] ?_
    exact sM_isThrown_23 L xs Q _ _ _ _ h
  · replace h := h.2 hc
    refine e3_K [0, 0] 20 [(2, 40), (0, l1), (0, l2), (0, (H 77 (e3_w32 ((e3_w32 (2 * l1)) + l2))))] [(0, 37), (0, (H 77 (e3_w32 ((e3_w32 (2 * l1)) + l2))))] (H) (G) (wZ L xs) (M := tbM291) rfl rfl trivial ?_
    refine e3_br (M := tbM291) rfl rfl rfl Iff.rfl (fun hc => ?_) (fun hc => ?_)
    · replace h := h.1 hc
      refine e3_fgt [true, true, true, false] ?_
      exact sM_isThrown_23 L xs Q _ _ _ _ h
    · replace h := h.2 hc
      refine e3_fgt [false, false, false, false] ?_
      exact sM_isThrown_43 L xs Q _ _ h
/-- LetterPostModel.sum(II)I -/
def wM_sum_106 (Q : Int → e3_H → e3_G → Prop) (s0 : Int) (H : e3_H) (G : e3_G) : Prop :=
  Q s0 H G
def wM_sum (Q : Int → e3_H → e3_G → Prop) (l1 : Int) (l2 : Int) (H : e3_H) (G : e3_G) : Prop :=
  (wM_term (fun x3 H1 G2 => ((0 : Int) ≤ (e3_w32 ((e3_w32 (2 * l1)) + l2)) ∧ ((e3_w32 ((e3_w32 (2 * l1)) + l2)) : Int) < 384) ∧ ((((H1 77 (e3_w32 ((e3_w32 (2 * l1)) + l2))) : Int) = 0 → Q x3 H1 G2) ∧ (¬ (((H1 77 (e3_w32 ((e3_w32 (2 * l1)) + l2))) : Int) = 0) → (wM_term (fun x7 H5 G6 => ((((H1 77 (e3_w32 ((e3_w32 (2 * l1)) + l2))) : Int) = 43 → (wM_sum_106 Q (e3_w32 (x3 + x7)) H5 G6)) ∧ (¬ (((H1 77 (e3_w32 ((e3_w32 (2 * l1)) + l2))) : Int) = 43) → ((((H1 77 (e3_w32 ((e3_w32 (2 * l1)) + l2))) : Int) = 45 → (wM_sum_106 Q (e3_w32 (x3 - x7)) H5 G6)) ∧ (¬ (((H1 77 (e3_w32 ((e3_w32 (2 * l1)) + l2))) : Int) = 45) → ((((H1 77 (e3_w32 ((e3_w32 (2 * l1)) + l2))) : Int) = 42 → (wM_sum_106 Q (e3_w32 (x3 * x7)) H5 G6)) ∧ (¬ (((H1 77 (e3_w32 ((e3_w32 (2 * l1)) + l2))) : Int) = 42) → ((((H1 77 (e3_w32 ((e3_w32 (2 * l1)) + l2))) : Int) = 47 → ((x7 : Int) ≠ 0) ∧ (wM_sum_106 Q (e3_div x3 x7) H5 G6)) ∧ (¬ (((H1 77 (e3_w32 ((e3_w32 (2 * l1)) + l2))) : Int) = 47) → ((x7 : Int) ≠ 0) ∧ (wM_sum_106 Q (e3_rem x3 x7) H5 G6)))))))))) (e3_w32 ((e3_w32 ((e3_w32 (4 * l1)) + (e3_w32 (2 * l2)))) + 1)) H1 G2)))) (e3_w32 ((e3_w32 (4 * l1)) + (e3_w32 (2 * l2)))) H G)
set_option maxRecDepth 100000 in
set_option maxHeartbeats 4000000 in
theorem sM_sum_106 (L : Nat) (xs : Nat → Int32) (Q : Int → e3_H → e3_G → Prop) (s0 : Int) (H : e3_H) (G : e3_G) (h : wM_sum_106 Q s0 H G) : e3_Ev (wB L xs) 1 21 293 106 [(3, 0), (3, 0), (3, 0), (3, 0), (3, 0), (3, 0)] [(0, s0)] H G (e3_q0 Q) := by
  unfold wM_sum_106 at h
  exact e3_reti (M := tbM293) rfl rfl rfl ⟨_, rfl, h⟩
set_option maxRecDepth 100000 in
set_option maxHeartbeats 4000000 in
theorem sM_sum (L : Nat) (xs : Nat → Int32) (Q : Int → e3_H → e3_G → Prop) (l1 : Int) (l2 : Int) (H : e3_H) (G : e3_G) (h : wM_sum Q l1 l2 H G) : e3_Ev (wB L xs) 1 21 293 0 [(2, 40), (0, l1), (0, l2), (3, 0), (3, 0), (3, 0)] [] H G (e3_q0 Q) := by
  unfold wM_sum at h
  refine e3_K [0, 0, 0, 0, 0, 0, 0, 0] 8 [(2, 40), (0, l1), (0, l2), (3, 0), (3, 0), (3, 0)] [(0, (e3_w32 ((e3_w32 (4 * l1)) + (e3_w32 (2 * l2))))), (2, 40)] (H) (G) (wZ L xs) (M := tbM293) rfl rfl trivial ?_
  refine e3_call (o := 0) (k := 292) (M2 := tbM292) (f1 := 0) (w1 := 0) (as := [(2, 40), (0, (e3_w32 ((e3_w32 (4 * l1)) + (e3_w32 (2 * l2)))))]) (rest := []) (M := tbM293) rfl rfl rfl trivial (Nat.le_of_ble_eq_true rfl) (Nat.le_of_ble_eq_true rfl) (Nat.le_of_ble_eq_true rfl) ?_
  refine e3_mono (sM_term L xs _ _ _ _ h) (fun r H1 G2 h => ?_)
  obtain ⟨x3, rfl, h⟩ := h
  change e3_Ev _ _ _ _ 11 [(2, 40), (0, l1), (0, l2), (3, 0), (3, 0), (3, 0)] [(0, x3)] H1 G2 _
  obtain ⟨o4, h⟩ := h
  refine e3_K [0, 0, 4, 0, 0, 0, 0, 0, 2, 0, 0] 26 [(2, 40), (0, l1), (0, l2), (0, x3), (0, (H1 77 (e3_w32 ((e3_w32 (2 * l1)) + l2)))), (3, 0)] [(0, (H1 77 (e3_w32 ((e3_w32 (2 * l1)) + l2))))] (H1) (G2) (wZ L xs) (M := tbM293) rfl rfl ⟨trivial, o4, trivial⟩ ?_
  refine e3_br (M := tbM293) rfl rfl rfl Iff.rfl (fun hc => ?_) (fun hc => ?_)
  · replace h := h.1 hc
    refine e3_K [0] 30 [(2, 40), (0, l1), (0, l2), (0, x3), (0, (H1 77 (e3_w32 ((e3_w32 (2 * l1)) + l2)))), (3, 0)] [(0, x3)] (H1) (G2) (wZ L xs) (M := tbM293) rfl rfl trivial ?_
    exact e3_reti (M := tbM293) rfl rfl rfl ⟨_, rfl, h⟩
  · replace h := h.2 hc
    refine e3_K [0, 0, 0, 0, 0, 0, 0, 0, 0, 0] 41 [(2, 40), (0, l1), (0, l2), (0, x3), (0, (H1 77 (e3_w32 ((e3_w32 (2 * l1)) + l2)))), (3, 0)] [(0, (e3_w32 ((e3_w32 ((e3_w32 (4 * l1)) + (e3_w32 (2 * l2)))) + 1))), (2, 40)] (H1) (G2) (wZ L xs) (M := tbM293) rfl rfl trivial ?_
    refine e3_call (o := 0) (k := 292) (M2 := tbM292) (f1 := 0) (w1 := 0) (as := [(2, 40), (0, (e3_w32 ((e3_w32 ((e3_w32 (4 * l1)) + (e3_w32 (2 * l2)))) + 1)))]) (rest := []) (M := tbM293) rfl rfl rfl trivial (Nat.le_of_ble_eq_true rfl) (Nat.le_of_ble_eq_true rfl) (Nat.le_of_ble_eq_true rfl) ?_
    refine e3_mono (sM_term L xs _ _ _ _ h) (fun r H5 G6 h => ?_)
    obtain ⟨x7, rfl, h⟩ := h
    change e3_Ev _ _ _ _ 44 [(2, 40), (0, l1), (0, l2), (0, x3), (0, (H1 77 (e3_w32 ((e3_w32 (2 * l1)) + l2)))), (3, 0)] [(0, x7)] H5 G6 _
    refine e3_K [0, 0, 0] 50 [(2, 40), (0, l1), (0, l2), (0, x3), (0, (H1 77 (e3_w32 ((e3_w32 (2 * l1)) + l2)))), (0, x7)] [(0, 43), (0, (H1 77 (e3_w32 ((e3_w32 (2 * l1)) + l2))))] (H5) (G6) (wZ L xs) (M := tbM293) rfl rfl trivial ?_
    refine e3_br (M := tbM293) rfl rfl rfl Iff.rfl (fun hc => ?_) (fun hc => ?_)
    · replace h := h.1 hc
      refine e3_K [0, 0, 0, 0] 106 [(2, 40), (0, l1), (0, l2), (0, x3), (0, (H1 77 (e3_w32 ((e3_w32 (2 * l1)) + l2)))), (0, x7)] [(0, (e3_w32 (x3 + x7)))] (H5) (G6) (wZ L xs) (M := tbM293) rfl rfl trivial ?_
      refine e3_fgt [false, false, false, false, false, false] ?_
      exact sM_sum_106 L xs Q _ _ _ h
    · replace h := h.2 hc
      refine e3_K [0, 0] 64 [(2, 40), (0, l1), (0, l2), (0, x3), (0, (H1 77 (e3_w32 ((e3_w32 (2 * l1)) + l2)))), (0, x7)] [(0, 45), (0, (H1 77 (e3_w32 ((e3_w32 (2 * l1)) + l2))))] (H5) (G6) (wZ L xs) (M := tbM293) rfl rfl trivial ?_
      refine e3_br (M := tbM293) rfl rfl rfl Iff.rfl (fun hc => ?_) (fun hc => ?_)
      · replace h := h.1 hc
        refine e3_K [0, 0, 0, 0] 106 [(2, 40), (0, l1), (0, l2), (0, x3), (0, (H1 77 (e3_w32 ((e3_w32 (2 * l1)) + l2)))), (0, x7)] [(0, (e3_w32 (x3 - x7)))] (H5) (G6) (wZ L xs) (M := tbM293) rfl rfl trivial ?_
        refine e3_fgt [false, false, false, false, false, false] ?_
        exact sM_sum_106 L xs Q _ _ _ h
      · replace h := h.2 hc
        refine e3_K [0, 0] 78 [(2, 40), (0, l1), (0, l2), (0, x3), (0, (H1 77 (e3_w32 ((e3_w32 (2 * l1)) + l2)))), (0, x7)] [(0, 42), (0, (H1 77 (e3_w32 ((e3_w32 (2 * l1)) + l2))))] (H5) (G6) (wZ L xs) (M := tbM293) rfl rfl trivial ?_
        refine e3_br (M := tbM293) rfl rfl rfl Iff.rfl (fun hc => ?_) (fun hc => ?_)
        · replace h := h.1 hc
          refine e3_K [0, 0, 0, 0] 106 [(2, 40), (0, l1), (0, l2), (0, x3), (0, (H1 77 (e3_w32 ((e3_w32 (2 * l1)) + l2)))), (0, x7)] [(0, (e3_w32 (x3 * x7)))] (H5) (G6) (wZ L xs) (M := tbM293) rfl rfl trivial ?_
          refine e3_fgt [false, false, false, false, false, false] ?_
          exact sM_sum_106 L xs Q _ _ _ h
        · replace h := h.2 hc
          refine e3_K [0, 0] 92 [(2, 40), (0, l1), (0, l2), (0, x3), (0, (H1 77 (e3_w32 ((e3_w32 (2 * l1)) + l2)))), (0, x7)] [(0, 47), (0, (H1 77 (e3_w32 ((e3_w32 (2 * l1)) + l2))))] (H5) (G6) (wZ L xs) (M := tbM293) rfl rfl trivial ?_
          refine e3_br (M := tbM293) rfl rfl rfl Iff.rfl (fun hc => ?_) (fun hc => ?_)
          · replace h := h.1 hc
            obtain ⟨o8, h⟩ := h
            refine e3_K [0, 0, 1, 0] 106 [(2, 40), (0, l1), (0, l2), (0, x3), (0, (H1 77 (e3_w32 ((e3_w32 (2 * l1)) + l2)))), (0, x7)] [(0, (e3_div x3 x7))] (H5) (G6) (wZ L xs) (M := tbM293) rfl rfl ⟨o8, trivial⟩ ?_
            refine e3_fgt [false, false, false, false, false, false] ?_
            exact sM_sum_106 L xs Q _ _ _ h
          · replace h := h.2 hc
            obtain ⟨o9, h⟩ := h
            refine e3_K [0, 0, 1] 106 [(2, 40), (0, l1), (0, l2), (0, x3), (0, (H1 77 (e3_w32 ((e3_w32 (2 * l1)) + l2)))), (0, x7)] [(0, (e3_rem x3 x7))] (H5) (G6) (wZ L xs) (M := tbM293) rfl rfl ⟨o9, trivial⟩ ?_
            refine e3_fgt [false, false, false, false, false, false] ?_
            exact sM_sum_106 L xs Q _ _ _ h
