/-- LetterPost.add()I -/
def wP_add (Q : Int → e3_H → e3_G → Prop)  (H : e3_H) (G : e3_G) : Prop :=
  ((((H 2 6) : Int) = 0 → Q (-2) H G) ∧ (¬ (((H 2 6) : Int) = 0) → (wR_readLateKind (fun x3 H1 G2 => ∀ H4 : e3_H, H4 = e3_up H1 2 8 (H1 14 4) → (((x3 : Int) = 0 → ∀ H5 : e3_H, H5 = e3_up H4 8 0 (H 8 0) → Q (e3_w32 ((-10) - (H5 14 5))) H5 G2) ∧ (¬ ((x3 : Int) = 0) → Q (H 8 0) H4 G2))) H G)))
set_option maxRecDepth 100000 in
set_option maxHeartbeats 4000000 in
theorem sP_add (L : Nat) (xs : Nat → Int32) (Q : Int → e3_H → e3_G → Prop)  (H : e3_H) (G : e3_G) (h : wP_add Q  H G) : e3_Ev (wB L xs) 12 487 128 0 [(2, 2), (3, 0), (3, 0)] [] H G (e3_q0 Q) := by
  unfold wP_add at h
  refine e3_K [0, 2] 4 [(2, 2), (3, 0), (3, 0)] [(0, (H 2 6))] (H) (G) (wZ L xs) (M := tbM128) rfl rfl ⟨trivial, trivial⟩ ?_
  refine e3_br (M := tbM128) rfl rfl rfl Iff.rfl (fun hc => ?_) (fun hc => ?_)
  · replace h := h.1 hc
    refine e3_K [0] 9 [(2, 2), (3, 0), (3, 0)] [(0, (-2))] (H) (G) (wZ L xs) (M := tbM128) rfl rfl trivial ?_
    exact e3_reti (M := tbM128) rfl rfl rfl ⟨_, rfl, h⟩
  · replace h := h.2 hc
    refine e3_K [0, 4, 2, 0, 0, 4] 22 [(2, 2), (0, (H 8 0)), (3, 0)] [(2, 14)] (H) (G) (wZ L xs) (M := tbM128) rfl rfl ⟨trivial, trivial, trivial, trivial⟩ ?_
    refine e3_call (o := 0) (k := 129) (M2 := tbM129) (f1 := 11) (w1 := 467) (as := [(2, 14)]) (rest := []) (M := tbM128) rfl rfl rfl trivial (Nat.le_of_ble_eq_true rfl) (Nat.le_of_ble_eq_true rfl) (Nat.le_of_ble_eq_true rfl) ?_
    refine e3_mono (sR_readLateKind L xs _ _ _ h) (fun r H1 G2 h => ?_)
    obtain ⟨x3, rfl, h⟩ := h
    change e3_Ev _ _ _ _ 25 [(2, 2), (0, (H 8 0)), (3, 0)] [(0, x3)] H1 G2 _
    refine e3_K [0, 0, 0, 4, 2, 2] 37 [(2, 2), (0, (H 8 0)), (0, x3)] [] (e3_up H1 2 8 (H1 14 4)) (G2) (wZ L xs) (M := tbM128) rfl rfl ⟨trivial, trivial, trivial, trivial⟩ ?_
    generalize hH4 : (e3_up H1 2 8 (H1 14 4)) = H4
    replace h := h H4 hH4.symm
    refine e3_K [0] 38 [(2, 2), (0, (H 8 0)), (0, x3)] [(0, x3)] (H4) (G2) (wZ L xs) (M := tbM128) rfl rfl trivial ?_
    refine e3_br (M := tbM128) rfl rfl rfl Iff.rfl (fun hc => ?_) (fun hc => ?_)
    · replace h := h.1 hc
      refine e3_K [0, 4, 0, 2] 49 [(2, 2), (0, (H 8 0)), (0, x3)] [] (e3_up H4 8 0 (H 8 0)) (G2) (wZ L xs) (M := tbM128) rfl rfl ⟨trivial, trivial, trivial⟩ ?_
      generalize hH5 : (e3_up H4 8 0 (H 8 0)) = H5
      replace h := h H5 hH5.symm
      refine e3_K [0, 0, 4, 2, 0] 59 [(2, 2), (0, (H 8 0)), (0, x3)] [(0, (e3_w32 ((-10) - (H5 14 5))))] (H5) (G2) (wZ L xs) (M := tbM128) rfl rfl ⟨trivial, trivial, trivial⟩ ?_
      exact e3_reti (M := tbM128) rfl rfl rfl ⟨_, rfl, h⟩
    · replace h := h.2 hc
      refine e3_K [0] 61 [(2, 2), (0, (H 8 0)), (0, x3)] [(0, (H 8 0))] (H4) (G2) (wZ L xs) (M := tbM128) rfl rfl trivial ?_
      exact e3_reti (M := tbM128) rfl rfl rfl ⟨_, rfl, h⟩
/-- LetterPost.remake(II)I -/
def wP_remake_22 (Q : Int → e3_H → e3_G → Prop)  (H : e3_H) (G : e3_G) : Prop :=
  Q (-1) H G
def wP_remake (Q : Int → e3_H → e3_G → Prop) (l1 : Int) (l2 : Int) (H : e3_H) (G : e3_G) : Prop :=
  (wR_functionAt (fun x3 H1 G2 => (((x3 : Int) < 0 → (wP_remake_22 Q H1 G2)) ∧ (¬ ((x3 : Int) < 0) → (((l2 : Int) < 0 → (wP_remake_22 Q H1 G2)) ∧ (¬ ((l2 : Int) < 0) → (((3 : Int) < l2 → (wP_remake_22 Q H1 G2)) ∧ (¬ ((3 : Int) < l2) → (e3_ob G2 8 x3) ∧ (wF_allRows (fun x6 H4 G5 => (wD_draw (fun x9 H7 G8 => (((x9 : Int) = 0 → Q (-3) H7 G8) ∧ (¬ ((x9 : Int) = 0) → (wD_handOver (fun H10 G11 => (e3_ob G11 8 x3) ∧ (e3_ob G11 5 (H10 x3 10)) ∧ Q (H10 (H10 x3 10) 0) H10 G11) x3 H7 G8)))) x3 l2 x6 H4 G5)) x3 H1 G2)))))))) l1 H G)
set_option maxRecDepth 100000 in
set_option maxHeartbeats 4000000 in
theorem sP_remake_22 (L : Nat) (xs : Nat → Int32) (Q : Int → e3_H → e3_G → Prop)  (H : e3_H) (G : e3_G) (h : wP_remake_22 Q  H G) : e3_Ev (wB L xs) 377 10167 130 22 [(3, 0), (3, 0), (3, 0), (3, 0)] [] H G (e3_q0 Q) := by
  unfold wP_remake_22 at h
  refine e3_K [0] 23 [(3, 0), (3, 0), (3, 0), (3, 0)] [(0, (-1))] (H) (G) (wZ L xs) (M := tbM130) rfl rfl trivial ?_
  exact e3_reti (M := tbM130) rfl rfl rfl ⟨_, rfl, h⟩
set_option maxRecDepth 100000 in
set_option maxHeartbeats 4000000 in
theorem sP_remake (L : Nat) (xs : Nat → Int32) (Q : Int → e3_H → e3_G → Prop) (l1 : Int) (l2 : Int) (H : e3_H) (G : e3_G) (h : wP_remake Q l1 l2 H G) : e3_Ev (wB L xs) 377 10167 130 0 [(2, 2), (0, l1), (0, l2), (3, 0)] [] H G (e3_q0 Q) := by
  unfold wP_remake at h
  refine e3_K [0, 4, 0] 5 [(2, 2), (0, l1), (0, l2), (3, 0)] [(0, l1), (2, 14)] (H) (G) (wZ L xs) (M := tbM130) rfl rfl ⟨trivial, trivial⟩ ?_
  refine e3_call (o := 0) (k := 83) (M2 := tbM83) (f1 := 0) (w1 := 0) (as := [(2, 14), (0, l1)]) (rest := []) (M := tbM130) rfl rfl rfl trivial (Nat.le_of_ble_eq_true rfl) (Nat.le_of_ble_eq_true rfl) (Nat.le_of_ble_eq_true rfl) ?_
  refine e3_mono (sR_functionAt L xs _ _ _ _ h) (fun r H1 G2 h => ?_)
  obtain ⟨x3, rfl, h⟩ := h
  change e3_Ev _ _ _ _ 8 [(2, 2), (0, l1), (0, l2), (3, 0)] [(2, x3)] H1 G2 _
  refine e3_K [0, 0] 10 [(2, 2), (0, l1), (0, l2), (2, x3)] [(2, x3)] (H1) (G2) (wZ L xs) (M := tbM130) rfl rfl trivial ?_
  refine e3_br (M := tbM130) rfl rfl rfl Iff.rfl (fun hc => ?_) (fun hc => ?_)
  · replace h := h.1 hc
    refine e3_fgt [false, false, false, false] ?_
    exact sP_remake_22 L xs Q _ _ h
  · replace h := h.2 hc
    refine e3_K [0] 14 [(2, 2), (0, l1), (0, l2), (2, x3)] [(0, l2)] (H1) (G2) (wZ L xs) (M := tbM130) rfl rfl trivial ?_
    refine e3_br (M := tbM130) rfl rfl rfl Iff.rfl (fun hc => ?_) (fun hc => ?_)
    · replace h := h.1 hc
      refine e3_fgt [false, false, false, false] ?_
      exact sP_remake_22 L xs Q _ _ h
    · replace h := h.2 hc
      refine e3_K [0, 0] 19 [(2, 2), (0, l1), (0, l2), (2, x3)] [(0, 3), (0, l2)] (H1) (G2) (wZ L xs) (M := tbM130) rfl rfl trivial ?_
      refine e3_br (M := tbM130) rfl rfl rfl Iff.rfl (fun hc => ?_) (fun hc => ?_)
      · replace h := h.1 hc
        refine e3_fgt [false, false, false, false] ?_
        exact sP_remake_22 L xs Q _ _ h
      · replace h := h.2 hc
        refine e3_K [0, 4, 0, 0, 0] 31 [(2, 2), (0, l1), (0, l2), (2, x3)] [(2, x3), (0, l2), (2, x3), (2, 16)] (H1) (G2) (wZ L xs) (M := tbM130) rfl rfl ⟨trivial, trivial⟩ ?_
        obtain ⟨oz, h⟩ := h
        refine e3_call (o := 1) (k := 95) (M2 := tbM95) (f1 := 0) (w1 := 0) (as := [(2, x3)]) (rest := [(0, l2), (2, x3), (2, 16)]) (M := tbM130) rfl rfl rfl oz (Nat.le_of_ble_eq_true rfl) (Nat.le_of_ble_eq_true rfl) (Nat.le_of_ble_eq_true rfl) ?_
        refine e3_mono (sF_allRows L xs _ _ _ _ h) (fun r H4 G5 h => ?_)
        obtain ⟨x6, rfl, h⟩ := h
        change e3_Ev _ _ _ _ 34 [(2, 2), (0, l1), (0, l2), (2, x3)] [(1, x6), (0, l2), (2, x3), (2, 16)] H4 G5 _
        refine e3_call (o := 0) (k := 96) (M2 := tbM96) (f1 := 376) (w1 := 10143) (as := [(2, 16), (2, x3), (0, l2), (1, x6)]) (rest := []) (M := tbM130) rfl rfl rfl trivial (Nat.le_of_ble_eq_true rfl) (Nat.le_of_ble_eq_true rfl) (Nat.le_of_ble_eq_true rfl) ?_
        refine e3_mono (sD_draw L xs _ _ _ _ _ _ h) (fun r H7 G8 h => ?_)
        obtain ⟨x9, rfl, h⟩ := h
        change e3_Ev _ _ _ _ 37 [(2, 2), (0, l1), (0, l2), (2, x3)] [(0, x9)] H7 G8 _
        refine e3_br (M := tbM130) rfl rfl rfl Iff.rfl (fun hc => ?_) (fun hc => ?_)
        · replace h := h.1 hc
          refine e3_K [0] 42 [(2, 2), (0, l1), (0, l2), (2, x3)] [(0, (-3))] (H7) (G8) (wZ L xs) (M := tbM130) rfl rfl trivial ?_
          exact e3_reti (M := tbM130) rfl rfl rfl ⟨_, rfl, h⟩
        · replace h := h.2 hc
          refine e3_K [0, 4, 0] 48 [(2, 2), (0, l1), (0, l2), (2, x3)] [(2, x3), (2, 16)] (H7) (G8) (wZ L xs) (M := tbM130) rfl rfl ⟨trivial, trivial⟩ ?_
          refine e3_call (o := 0) (k := 126) (M2 := tbM126) (f1 := 0) (w1 := 0) (as := [(2, 16), (2, x3)]) (rest := []) (M := tbM130) rfl rfl rfl trivial (Nat.le_of_ble_eq_true rfl) (Nat.le_of_ble_eq_true rfl) (Nat.le_of_ble_eq_true rfl) ?_
          refine e3_mono (sD_handOver L xs _ _ _ _ h) (fun r H10 G11 h => ?_)
          obtain ⟨rfl, h⟩ := h
          change e3_Ev _ _ _ _ 51 [(2, 2), (0, l1), (0, l2), (2, x3)] [] H10 G11 _
          obtain ⟨o13, o14, h⟩ := h
          refine e3_K [0, 3, 3] 58 [(2, 2), (0, l1), (0, l2), (2, x3)] [(0, (H10 (H10 x3 10) 0))] (H10) (G11) (wZ L xs) (M := tbM130) rfl rfl ⟨o13, o14, trivial⟩ ?_
          exact e3_reti (M := tbM130) rfl rfl rfl ⟨_, rfl, h⟩
/-- LetterPost$Kinds.tell(II)I -/
def wK_tell_48 (Q : Int → e3_H → e3_G → Prop) (s0 : Int) (H : e3_H) (G : e3_G) : Prop :=
  Q s0 H G
def wK_tell_63 (Q : Int → e3_H → e3_G → Prop) (s0 : Int) (H : e3_H) (G : e3_G) : Prop :=
  Q s0 H G
def wK_tell (Q : Int → e3_H → e3_G → Prop) (l1 : Int) (l2 : Int) (H : e3_H) (G : e3_G) : Prop :=
  (((l2 : Int) = 0 → ((0 : Int) ≤ l1 ∧ (l1 : Int) < 24) ∧ ((((H 10 l1) : Int) < 0 → (wK_tell_48 Q (-4) H G)) ∧ (¬ (((H 10 l1) : Int) < 0) → ((0 : Int) ≤ l1 ∧ (l1 : Int) < 24) ∧ (wK_tell_48 Q (H 10 l1) H G)))) ∧ ((l2 : Int) = 1 → ((0 : Int) ≤ l1 ∧ (l1 : Int) < 24) ∧ ((((H 11 l1) : Int) = 0 → (wK_tell_63 Q 0 H G)) ∧ (¬ (((H 11 l1) : Int) = 0) → (wK_tell_63 Q 1 H G)))) ∧ ((l2 : Int) = 2 → ((0 : Int) ≤ l1 ∧ (l1 : Int) < 24) ∧ Q (H 12 l1) H G) ∧ ((l2 : Int) < 0 ∨ 2 < l2 → (wK_partSort (fun x7 H5 G6 => Q x7 H5 G6) l1 (e3_w32 (l2 - 3)) H G)))
set_option maxRecDepth 100000 in
set_option maxHeartbeats 4000000 in
theorem sK_tell_48 (L : Nat) (xs : Nat → Int32) (Q : Int → e3_H → e3_G → Prop) (s0 : Int) (H : e3_H) (G : e3_G) (h : wK_tell_48 Q s0 H G) : e3_Ev (wB L xs) 2 43 132 48 [(3, 0), (3, 0), (3, 0)] [(0, s0)] H G (e3_q0 Q) := by
  unfold wK_tell_48 at h
  exact e3_reti (M := tbM132) rfl rfl rfl ⟨_, rfl, h⟩
set_option maxRecDepth 100000 in
set_option maxHeartbeats 4000000 in
theorem sK_tell_63 (L : Nat) (xs : Nat → Int32) (Q : Int → e3_H → e3_G → Prop) (s0 : Int) (H : e3_H) (G : e3_G) (h : wK_tell_63 Q s0 H G) : e3_Ev (wB L xs) 2 43 132 63 [(3, 0), (3, 0), (3, 0)] [(0, s0)] H G (e3_q0 Q) := by
  unfold wK_tell_63 at h
  exact e3_reti (M := tbM132) rfl rfl rfl ⟨_, rfl, h⟩
set_option maxRecDepth 100000 in
set_option maxHeartbeats 4000000 in
theorem sK_tell (L : Nat) (xs : Nat → Int32) (Q : Int → e3_H → e3_G → Prop) (l1 : Int) (l2 : Int) (H : e3_H) (G : e3_G) (h : wK_tell Q l1 l2 H G) : e3_Ev (wB L xs) 2 43 132 0 [(2, 8), (0, l1), (0, l2)] [] H G (e3_q0 Q) := by
  unfold wK_tell at h
  refine e3_K [0] 1 [(2, 8), (0, l1), (0, l2)] [(0, l2)] (H) (G) (wZ L xs) (M := tbM132) rfl rfl trivial ?_
  by_cases hc0 : (l2 : Int) = 0
  · replace h := h.1 hc0
    refine e3_sw (M := tbM132) rfl rfl hc0 rfl ?_
    obtain ⟨o1, h⟩ := h
    refine e3_K [0, 4, 0, 2] 34 [(2, 8), (0, l1), (0, l2)] [(0, (H 10 l1))] (H) (G) (wZ L xs) (M := tbM132) rfl rfl ⟨trivial, o1, trivial⟩ ?_
    refine e3_br (M := tbM132) rfl rfl rfl Iff.rfl (fun hc => ?_) (fun hc => ?_)
    · replace h := h.1 hc
      refine e3_K [0, 0] 48 [(2, 8), (0, l1), (0, l2)] [(0, (-4))] (H) (G) (wZ L xs) (M := tbM132) rfl rfl trivial ?_
      refine e3_fgt [false, false, false] ?_
      exact sK_tell_48 L xs Q _ _ _ h
    · replace h := h.2 hc
      obtain ⟨o2, h⟩ := h
      refine e3_K [0, 4, 0, 2] 48 [(2, 8), (0, l1), (0, l2)] [(0, (H 10 l1))] (H) (G) (wZ L xs) (M := tbM132) rfl rfl ⟨trivial, o2, trivial⟩ ?_
      refine e3_fgt [false, false, false] ?_
      exact sK_tell_48 L xs Q _ _ _ h
  replace h := h.2
  by_cases hc1 : (l2 : Int) = 1
  · replace h := h.1 hc1
    refine e3_sw (M := tbM132) rfl rfl hc1 rfl ?_
    obtain ⟨o3, h⟩ := h
    refine e3_K [0, 4, 0, 2] 55 [(2, 8), (0, l1), (0, l2)] [(0, (H 11 l1))] (H) (G) (wZ L xs) (M := tbM132) rfl rfl ⟨trivial, o3, trivial⟩ ?_
    refine e3_br (M := tbM132) rfl rfl rfl Iff.rfl (fun hc => ?_) (fun hc => ?_)
    · replace h := h.1 hc
      refine e3_K [0] 63 [(2, 8), (0, l1), (0, l2)] [(0, 0)] (H) (G) (wZ L xs) (M := tbM132) rfl rfl trivial ?_
      refine e3_fgt [false, false, false] ?_
      exact sK_tell_63 L xs Q _ _ _ h
    · replace h := h.2 hc
      refine e3_K [0, 0] 63 [(2, 8), (0, l1), (0, l2)] [(0, 1)] (H) (G) (wZ L xs) (M := tbM132) rfl rfl trivial ?_
      refine e3_fgt [false, false, false] ?_
      exact sK_tell_63 L xs Q _ _ _ h
  replace h := h.2
  by_cases hc2 : (l2 : Int) = 2
  · replace h := h.1 hc2
    refine e3_sw (M := tbM132) rfl rfl hc2 rfl ?_
    obtain ⟨o4, h⟩ := h
    refine e3_K [0, 4, 0, 2] 70 [(2, 8), (0, l1), (0, l2)] [(0, (H 12 l1))] (H) (G) (wZ L xs) (M := tbM132) rfl rfl ⟨trivial, o4, trivial⟩ ?_
    exact e3_reti (M := tbM132) rfl rfl rfl ⟨_, rfl, h⟩
  replace h := h.2
  replace h := h (by omega)
  refine e3_sw (M := tbM132) rfl rfl rfl ((e3_swdt (by omega)).trans rfl) ?_
  refine e3_K [0, 0, 0, 0, 0] 76 [(2, 8), (0, l1), (0, l2)] [(0, (e3_w32 (l2 - 3))), (0, l1), (2, 8)] (H) (G) (wZ L xs) (M := tbM132) rfl rfl trivial ?_
  refine e3_call (o := 0) (k := 68) (M2 := tbM68) (f1 := 1) (w1 := 21) (as := [(2, 8), (0, l1), (0, (e3_w32 (l2 - 3)))]) (rest := []) (M := tbM132) rfl rfl rfl trivial (Nat.le_of_ble_eq_true rfl) (Nat.le_of_ble_eq_true rfl) (Nat.le_of_ble_eq_true rfl) ?_
  refine e3_mono (sK_partSort L xs _ _ _ _ _ h) (fun r H5 G6 h => ?_)
  obtain ⟨x7, rfl, h⟩ := h
  change e3_Ev _ _ _ _ 79 [(2, 8), (0, l1), (0, l2)] [(0, x7)] H5 G6 _
  exact e3_reti (M := tbM132) rfl rfl rfl ⟨_, rfl, h⟩
/-- LetterPost.kind(II)I -/
def wP_kind_21 (Q : Int → e3_H → e3_G → Prop)  (H : e3_H) (G : e3_G) : Prop :=
  Q (-1) H G
def wP_kind_58 (Q : Int → e3_H → e3_G → Prop) (s0 : Int) (H : e3_H) (G : e3_G) : Prop :=
  Q s0 H G
def wP_kind_57 (Q : Int → e3_H → e3_G → Prop)  (H : e3_H) (G : e3_G) : Prop :=
  (wP_kind_58 Q 0 H G)
def wP_kind (Q : Int → e3_H → e3_G → Prop) (l1 : Int) (l2 : Int) (H : e3_H) (G : e3_G) : Prop :=
  (wK_has (fun x3 H1 G2 => (((x3 : Int) = 0 → (wP_kind_21 Q H1 G2)) ∧ (¬ ((x3 : Int) = 0) → (((l2 : Int) < 0 → (wP_kind_21 Q H1 G2)) ∧ (¬ ((l2 : Int) < 0) → (((7 : Int) < l2 → (wP_kind_21 Q H1 G2)) ∧ (¬ ((7 : Int) < l2) → (((l2 : Int) = 7 → (wR_functionAt (fun x6 H4 G5 => (((x6 : Int) < 0 → (wP_kind_57 Q H4 G5)) ∧ (¬ ((x6 : Int) < 0) → (e3_ob G5 8 x6) ∧ (e3_ob G5 5 (H4 x6 10)) ∧ (((l1 : Int) < (H4 (H4 x6 10) 3) → (wP_kind_57 Q H4 G5)) ∧ (¬ ((l1 : Int) < (H4 (H4 x6 10) 3)) → (wP_kind_58 Q 1 H4 G5)))))) 0 H1 G2)) ∧ (¬ ((l2 : Int) = 7) → (wK_tell (fun x11 H9 G10 => Q x11 H9 G10) l1 l2 H1 G2)))))))))) l1 H G)
set_option maxRecDepth 100000 in
set_option maxHeartbeats 4000000 in
theorem sP_kind_21 (L : Nat) (xs : Nat → Int32) (Q : Int → e3_H → e3_G → Prop)  (H : e3_H) (G : e3_G) (h : wP_kind_21 Q  H G) : e3_Ev (wB L xs) 3 65 131 21 [(3, 0), (3, 0), (3, 0), (3, 0)] [] H G (e3_q0 Q) := by
  unfold wP_kind_21 at h
  refine e3_K [0] 22 [(3, 0), (3, 0), (3, 0), (3, 0)] [(0, (-1))] (H) (G) (wZ L xs) (M := tbM131) rfl rfl trivial ?_
  exact e3_reti (M := tbM131) rfl rfl rfl ⟨_, rfl, h⟩
set_option maxRecDepth 100000 in
set_option maxHeartbeats 4000000 in
theorem sP_kind_58 (L : Nat) (xs : Nat → Int32) (Q : Int → e3_H → e3_G → Prop) (s0 : Int) (H : e3_H) (G : e3_G) (h : wP_kind_58 Q s0 H G) : e3_Ev (wB L xs) 3 65 131 58 [(3, 0), (3, 0), (3, 0), (3, 0)] [(0, s0)] H G (e3_q0 Q) := by
  unfold wP_kind_58 at h
  exact e3_reti (M := tbM131) rfl rfl rfl ⟨_, rfl, h⟩
set_option maxRecDepth 100000 in
set_option maxHeartbeats 4000000 in
theorem sP_kind_57 (L : Nat) (xs : Nat → Int32) (Q : Int → e3_H → e3_G → Prop)  (H : e3_H) (G : e3_G) (h : wP_kind_57 Q  H G) : e3_Ev (wB L xs) 3 65 131 57 [(3, 0), (3, 0), (3, 0), (3, 0)] [] H G (e3_q0 Q) := by
  unfold wP_kind_57 at h
  refine e3_K [0] 58 [(3, 0), (3, 0), (3, 0), (3, 0)] [(0, 0)] (H) (G) (wZ L xs) (M := tbM131) rfl rfl trivial ?_
  exact sP_kind_58 L xs Q _ _ _ h
set_option maxRecDepth 100000 in
set_option maxHeartbeats 4000000 in
theorem sP_kind (L : Nat) (xs : Nat → Int32) (Q : Int → e3_H → e3_G → Prop) (l1 : Int) (l2 : Int) (H : e3_H) (G : e3_G) (h : wP_kind Q l1 l2 H G) : e3_Ev (wB L xs) 3 65 131 0 [(2, 2), (0, l1), (0, l2), (3, 0)] [] H G (e3_q0 Q) := by
  unfold wP_kind at h
  refine e3_K [0, 4, 0] 5 [(2, 2), (0, l1), (0, l2), (3, 0)] [(0, l1), (2, 8)] (H) (G) (wZ L xs) (M := tbM131) rfl rfl ⟨trivial, trivial⟩ ?_
  refine e3_call (o := 0) (k := 34) (M2 := tbM34) (f1 := 0) (w1 := 0) (as := [(2, 8), (0, l1)]) (rest := []) (M := tbM131) rfl rfl rfl trivial (Nat.le_of_ble_eq_true rfl) (Nat.le_of_ble_eq_true rfl) (Nat.le_of_ble_eq_true rfl) ?_
  refine e3_mono (sK_has L xs _ _ _ _ h) (fun r H1 G2 h => ?_)
  obtain ⟨x3, rfl, h⟩ := h
  change e3_Ev _ _ _ _ 8 [(2, 2), (0, l1), (0, l2), (3, 0)] [(0, x3)] H1 G2 _
  refine e3_br (M := tbM131) rfl rfl rfl Iff.rfl (fun hc => ?_) (fun hc => ?_)
  · replace h := h.1 hc
    refine e3_fgt [false, false, false, false] ?_
    exact sP_kind_21 L xs Q _ _ h
  · replace h := h.2 hc
    refine e3_K [0] 12 [(2, 2), (0, l1), (0, l2), (3, 0)] [(0, l2)] (H1) (G2) (wZ L xs) (M := tbM131) rfl rfl trivial ?_
    refine e3_br (M := tbM131) rfl rfl rfl Iff.rfl (fun hc => ?_) (fun hc => ?_)
    · replace h := h.1 hc
      refine e3_fgt [false, false, false, false] ?_
      exact sP_kind_21 L xs Q _ _ h
    · replace h := h.2 hc
      refine e3_K [0, 0] 18 [(2, 2), (0, l1), (0, l2), (3, 0)] [(0, 7), (0, l2)] (H1) (G2) (wZ L xs) (M := tbM131) rfl rfl trivial ?_
      refine e3_br (M := tbM131) rfl rfl rfl Iff.rfl (fun hc => ?_) (fun hc => ?_)
      · replace h := h.1 hc
        refine e3_fgt [false, false, false, false] ?_
        exact sP_kind_21 L xs Q _ _ h
      · replace h := h.2 hc
        refine e3_K [0, 0] 26 [(2, 2), (0, l1), (0, l2), (3, 0)] [(0, 7), (0, l2)] (H1) (G2) (wZ L xs) (M := tbM131) rfl rfl trivial ?_
        refine e3_br (M := tbM131) rfl rfl rfl Iff.rfl (fun hc => ?_) (fun hc => ?_)
        · replace h := h.1 hc
          refine e3_K [0, 4, 0] 34 [(2, 2), (0, l1), (0, l2), (3, 0)] [(0, 0), (2, 14)] (H1) (G2) (wZ L xs) (M := tbM131) rfl rfl ⟨trivial, trivial⟩ ?_
          refine e3_call (o := 0) (k := 83) (M2 := tbM83) (f1 := 0) (w1 := 0) (as := [(2, 14), (0, 0)]) (rest := []) (M := tbM131) rfl rfl rfl trivial (Nat.le_of_ble_eq_true rfl) (Nat.le_of_ble_eq_true rfl) (Nat.le_of_ble_eq_true rfl) ?_
          refine e3_mono (sR_functionAt L xs _ _ _ _ h) (fun r H4 G5 h => ?_)
          obtain ⟨x6, rfl, h⟩ := h
          change e3_Ev _ _ _ _ 37 [(2, 2), (0, l1), (0, l2), (3, 0)] [(2, x6)] H4 G5 _
          refine e3_K [0, 0] 39 [(2, 2), (0, l1), (0, l2), (2, x6)] [(2, x6)] (H4) (G5) (wZ L xs) (M := tbM131) rfl rfl trivial ?_
          refine e3_br (M := tbM131) rfl rfl rfl Iff.rfl (fun hc => ?_) (fun hc => ?_)
          · replace h := h.1 hc
            refine e3_fgt [false, false, false, false] ?_
            exact sP_kind_57 L xs Q _ _ h
          · replace h := h.2 hc
            obtain ⟨o7, o8, h⟩ := h
            refine e3_K [0, 0, 3, 3] 50 [(2, 2), (0, l1), (0, l2), (2, x6)] [(0, (H4 (H4 x6 10) 3)), (0, l1)] (H4) (G5) (wZ L xs) (M := tbM131) rfl rfl ⟨o7, o8, trivial⟩ ?_
            refine e3_br (M := tbM131) rfl rfl rfl Iff.rfl (fun hc => ?_) (fun hc => ?_)
            · replace h := h.1 hc
              refine e3_fgt [false, false, false, false] ?_
              exact sP_kind_57 L xs Q _ _ h
            · replace h := h.2 hc
              refine e3_K [0, 0] 58 [(2, 2), (0, l1), (0, l2), (2, x6)] [(0, 1)] (H4) (G5) (wZ L xs) (M := tbM131) rfl rfl trivial ?_
              refine e3_fgt [false, false, false, false] ?_
              exact sP_kind_58 L xs Q _ _ _ h
        · replace h := h.2 hc
          refine e3_K [0, 4, 0, 0] 65 [(2, 2), (0, l1), (0, l2), (3, 0)] [(0, l2), (0, l1), (2, 8)] (H1) (G2) (wZ L xs) (M := tbM131) rfl rfl ⟨trivial, trivial⟩ ?_
          refine e3_call (o := 0) (k := 132) (M2 := tbM132) (f1 := 2) (w1 := 43) (as := [(2, 8), (0, l1), (0, l2)]) (rest := []) (M := tbM131) rfl rfl rfl trivial (Nat.le_of_ble_eq_true rfl) (Nat.le_of_ble_eq_true rfl) (Nat.le_of_ble_eq_true rfl) ?_
          refine e3_mono (sK_tell L xs _ _ _ _ _ h) (fun r H9 G10 h => ?_)
          obtain ⟨x11, rfl, h⟩ := h
          change e3_Ev _ _ _ _ 68 [(2, 2), (0, l1), (0, l2), (3, 0)] [(0, x11)] H9 G10 _
          exact e3_reti (M := tbM131) rfl rfl rfl ⟨_, rfl, h⟩
/-- LetterPost.kindNamed(J)I -/
def wP_kindNamed_19 (Q : Int → e3_H → e3_G → Prop) (s0 : Int) (H : e3_H) (G : e3_G) : Prop :=
  Q s0 H G
def wP_kindNamed (Q : Int → e3_H → e3_G → Prop) (l1 : Int) (H : e3_H) (G : e3_G) : Prop :=
  (wK_find (fun x3 H1 G2 => (((x3 : Int) < 0 → (wP_kindNamed_19 Q (-4) H1 G2)) ∧ (¬ ((x3 : Int) < 0) → (wP_kindNamed_19 Q x3 H1 G2)))) l1 H G)
set_option maxRecDepth 100000 in
set_option maxHeartbeats 4000000 in
theorem sP_kindNamed_19 (L : Nat) (xs : Nat → Int32) (Q : Int → e3_H → e3_G → Prop) (s0 : Int) (H : e3_H) (G : e3_G) (h : wP_kindNamed_19 Q s0 H G) : e3_Ev (wB L xs) 1 23 133 19 [(3, 0), (3, 0), (3, 0), (3, 0)] [(0, s0)] H G (e3_q0 Q) := by
  unfold wP_kindNamed_19 at h
  exact e3_reti (M := tbM133) rfl rfl rfl ⟨_, rfl, h⟩
set_option maxRecDepth 100000 in
set_option maxHeartbeats 4000000 in
theorem sP_kindNamed (L : Nat) (xs : Nat → Int32) (Q : Int → e3_H → e3_G → Prop) (l1 : Int) (H : e3_H) (G : e3_G) (h : wP_kindNamed Q l1 H G) : e3_Ev (wB L xs) 1 23 133 0 [(2, 2), (1, l1), (3, 0), (3, 0)] [] H G (e3_q0 Q) := by
  unfold wP_kindNamed at h
  refine e3_K [0, 4, 0] 5 [(2, 2), (1, l1), (3, 0), (3, 0)] [(1, l1), (2, 8)] (H) (G) (wZ L xs) (M := tbM133) rfl rfl ⟨trivial, trivial⟩ ?_
  refine e3_call (o := 0) (k := 28) (M2 := tbM28) (f1 := 0) (w1 := 0) (as := [(2, 8), (1, l1)]) (rest := []) (M := tbM133) rfl rfl rfl trivial (Nat.le_of_ble_eq_true rfl) (Nat.le_of_ble_eq_true rfl) (Nat.le_of_ble_eq_true rfl) ?_
  refine e3_mono (sK_find L xs _ _ _ _ h) (fun r H1 G2 h => ?_)
  obtain ⟨x3, rfl, h⟩ := h
  change e3_Ev _ _ _ _ 8 [(2, 2), (1, l1), (3, 0), (3, 0)] [(0, x3)] H1 G2 _
  refine e3_K [0, 0] 10 [(2, 2), (1, l1), (3, 0), (0, x3)] [(0, x3)] (H1) (G2) (wZ L xs) (M := tbM133) rfl rfl trivial ?_
  refine e3_br (M := tbM133) rfl rfl rfl Iff.rfl (fun hc => ?_) (fun hc => ?_)
  · replace h := h.1 hc
    refine e3_K [0, 0] 19 [(2, 2), (1, l1), (3, 0), (0, x3)] [(0, (-4))] (H1) (G2) (wZ L xs) (M := tbM133) rfl rfl trivial ?_
    refine e3_fgt [false, false, false, false] ?_
    exact sP_kindNamed_19 L xs Q _ _ _ h
  · replace h := h.2 hc
    refine e3_K [0] 19 [(2, 2), (1, l1), (3, 0), (0, x3)] [(0, x3)] (H1) (G2) (wZ L xs) (M := tbM133) rfl rfl trivial ?_
    refine e3_fgt [false, false, false, false] ?_
    exact sP_kindNamed_19 L xs Q _ _ _ h
/-- LetterPost$Function.tell(I)I -/
def wF_tell_107 (Q : Int → e3_H → e3_G → Prop) (s0 : Int) (H : e3_H) (G : e3_G) : Prop :=
  Q s0 H G
def wF_tell_105 (Q : Int → e3_H → e3_G → Prop)  (H : e3_H) (G : e3_G) : Prop :=
  (wF_tell_107 Q (-4) H G)
def wF_tell (Q : Int → e3_H → e3_G → Prop) (l0 : Int) (l1 : Int) (H : e3_H) (G : e3_G) : Prop :=
  (((l1 : Int) = 0 → (e3_ob G 8 l0) ∧ Q (H l0 1) H G) ∧ ((l1 : Int) = 1 → (e3_ob G 8 l0) ∧ Q (H l0 3) H G) ∧ ((l1 : Int) = 2 → (e3_ob G 8 l0) ∧ Q (H l0 5) H G) ∧ ((l1 : Int) = 3 → (e3_ob G 8 l0) ∧ (e3_ob G 5 (H l0 10)) ∧ Q (H (H l0 10) 0) H G) ∧ ((l1 : Int) = 4 → (e3_ob G 8 l0) ∧ (e3_ob G 5 (H l0 10)) ∧ Q (H (H l0 10) 2) H G) ∧ ((l1 : Int) = 5 → (e3_ob G 8 l0) ∧ (e3_ob G 5 (H l0 10)) ∧ Q (H (H l0 10) 1) H G) ∧ ((l1 : Int) < 0 ∨ 5 < l1 → ((((e3_w32 (l1 - 6)) : Int) < 0 → (wF_tell_105 Q H G)) ∧ (¬ (((e3_w32 (l1 - 6)) : Int) < 0) → (e3_ob G 8 l0) ∧ ((((e3_w32 (l1 - 6)) : Int) < (H l0 1) → (e3_ob G 8 l0) ∧ (e3_oa G 0 (H l0 2) (e3_w32 (l1 - 6))) ∧ (wF_tell_107 Q (H (H l0 2) (e3_w32 (l1 - 6))) H G)) ∧ (¬ (((e3_w32 (l1 - 6)) : Int) < (H l0 1)) → (wF_tell_105 Q H G)))))))
set_option maxRecDepth 100000 in
set_option maxHeartbeats 4000000 in
theorem sF_tell_107 (L : Nat) (xs : Nat → Int32) (Q : Int → e3_H → e3_G → Prop) (s0 : Int) (H : e3_H) (G : e3_G) (h : wF_tell_107 Q s0 H G) : e3_Ev (wB L xs) 0 0 135 107 [(3, 0), (3, 0), (3, 0)] [(0, s0)] H G (e3_q0 Q) := by
  unfold wF_tell_107 at h
  exact e3_reti (M := tbM135) rfl rfl rfl ⟨_, rfl, h⟩
set_option maxRecDepth 100000 in
set_option maxHeartbeats 4000000 in
theorem sF_tell_105 (L : Nat) (xs : Nat → Int32) (Q : Int → e3_H → e3_G → Prop)  (H : e3_H) (G : e3_G) (h : wF_tell_105 Q  H G) : e3_Ev (wB L xs) 0 0 135 105 [(3, 0), (3, 0), (3, 0)] [] H G (e3_q0 Q) := by
  unfold wF_tell_105 at h
  refine e3_K [0] 107 [(3, 0), (3, 0), (3, 0)] [(0, (-4))] (H) (G) (wZ L xs) (M := tbM135) rfl rfl trivial ?_
  exact sF_tell_107 L xs Q _ _ _ h
set_option maxRecDepth 100000 in
set_option maxHeartbeats 4000000 in
theorem sF_tell (L : Nat) (xs : Nat → Int32) (Q : Int → e3_H → e3_G → Prop) (l0 : Int) (l1 : Int) (H : e3_H) (G : e3_G) (h : wF_tell Q l0 l1 H G) : e3_Ev (wB L xs) 0 0 135 0 [(2, l0), (0, l1), (3, 0)] [] H G (e3_q0 Q) := by
  unfold wF_tell at h
  refine e3_K [0] 1 [(2, l0), (0, l1), (3, 0)] [(0, l1)] (H) (G) (wZ L xs) (M := tbM135) rfl rfl trivial ?_
  by_cases hc0 : (l1 : Int) = 0
  · replace h := h.1 hc0
    refine e3_sw (M := tbM135) rfl rfl hc0 rfl ?_
    obtain ⟨o1, h⟩ := h
    refine e3_K [0, 3] 44 [(2, l0), (0, l1), (3, 0)] [(0, (H l0 1))] (H) (G) (wZ L xs) (M := tbM135) rfl rfl ⟨o1, trivial⟩ ?_
    exact e3_reti (M := tbM135) rfl rfl rfl ⟨_, rfl, h⟩
  replace h := h.2
  by_cases hc1 : (l1 : Int) = 1
  · replace h := h.1 hc1
    refine e3_sw (M := tbM135) rfl rfl hc1 rfl ?_
    obtain ⟨o2, h⟩ := h
    refine e3_K [0, 3] 49 [(2, l0), (0, l1), (3, 0)] [(0, (H l0 3))] (H) (G) (wZ L xs) (M := tbM135) rfl rfl ⟨o2, trivial⟩ ?_
    exact e3_reti (M := tbM135) rfl rfl rfl ⟨_, rfl, h⟩
  replace h := h.2
  by_cases hc2 : (l1 : Int) = 2
  · replace h := h.1 hc2
    refine e3_sw (M := tbM135) rfl rfl hc2 rfl ?_
    obtain ⟨o3, h⟩ := h
    refine e3_K [0, 3] 54 [(2, l0), (0, l1), (3, 0)] [(0, (H l0 5))] (H) (G) (wZ L xs) (M := tbM135) rfl rfl ⟨o3, trivial⟩ ?_
    exact e3_reti (M := tbM135) rfl rfl rfl ⟨_, rfl, h⟩
  replace h := h.2
  by_cases hc3 : (l1 : Int) = 3
  · replace h := h.1 hc3
    refine e3_sw (M := tbM135) rfl rfl hc3 rfl ?_
    obtain ⟨o4, o5, h⟩ := h
    refine e3_K [0, 3, 3] 62 [(2, l0), (0, l1), (3, 0)] [(0, (H (H l0 10) 0))] (H) (G) (wZ L xs) (M := tbM135) rfl rfl ⟨o4, o5, trivial⟩ ?_
    exact e3_reti (M := tbM135) rfl rfl rfl ⟨_, rfl, h⟩
  replace h := h.2
  by_cases hc4 : (l1 : Int) = 4
  · replace h := h.1 hc4
    refine e3_sw (M := tbM135) rfl rfl hc4 rfl ?_
    obtain ⟨o6, o7, h⟩ := h
    refine e3_K [0, 3, 3] 70 [(2, l0), (0, l1), (3, 0)] [(0, (H (H l0 10) 2))] (H) (G) (wZ L xs) (M := tbM135) rfl rfl ⟨o6, o7, trivial⟩ ?_
    exact e3_reti (M := tbM135) rfl rfl rfl ⟨_, rfl, h⟩
  replace h := h.2
  by_cases hc5 : (l1 : Int) = 5
  · replace h := h.1 hc5
    refine e3_sw (M := tbM135) rfl rfl hc5 rfl ?_
    obtain ⟨o8, o9, h⟩ := h
    refine e3_K [0, 3, 3] 78 [(2, l0), (0, l1), (3, 0)] [(0, (H (H l0 10) 1))] (H) (G) (wZ L xs) (M := tbM135) rfl rfl ⟨o8, o9, trivial⟩ ?_
    exact e3_reti (M := tbM135) rfl rfl rfl ⟨_, rfl, h⟩
  replace h := h.2
  replace h := h (by omega)
  refine e3_sw (M := tbM135) rfl rfl rfl ((e3_swdt (by omega)).trans rfl) ?_
  refine e3_K [0, 0, 0, 0, 0] 85 [(2, l0), (0, l1), (0, (e3_w32 (l1 - 6)))] [(0, (e3_w32 (l1 - 6)))] (H) (G) (wZ L xs) (M := tbM135) rfl rfl trivial ?_
  refine e3_br (M := tbM135) rfl rfl rfl Iff.rfl (fun hc => ?_) (fun hc => ?_)
  · replace h := h.1 hc
    refine e3_fgt [false, false, false] ?_
    exact sF_tell_105 L xs Q _ _ h
  · replace h := h.2 hc
    obtain ⟨o10, h⟩ := h
    refine e3_K [0, 0, 3] 93 [(2, l0), (0, l1), (0, (e3_w32 (l1 - 6)))] [(0, (H l0 1)), (0, (e3_w32 (l1 - 6)))] (H) (G) (wZ L xs) (M := tbM135) rfl rfl ⟨o10, trivial⟩ ?_
    refine e3_br (M := tbM135) rfl rfl rfl Iff.rfl (fun hc => ?_) (fun hc => ?_)
    · replace h := h.1 hc
      obtain ⟨o11, o12, h⟩ := h
      refine e3_K [0, 3, 0, 3, 0] 107 [(2, l0), (0, l1), (0, (e3_w32 (l1 - 6)))] [(0, (H (H l0 2) (e3_w32 (l1 - 6))))] (H) (G) (wZ L xs) (M := tbM135) rfl rfl ⟨o11, o12, trivial⟩ ?_
      refine e3_fgt [false, false, false] ?_
      exact sF_tell_107 L xs Q _ _ _ h
    · replace h := h.2 hc
      refine e3_fgt [false, false, false] ?_
      exact sF_tell_105 L xs Q _ _ h
/-- LetterPost.function(II)I -/
def wP_function_23 (Q : Int → e3_H → e3_G → Prop)  (H : e3_H) (G : e3_G) : Prop :=
  Q (-1) H G
def wP_function (Q : Int → e3_H → e3_G → Prop) (l1 : Int) (l2 : Int) (H : e3_H) (G : e3_G) : Prop :=
  (wR_functionAt (fun x3 H1 G2 => (((x3 : Int) < 0 → (wP_function_23 Q H1 G2)) ∧ (¬ ((x3 : Int) < 0) → (((l2 : Int) < 0 → (wP_function_23 Q H1 G2)) ∧ (¬ ((l2 : Int) < 0) → (((8 : Int) < l2 → (wP_function_23 Q H1 G2)) ∧ (¬ ((8 : Int) < l2) → (e3_ob G2 8 x3) ∧ (wF_tell (fun x6 H4 G5 => Q x6 H4 G5) x3 l2 H1 G2)))))))) l1 H G)
set_option maxRecDepth 100000 in
set_option maxHeartbeats 4000000 in
theorem sP_function_23 (L : Nat) (xs : Nat → Int32) (Q : Int → e3_H → e3_G → Prop)  (H : e3_H) (G : e3_G) (h : wP_function_23 Q  H G) : e3_Ev (wB L xs) 1 22 134 23 [(3, 0), (3, 0), (3, 0), (3, 0)] [] H G (e3_q0 Q) := by
  unfold wP_function_23 at h
  refine e3_K [0] 24 [(3, 0), (3, 0), (3, 0), (3, 0)] [(0, (-1))] (H) (G) (wZ L xs) (M := tbM134) rfl rfl trivial ?_
  exact e3_reti (M := tbM134) rfl rfl rfl ⟨_, rfl, h⟩
set_option maxRecDepth 100000 in
set_option maxHeartbeats 4000000 in
theorem sP_function (L : Nat) (xs : Nat → Int32) (Q : Int → e3_H → e3_G → Prop) (l1 : Int) (l2 : Int) (H : e3_H) (G : e3_G) (h : wP_function Q l1 l2 H G) : e3_Ev (wB L xs) 1 22 134 0 [(2, 2), (0, l1), (0, l2), (3, 0)] [] H G (e3_q0 Q) := by
  unfold wP_function at h
  refine e3_K [0, 4, 0] 5 [(2, 2), (0, l1), (0, l2), (3, 0)] [(0, l1), (2, 14)] (H) (G) (wZ L xs) (M := tbM134) rfl rfl ⟨trivial, trivial⟩ ?_
  refine e3_call (o := 0) (k := 83) (M2 := tbM83) (f1 := 0) (w1 := 0) (as := [(2, 14), (0, l1)]) (rest := []) (M := tbM134) rfl rfl rfl trivial (Nat.le_of_ble_eq_true rfl) (Nat.le_of_ble_eq_true rfl) (Nat.le_of_ble_eq_true rfl) ?_
  refine e3_mono (sR_functionAt L xs _ _ _ _ h) (fun r H1 G2 h => ?_)
  obtain ⟨x3, rfl, h⟩ := h
  change e3_Ev _ _ _ _ 8 [(2, 2), (0, l1), (0, l2), (3, 0)] [(2, x3)] H1 G2 _
  refine e3_K [0, 0] 10 [(2, 2), (0, l1), (0, l2), (2, x3)] [(2, x3)] (H1) (G2) (wZ L xs) (M := tbM134) rfl rfl trivial ?_
  refine e3_br (M := tbM134) rfl rfl rfl Iff.rfl (fun hc => ?_) (fun hc => ?_)
  · replace h := h.1 hc
    refine e3_fgt [false, false, false, false] ?_
    exact sP_function_23 L xs Q _ _ h
  · replace h := h.2 hc
    refine e3_K [0] 14 [(2, 2), (0, l1), (0, l2), (2, x3)] [(0, l2)] (H1) (G2) (wZ L xs) (M := tbM134) rfl rfl trivial ?_
    refine e3_br (M := tbM134) rfl rfl rfl Iff.rfl (fun hc => ?_) (fun hc => ?_)
    · replace h := h.1 hc
      refine e3_fgt [false, false, false, false] ?_
      exact sP_function_23 L xs Q _ _ h
    · replace h := h.2 hc
      refine e3_K [0, 0] 20 [(2, 2), (0, l1), (0, l2), (2, x3)] [(0, 8), (0, l2)] (H1) (G2) (wZ L xs) (M := tbM134) rfl rfl trivial ?_
      refine e3_br (M := tbM134) rfl rfl rfl Iff.rfl (fun hc => ?_) (fun hc => ?_)
      · replace h := h.1 hc
        refine e3_fgt [false, false, false, false] ?_
        exact sP_function_23 L xs Q _ _ h
      · replace h := h.2 hc
        refine e3_K [0, 0] 27 [(2, 2), (0, l1), (0, l2), (2, x3)] [(0, l2), (2, x3)] (H1) (G2) (wZ L xs) (M := tbM134) rfl rfl trivial ?_
        obtain ⟨oz, h⟩ := h
        refine e3_call (o := 1) (k := 135) (M2 := tbM135) (f1 := 0) (w1 := 0) (as := [(2, x3), (0, l2)]) (rest := []) (M := tbM134) rfl rfl rfl oz (Nat.le_of_ble_eq_true rfl) (Nat.le_of_ble_eq_true rfl) (Nat.le_of_ble_eq_true rfl) ?_
        refine e3_mono (sF_tell L xs _ _ _ _ _ h) (fun r H4 G5 h => ?_)
        obtain ⟨x6, rfl, h⟩ := h
        change e3_Ev _ _ _ _ 30 [(2, 2), (0, l1), (0, l2), (2, x3)] [(0, x6)] H4 G5 _
        exact e3_reti (M := tbM134) rfl rfl rfl ⟨_, rfl, h⟩
/-- LetterPost$Function.placeDepth(I)I -/
def wF_placeDepth_32 (Q : Int → e3_H → e3_G → Prop) (l2 : Int) (H : e3_H) (G : e3_G) : Prop :=
  Q l2 H G
def wF_placeDepth_8 (Q : Int → e3_H → e3_G → Prop) : Nat → Int → Int → Int → e3_H → e3_G → Prop
  | 0, _, _, _, _, _ => False
  | nn + 1, l0, l2, l3, H, G => (((l3 : Int) < 0 → (wF_placeDepth_32 Q l2 H G)) ∧ (¬ ((l3 : Int) < 0) → (e3_ob G 8 l0) ∧ (((l2 : Int) < (H l0 7) → (e3_ob G 8 l0) ∧ (wF_placeUp (fun x4 H2 G3 => (wF_placeDepth_8 Q nn l0 (e3_w32 (l2 + 1)) x4 H2 G3)) l0 l3 H G)) ∧ (¬ ((l2 : Int) < (H l0 7)) → (wF_placeDepth_32 Q l2 H G)))))
def wF_placeDepth (Q : Int → e3_H → e3_G → Prop) (l0 : Int) (l1 : Int) (H : e3_H) (G : e3_G) : Prop :=
  (e3_ob G 8 l0) ∧ (wF_placeUp (fun x3 H1 G2 => (∃ n, wF_placeDepth_8 Q n l0 0 x3 H1 G2)) l0 l1 H G)
set_option maxRecDepth 100000 in
set_option maxHeartbeats 4000000 in
theorem sF_placeDepth_32 (L : Nat) (xs : Nat → Int32) (Q : Int → e3_H → e3_G → Prop) (l2 : Int) (H : e3_H) (G : e3_G) (h : wF_placeDepth_32 Q l2 H G) : e3_Ev (wB L xs) 1 21 138 32 [(3, 0), (3, 0), (0, l2), (3, 0)] [] H G (e3_q0 Q) := by
  unfold wF_placeDepth_32 at h
  refine e3_K [0] 33 [(3, 0), (3, 0), (0, l2), (3, 0)] [(0, l2)] (H) (G) (wZ L xs) (M := tbM138) rfl rfl trivial ?_
  exact e3_reti (M := tbM138) rfl rfl rfl ⟨_, rfl, h⟩
set_option maxRecDepth 100000 in
set_option maxHeartbeats 4000000 in
theorem sF_placeDepth_8 (L : Nat) (xs : Nat → Int32) (Q : Int → e3_H → e3_G → Prop) : ∀ (nl : Nat) (l0 : Int) (l2 : Int) (l3 : Int) (H : e3_H) (G : e3_G), wF_placeDepth_8 Q nl l0 l2 l3 H G → e3_Ev (wB L xs) 1 21 138 8 [(2, l0), (3, 0), (0, l2), (0, l3)] [] H G (e3_q0 Q) := by
  intro nl
  induction nl with
  | zero => intro l0 l2 l3 H G h; exact h.elim
  | succ nn ih =>
    intro l0 l2 l3 H G h
    have h : (((l3 : Int) < 0 → (wF_placeDepth_32 Q l2 H G)) ∧ (¬ ((l3 : Int) < 0) → (e3_ob G 8 l0) ∧ (((l2 : Int) < (H l0 7) → (e3_ob G 8 l0) ∧ (wF_placeUp (fun x4 H2 G3 => (wF_placeDepth_8 Q nn l0 (e3_w32 (l2 + 1)) x4 H2 G3)) l0 l3 H G)) ∧ (¬ ((l2 : Int) < (H l0 7)) → (wF_placeDepth_32 Q l2 H G))))) := h
    refine e3_K [0] 9 [(2, l0), (3, 0), (0, l2), (0, l3)] [(0, l3)] (H) (G) (wZ L xs) (M := tbM138) rfl rfl trivial ?_
    refine e3_br (M := tbM138) rfl rfl rfl Iff.rfl (fun hc => ?_) (fun hc => ?_)
    · replace h := h.1 hc
      refine e3_fgt [false, false, true, false] ?_
      exact sF_placeDepth_32 L xs Q _ _ _ h
    · replace h := h.2 hc
      obtain ⟨o1, h⟩ := h
      refine e3_K [0, 0, 3] 17 [(2, l0), (3, 0), (0, l2), (0, l3)] [(0, (H l0 7)), (0, l2)] (H) (G) (wZ L xs) (M := tbM138) rfl rfl ⟨o1, trivial⟩ ?_
      refine e3_br (M := tbM138) rfl rfl rfl Iff.rfl (fun hc => ?_) (fun hc => ?_)
      · replace h := h.1 hc
        refine e3_K [0, 0, 0] 25 [(2, l0), (3, 0), (0, (e3_w32 (l2 + 1))), (0, l3)] [(0, l3), (2, l0)] (H) (G) (wZ L xs) (M := tbM138) rfl rfl trivial ?_
        obtain ⟨oz, h⟩ := h
        refine e3_call (o := 1) (k := 107) (M2 := tbM107) (f1 := 0) (w1 := 0) (as := [(2, l0), (0, l3)]) (rest := []) (M := tbM138) rfl rfl rfl oz (Nat.le_of_ble_eq_true rfl) (Nat.le_of_ble_eq_true rfl) (Nat.le_of_ble_eq_true rfl) ?_
        refine e3_mono (sF_placeUp L xs _ _ _ _ _ h) (fun r H2 G3 h => ?_)
        obtain ⟨x4, rfl, h⟩ := h
        change e3_Ev _ _ _ _ 28 [(2, l0), (3, 0), (0, (e3_w32 (l2 + 1))), (0, l3)] [(0, x4)] H2 G3 _
        refine e3_K [0, 0] 8 [(2, l0), (3, 0), (0, (e3_w32 (l2 + 1))), (0, x4)] [] (H2) (G3) (wZ L xs) (M := tbM138) rfl rfl trivial ?_
        exact ih _ _ _ _ _ h
      · replace h := h.2 hc
        refine e3_fgt [false, false, true, false] ?_
        exact sF_placeDepth_32 L xs Q _ _ _ h
set_option maxRecDepth 100000 in
set_option maxHeartbeats 4000000 in
theorem sF_placeDepth (L : Nat) (xs : Nat → Int32) (Q : Int → e3_H → e3_G → Prop) (l0 : Int) (l1 : Int) (H : e3_H) (G : e3_G) (h : wF_placeDepth Q l0 l1 H G) : e3_Ev (wB L xs) 1 21 138 0 [(2, l0), (0, l1), (3, 0), (3, 0)] [] H G (e3_q0 Q) := by
  unfold wF_placeDepth at h
  refine e3_K [0, 0, 0, 0] 4 [(2, l0), (0, l1), (0, 0), (3, 0)] [(0, l1), (2, l0)] (H) (G) (wZ L xs) (M := tbM138) rfl rfl trivial ?_
  obtain ⟨oz, h⟩ := h
  refine e3_call (o := 1) (k := 107) (M2 := tbM107) (f1 := 0) (w1 := 0) (as := [(2, l0), (0, l1)]) (rest := []) (M := tbM138) rfl rfl rfl oz (Nat.le_of_ble_eq_true rfl) (Nat.le_of_ble_eq_true rfl) (Nat.le_of_ble_eq_true rfl) ?_
  refine e3_mono (sF_placeUp L xs _ _ _ _ _ h) (fun r H1 G2 h => ?_)
  obtain ⟨x3, rfl, h⟩ := h
  change e3_Ev _ _ _ _ 7 [(2, l0), (0, l1), (0, 0), (3, 0)] [(0, x3)] H1 G2 _
  refine e3_K [0] 8 [(2, l0), (0, l1), (0, 0), (0, x3)] [] (H1) (G2) (wZ L xs) (M := tbM138) rfl rfl trivial ?_
  refine e3_fgt [true, false, true, true] ?_
  obtain ⟨nl, h⟩ := h
  exact sF_placeDepth_8 L xs Q nl _ _ _ _ _ h
/-- LetterPost$Function.placeNumber(I)I -/
def wF_placeNumber_22 (Q : Int → e3_H → e3_G → Prop) (s0 : Int) (H : e3_H) (G : e3_G) : Prop :=
  Q s0 H G
def wF_placeNumber_21 (Q : Int → e3_H → e3_G → Prop)  (H : e3_H) (G : e3_G) : Prop :=
  (wF_placeNumber_22 Q (-1) H G)
def wF_placeNumber (Q : Int → e3_H → e3_G → Prop) (l0 : Int) (l1 : Int) (H : e3_H) (G : e3_G) : Prop :=
  (((l1 : Int) < 0 → (wF_placeNumber_21 Q H G)) ∧ (¬ ((l1 : Int) < 0) → (e3_ob G 8 l0) ∧ (((l1 : Int) < (H l0 7) → (e3_ob G 8 l0) ∧ (e3_oa G 0 (H l0 9) l1) ∧ (wF_placeNumber_22 Q (H (H l0 9) l1) H G)) ∧ (¬ ((l1 : Int) < (H l0 7)) → (wF_placeNumber_21 Q H G)))))
set_option maxRecDepth 100000 in
set_option maxHeartbeats 4000000 in
theorem sF_placeNumber_22 (L : Nat) (xs : Nat → Int32) (Q : Int → e3_H → e3_G → Prop) (s0 : Int) (H : e3_H) (G : e3_G) (h : wF_placeNumber_22 Q s0 H G) : e3_Ev (wB L xs) 0 0 139 22 [(3, 0), (3, 0)] [(0, s0)] H G (e3_q0 Q) := by
  unfold wF_placeNumber_22 at h
  exact e3_reti (M := tbM139) rfl rfl rfl ⟨_, rfl, h⟩
set_option maxRecDepth 100000 in
set_option maxHeartbeats 4000000 in
theorem sF_placeNumber_21 (L : Nat) (xs : Nat → Int32) (Q : Int → e3_H → e3_G → Prop)  (H : e3_H) (G : e3_G) (h : wF_placeNumber_21 Q  H G) : e3_Ev (wB L xs) 0 0 139 21 [(3, 0), (3, 0)] [] H G (e3_q0 Q) := by
  unfold wF_placeNumber_21 at h
  refine e3_K [0] 22 [(3, 0), (3, 0)] [(0, (-1))] (H) (G) (wZ L xs) (M := tbM139) rfl rfl trivial ?_
  exact sF_placeNumber_22 L xs Q _ _ _ h
set_option maxRecDepth 100000 in
set_option maxHeartbeats 4000000 in
theorem sF_placeNumber (L : Nat) (xs : Nat → Int32) (Q : Int → e3_H → e3_G → Prop) (l0 : Int) (l1 : Int) (H : e3_H) (G : e3_G) (h : wF_placeNumber Q l0 l1 H G) : e3_Ev (wB L xs) 0 0 139 0 [(2, l0), (0, l1)] [] H G (e3_q0 Q) := by
  unfold wF_placeNumber at h
  refine e3_K [0] 1 [(2, l0), (0, l1)] [(0, l1)] (H) (G) (wZ L xs) (M := tbM139) rfl rfl trivial ?_
  refine e3_br (M := tbM139) rfl rfl rfl Iff.rfl (fun hc => ?_) (fun hc => ?_)
  · replace h := h.1 hc
    refine e3_fgt [false, false] ?_
    exact sF_placeNumber_21 L xs Q _ _ h
  · replace h := h.2 hc
    obtain ⟨o1, h⟩ := h
    refine e3_K [0, 0, 3] 9 [(2, l0), (0, l1)] [(0, (H l0 7)), (0, l1)] (H) (G) (wZ L xs) (M := tbM139) rfl rfl ⟨o1, trivial⟩ ?_
    refine e3_br (M := tbM139) rfl rfl rfl Iff.rfl (fun hc => ?_) (fun hc => ?_)
    · replace h := h.1 hc
      obtain ⟨o2, o3, h⟩ := h
      refine e3_K [0, 3, 0, 3, 0] 22 [(2, l0), (0, l1)] [(0, (H (H l0 9) l1))] (H) (G) (wZ L xs) (M := tbM139) rfl rfl ⟨o2, o3, trivial⟩ ?_
      refine e3_fgt [false, false] ?_
      exact sF_placeNumber_22 L xs Q _ _ _ h
    · replace h := h.2 hc
      refine e3_fgt [false, false] ?_
      exact sF_placeNumber_21 L xs Q _ _ h
/-- LetterPost$Function.tellNode(II)I -/
def wF_tellNode_95 (Q : Int → e3_H → e3_G → Prop) (s0 : Int) (H : e3_H) (G : e3_G) : Prop :=
  Q s0 H G
def wF_tellNode_128 (Q : Int → e3_H → e3_G → Prop) (s0 : Int) (H : e3_H) (G : e3_G) : Prop :=
  Q s0 H G
def wF_tellNode_151 (Q : Int → e3_H → e3_G → Prop) (s0 : Int) (H : e3_H) (G : e3_G) : Prop :=
  Q s0 H G
def wF_tellNode_18 (Q : Int → e3_H → e3_G → Prop) (l0 : Int) (l1 : Int) (l2 : Int) (s0 : Int) (H : e3_H) (G : e3_G) : Prop :=
  (((l2 : Int) = 0 → (e3_ob G 8 l0) ∧ (e3_ob G 5 (H l0 10)) ∧ (e3_oa G 0 (H (H l0 10) 4) l1) ∧ Q (H (H (H l0 10) 4) l1) H G) ∧ ((l2 : Int) = 1 → (e3_ob G 8 l0) ∧ (e3_ob G 5 (H l0 10)) ∧ (e3_oa G 0 (H (H l0 10) 5) l1) ∧ (e3_ob G 8 l0) ∧ (wF_rowAt (fun x9 H7 G8 => (((x9 : Int) < 0 → (wF_tellNode_95 Q (-4) H7 G8)) ∧ (¬ ((x9 : Int) < 0) → (e3_ob G8 11 x9) ∧ (e3_ob G8 9 (H7 x9 0)) ∧ (wF_tellNode_95 Q (H7 (H7 x9 0) 0) H7 G8)))) l0 (H (H (H l0 10) 5) l1) H G)) ∧ ((l2 : Int) = 2 → (e3_ob G 8 l0) ∧ (e3_ob G 5 (H l0 10)) ∧ (e3_oa G 0 (H (H l0 10) 7) l1) ∧ Q (H (H (H l0 10) 7) l1) H G) ∧ ((l2 : Int) = 3 → (((s0 : Int) = 0 → (wF_tellNode_128 Q (-4) H G)) ∧ (¬ ((s0 : Int) = 0) → (e3_ob G 8 l0) ∧ (e3_ob G 5 (H l0 10)) ∧ (e3_oa G 0 (H (H l0 10) 6) l1) ∧ (e3_ob G 8 l0) ∧ (wF_placeDepth (fun x20 H18 G19 => (wF_tellNode_128 Q x20 H18 G19)) l0 (H (H (H l0 10) 6) l1) H G)))) ∧ ((l2 : Int) < 0 ∨ 3 < l2 → (((s0 : Int) = 0 → (wF_tellNode_151 Q (-4) H G)) ∧ (¬ ((s0 : Int) = 0) → (e3_ob G 8 l0) ∧ (e3_ob G 5 (H l0 10)) ∧ (e3_oa G 0 (H (H l0 10) 6) l1) ∧ (e3_ob G 8 l0) ∧ (wF_placeNumber (fun x26 H24 G25 => (wF_tellNode_151 Q x26 H24 G25)) l0 (H (H (H l0 10) 6) l1) H G)))))
def wF_tellNode (Q : Int → e3_H → e3_G → Prop) (l0 : Int) (l1 : Int) (l2 : Int) (H : e3_H) (G : e3_G) : Prop :=
  (e3_ob G 8 l0) ∧ (e3_ob G 5 (H l0 10)) ∧ (e3_oa G 0 (H (H l0 10) 4) l1) ∧ ((((H (H (H l0 10) 4) l1) : Int) < 3 → (wF_tellNode_18 Q l0 l1 l2 0 H G)) ∧ (¬ (((H (H (H l0 10) 4) l1) : Int) < 3) → (wF_tellNode_18 Q l0 l1 l2 1 H G)))
set_option maxRecDepth 100000 in
set_option maxHeartbeats 4000000 in
theorem sF_tellNode_95 (L : Nat) (xs : Nat → Int32) (Q : Int → e3_H → e3_G → Prop) (s0 : Int) (H : e3_H) (G : e3_G) (h : wF_tellNode_95 Q s0 H G) : e3_Ev (wB L xs) 2 44 137 95 [(3, 0), (3, 0), (3, 0), (3, 0), (3, 0)] [(0, s0)] H G (e3_q0 Q) := by
  unfold wF_tellNode_95 at h
  exact e3_reti (M := tbM137) rfl rfl rfl ⟨_, rfl, h⟩
set_option maxRecDepth 100000 in
set_option maxHeartbeats 4000000 in
theorem sF_tellNode_128 (L : Nat) (xs : Nat → Int32) (Q : Int → e3_H → e3_G → Prop) (s0 : Int) (H : e3_H) (G : e3_G) (h : wF_tellNode_128 Q s0 H G) : e3_Ev (wB L xs) 2 44 137 128 [(3, 0), (3, 0), (3, 0), (3, 0), (3, 0)] [(0, s0)] H G (e3_q0 Q) := by
  unfold wF_tellNode_128 at h
  exact e3_reti (M := tbM137) rfl rfl rfl ⟨_, rfl, h⟩
set_option maxRecDepth 100000 in
set_option maxHeartbeats 4000000 in
theorem sF_tellNode_151 (L : Nat) (xs : Nat → Int32) (Q : Int → e3_H → e3_G → Prop) (s0 : Int) (H : e3_H) (G : e3_G) (h : wF_tellNode_151 Q s0 H G) : e3_Ev (wB L xs) 2 44 137 151 [(3, 0), (3, 0), (3, 0), (3, 0), (3, 0)] [(0, s0)] H G (e3_q0 Q) := by
  unfold wF_tellNode_151 at h
  exact e3_reti (M := tbM137) rfl rfl rfl ⟨_, rfl, h⟩
set_option maxRecDepth 100000 in
set_option maxHeartbeats 4000000 in
theorem sF_tellNode_18 (L : Nat) (xs : Nat → Int32) (Q : Int → e3_H → e3_G → Prop) (l0 : Int) (l1 : Int) (l2 : Int) (s0 : Int) (H : e3_H) (G : e3_G) (h : wF_tellNode_18 Q l0 l1 l2 s0 H G) : e3_Ev (wB L xs) 2 44 137 18 [(2, l0), (0, l1), (0, l2), (3, 0), (3, 0)] [(0, s0)] H G (e3_q0 Q) := by
  unfold wF_tellNode_18 at h
  refine e3_K [0, 0] 20 [(2, l0), (0, l1), (0, l2), (0, s0), (3, 0)] [(0, l2)] (H) (G) (wZ L xs) (M := tbM137) rfl rfl trivial ?_
  by_cases hc0 : (l2 : Int) = 0
  · replace h := h.1 hc0
    refine e3_sw (M := tbM137) rfl rfl hc0 rfl ?_
    obtain ⟨o1, o2, o3, h⟩ := h
    refine e3_K [0, 3, 3, 0, 3] 61 [(2, l0), (0, l1), (0, l2), (0, s0), (3, 0)] [(0, (H (H (H l0 10) 4) l1))] (H) (G) (wZ L xs) (M := tbM137) rfl rfl ⟨o1, o2, o3, trivial⟩ ?_
    exact e3_reti (M := tbM137) rfl rfl rfl ⟨_, rfl, h⟩
  replace h := h.2
  by_cases hc1 : (l2 : Int) = 1
  · replace h := h.1 hc1
    refine e3_sw (M := tbM137) rfl rfl hc1 rfl ?_
    obtain ⟨o4, o5, o6, h⟩ := h
    refine e3_K [0, 0, 3, 3, 0, 3] 72 [(2, l0), (0, l1), (0, l2), (0, s0), (3, 0)] [(0, (H (H (H l0 10) 5) l1)), (2, l0)] (H) (G) (wZ L xs) (M := tbM137) rfl rfl ⟨o4, o5, o6, trivial⟩ ?_
    obtain ⟨oz, h⟩ := h
    refine e3_call (o := 1) (k := 104) (M2 := tbM104) (f1 := 0) (w1 := 0) (as := [(2, l0), (0, (H (H (H l0 10) 5) l1))]) (rest := []) (M := tbM137) rfl rfl rfl oz (Nat.le_of_ble_eq_true rfl) (Nat.le_of_ble_eq_true rfl) (Nat.le_of_ble_eq_true rfl) ?_
    refine e3_mono (sF_rowAt L xs _ _ _ _ _ h) (fun r H7 G8 h => ?_)
    obtain ⟨x9, rfl, h⟩ := h
    change e3_Ev _ _ _ _ 75 [(2, l0), (0, l1), (0, l2), (0, s0), (3, 0)] [(2, x9)] H7 G8 _
    refine e3_K [0, 0] 79 [(2, l0), (0, l1), (0, l2), (0, s0), (2, x9)] [(2, x9)] (H7) (G8) (wZ L xs) (M := tbM137) rfl rfl trivial ?_
    refine e3_br (M := tbM137) rfl rfl rfl Iff.rfl (fun hc => ?_) (fun hc => ?_)
    · replace h := h.1 hc
      refine e3_K [0, 0] 95 [(2, l0), (0, l1), (0, l2), (0, s0), (2, x9)] [(0, (-4))] (H7) (G8) (wZ L xs) (M := tbM137) rfl rfl trivial ?_
      refine e3_fgt [false, false, false, false, false] ?_
      exact sF_tellNode_95 L xs Q _ _ _ h
    · replace h := h.2 hc
      obtain ⟨o10, o11, h⟩ := h
      refine e3_K [0, 3, 3] 95 [(2, l0), (0, l1), (0, l2), (0, s0), (2, x9)] [(0, (H7 (H7 x9 0) 0))] (H7) (G8) (wZ L xs) (M := tbM137) rfl rfl ⟨o10, o11, trivial⟩ ?_
      refine e3_fgt [false, false, false, false, false] ?_
      exact sF_tellNode_95 L xs Q _ _ _ h
  replace h := h.2
  by_cases hc2 : (l2 : Int) = 2
  · replace h := h.1 hc2
    refine e3_sw (M := tbM137) rfl rfl hc2 rfl ?_
    obtain ⟨o12, o13, o14, h⟩ := h
    refine e3_K [0, 3, 3, 0, 3] 105 [(2, l0), (0, l1), (0, l2), (0, s0), (3, 0)] [(0, (H (H (H l0 10) 7) l1))] (H) (G) (wZ L xs) (M := tbM137) rfl rfl ⟨o12, o13, o14, trivial⟩ ?_
    exact e3_reti (M := tbM137) rfl rfl rfl ⟨_, rfl, h⟩
  replace h := h.2
  by_cases hc3 : (l2 : Int) = 3
  · replace h := h.1 hc3
    refine e3_sw (M := tbM137) rfl rfl hc3 rfl ?_
    refine e3_K [0] 107 [(2, l0), (0, l1), (0, l2), (0, s0), (3, 0)] [(0, s0)] (H) (G) (wZ L xs) (M := tbM137) rfl rfl trivial ?_
    refine e3_br (M := tbM137) rfl rfl rfl Iff.rfl (fun hc => ?_) (fun hc => ?_)
    · replace h := h.1 hc
      refine e3_K [0] 128 [(2, l0), (0, l1), (0, l2), (0, s0), (3, 0)] [(0, (-4))] (H) (G) (wZ L xs) (M := tbM137) rfl rfl trivial ?_
      refine e3_fgt [false, false, false, false, false] ?_
      exact sF_tellNode_128 L xs Q _ _ _ h
    · replace h := h.2 hc
      obtain ⟨o15, o16, o17, h⟩ := h
      refine e3_K [0, 0, 3, 3, 0, 3] 120 [(2, l0), (0, l1), (0, l2), (0, s0), (3, 0)] [(0, (H (H (H l0 10) 6) l1)), (2, l0)] (H) (G) (wZ L xs) (M := tbM137) rfl rfl ⟨o15, o16, o17, trivial⟩ ?_
      obtain ⟨oz, h⟩ := h
      refine e3_call (o := 1) (k := 138) (M2 := tbM138) (f1 := 1) (w1 := 21) (as := [(2, l0), (0, (H (H (H l0 10) 6) l1))]) (rest := []) (M := tbM137) rfl rfl rfl oz (Nat.le_of_ble_eq_true rfl) (Nat.le_of_ble_eq_true rfl) (Nat.le_of_ble_eq_true rfl) ?_
      refine e3_mono (sF_placeDepth L xs _ _ _ _ _ h) (fun r H18 G19 h => ?_)
      obtain ⟨x20, rfl, h⟩ := h
      change e3_Ev _ _ _ _ 123 [(2, l0), (0, l1), (0, l2), (0, s0), (3, 0)] [(0, x20)] H18 G19 _
      refine e3_K [0] 128 [(2, l0), (0, l1), (0, l2), (0, s0), (3, 0)] [(0, x20)] (H18) (G19) (wZ L xs) (M := tbM137) rfl rfl trivial ?_
      refine e3_fgt [false, false, false, false, false] ?_
      exact sF_tellNode_128 L xs Q _ _ _ h
  replace h := h.2
  replace h := h (by omega)
  refine e3_sw (M := tbM137) rfl rfl rfl ((e3_swdt (by omega)).trans rfl) ?_
  refine e3_K [0] 130 [(2, l0), (0, l1), (0, l2), (0, s0), (3, 0)] [(0, s0)] (H) (G) (wZ L xs) (M := tbM137) rfl rfl trivial ?_
  refine e3_br (M := tbM137) rfl rfl rfl Iff.rfl (fun hc => ?_) (fun hc => ?_)
  · replace h := h.1 hc
    refine e3_K [0] 151 [(2, l0), (0, l1), (0, l2), (0, s0), (3, 0)] [(0, (-4))] (H) (G) (wZ L xs) (M := tbM137) rfl rfl trivial ?_
    refine e3_fgt [false, false, false, false, false] ?_
    exact sF_tellNode_151 L xs Q _ _ _ h
  · replace h := h.2 hc
    obtain ⟨o21, o22, o23, h⟩ := h
    refine e3_K [0, 0, 3, 3, 0, 3] 143 [(2, l0), (0, l1), (0, l2), (0, s0), (3, 0)] [(0, (H (H (H l0 10) 6) l1)), (2, l0)] (H) (G) (wZ L xs) (M := tbM137) rfl rfl ⟨o21, o22, o23, trivial⟩ ?_
    obtain ⟨oz, h⟩ := h
    refine e3_call (o := 1) (k := 139) (M2 := tbM139) (f1 := 0) (w1 := 0) (as := [(2, l0), (0, (H (H (H l0 10) 6) l1))]) (rest := []) (M := tbM137) rfl rfl rfl oz (Nat.le_of_ble_eq_true rfl) (Nat.le_of_ble_eq_true rfl) (Nat.le_of_ble_eq_true rfl) ?_
    refine e3_mono (sF_placeNumber L xs _ _ _ _ _ h) (fun r H24 G25 h => ?_)
    obtain ⟨x26, rfl, h⟩ := h
    change e3_Ev _ _ _ _ 146 [(2, l0), (0, l1), (0, l2), (0, s0), (3, 0)] [(0, x26)] H24 G25 _
    refine e3_K [0] 151 [(2, l0), (0, l1), (0, l2), (0, s0), (3, 0)] [(0, x26)] (H24) (G25) (wZ L xs) (M := tbM137) rfl rfl trivial ?_
    refine e3_fgt [false, false, false, false, false] ?_
    exact sF_tellNode_151 L xs Q _ _ _ h
set_option maxRecDepth 100000 in
set_option maxHeartbeats 4000000 in
theorem sF_tellNode (L : Nat) (xs : Nat → Int32) (Q : Int → e3_H → e3_G → Prop) (l0 : Int) (l1 : Int) (l2 : Int) (H : e3_H) (G : e3_G) (h : wF_tellNode Q l0 l1 l2 H G) : e3_Ev (wB L xs) 2 44 137 0 [(2, l0), (0, l1), (0, l2), (3, 0), (3, 0)] [] H G (e3_q0 Q) := by
  unfold wF_tellNode at h
  obtain ⟨o1, o2, o3, h⟩ := h
  refine e3_K [0, 3, 3, 0, 3, 0] 10 [(2, l0), (0, l1), (0, l2), (3, 0), (3, 0)] [(0, 3), (0, (H (H (H l0 10) 4) l1))] (H) (G) (wZ L xs) (M := tbM137) rfl rfl ⟨o1, o2, o3, trivial⟩ ?_
  refine e3_br (M := tbM137) rfl rfl rfl Iff.rfl (fun hc => ?_) (fun hc => ?_)
  · replace h := h.1 hc
    refine e3_K [0] 18 [(2, l0), (0, l1), (0, l2), (3, 0), (3, 0)] [(0, 0)] (H) (G) (wZ L xs) (M := tbM137) rfl rfl trivial ?_
    exact sF_tellNode_18 L xs Q _ _ _ _ _ _ h
  · replace h := h.2 hc
    refine e3_K [0, 0] 18 [(2, l0), (0, l1), (0, l2), (3, 0), (3, 0)] [(0, 1)] (H) (G) (wZ L xs) (M := tbM137) rfl rfl trivial ?_
    exact sF_tellNode_18 L xs Q _ _ _ _ _ _ h
/-- LetterPost.node(III)I -/
def wP_node_36 (Q : Int → e3_H → e3_G → Prop)  (H : e3_H) (G : e3_G) : Prop :=
  Q (-1) H G
def wP_node (Q : Int → e3_H → e3_G → Prop) (l1 : Int) (l2 : Int) (l3 : Int) (H : e3_H) (G : e3_G) : Prop :=
  (wR_functionAt (fun x3 H1 G2 => (((x3 : Int) < 0 → (wP_node_36 Q H1 G2)) ∧ (¬ ((x3 : Int) < 0) → (e3_ob G2 8 x3) ∧ (e3_ob G2 5 (H1 x3 10)) ∧ (wE_has (fun x7 H5 G6 => (((x7 : Int) = 0 → (wP_node_36 Q H5 G6)) ∧ (¬ ((x7 : Int) = 0) → (((l3 : Int) < 0 → (wP_node_36 Q H5 G6)) ∧ (¬ ((l3 : Int) < 0) → (((4 : Int) < l3 → (wP_node_36 Q H5 G6)) ∧ (¬ ((4 : Int) < l3) → (e3_ob G6 8 x3) ∧ (wF_tellNode (fun x10 H8 G9 => Q x10 H8 G9) x3 l2 l3 H5 G6)))))))) (H1 x3 10) l2 H1 G2)))) l1 H G)
set_option maxRecDepth 100000 in
set_option maxHeartbeats 4000000 in
theorem sP_node_36 (L : Nat) (xs : Nat → Int32) (Q : Int → e3_H → e3_G → Prop)  (H : e3_H) (G : e3_G) (h : wP_node_36 Q  H G) : e3_Ev (wB L xs) 3 68 136 36 [(3, 0), (3, 0), (3, 0), (3, 0), (3, 0)] [] H G (e3_q0 Q) := by
  unfold wP_node_36 at h
  refine e3_K [0] 37 [(3, 0), (3, 0), (3, 0), (3, 0), (3, 0)] [(0, (-1))] (H) (G) (wZ L xs) (M := tbM136) rfl rfl trivial ?_
  exact e3_reti (M := tbM136) rfl rfl rfl ⟨_, rfl, h⟩
set_option maxRecDepth 100000 in
set_option maxHeartbeats 4000000 in
theorem sP_node (L : Nat) (xs : Nat → Int32) (Q : Int → e3_H → e3_G → Prop) (l1 : Int) (l2 : Int) (l3 : Int) (H : e3_H) (G : e3_G) (h : wP_node Q l1 l2 l3 H G) : e3_Ev (wB L xs) 3 68 136 0 [(2, 2), (0, l1), (0, l2), (0, l3), (3, 0)] [] H G (e3_q0 Q) := by
  unfold wP_node at h
  refine e3_K [0, 4, 0] 5 [(2, 2), (0, l1), (0, l2), (0, l3), (3, 0)] [(0, l1), (2, 14)] (H) (G) (wZ L xs) (M := tbM136) rfl rfl ⟨trivial, trivial⟩ ?_
  refine e3_call (o := 0) (k := 83) (M2 := tbM83) (f1 := 0) (w1 := 0) (as := [(2, 14), (0, l1)]) (rest := []) (M := tbM136) rfl rfl rfl trivial (Nat.le_of_ble_eq_true rfl) (Nat.le_of_ble_eq_true rfl) (Nat.le_of_ble_eq_true rfl) ?_
  refine e3_mono (sR_functionAt L xs _ _ _ _ h) (fun r H1 G2 h => ?_)
  obtain ⟨x3, rfl, h⟩ := h
  change e3_Ev _ _ _ _ 8 [(2, 2), (0, l1), (0, l2), (0, l3), (3, 0)] [(2, x3)] H1 G2 _
  refine e3_K [0, 0] 12 [(2, 2), (0, l1), (0, l2), (0, l3), (2, x3)] [(2, x3)] (H1) (G2) (wZ L xs) (M := tbM136) rfl rfl trivial ?_
  refine e3_br (M := tbM136) rfl rfl rfl Iff.rfl (fun hc => ?_) (fun hc => ?_)
  · replace h := h.1 hc
    refine e3_fgt [false, false, false, false, false] ?_
    exact sP_node_36 L xs Q _ _ h
  · replace h := h.2 hc
    obtain ⟨o4, h⟩ := h
    refine e3_K [0, 3, 0] 21 [(2, 2), (0, l1), (0, l2), (0, l3), (2, x3)] [(0, l2), (2, (H1 x3 10))] (H1) (G2) (wZ L xs) (M := tbM136) rfl rfl ⟨o4, trivial⟩ ?_
    obtain ⟨oz, h⟩ := h
    refine e3_call (o := 1) (k := 125) (M2 := tbM125) (f1 := 0) (w1 := 0) (as := [(2, (H1 x3 10)), (0, l2)]) (rest := []) (M := tbM136) rfl rfl rfl oz (Nat.le_of_ble_eq_true rfl) (Nat.le_of_ble_eq_true rfl) (Nat.le_of_ble_eq_true rfl) ?_
    refine e3_mono (sE_has L xs _ _ _ _ _ h) (fun r H5 G6 h => ?_)
    obtain ⟨x7, rfl, h⟩ := h
    change e3_Ev _ _ _ _ 24 [(2, 2), (0, l1), (0, l2), (0, l3), (2, x3)] [(0, x7)] H5 G6 _
    refine e3_br (M := tbM136) rfl rfl rfl Iff.rfl (fun hc => ?_) (fun hc => ?_)
    · replace h := h.1 hc
      refine e3_fgt [false, false, false, false, false] ?_
      exact sP_node_36 L xs Q _ _ h
    · replace h := h.2 hc
      refine e3_K [0] 28 [(2, 2), (0, l1), (0, l2), (0, l3), (2, x3)] [(0, l3)] (H5) (G6) (wZ L xs) (M := tbM136) rfl rfl trivial ?_
      refine e3_br (M := tbM136) rfl rfl rfl Iff.rfl (fun hc => ?_) (fun hc => ?_)
      · replace h := h.1 hc
        refine e3_fgt [false, false, false, false, false] ?_
        exact sP_node_36 L xs Q _ _ h
      · replace h := h.2 hc
        refine e3_K [0, 0] 33 [(2, 2), (0, l1), (0, l2), (0, l3), (2, x3)] [(0, 4), (0, l3)] (H5) (G6) (wZ L xs) (M := tbM136) rfl rfl trivial ?_
        refine e3_br (M := tbM136) rfl rfl rfl Iff.rfl (fun hc => ?_) (fun hc => ?_)
        · replace h := h.1 hc
          refine e3_fgt [false, false, false, false, false] ?_
          exact sP_node_36 L xs Q _ _ h
        · replace h := h.2 hc
          refine e3_K [0, 0, 0] 42 [(2, 2), (0, l1), (0, l2), (0, l3), (2, x3)] [(0, l3), (0, l2), (2, x3)] (H5) (G6) (wZ L xs) (M := tbM136) rfl rfl trivial ?_
          obtain ⟨oz, h⟩ := h
          refine e3_call (o := 1) (k := 137) (M2 := tbM137) (f1 := 2) (w1 := 44) (as := [(2, x3), (0, l2), (0, l3)]) (rest := []) (M := tbM136) rfl rfl rfl oz (Nat.le_of_ble_eq_true rfl) (Nat.le_of_ble_eq_true rfl) (Nat.le_of_ble_eq_true rfl) ?_
          refine e3_mono (sF_tellNode L xs _ _ _ _ _ _ h) (fun r H8 G9 h => ?_)
          obtain ⟨x10, rfl, h⟩ := h
          change e3_Ev _ _ _ _ 45 [(2, 2), (0, l1), (0, l2), (0, l3), (2, x3)] [(0, x10)] H8 G9 _
          exact e3_reti (M := tbM136) rfl rfl rfl ⟨_, rfl, h⟩
/-- LetterPost$Tree.behind(II)I -/
def wE_behind_34 (Q : Int → e3_H → e3_G → Prop) (l3 : Int) (H : e3_H) (G : e3_G) : Prop :=
  Q l3 H G
def wE_behind_7 (Q : Int → e3_H → e3_G → Prop) : Nat → Int → Int → Int → Int → e3_H → e3_G → Prop
  | 0, _, _, _, _, _, _ => False
  | nn + 1, l0, l2, l3, l4, H, G => (((l4 : Int) < l2 → (e3_ob G 5 l0) ∧ (wE_has (fun x3 H1 G2 => (((x3 : Int) = 0 → (wE_behind_34 Q l3 H1 G2)) ∧ (¬ ((x3 : Int) = 0) → (e3_ob G2 5 l0) ∧ (e3_oa G2 0 (H1 l0 8) l3) ∧ (wE_behind_7 Q nn l0 l2 (H1 (H1 l0 8) l3) (e3_w32 (l4 + 1)) H1 G2)))) l0 l3 H G)) ∧ (¬ ((l4 : Int) < l2) → (wE_behind_34 Q l3 H G)))
def wE_behind (Q : Int → e3_H → e3_G → Prop) (l0 : Int) (l1 : Int) (l2 : Int) (H : e3_H) (G : e3_G) : Prop :=
  (∃ n, wE_behind_7 Q n l0 l2 (e3_w32 (l1 + 1)) 0 H G)
set_option maxRecDepth 100000 in
set_option maxHeartbeats 4000000 in
theorem sE_behind_34 (L : Nat) (xs : Nat → Int32) (Q : Int → e3_H → e3_G → Prop) (l3 : Int) (H : e3_H) (G : e3_G) (h : wE_behind_34 Q l3 H G) : e3_Ev (wB L xs) 1 21 141 34 [(3, 0), (3, 0), (3, 0), (0, l3), (3, 0)] [] H G (e3_q0 Q) := by
  unfold wE_behind_34 at h
  refine e3_K [0] 35 [(3, 0), (3, 0), (3, 0), (0, l3), (3, 0)] [(0, l3)] (H) (G) (wZ L xs) (M := tbM141) rfl rfl trivial ?_
  exact e3_reti (M := tbM141) rfl rfl rfl ⟨_, rfl, h⟩
set_option maxRecDepth 100000 in
set_option maxHeartbeats 4000000 in
theorem sE_behind_7 (L : Nat) (xs : Nat → Int32) (Q : Int → e3_H → e3_G → Prop) : ∀ (nl : Nat) (l0 : Int) (l2 : Int) (l3 : Int) (l4 : Int) (H : e3_H) (G : e3_G), wE_behind_7 Q nl l0 l2 l3 l4 H G → e3_Ev (wB L xs) 1 21 141 7 [(2, l0), (3, 0), (0, l2), (0, l3), (0, l4)] [] H G (e3_q0 Q) := by
  intro nl
  induction nl with
  | zero => intro l0 l2 l3 l4 H G h; exact h.elim
  | succ nn ih =>
    intro l0 l2 l3 l4 H G h
    have h : (((l4 : Int) < l2 → (e3_ob G 5 l0) ∧ (wE_has (fun x3 H1 G2 => (((x3 : Int) = 0 → (wE_behind_34 Q l3 H1 G2)) ∧ (¬ ((x3 : Int) = 0) → (e3_ob G2 5 l0) ∧ (e3_oa G2 0 (H1 l0 8) l3) ∧ (wE_behind_7 Q nn l0 l2 (H1 (H1 l0 8) l3) (e3_w32 (l4 + 1)) H1 G2)))) l0 l3 H G)) ∧ (¬ ((l4 : Int) < l2) → (wE_behind_34 Q l3 H G))) := h
    refine e3_K [0, 0] 10 [(2, l0), (3, 0), (0, l2), (0, l3), (0, l4)] [(0, l2), (0, l4)] (H) (G) (wZ L xs) (M := tbM141) rfl rfl trivial ?_
    refine e3_br (M := tbM141) rfl rfl rfl Iff.rfl (fun hc => ?_) (fun hc => ?_)
    · replace h := h.1 hc
      refine e3_K [0, 0] 15 [(2, l0), (3, 0), (0, l2), (0, l3), (0, l4)] [(0, l3), (2, l0)] (H) (G) (wZ L xs) (M := tbM141) rfl rfl trivial ?_
      obtain ⟨oz, h⟩ := h
      refine e3_call (o := 1) (k := 125) (M2 := tbM125) (f1 := 0) (w1 := 0) (as := [(2, l0), (0, l3)]) (rest := []) (M := tbM141) rfl rfl rfl oz (Nat.le_of_ble_eq_true rfl) (Nat.le_of_ble_eq_true rfl) (Nat.le_of_ble_eq_true rfl) ?_
      refine e3_mono (sE_has L xs _ _ _ _ _ h) (fun r H1 G2 h => ?_)
      obtain ⟨x3, rfl, h⟩ := h
      change e3_Ev _ _ _ _ 18 [(2, l0), (3, 0), (0, l2), (0, l3), (0, l4)] [(0, x3)] H1 G2 _
      refine e3_br (M := tbM141) rfl rfl rfl Iff.rfl (fun hc => ?_) (fun hc => ?_)
      · replace h := h.1 hc
        refine e3_fgt [false, false, false, true, false] ?_
        exact sE_behind_34 L xs Q _ _ _ h
      · replace h := h.2 hc
        obtain ⟨o4, o5, h⟩ := h
        refine e3_K [0, 3, 0, 3, 0, 0, 0] 7 [(2, l0), (3, 0), (0, l2), (0, (H1 (H1 l0 8) l3)), (0, (e3_w32 (l4 + 1)))] [] (H1) (G2) (wZ L xs) (M := tbM141) rfl rfl ⟨o4, o5, trivial⟩ ?_
        exact ih _ _ _ _ _ _ h
    · replace h := h.2 hc
      refine e3_fgt [false, false, false, true, false] ?_
      exact sE_behind_34 L xs Q _ _ _ h
set_option maxRecDepth 100000 in
set_option maxHeartbeats 4000000 in
theorem sE_behind (L : Nat) (xs : Nat → Int32) (Q : Int → e3_H → e3_G → Prop) (l0 : Int) (l1 : Int) (l2 : Int) (H : e3_H) (G : e3_G) (h : wE_behind Q l0 l1 l2 H G) : e3_Ev (wB L xs) 1 21 141 0 [(2, l0), (0, l1), (0, l2), (3, 0), (3, 0)] [] H G (e3_q0 Q) := by
  unfold wE_behind at h
  refine e3_K [0, 0, 0, 0, 0, 0] 7 [(2, l0), (0, l1), (0, l2), (0, (e3_w32 (l1 + 1))), (0, 0)] [] (H) (G) (wZ L xs) (M := tbM141) rfl rfl trivial ?_
  refine e3_fgt [true, false, true, true, true] ?_
  obtain ⟨nl, h⟩ := h
  exact sE_behind_7 L xs Q nl _ _ _ _ _ _ h
/-- LetterPost.branch(III)I -/
def wP_branch_45 (Q : Int → e3_H → e3_G → Prop)  (H : e3_H) (G : e3_G) : Prop :=
  Q (-1) H G
def wP_branch (Q : Int → e3_H → e3_G → Prop) (l1 : Int) (l2 : Int) (l3 : Int) (H : e3_H) (G : e3_G) : Prop :=
  (wR_functionAt (fun x3 H1 G2 => (((x3 : Int) < 0 → (wP_branch_45 Q H1 G2)) ∧ (¬ ((x3 : Int) < 0) → (e3_ob G2 8 x3) ∧ (e3_ob G2 5 (H1 x3 10)) ∧ (wE_has (fun x7 H5 G6 => (((x7 : Int) = 0 → (wP_branch_45 Q H5 G6)) ∧ (¬ ((x7 : Int) = 0) → (((l3 : Int) < 0 → (wP_branch_45 Q H5 G6)) ∧ (¬ ((l3 : Int) < 0) → (e3_ob G6 8 x3) ∧ (e3_ob G6 5 (H5 x3 10)) ∧ (e3_oa G6 0 (H5 (H5 x3 10) 7) l2) ∧ (((l3 : Int) < (H5 (H5 (H5 x3 10) 7) l2) → (e3_ob G6 8 x3) ∧ (e3_ob G6 5 (H5 x3 10)) ∧ (wE_behind (fun x14 H12 G13 => Q x14 H12 G13) (H5 x3 10) l2 l3 H5 G6)) ∧ (¬ ((l3 : Int) < (H5 (H5 (H5 x3 10) 7) l2)) → (wP_branch_45 Q H5 G6)))))))) (H1 x3 10) l2 H1 G2)))) l1 H G)
set_option maxRecDepth 100000 in
set_option maxHeartbeats 4000000 in
theorem sP_branch_45 (L : Nat) (xs : Nat → Int32) (Q : Int → e3_H → e3_G → Prop)  (H : e3_H) (G : e3_G) (h : wP_branch_45 Q  H G) : e3_Ev (wB L xs) 2 45 140 45 [(3, 0), (3, 0), (3, 0), (3, 0), (3, 0)] [] H G (e3_q0 Q) := by
  unfold wP_branch_45 at h
  refine e3_K [0] 46 [(3, 0), (3, 0), (3, 0), (3, 0), (3, 0)] [(0, (-1))] (H) (G) (wZ L xs) (M := tbM140) rfl rfl trivial ?_
  exact e3_reti (M := tbM140) rfl rfl rfl ⟨_, rfl, h⟩
set_option maxRecDepth 100000 in
set_option maxHeartbeats 4000000 in
theorem sP_branch (L : Nat) (xs : Nat → Int32) (Q : Int → e3_H → e3_G → Prop) (l1 : Int) (l2 : Int) (l3 : Int) (H : e3_H) (G : e3_G) (h : wP_branch Q l1 l2 l3 H G) : e3_Ev (wB L xs) 2 45 140 0 [(2, 2), (0, l1), (0, l2), (0, l3), (3, 0)] [] H G (e3_q0 Q) := by
  unfold wP_branch at h
  refine e3_K [0, 4, 0] 5 [(2, 2), (0, l1), (0, l2), (0, l3), (3, 0)] [(0, l1), (2, 14)] (H) (G) (wZ L xs) (M := tbM140) rfl rfl ⟨trivial, trivial⟩ ?_
  refine e3_call (o := 0) (k := 83) (M2 := tbM83) (f1 := 0) (w1 := 0) (as := [(2, 14), (0, l1)]) (rest := []) (M := tbM140) rfl rfl rfl trivial (Nat.le_of_ble_eq_true rfl) (Nat.le_of_ble_eq_true rfl) (Nat.le_of_ble_eq_true rfl) ?_
  refine e3_mono (sR_functionAt L xs _ _ _ _ h) (fun r H1 G2 h => ?_)
  obtain ⟨x3, rfl, h⟩ := h
  change e3_Ev _ _ _ _ 8 [(2, 2), (0, l1), (0, l2), (0, l3), (3, 0)] [(2, x3)] H1 G2 _
  refine e3_K [0, 0] 12 [(2, 2), (0, l1), (0, l2), (0, l3), (2, x3)] [(2, x3)] (H1) (G2) (wZ L xs) (M := tbM140) rfl rfl trivial ?_
  refine e3_br (M := tbM140) rfl rfl rfl Iff.rfl (fun hc => ?_) (fun hc => ?_)
  · replace h := h.1 hc
    refine e3_fgt [false, false, false, false, false] ?_
    exact sP_branch_45 L xs Q _ _ h
  · replace h := h.2 hc
    obtain ⟨o4, h⟩ := h
    refine e3_K [0, 3, 0] 21 [(2, 2), (0, l1), (0, l2), (0, l3), (2, x3)] [(0, l2), (2, (H1 x3 10))] (H1) (G2) (wZ L xs) (M := tbM140) rfl rfl ⟨o4, trivial⟩ ?_
    obtain ⟨oz, h⟩ := h
    refine e3_call (o := 1) (k := 125) (M2 := tbM125) (f1 := 0) (w1 := 0) (as := [(2, (H1 x3 10)), (0, l2)]) (rest := []) (M := tbM140) rfl rfl rfl oz (Nat.le_of_ble_eq_true rfl) (Nat.le_of_ble_eq_true rfl) (Nat.le_of_ble_eq_true rfl) ?_
    refine e3_mono (sE_has L xs _ _ _ _ _ h) (fun r H5 G6 h => ?_)
    obtain ⟨x7, rfl, h⟩ := h
    change e3_Ev _ _ _ _ 24 [(2, 2), (0, l1), (0, l2), (0, l3), (2, x3)] [(0, x7)] H5 G6 _
    refine e3_br (M := tbM140) rfl rfl rfl Iff.rfl (fun hc => ?_) (fun hc => ?_)
    · replace h := h.1 hc
      refine e3_fgt [false, false, false, false, false] ?_
      exact sP_branch_45 L xs Q _ _ h
    · replace h := h.2 hc
      refine e3_K [0] 28 [(2, 2), (0, l1), (0, l2), (0, l3), (2, x3)] [(0, l3)] (H5) (G6) (wZ L xs) (M := tbM140) rfl rfl trivial ?_
      refine e3_br (M := tbM140) rfl rfl rfl Iff.rfl (fun hc => ?_) (fun hc => ?_)
      · replace h := h.1 hc
        refine e3_fgt [false, false, false, false, false] ?_
        exact sP_branch_45 L xs Q _ _ h
      · replace h := h.2 hc
        obtain ⟨o8, o9, o10, h⟩ := h
        refine e3_K [0, 0, 3, 3, 0, 3] 42 [(2, 2), (0, l1), (0, l2), (0, l3), (2, x3)] [(0, (H5 (H5 (H5 x3 10) 7) l2)), (0, l3)] (H5) (G6) (wZ L xs) (M := tbM140) rfl rfl ⟨o8, o9, o10, trivial⟩ ?_
        refine e3_br (M := tbM140) rfl rfl rfl Iff.rfl (fun hc => ?_) (fun hc => ?_)
        · replace h := h.1 hc
          obtain ⟨o11, h⟩ := h
          refine e3_K [0, 3, 0, 0] 54 [(2, 2), (0, l1), (0, l2), (0, l3), (2, x3)] [(0, l3), (0, l2), (2, (H5 x3 10))] (H5) (G6) (wZ L xs) (M := tbM140) rfl rfl ⟨o11, trivial⟩ ?_
          obtain ⟨oz, h⟩ := h
          refine e3_call (o := 1) (k := 141) (M2 := tbM141) (f1 := 1) (w1 := 21) (as := [(2, (H5 x3 10)), (0, l2), (0, l3)]) (rest := []) (M := tbM140) rfl rfl rfl oz (Nat.le_of_ble_eq_true rfl) (Nat.le_of_ble_eq_true rfl) (Nat.le_of_ble_eq_true rfl) ?_
          refine e3_mono (sE_behind L xs _ _ _ _ _ _ h) (fun r H12 G13 h => ?_)
          obtain ⟨x14, rfl, h⟩ := h
          change e3_Ev _ _ _ _ 57 [(2, 2), (0, l1), (0, l2), (0, l3), (2, x3)] [(0, x14)] H12 G13 _
          exact e3_reti (M := tbM140) rfl rfl rfl ⟨_, rfl, h⟩
        · replace h := h.2 hc
          refine e3_fgt [false, false, false, false, false] ?_
          exact sP_branch_45 L xs Q _ _ h
