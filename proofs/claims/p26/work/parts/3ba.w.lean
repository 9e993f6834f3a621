/-- LetterPostModel.isKind(I)Z -/
def wM_isKind (Q : Int → e3_H → e3_G → Prop) (l1 : Int) (H : e3_H) (G : e3_G) : Prop :=
  (wM_in (fun x3 H1 G2 => ((x3 : Int) = 0 ∨ x3 = 1) ∧ Q x3 H1 G2) l1 0 (e3_w32 ((H 40 10) - 1)) H G)
set_option maxRecDepth 100000 in
set_option maxHeartbeats 4000000 in
theorem sM_isKind (L : Nat) (xs : Nat → Int32) (Q : Int → e3_H → e3_G → Prop) (l1 : Int) (H : e3_H) (G : e3_G) (h : wM_isKind Q l1 H G) : e3_Ev (wB L xs) 1 25 267 0 [(2, 40), (0, l1)] [] H G (e3_q0 Q) := by
  unfold wM_isKind at h
  refine e3_K [0, 0, 0, 0, 2, 0, 0, 0] 10 [(2, 40), (0, l1)] [(1, (e3_w32 ((H 40 10) - 1))), (1, 0), (1, l1)] (H) (G) (wZ L xs) (M := tbM267) rfl rfl ⟨trivial, trivial⟩ ?_
  refine e3_call (o := 0) (k := 198) (M2 := tbM198) (f1 := 0) (w1 := 0) (as := [(1, l1), (1, 0), (1, (e3_w32 ((H 40 10) - 1)))]) (rest := []) (M := tbM267) rfl rfl rfl trivial (Nat.le_of_ble_eq_true rfl) (Nat.le_of_ble_eq_true rfl) (Nat.le_of_ble_eq_true rfl) ?_
  refine e3_mono (sM_in L xs _ _ _ _ _ _ h) (fun r H1 G2 h => ?_)
  obtain ⟨x3, rfl, h⟩ := h
  change e3_Ev _ _ _ _ 13 [(2, 40), (0, l1)] [(0, x3)] H1 G2 _
  exact e3_retb (M := tbM267) rfl rfl rfl h.1 ⟨_, rfl, h.2⟩
/-- LetterPostModel.kind(II)I -/
def wM_kind_20 (Q : Int → e3_H → e3_G → Prop)  (H : e3_H) (G : e3_G) : Prop :=
  Q (-1) H G
def wM_kind_88 (Q : Int → e3_H → e3_G → Prop) (s0 : Int) (H : e3_H) (G : e3_G) : Prop :=
  Q s0 H G
def wM_kind_148 (Q : Int → e3_H → e3_G → Prop) (s0 : Int) (H : e3_H) (G : e3_G) : Prop :=
  Q s0 H G
def wM_kind_118 (Q : Int → e3_H → e3_G → Prop) (s0 : Int) (H : e3_H) (G : e3_G) : Prop :=
  Q s0 H G
def wM_kind_117 (Q : Int → e3_H → e3_G → Prop)  (H : e3_H) (G : e3_G) : Prop :=
  (wM_kind_118 Q 0 H G)
def wM_kind (Q : Int → e3_H → e3_G → Prop) (l1 : Int) (l2 : Int) (H : e3_H) (G : e3_G) : Prop :=
  (wM_isKind (fun x3 H1 G2 => (((x3 : Int) = 0 → (wM_kind_20 Q H1 G2)) ∧ (¬ ((x3 : Int) = 0) → (wM_in (fun x6 H4 G5 => (((x6 : Int) = 0 → (wM_kind_20 Q H4 G5)) ∧ (¬ ((x6 : Int) = 0) → (((l2 : Int) = 0 → ((0 : Int) ≤ l1 ∧ (l1 : Int) < 24) ∧ Q (H4 43 l1) H4 G5) ∧ ((l2 : Int) = 1 → (wM_isSealed (fun x10 H8 G9 => (((x10 : Int) = 0 → (wM_kind_88 Q 0 H8 G9)) ∧ (¬ ((x10 : Int) = 0) → (wM_kind_88 Q 1 H8 G9)))) l1 H4 G5)) ∧ ((l2 : Int) = 2 → ((0 : Int) ≤ l1 ∧ (l1 : Int) < 24) ∧ Q (H4 44 l1) H4 G5) ∧ ((l2 : Int) = 3 → ((0 : Int) ≤ l1 ∧ (l1 : Int) < 24) ∧ ((((e3_w32 (l2 - 3)) : Int) < (H4 44 l1) → ((0 : Int) ≤ (e3_w32 ((e3_w32 ((e3_w32 (4 * l1)) + l2)) - 3)) ∧ ((e3_w32 ((e3_w32 ((e3_w32 (4 * l1)) + l2)) - 3)) : Int) < 96) ∧ (wM_kind_148 Q (H4 45 (e3_w32 ((e3_w32 ((e3_w32 (4 * l1)) + l2)) - 3))) H4 G5)) ∧ (¬ (((e3_w32 (l2 - 3)) : Int) < (H4 44 l1)) → (wM_kind_148 Q (-4) H4 G5)))) ∧ ((l2 : Int) = 4 → ((0 : Int) ≤ l1 ∧ (l1 : Int) < 24) ∧ ((((e3_w32 (l2 - 3)) : Int) < (H4 44 l1) → ((0 : Int) ≤ (e3_w32 ((e3_w32 ((e3_w32 (4 * l1)) + l2)) - 3)) ∧ ((e3_w32 ((e3_w32 ((e3_w32 (4 * l1)) + l2)) - 3)) : Int) < 96) ∧ (wM_kind_148 Q (H4 45 (e3_w32 ((e3_w32 ((e3_w32 (4 * l1)) + l2)) - 3))) H4 G5)) ∧ (¬ (((e3_w32 (l2 - 3)) : Int) < (H4 44 l1)) → (wM_kind_148 Q (-4) H4 G5)))) ∧ ((l2 : Int) = 5 → ((0 : Int) ≤ l1 ∧ (l1 : Int) < 24) ∧ ((((e3_w32 (l2 - 3)) : Int) < (H4 44 l1) → ((0 : Int) ≤ (e3_w32 ((e3_w32 ((e3_w32 (4 * l1)) + l2)) - 3)) ∧ ((e3_w32 ((e3_w32 ((e3_w32 (4 * l1)) + l2)) - 3)) : Int) < 96) ∧ (wM_kind_148 Q (H4 45 (e3_w32 ((e3_w32 ((e3_w32 (4 * l1)) + l2)) - 3))) H4 G5)) ∧ (¬ (((e3_w32 (l2 - 3)) : Int) < (H4 44 l1)) → (wM_kind_148 Q (-4) H4 G5)))) ∧ ((l2 : Int) = 6 → ((0 : Int) ≤ l1 ∧ (l1 : Int) < 24) ∧ ((((e3_w32 (l2 - 3)) : Int) < (H4 44 l1) → ((0 : Int) ≤ (e3_w32 ((e3_w32 ((e3_w32 (4 * l1)) + l2)) - 3)) ∧ ((e3_w32 ((e3_w32 ((e3_w32 (4 * l1)) + l2)) - 3)) : Int) < 96) ∧ (wM_kind_148 Q (H4 45 (e3_w32 ((e3_w32 ((e3_w32 (4 * l1)) + l2)) - 3))) H4 G5)) ∧ (¬ (((e3_w32 (l2 - 3)) : Int) < (H4 44 l1)) → (wM_kind_148 Q (-4) H4 G5)))) ∧ ((l2 : Int) = 7 → (((0 : Int) < (H4 40 41) → (((l1 : Int) < (H4 101 0) → (wM_kind_117 Q H4 G5)) ∧ (¬ ((l1 : Int) < (H4 101 0)) → (wM_kind_118 Q 1 H4 G5)))) ∧ (¬ ((0 : Int) < (H4 40 41)) → (wM_kind_117 Q H4 G5)))) ∧ ((l2 : Int) < 0 ∨ 7 < l2 → ((0 : Int) ≤ l1 ∧ (l1 : Int) < 24) ∧ ((((e3_w32 (l2 - 3)) : Int) < (H4 44 l1) → ((0 : Int) ≤ (e3_w32 ((e3_w32 ((e3_w32 (4 * l1)) + l2)) - 3)) ∧ ((e3_w32 ((e3_w32 ((e3_w32 (4 * l1)) + l2)) - 3)) : Int) < 96) ∧ (wM_kind_148 Q (H4 45 (e3_w32 ((e3_w32 ((e3_w32 (4 * l1)) + l2)) - 3))) H4 G5)) ∧ (¬ (((e3_w32 (l2 - 3)) : Int) < (H4 44 l1)) → (wM_kind_148 Q (-4) H4 G5)))))))) l2 0 7 H1 G2)))) l1 H G)
set_option maxRecDepth 100000 in
set_option maxHeartbeats 4000000 in
theorem sM_kind_20 (L : Nat) (xs : Nat → Int32) (Q : Int → e3_H → e3_G → Prop)  (H : e3_H) (G : e3_G) (h : wM_kind_20 Q  H G) : e3_Ev (wB L xs) 2 46 266 20 [(3, 0), (3, 0), (3, 0)] [] H G (e3_q0 Q) := by
  unfold wM_kind_20 at h
  refine e3_K [0] 21 [(3, 0), (3, 0), (3, 0)] [(0, (-1))] (H) (G) (wZ L xs) (M := tbM266) rfl rfl trivial ?_
  exact e3_reti (M := tbM266) rfl rfl rfl ⟨_, rfl, h⟩
set_option maxRecDepth 100000 in
set_option maxHeartbeats 4000000 in
theorem sM_kind_88 (L : Nat) (xs : Nat → Int32) (Q : Int → e3_H → e3_G → Prop) (s0 : Int) (H : e3_H) (G : e3_G) (h : wM_kind_88 Q s0 H G) : e3_Ev (wB L xs) 2 46 266 88 [(3, 0), (3, 0), (3, 0)] [(0, s0)] H G (e3_q0 Q) := by
  unfold wM_kind_88 at h
  exact e3_reti (M := tbM266) rfl rfl rfl ⟨_, rfl, h⟩
set_option maxRecDepth 100000 in
set_option maxHeartbeats 4000000 in
theorem sM_kind_148 (L : Nat) (xs : Nat → Int32) (Q : Int → e3_H → e3_G → Prop) (s0 : Int) (H : e3_H) (G : e3_G) (h : wM_kind_148 Q s0 H G) : e3_Ev (wB L xs) 2 46 266 148 [(3, 0), (3, 0), (3, 0)] [(0, s0)] H G (e3_q0 Q) := by
  unfold wM_kind_148 at h
  exact e3_reti (M := tbM266) rfl rfl rfl ⟨_, rfl, h⟩
set_option maxRecDepth 100000 in
set_option maxHeartbeats 4000000 in
theorem sM_kind_118 (L : Nat) (xs : Nat → Int32) (Q : Int → e3_H → e3_G → Prop) (s0 : Int) (H : e3_H) (G : e3_G) (h : wM_kind_118 Q s0 H G) : e3_Ev (wB L xs) 2 46 266 118 [(3, 0), (3, 0), (3, 0)] [(0, s0)] H G (e3_q0 Q) := by
  unfold wM_kind_118 at h
  exact e3_reti (M := tbM266) rfl rfl rfl ⟨_, rfl, h⟩
set_option maxRecDepth 100000 in
set_option maxHeartbeats 4000000 in
theorem sM_kind_117 (L : Nat) (xs : Nat → Int32) (Q : Int → e3_H → e3_G → Prop)  (H : e3_H) (G : e3_G) (h : wM_kind_117 Q  H G) : e3_Ev (wB L xs) 2 46 266 117 [(3, 0), (3, 0), (3, 0)] [] H G (e3_q0 Q) := by
  unfold wM_kind_117 at h
  refine e3_K [0] 118 [(3, 0), (3, 0), (3, 0)] [(0, 0)] (H) (G) (wZ L xs) (M := tbM266) rfl rfl trivial ?_
  exact sM_kind_118 L xs Q _ _ _ h
set_option maxRecDepth 100000 in
set_option maxHeartbeats 4000000 in
theorem sM_kind (L : Nat) (xs : Nat → Int32) (Q : Int → e3_H → e3_G → Prop) (l1 : Int) (l2 : Int) (H : e3_H) (G : e3_G) (h : wM_kind Q l1 l2 H G) : e3_Ev (wB L xs) 2 46 266 0 [(2, 40), (0, l1), (0, l2)] [] H G (e3_q0 Q) := by
  unfold wM_kind at h
  refine e3_K [0, 0] 2 [(2, 40), (0, l1), (0, l2)] [(0, l1), (2, 40)] (H) (G) (wZ L xs) (M := tbM266) rfl rfl trivial ?_
  refine e3_call (o := 0) (k := 267) (M2 := tbM267) (f1 := 1) (w1 := 25) (as := [(2, 40), (0, l1)]) (rest := []) (M := tbM266) rfl rfl rfl trivial (Nat.le_of_ble_eq_true rfl) (Nat.le_of_ble_eq_true rfl) (Nat.le_of_ble_eq_true rfl) ?_
  refine e3_mono (sM_isKind L xs _ _ _ _ h) (fun r H1 G2 h => ?_)
  obtain ⟨x3, rfl, h⟩ := h
  change e3_Ev _ _ _ _ 5 [(2, 40), (0, l1), (0, l2)] [(0, x3)] H1 G2 _
  refine e3_br (M := tbM266) rfl rfl rfl Iff.rfl (fun hc => ?_) (fun hc => ?_)
  · replace h := h.1 hc
    refine e3_fgt [false, false, false] ?_
    exact sM_kind_20 L xs Q _ _ h
  · replace h := h.2 hc
    refine e3_K [0, 0, 0, 2] 14 [(2, 40), (0, l1), (0, l2)] [(1, 7), (1, 0), (1, l2)] (H1) (G2) (wZ L xs) (M := tbM266) rfl rfl ⟨trivial, trivial⟩ ?_
    refine e3_call (o := 0) (k := 198) (M2 := tbM198) (f1 := 0) (w1 := 0) (as := [(1, l2), (1, 0), (1, 7)]) (rest := []) (M := tbM266) rfl rfl rfl trivial (Nat.le_of_ble_eq_true rfl) (Nat.le_of_ble_eq_true rfl) (Nat.le_of_ble_eq_true rfl) ?_
    refine e3_mono (sM_in L xs _ _ _ _ _ _ h) (fun r H4 G5 h => ?_)
    obtain ⟨x6, rfl, h⟩ := h
    change e3_Ev _ _ _ _ 17 [(2, 40), (0, l1), (0, l2)] [(0, x6)] H4 G5 _
    refine e3_br (M := tbM266) rfl rfl rfl Iff.rfl (fun hc => ?_) (fun hc => ?_)
    · replace h := h.1 hc
      refine e3_fgt [false, false, false] ?_
      exact sM_kind_20 L xs Q _ _ h
    · replace h := h.2 hc
      refine e3_K [0] 23 [(2, 40), (0, l1), (0, l2)] [(0, l2)] (H4) (G5) (wZ L xs) (M := tbM266) rfl rfl trivial ?_
      by_cases hc0 : (l2 : Int) = 0
      · replace h := h.1 hc0
        refine e3_sw (M := tbM266) rfl rfl hc0 rfl ?_
        obtain ⟨o7, h⟩ := h
        refine e3_K [0, 4, 0, 2] 74 [(2, 40), (0, l1), (0, l2)] [(0, (H4 43 l1))] (H4) (G5) (wZ L xs) (M := tbM266) rfl rfl ⟨trivial, o7, trivial⟩ ?_
        exact e3_reti (M := tbM266) rfl rfl rfl ⟨_, rfl, h⟩
      replace h := h.2
      by_cases hc1 : (l2 : Int) = 1
      · replace h := h.1 hc1
        refine e3_sw (M := tbM266) rfl rfl hc1 rfl ?_
        refine e3_K [0, 0] 77 [(2, 40), (0, l1), (0, l2)] [(0, l1), (2, 40)] (H4) (G5) (wZ L xs) (M := tbM266) rfl rfl trivial ?_
        refine e3_call (o := 0) (k := 213) (M2 := tbM213) (f1 := 0) (w1 := 0) (as := [(2, 40), (0, l1)]) (rest := []) (M := tbM266) rfl rfl rfl trivial (Nat.le_of_ble_eq_true rfl) (Nat.le_of_ble_eq_true rfl) (Nat.le_of_ble_eq_true rfl) ?_
        refine e3_mono (sM_isSealed L xs _ _ _ _ h) (fun r H8 G9 h => ?_)
        obtain ⟨x10, rfl, h⟩ := h
        change e3_Ev _ _ _ _ 80 [(2, 40), (0, l1), (0, l2)] [(0, x10)] H8 G9 _
        refine e3_br (M := tbM266) rfl rfl rfl Iff.rfl (fun hc => ?_) (fun hc => ?_)
        · replace h := h.1 hc
          refine e3_K [0] 88 [(2, 40), (0, l1), (0, l2)] [(0, 0)] (H8) (G9) (wZ L xs) (M := tbM266) rfl rfl trivial ?_
          refine e3_fgt [false, false, false] ?_
          exact sM_kind_88 L xs Q _ _ _ h
        · replace h := h.2 hc
          refine e3_K [0, 0] 88 [(2, 40), (0, l1), (0, l2)] [(0, 1)] (H8) (G9) (wZ L xs) (M := tbM266) rfl rfl trivial ?_
          refine e3_fgt [false, false, false] ?_
          exact sM_kind_88 L xs Q _ _ _ h
      replace h := h.2
      by_cases hc2 : (l2 : Int) = 2
      · replace h := h.1 hc2
        refine e3_sw (M := tbM266) rfl rfl hc2 rfl ?_
        obtain ⟨o11, h⟩ := h
        refine e3_K [0, 4, 0, 2] 95 [(2, 40), (0, l1), (0, l2)] [(0, (H4 44 l1))] (H4) (G5) (wZ L xs) (M := tbM266) rfl rfl ⟨trivial, o11, trivial⟩ ?_
        exact e3_reti (M := tbM266) rfl rfl rfl ⟨_, rfl, h⟩
      replace h := h.2
      by_cases hc3 : (l2 : Int) = 3
      · replace h := h.1 hc3
        refine e3_sw (M := tbM266) rfl rfl hc3 rfl ?_
        obtain ⟨o12, h⟩ := h
        refine e3_K [0, 0, 0, 0, 4, 0, 2] 128 [(2, 40), (0, l1), (0, l2)] [(0, (H4 44 l1)), (0, (e3_w32 (l2 - 3)))] (H4) (G5) (wZ L xs) (M := tbM266) rfl rfl ⟨trivial, o12, trivial⟩ ?_
        refine e3_br (M := tbM266) rfl rfl rfl Iff.rfl (fun hc => ?_) (fun hc => ?_)
        · replace h := h.1 hc
          obtain ⟨o13, h⟩ := h
          refine e3_K [0, 4, 0, 0, 0, 0, 0, 0, 0, 2, 0] 148 [(2, 40), (0, l1), (0, l2)] [(0, (H4 45 (e3_w32 ((e3_w32 ((e3_w32 (4 * l1)) + l2)) - 3))))] (H4) (G5) (wZ L xs) (M := tbM266) rfl rfl ⟨trivial, o13, trivial⟩ ?_
          refine e3_fgt [false, false, false] ?_
          exact sM_kind_148 L xs Q _ _ _ h
        · replace h := h.2 hc
          refine e3_K [0] 148 [(2, 40), (0, l1), (0, l2)] [(0, (-4))] (H4) (G5) (wZ L xs) (M := tbM266) rfl rfl trivial ?_
          refine e3_fgt [false, false, false] ?_
          exact sM_kind_148 L xs Q _ _ _ h
      replace h := h.2
      by_cases hc4 : (l2 : Int) = 4
      · replace h := h.1 hc4
        refine e3_sw (M := tbM266) rfl rfl hc4 rfl ?_
        obtain ⟨o14, h⟩ := h
        refine e3_K [0, 0, 0, 0, 4, 0, 2] 128 [(2, 40), (0, l1), (0, l2)] [(0, (H4 44 l1)), (0, (e3_w32 (l2 - 3)))] (H4) (G5) (wZ L xs) (M := tbM266) rfl rfl ⟨trivial, o14, trivial⟩ ?_
        refine e3_br (M := tbM266) rfl rfl rfl Iff.rfl (fun hc => ?_) (fun hc => ?_)
        · replace h := h.1 hc
          obtain ⟨o15, h⟩ := h
          refine e3_K [0, 4, 0, 0, 0, 0, 0, 0, 0, 2, 0] 148 [(2, 40), (0, l1), (0, l2)] [(0, (H4 45 (e3_w32 ((e3_w32 ((e3_w32 (4 * l1)) + l2)) - 3))))] (H4) (G5) (wZ L xs) (M := tbM266) rfl rfl ⟨trivial, o15, trivial⟩ ?_
          refine e3_fgt [false, false, false] ?_
          exact sM_kind_148 L xs Q _ _ _ h
        · replace h := h.2 hc
          refine e3_K [0] 148 [(2, 40), (0, l1), (0, l2)] [(0, (-4))] (H4) (G5) (wZ L xs) (M := tbM266) rfl rfl trivial ?_
          refine e3_fgt [false, false, false] ?_
          exact sM_kind_148 L xs Q _ _ _ h
      replace h := h.2
      by_cases hc5 : (l2 : Int) = 5
      · replace h := h.1 hc5
        refine e3_sw (M := tbM266) rfl rfl hc5 rfl ?_
        obtain ⟨o16, h⟩ := h
        refine e3_K [0, 0, 0, 0, 4, 0, 2] 128 [(2, 40), (0, l1), (0, l2)] [(0, (H4 44 l1)), (0, (e3_w32 (l2 - 3)))] (H4) (G5) (wZ L xs) (M := tbM266) rfl rfl ⟨trivial, o16, trivial⟩ ?_
        refine e3_br (M := tbM266) rfl rfl rfl Iff.rfl (fun hc => ?_) (fun hc => ?_)
        · replace h := h.1 hc
          obtain ⟨o17, h⟩ := h
          refine e3_K [0, 4, 0, 0, 0, 0, 0, 0, 0, 2, 0] 148 [(2, 40), (0, l1), (0, l2)] [(0, (H4 45 (e3_w32 ((e3_w32 ((e3_w32 (4 * l1)) + l2)) - 3))))] (H4) (G5) (wZ L xs) (M := tbM266) rfl rfl ⟨trivial, o17, trivial⟩ ?_
          refine e3_fgt [false, false, false] ?_
          exact sM_kind_148 L xs Q _ _ _ h
        · replace h := h.2 hc
          refine e3_K [0] 148 [(2, 40), (0, l1), (0, l2)] [(0, (-4))] (H4) (G5) (wZ L xs) (M := tbM266) rfl rfl trivial ?_
          refine e3_fgt [false, false, false] ?_
          exact sM_kind_148 L xs Q _ _ _ h
      replace h := h.2
      by_cases hc6 : (l2 : Int) = 6
      · replace h := h.1 hc6
        refine e3_sw (M := tbM266) rfl rfl hc6 rfl ?_
        obtain ⟨o18, h⟩ := h
        refine e3_K [0, 0, 0, 0, 4, 0, 2] 128 [(2, 40), (0, l1), (0, l2)] [(0, (H4 44 l1)), (0, (e3_w32 (l2 - 3)))] (H4) (G5) (wZ L xs) (M := tbM266) rfl rfl ⟨trivial, o18, trivial⟩ ?_
        refine e3_br (M := tbM266) rfl rfl rfl Iff.rfl (fun hc => ?_) (fun hc => ?_)
        · replace h := h.1 hc
          obtain ⟨o19, h⟩ := h
          refine e3_K [0, 4, 0, 0, 0, 0, 0, 0, 0, 2, 0] 148 [(2, 40), (0, l1), (0, l2)] [(0, (H4 45 (e3_w32 ((e3_w32 ((e3_w32 (4 * l1)) + l2)) - 3))))] (H4) (G5) (wZ L xs) (M := tbM266) rfl rfl ⟨trivial, o19, trivial⟩ ?_
          refine e3_fgt [false, false, false] ?_
          exact sM_kind_148 L xs Q _ _ _ h
        · replace h := h.2 hc
          refine e3_K [0] 148 [(2, 40), (0, l1), (0, l2)] [(0, (-4))] (H4) (G5) (wZ L xs) (M := tbM266) rfl rfl trivial ?_
          refine e3_fgt [false, false, false] ?_
          exact sM_kind_148 L xs Q _ _ _ h
      replace h := h.2
      by_cases hc7 : (l2 : Int) = 7
      · replace h := h.1 hc7
        refine e3_sw (M := tbM266) rfl rfl hc7 rfl ?_
        refine e3_K [0, 2] 100 [(2, 40), (0, l1), (0, l2)] [(0, (H4 40 41))] (H4) (G5) (wZ L xs) (M := tbM266) rfl rfl ⟨trivial, trivial⟩ ?_
        refine e3_br (M := tbM266) rfl rfl rfl Iff.rfl (fun hc => ?_) (fun hc => ?_)
        · replace h := h.1 hc
          refine e3_K [0, 0, 4, 0, 2] 110 [(2, 40), (0, l1), (0, l2)] [(0, (H4 101 0)), (0, l1)] (H4) (G5) (wZ L xs) (M := tbM266) rfl rfl ⟨trivial, ⟨by decide, by decide⟩, trivial⟩ ?_
          refine e3_br (M := tbM266) rfl rfl rfl Iff.rfl (fun hc => ?_) (fun hc => ?_)
          · replace h := h.1 hc
            refine e3_fgt [false, false, false] ?_
            exact sM_kind_117 L xs Q _ _ h
          · replace h := h.2 hc
            refine e3_K [0, 0] 118 [(2, 40), (0, l1), (0, l2)] [(0, 1)] (H4) (G5) (wZ L xs) (M := tbM266) rfl rfl trivial ?_
            refine e3_fgt [false, false, false] ?_
            exact sM_kind_118 L xs Q _ _ _ h
        · replace h := h.2 hc
          refine e3_fgt [false, false, false] ?_
          exact sM_kind_117 L xs Q _ _ h
      replace h := h.2
      replace h := h (by omega)
      refine e3_sw (M := tbM266) rfl rfl rfl ((e3_swdt (by omega)).trans rfl) ?_
      obtain ⟨o20, h⟩ := h
      refine e3_K [0, 0, 0, 0, 4, 0, 2] 128 [(2, 40), (0, l1), (0, l2)] [(0, (H4 44 l1)), (0, (e3_w32 (l2 - 3)))] (H4) (G5) (wZ L xs) (M := tbM266) rfl rfl ⟨trivial, o20, trivial⟩ ?_
      refine e3_br (M := tbM266) rfl rfl rfl Iff.rfl (fun hc => ?_) (fun hc => ?_)
      · replace h := h.1 hc
        obtain ⟨o21, h⟩ := h
        refine e3_K [0, 4, 0, 0, 0, 0, 0, 0, 0, 2, 0] 148 [(2, 40), (0, l1), (0, l2)] [(0, (H4 45 (e3_w32 ((e3_w32 ((e3_w32 (4 * l1)) + l2)) - 3))))] (H4) (G5) (wZ L xs) (M := tbM266) rfl rfl ⟨trivial, o21, trivial⟩ ?_
        refine e3_fgt [false, false, false] ?_
        exact sM_kind_148 L xs Q _ _ _ h
      · replace h := h.2 hc
        refine e3_K [0] 148 [(2, 40), (0, l1), (0, l2)] [(0, (-4))] (H4) (G5) (wZ L xs) (M := tbM266) rfl rfl trivial ?_
        refine e3_fgt [false, false, false] ?_
        exact sM_kind_148 L xs Q _ _ _ h
/-- LetterPostModel.kindNamed(J)I -/
def wM_kindNamed (Q : Int → e3_H → e3_G → Prop) (l1 : Int) (H : e3_H) (G : e3_G) : Prop :=
  (wM_kindOf (fun x3 H1 G2 => Q x3 H1 G2) l1 H G)
set_option maxRecDepth 100000 in
set_option maxHeartbeats 4000000 in
theorem sM_kindNamed (L : Nat) (xs : Nat → Int32) (Q : Int → e3_H → e3_G → Prop) (l1 : Int) (H : e3_H) (G : e3_G) (h : wM_kindNamed Q l1 H G) : e3_Ev (wB L xs) 1 24 268 0 [(2, 40), (1, l1), (3, 0)] [] H G (e3_q0 Q) := by
  unfold wM_kindNamed at h
  refine e3_K [0, 0] 2 [(2, 40), (1, l1), (3, 0)] [(1, l1), (2, 40)] (H) (G) (wZ L xs) (M := tbM268) rfl rfl trivial ?_
  refine e3_call (o := 0) (k := 211) (M2 := tbM211) (f1 := 0) (w1 := 0) (as := [(2, 40), (1, l1)]) (rest := []) (M := tbM268) rfl rfl rfl trivial (Nat.le_of_ble_eq_true rfl) (Nat.le_of_ble_eq_true rfl) (Nat.le_of_ble_eq_true rfl) ?_
  refine e3_mono (sM_kindOf L xs _ _ _ _ h) (fun r H1 G2 h => ?_)
  obtain ⟨x3, rfl, h⟩ := h
  change e3_Ev _ _ _ _ 5 [(2, 40), (1, l1), (3, 0)] [(0, x3)] H1 G2 _
  exact e3_reti (M := tbM268) rfl rfl rfl ⟨_, rfl, h⟩
/-- LetterPostModel.depth(I)I -/
def wM_depth_60 (Q : Int → e3_H → e3_G → Prop) (k4 : Int → Int → Int → e3_H → e3_G → Prop) (l1 : Int) (l3 : Int) (s0 : Int) (H : e3_H) (G : e3_G) : Prop :=
  (k4 l1 s0 (e3_w32 (l3 + 1)) H G)
def wM_depth_26 (Q : Int → e3_H → e3_G → Prop) (k4 : Int → Int → Int → e3_H → e3_G → Prop) : Nat → Int → Int → Int → Int → Int → e3_H → e3_G → Prop
  | 0, _, _, _, _, _, _, _ => False
  | nn + 1, l1, l2, l3, l4, l5, H, G => (((l5 : Int) = (-4) → (((l2 : Int) < l4 → (wM_depth_60 Q k4 l1 l3 l4 H G)) ∧ (¬ ((l2 : Int) < l4) → (wM_depth_60 Q k4 l1 l3 l2 H G)))) ∧ (¬ ((l5 : Int) = (-4)) → ((0 : Int) ≤ l5 ∧ (l5 : Int) < 3900) ∧ (wM_depth_26 Q k4 nn l1 l2 l3 (e3_w32 (l4 + 1)) (H 107 l5) H G)))
def wM_depth_4 (Q : Int → e3_H → e3_G → Prop) : Nat → Int → Int → Int → e3_H → e3_G → Prop
  | 0, _, _, _, _, _ => False
  | nn + 1, l1, l2, l3, H, G => ((0 : Int) ≤ l1 ∧ (l1 : Int) < 13) ∧ (((l3 : Int) < (H 99 l1) → (∃ n, wM_depth_26 Q (fun l1 l2 l3 H G => wM_depth_4 Q nn l1 l2 l3 H G) n l1 l2 l3 0 (e3_w32 ((e3_w32 (300 * l1)) + l3)) H G)) ∧ (¬ ((l3 : Int) < (H 99 l1)) → Q l2 H G))
def wM_depth (Q : Int → e3_H → e3_G → Prop) (l1 : Int) (H : e3_H) (G : e3_G) : Prop :=
  (∃ n, wM_depth_4 Q n l1 0 0 H G)
set_option maxRecDepth 100000 in
set_option maxHeartbeats 4000000 in
theorem sM_depth_60 (L : Nat) (xs : Nat → Int32) (Q : Int → e3_H → e3_G → Prop) (k4 : Int → Int → Int → e3_H → e3_G → Prop) (hk4 : ∀ (l1 : Int) (l2 : Int) (l3 : Int) (H : e3_H) (G : e3_G), k4 l1 l2 l3 H G → e3_Ev (wB L xs) 0 0 270 4 [(2, 40), (0, l1), (0, l2), (0, l3), (3, 0), (3, 0)] [] H G (e3_q0 Q)) (l1 : Int) (l3 : Int) (s0 : Int) (H : e3_H) (G : e3_G) (h : wM_depth_60 Q k4 l1 l3 s0 H G) : e3_Ev (wB L xs) 0 0 270 60 [(2, 40), (0, l1), (3, 0), (0, l3), (3, 0), (3, 0)] [(0, s0)] H G (e3_q0 Q) := by
  unfold wM_depth_60 at h
  refine e3_K [0, 0, 0] 4 [(2, 40), (0, l1), (0, s0), (0, (e3_w32 (l3 + 1))), (3, 0), (3, 0)] [] (H) (G) (wZ L xs) (M := tbM270) rfl rfl trivial ?_
  exact hk4 _ _ _ _ _ h
set_option maxRecDepth 100000 in
set_option maxHeartbeats 4000000 in
theorem sM_depth_26 (L : Nat) (xs : Nat → Int32) (Q : Int → e3_H → e3_G → Prop) (k4 : Int → Int → Int → e3_H → e3_G → Prop) (hk4 : ∀ (l1 : Int) (l2 : Int) (l3 : Int) (H : e3_H) (G : e3_G), k4 l1 l2 l3 H G → e3_Ev (wB L xs) 0 0 270 4 [(2, 40), (0, l1), (0, l2), (0, l3), (3, 0), (3, 0)] [] H G (e3_q0 Q)) : ∀ (nl : Nat) (l1 : Int) (l2 : Int) (l3 : Int) (l4 : Int) (l5 : Int) (H : e3_H) (G : e3_G), wM_depth_26 Q k4 nl l1 l2 l3 l4 l5 H G → e3_Ev (wB L xs) 0 0 270 26 [(2, 40), (0, l1), (0, l2), (0, l3), (0, l4), (0, l5)] [] H G (e3_q0 Q) := by
  intro nl
  induction nl with
  | zero => intro l1 l2 l3 l4 l5 H G h; exact h.elim
  | succ nn ih =>
    intro l1 l2 l3 l4 l5 H G h
    have h : (((l5 : Int) = (-4) → (((l2 : Int) < l4 → (wM_depth_60 Q k4 l1 l3 l4 H G)) ∧ (¬ ((l2 : Int) < l4) → (wM_depth_60 Q k4 l1 l3 l2 H G)))) ∧ (¬ ((l5 : Int) = (-4)) → ((0 : Int) ≤ l5 ∧ (l5 : Int) < 3900) ∧ (wM_depth_26 Q k4 nn l1 l2 l3 (e3_w32 (l4 + 1)) (H 107 l5) H G))) := h
    refine e3_K [0, 0] 30 [(2, 40), (0, l1), (0, l2), (0, l3), (0, l4), (0, l5)] [(0, (-4)), (0, l5)] (H) (G) (wZ L xs) (M := tbM270) rfl rfl trivial ?_
    refine e3_br (M := tbM270) rfl rfl rfl Iff.rfl (fun hc => ?_) (fun hc => ?_)
    · replace h := h.1 hc
      refine e3_K [0, 0] 51 [(2, 40), (0, l1), (0, l2), (0, l3), (0, l4), (0, l5)] [(0, l2), (0, l4)] (H) (G) (wZ L xs) (M := tbM270) rfl rfl trivial ?_
      refine e3_br (M := tbM270) rfl rfl rfl Iff.rfl (fun hc => ?_) (fun hc => ?_)
      · replace h := h.1 hc
        refine e3_K [0, 0] 60 [(2, 40), (0, l1), (0, l2), (0, l3), (0, l4), (0, l5)] [(0, l4)] (H) (G) (wZ L xs) (M := tbM270) rfl rfl trivial ?_
        refine e3_fgt [true, true, false, true, false, false] ?_
        exact sM_depth_60 L xs Q k4 hk4 _ _ _ _ _ h
      · replace h := h.2 hc
        refine e3_K [0] 60 [(2, 40), (0, l1), (0, l2), (0, l3), (0, l4), (0, l5)] [(0, l2)] (H) (G) (wZ L xs) (M := tbM270) rfl rfl trivial ?_
        refine e3_fgt [true, true, false, true, false, false] ?_
        exact sM_depth_60 L xs Q k4 hk4 _ _ _ _ _ h
    · replace h := h.2 hc
      obtain ⟨o1, h⟩ := h
      refine e3_K [0, 0, 4, 0, 2, 0, 0] 26 [(2, 40), (0, l1), (0, l2), (0, l3), (0, (e3_w32 (l4 + 1))), (0, (H 107 l5))] [] (H) (G) (wZ L xs) (M := tbM270) rfl rfl ⟨trivial, o1, trivial⟩ ?_
      exact ih _ _ _ _ _ _ _ h
set_option maxRecDepth 100000 in
set_option maxHeartbeats 4000000 in
theorem sM_depth_4 (L : Nat) (xs : Nat → Int32) (Q : Int → e3_H → e3_G → Prop) : ∀ (nl : Nat) (l1 : Int) (l2 : Int) (l3 : Int) (H : e3_H) (G : e3_G), wM_depth_4 Q nl l1 l2 l3 H G → e3_Ev (wB L xs) 0 0 270 4 [(2, 40), (0, l1), (0, l2), (0, l3), (3, 0), (3, 0)] [] H G (e3_q0 Q) := by
  intro nl
  induction nl with
  | zero => intro l1 l2 l3 H G h; exact h.elim
  | succ nn ih =>
    intro l1 l2 l3 H G h
    have h : ((0 : Int) ≤ l1 ∧ (l1 : Int) < 13) ∧ (((l3 : Int) < (H 99 l1) → (∃ n, wM_depth_26 Q (fun l1 l2 l3 H G => wM_depth_4 Q nn l1 l2 l3 H G) n l1 l2 l3 0 (e3_w32 ((e3_w32 (300 * l1)) + l3)) H G)) ∧ (¬ ((l3 : Int) < (H 99 l1)) → Q l2 H G)) := h
    obtain ⟨o1, h⟩ := h
    refine e3_K [0, 0, 4, 0, 2] 11 [(2, 40), (0, l1), (0, l2), (0, l3), (3, 0), (3, 0)] [(0, (H 99 l1)), (0, l3)] (H) (G) (wZ L xs) (M := tbM270) rfl rfl ⟨trivial, o1, trivial⟩ ?_
    refine e3_br (M := tbM270) rfl rfl rfl Iff.rfl (fun hc => ?_) (fun hc => ?_)
    · replace h := h.1 hc
      refine e3_K [0, 0, 0, 0, 0, 0, 0, 0] 26 [(2, 40), (0, l1), (0, l2), (0, l3), (0, 0), (0, (e3_w32 ((e3_w32 (300 * l1)) + l3)))] [] (H) (G) (wZ L xs) (M := tbM270) rfl rfl trivial ?_
      obtain ⟨nl, h⟩ := h
      exact sM_depth_26 L xs Q (fun l1 l2 l3 H G => wM_depth_4 Q nn l1 l2 l3 H G) ih nl _ _ _ _ _ _ _ h
    · replace h := h.2 hc
      refine e3_K [0] 68 [(2, 40), (0, l1), (0, l2), (0, l3), (3, 0), (3, 0)] [(0, l2)] (H) (G) (wZ L xs) (M := tbM270) rfl rfl trivial ?_
      exact e3_reti (M := tbM270) rfl rfl rfl ⟨_, rfl, h⟩
set_option maxRecDepth 100000 in
set_option maxHeartbeats 4000000 in
theorem sM_depth (L : Nat) (xs : Nat → Int32) (Q : Int → e3_H → e3_G → Prop) (l1 : Int) (H : e3_H) (G : e3_G) (h : wM_depth Q l1 H G) : e3_Ev (wB L xs) 0 0 270 0 [(2, 40), (0, l1), (3, 0), (3, 0), (3, 0), (3, 0)] [] H G (e3_q0 Q) := by
  unfold wM_depth at h
  refine e3_K [0, 0, 0, 0] 4 [(2, 40), (0, l1), (0, 0), (0, 0), (3, 0), (3, 0)] [] (H) (G) (wZ L xs) (M := tbM270) rfl rfl trivial ?_
  obtain ⟨nl, h⟩ := h
  exact sM_depth_4 L xs Q nl _ _ _ _ _ h
/-- LetterPostModel.function(II)I -/
def wM_function_20 (Q : Int → e3_H → e3_G → Prop)  (H : e3_H) (G : e3_G) : Prop :=
  Q (-1) H G
def wM_function_132 (Q : Int → e3_H → e3_G → Prop) (s0 : Int) (H : e3_H) (G : e3_G) : Prop :=
  Q s0 H G
def wM_function (Q : Int → e3_H → e3_G → Prop) (l1 : Int) (l2 : Int) (H : e3_H) (G : e3_G) : Prop :=
  (wM_isFunction (fun x3 H1 G2 => (((x3 : Int) = 0 → (wM_function_20 Q H1 G2)) ∧ (¬ ((x3 : Int) = 0) → (wM_in (fun x6 H4 G5 => (((x6 : Int) = 0 → (wM_function_20 Q H4 G5)) ∧ (¬ ((x6 : Int) = 0) → (((l2 : Int) = 0 → ((0 : Int) ≤ l1 ∧ (l1 : Int) < 12) ∧ Q (H4 68 l1) H4 G5) ∧ ((l2 : Int) = 1 → ((0 : Int) ≤ l1 ∧ (l1 : Int) < 12) ∧ Q (H4 70 l1) H4 G5) ∧ ((l2 : Int) = 2 → ((0 : Int) ≤ l1 ∧ (l1 : Int) < 12) ∧ Q (H4 71 l1) H4 G5) ∧ ((l2 : Int) = 3 → ((0 : Int) ≤ l1 ∧ (l1 : Int) < 13) ∧ Q (H4 99 l1) H4 G5) ∧ ((l2 : Int) = 4 → ((0 : Int) ≤ l1 ∧ (l1 : Int) < 13) ∧ Q (H4 100 l1) H4 G5) ∧ ((l2 : Int) = 5 → (wM_depth (fun x14 H12 G13 => Q x14 H12 G13) l1 H4 G5)) ∧ ((l2 : Int) < 0 ∨ 5 < l2 → ((0 : Int) ≤ l1 ∧ (l1 : Int) < 12) ∧ ((((e3_w32 (l2 - 6)) : Int) < (H4 68 l1) → ((0 : Int) ≤ (e3_w32 ((e3_w32 ((e3_w32 (3 * l1)) + l2)) - 6)) ∧ ((e3_w32 ((e3_w32 ((e3_w32 (3 * l1)) + l2)) - 6)) : Int) < 36) ∧ (wM_function_132 Q (H4 69 (e3_w32 ((e3_w32 ((e3_w32 (3 * l1)) + l2)) - 6))) H4 G5)) ∧ (¬ (((e3_w32 (l2 - 6)) : Int) < (H4 68 l1)) → (wM_function_132 Q (-4) H4 G5)))))))) l2 0 8 H1 G2)))) l1 H G)
set_option maxRecDepth 100000 in
set_option maxHeartbeats 4000000 in
theorem sM_function_20 (L : Nat) (xs : Nat → Int32) (Q : Int → e3_H → e3_G → Prop)  (H : e3_H) (G : e3_G) (h : wM_function_20 Q  H G) : e3_Ev (wB L xs) 2 46 269 20 [(3, 0), (3, 0), (3, 0)] [] H G (e3_q0 Q) := by
  unfold wM_function_20 at h
  refine e3_K [0] 21 [(3, 0), (3, 0), (3, 0)] [(0, (-1))] (H) (G) (wZ L xs) (M := tbM269) rfl rfl trivial ?_
  exact e3_reti (M := tbM269) rfl rfl rfl ⟨_, rfl, h⟩
set_option maxRecDepth 100000 in
set_option maxHeartbeats 4000000 in
theorem sM_function_132 (L : Nat) (xs : Nat → Int32) (Q : Int → e3_H → e3_G → Prop) (s0 : Int) (H : e3_H) (G : e3_G) (h : wM_function_132 Q s0 H G) : e3_Ev (wB L xs) 2 46 269 132 [(3, 0), (3, 0), (3, 0)] [(0, s0)] H G (e3_q0 Q) := by
  unfold wM_function_132 at h
  exact e3_reti (M := tbM269) rfl rfl rfl ⟨_, rfl, h⟩
set_option maxRecDepth 100000 in
set_option maxHeartbeats 4000000 in
theorem sM_function (L : Nat) (xs : Nat → Int32) (Q : Int → e3_H → e3_G → Prop) (l1 : Int) (l2 : Int) (H : e3_H) (G : e3_G) (h : wM_function Q l1 l2 H G) : e3_Ev (wB L xs) 2 46 269 0 [(2, 40), (0, l1), (0, l2)] [] H G (e3_q0 Q) := by
  unfold wM_function at h
  refine e3_K [0, 0] 2 [(2, 40), (0, l1), (0, l2)] [(0, l1), (2, 40)] (H) (G) (wZ L xs) (M := tbM269) rfl rfl trivial ?_
  refine e3_call (o := 0) (k := 264) (M2 := tbM264) (f1 := 1) (w1 := 25) (as := [(2, 40), (0, l1)]) (rest := []) (M := tbM269) rfl rfl rfl trivial (Nat.le_of_ble_eq_true rfl) (Nat.le_of_ble_eq_true rfl) (Nat.le_of_ble_eq_true rfl) ?_
  refine e3_mono (sM_isFunction L xs _ _ _ _ h) (fun r H1 G2 h => ?_)
  obtain ⟨x3, rfl, h⟩ := h
  change e3_Ev _ _ _ _ 5 [(2, 40), (0, l1), (0, l2)] [(0, x3)] H1 G2 _
  refine e3_br (M := tbM269) rfl rfl rfl Iff.rfl (fun hc => ?_) (fun hc => ?_)
  · replace h := h.1 hc
    refine e3_fgt [false, false, false] ?_
    exact sM_function_20 L xs Q _ _ h
  · replace h := h.2 hc
    refine e3_K [0, 0, 0, 2] 14 [(2, 40), (0, l1), (0, l2)] [(1, 8), (1, 0), (1, l2)] (H1) (G2) (wZ L xs) (M := tbM269) rfl rfl ⟨trivial, trivial⟩ ?_
    refine e3_call (o := 0) (k := 198) (M2 := tbM198) (f1 := 0) (w1 := 0) (as := [(1, l2), (1, 0), (1, 8)]) (rest := []) (M := tbM269) rfl rfl rfl trivial (Nat.le_of_ble_eq_true rfl) (Nat.le_of_ble_eq_true rfl) (Nat.le_of_ble_eq_true rfl) ?_
    refine e3_mono (sM_in L xs _ _ _ _ _ _ h) (fun r H4 G5 h => ?_)
    obtain ⟨x6, rfl, h⟩ := h
    change e3_Ev _ _ _ _ 17 [(2, 40), (0, l1), (0, l2)] [(0, x6)] H4 G5 _
    refine e3_br (M := tbM269) rfl rfl rfl Iff.rfl (fun hc => ?_) (fun hc => ?_)
    · replace h := h.1 hc
      refine e3_fgt [false, false, false] ?_
      exact sM_function_20 L xs Q _ _ h
    · replace h := h.2 hc
      refine e3_K [0] 23 [(2, 40), (0, l1), (0, l2)] [(0, l2)] (H4) (G5) (wZ L xs) (M := tbM269) rfl rfl trivial ?_
      by_cases hc0 : (l2 : Int) = 0
      · replace h := h.1 hc0
        refine e3_sw (M := tbM269) rfl rfl hc0 rfl ?_
        obtain ⟨o7, h⟩ := h
        refine e3_K [0, 4, 0, 2] 66 [(2, 40), (0, l1), (0, l2)] [(0, (H4 68 l1))] (H4) (G5) (wZ L xs) (M := tbM269) rfl rfl ⟨trivial, o7, trivial⟩ ?_
        exact e3_reti (M := tbM269) rfl rfl rfl ⟨_, rfl, h⟩
      replace h := h.2
      by_cases hc1 : (l2 : Int) = 1
      · replace h := h.1 hc1
        refine e3_sw (M := tbM269) rfl rfl hc1 rfl ?_
        obtain ⟨o8, h⟩ := h
        refine e3_K [0, 4, 0, 2] 73 [(2, 40), (0, l1), (0, l2)] [(0, (H4 70 l1))] (H4) (G5) (wZ L xs) (M := tbM269) rfl rfl ⟨trivial, o8, trivial⟩ ?_
        exact e3_reti (M := tbM269) rfl rfl rfl ⟨_, rfl, h⟩
      replace h := h.2
      by_cases hc2 : (l2 : Int) = 2
      · replace h := h.1 hc2
        refine e3_sw (M := tbM269) rfl rfl hc2 rfl ?_
        obtain ⟨o9, h⟩ := h
        refine e3_K [0, 4, 0, 2] 80 [(2, 40), (0, l1), (0, l2)] [(0, (H4 71 l1))] (H4) (G5) (wZ L xs) (M := tbM269) rfl rfl ⟨trivial, o9, trivial⟩ ?_
        exact e3_reti (M := tbM269) rfl rfl rfl ⟨_, rfl, h⟩
      replace h := h.2
      by_cases hc3 : (l2 : Int) = 3
      · replace h := h.1 hc3
        refine e3_sw (M := tbM269) rfl rfl hc3 rfl ?_
        obtain ⟨o10, h⟩ := h
        refine e3_K [0, 4, 0, 2] 87 [(2, 40), (0, l1), (0, l2)] [(0, (H4 99 l1))] (H4) (G5) (wZ L xs) (M := tbM269) rfl rfl ⟨trivial, o10, trivial⟩ ?_
        exact e3_reti (M := tbM269) rfl rfl rfl ⟨_, rfl, h⟩
      replace h := h.2
      by_cases hc4 : (l2 : Int) = 4
      · replace h := h.1 hc4
        refine e3_sw (M := tbM269) rfl rfl hc4 rfl ?_
        obtain ⟨o11, h⟩ := h
        refine e3_K [0, 4, 0, 2] 94 [(2, 40), (0, l1), (0, l2)] [(0, (H4 100 l1))] (H4) (G5) (wZ L xs) (M := tbM269) rfl rfl ⟨trivial, o11, trivial⟩ ?_
        exact e3_reti (M := tbM269) rfl rfl rfl ⟨_, rfl, h⟩
      replace h := h.2
      by_cases hc5 : (l2 : Int) = 5
      · replace h := h.1 hc5
        refine e3_sw (M := tbM269) rfl rfl hc5 rfl ?_
        refine e3_K [0, 0] 97 [(2, 40), (0, l1), (0, l2)] [(0, l1), (2, 40)] (H4) (G5) (wZ L xs) (M := tbM269) rfl rfl trivial ?_
        refine e3_call (o := 0) (k := 270) (M2 := tbM270) (f1 := 0) (w1 := 0) (as := [(2, 40), (0, l1)]) (rest := []) (M := tbM269) rfl rfl rfl trivial (Nat.le_of_ble_eq_true rfl) (Nat.le_of_ble_eq_true rfl) (Nat.le_of_ble_eq_true rfl) ?_
        refine e3_mono (sM_depth L xs _ _ _ _ h) (fun r H12 G13 h => ?_)
        obtain ⟨x14, rfl, h⟩ := h
        change e3_Ev _ _ _ _ 100 [(2, 40), (0, l1), (0, l2)] [(0, x14)] H12 G13 _
        exact e3_reti (M := tbM269) rfl rfl rfl ⟨_, rfl, h⟩
      replace h := h.2
      replace h := h (by omega)
      refine e3_sw (M := tbM269) rfl rfl rfl ((e3_swdt (by omega)).trans rfl) ?_
      obtain ⟨o15, h⟩ := h
      refine e3_K [0, 0, 0, 0, 4, 0, 2] 111 [(2, 40), (0, l1), (0, l2)] [(0, (H4 68 l1)), (0, (e3_w32 (l2 - 6)))] (H4) (G5) (wZ L xs) (M := tbM269) rfl rfl ⟨trivial, o15, trivial⟩ ?_
      refine e3_br (M := tbM269) rfl rfl rfl Iff.rfl (fun hc => ?_) (fun hc => ?_)
      · replace h := h.1 hc
        obtain ⟨o16, h⟩ := h
        refine e3_K [0, 4, 0, 0, 0, 0, 0, 0, 0, 2, 0] 132 [(2, 40), (0, l1), (0, l2)] [(0, (H4 69 (e3_w32 ((e3_w32 ((e3_w32 (3 * l1)) + l2)) - 6))))] (H4) (G5) (wZ L xs) (M := tbM269) rfl rfl ⟨trivial, o16, trivial⟩ ?_
        refine e3_fgt [false, false, false] ?_
        exact sM_function_132 L xs Q _ _ _ h
      · replace h := h.2 hc
        refine e3_K [0] 132 [(2, 40), (0, l1), (0, l2)] [(0, (-4))] (H4) (G5) (wZ L xs) (M := tbM269) rfl rfl trivial ?_
        refine e3_fgt [false, false, false] ?_
        exact sM_function_132 L xs Q _ _ _ h
/-- LetterPostModel.node(III)I -/
def wM_node_38 (Q : Int → e3_H → e3_G → Prop)  (H : e3_H) (G : e3_G) : Prop :=
  Q (-1) H G
def wM_node_115 (Q : Int → e3_H → e3_G → Prop) (s0 : Int) (H : e3_H) (G : e3_G) : Prop :=
  Q s0 H G
def wM_node_174 (Q : Int → e3_H → e3_G → Prop) (s0 : Int) (H : e3_H) (G : e3_G) : Prop :=
  Q s0 H G
def wM_node_138 (Q : Int → e3_H → e3_G → Prop) : Nat → Int → Int → Int → e3_H → e3_G → Prop
  | 0, _, _, _, _, _ => False
  | nn + 1, l4, l5, l6, H, G => (((0 : Int) < l6 → (wM_node_138 Q nn l4 (e3_w32 (l5 + 1)) (e3_shr l6 3) H G)) ∧ (¬ ((0 : Int) < l6) → ((0 : Int) ≤ l4 ∧ (l4 : Int) < 3900) ∧ ((((H 105 l4) : Int) = (-4) → (wM_node_174 Q (-4) H G)) ∧ (¬ (((H 105 l4) : Int) = (-4)) → (wM_node_174 Q l5 H G)))))
def wM_node_204 (Q : Int → e3_H → e3_G → Prop) (s0 : Int) (H : e3_H) (G : e3_G) : Prop :=
  Q s0 H G
def wM_node (Q : Int → e3_H → e3_G → Prop) (l1 : Int) (l2 : Int) (l3 : Int) (H : e3_H) (G : e3_G) : Prop :=
  (wM_isFunction (fun x3 H1 G2 => (((x3 : Int) = 0 → (wM_node_38 Q H1 G2)) ∧ (¬ ((x3 : Int) = 0) → ((0 : Int) ≤ l1 ∧ (l1 : Int) < 13) ∧ (wM_in (fun x7 H5 G6 => (((x7 : Int) = 0 → (wM_node_38 Q H5 G6)) ∧ (¬ ((x7 : Int) = 0) → (wM_in (fun x10 H8 G9 => (((x10 : Int) = 0 → (wM_node_38 Q H8 G9)) ∧ (¬ ((x10 : Int) = 0) → (((l3 : Int) = 0 → ((0 : Int) ≤ (e3_w32 ((e3_w32 (300 * l1)) + l2)) ∧ ((e3_w32 ((e3_w32 (300 * l1)) + l2)) : Int) < 3900) ∧ Q (H8 102 (e3_w32 ((e3_w32 (300 * l1)) + l2))) H8 G9) ∧ ((l3 : Int) = 1 → ((0 : Int) ≤ (e3_w32 ((e3_w32 (300 * l1)) + l2)) ∧ ((e3_w32 ((e3_w32 (300 * l1)) + l2)) : Int) < 3900) ∧ ((((H8 103 (e3_w32 ((e3_w32 (300 * l1)) + l2))) : Int) = (-4) → (wM_node_115 Q (-4) H8 G9)) ∧ (¬ (((H8 103 (e3_w32 ((e3_w32 (300 * l1)) + l2))) : Int) = (-4)) → ((0 : Int) ≤ (e3_w32 ((e3_w32 (300 * l1)) + l2)) ∧ ((e3_w32 ((e3_w32 (300 * l1)) + l2)) : Int) < 3900) ∧ ((16 : Int) ≠ 0) ∧ (wM_node_115 Q (e3_rem (H8 103 (e3_w32 ((e3_w32 (300 * l1)) + l2))) 16) H8 G9)))) ∧ ((l3 : Int) = 2 → ((0 : Int) ≤ (e3_w32 ((e3_w32 (300 * l1)) + l2)) ∧ ((e3_w32 ((e3_w32 (300 * l1)) + l2)) : Int) < 3900) ∧ Q (H8 106 (e3_w32 ((e3_w32 (300 * l1)) + l2))) H8 G9) ∧ ((l3 : Int) = 3 → ((0 : Int) ≤ (e3_w32 ((e3_w32 (300 * l1)) + l2)) ∧ ((e3_w32 ((e3_w32 (300 * l1)) + l2)) : Int) < 3900) ∧ (∃ n, wM_node_138 Q n (e3_w32 ((e3_w32 (300 * l1)) + l2)) 0 (e3_shr (H8 105 (e3_w32 ((e3_w32 (300 * l1)) + l2))) 3) H8 G9)) ∧ ((l3 : Int) < 0 ∨ 3 < l3 → ((0 : Int) ≤ (e3_w32 ((e3_w32 (300 * l1)) + l2)) ∧ ((e3_w32 ((e3_w32 (300 * l1)) + l2)) : Int) < 3900) ∧ ((((H8 105 (e3_w32 ((e3_w32 (300 * l1)) + l2))) : Int) = (-4) → (wM_node_204 Q (-4) H8 G9)) ∧ (¬ (((H8 105 (e3_w32 ((e3_w32 (300 * l1)) + l2))) : Int) = (-4)) → ((0 : Int) ≤ (e3_w32 ((e3_w32 (300 * l1)) + l2)) ∧ ((e3_w32 ((e3_w32 (300 * l1)) + l2)) : Int) < 3900) ∧ (wM_node_204 Q (e3_w32 ((e3_and (H8 105 (e3_w32 ((e3_w32 (300 * l1)) + l2))) 7) - 1)) H8 G9)))))))) l3 0 4 H5 G6)))) l2 0 (e3_w32 ((H1 99 l1) - 1)) H1 G2)))) l1 H G)
set_option maxRecDepth 100000 in
set_option maxHeartbeats 4000000 in
theorem sM_node_38 (L : Nat) (xs : Nat → Int32) (Q : Int → e3_H → e3_G → Prop)  (H : e3_H) (G : e3_G) (h : wM_node_38 Q  H G) : e3_Ev (wB L xs) 2 46 271 38 [(3, 0), (3, 0), (3, 0), (3, 0), (3, 0), (3, 0), (3, 0)] [] H G (e3_q0 Q) := by
  unfold wM_node_38 at h
  refine e3_K [0] 39 [(3, 0), (3, 0), (3, 0), (3, 0), (3, 0), (3, 0), (3, 0)] [(0, (-1))] (H) (G) (wZ L xs) (M := tbM271) rfl rfl trivial ?_
  exact e3_reti (M := tbM271) rfl rfl rfl ⟨_, rfl, h⟩
set_option maxRecDepth 100000 in
set_option maxHeartbeats 4000000 in
theorem sM_node_115 (L : Nat) (xs : Nat → Int32) (Q : Int → e3_H → e3_G → Prop) (s0 : Int) (H : e3_H) (G : e3_G) (h : wM_node_115 Q s0 H G) : e3_Ev (wB L xs) 2 46 271 115 [(3, 0), (3, 0), (3, 0), (3, 0), (3, 0), (3, 0), (3, 0)] [(0, s0)] H G (e3_q0 Q) := by
  unfold wM_node_115 at h
  exact e3_reti (M := tbM271) rfl rfl rfl ⟨_, rfl, h⟩
set_option maxRecDepth 100000 in
set_option maxHeartbeats 4000000 in
theorem sM_node_174 (L : Nat) (xs : Nat → Int32) (Q : Int → e3_H → e3_G → Prop) (s0 : Int) (H : e3_H) (G : e3_G) (h : wM_node_174 Q s0 H G) : e3_Ev (wB L xs) 2 46 271 174 [(3, 0), (3, 0), (3, 0), (3, 0), (3, 0), (3, 0), (3, 0)] [(0, s0)] H G (e3_q0 Q) := by
  unfold wM_node_174 at h
  exact e3_reti (M := tbM271) rfl rfl rfl ⟨_, rfl, h⟩
set_option maxRecDepth 100000 in
set_option maxHeartbeats 4000000 in
theorem sM_node_138 (L : Nat) (xs : Nat → Int32) (Q : Int → e3_H → e3_G → Prop) : ∀ (nl : Nat) (l4 : Int) (l5 : Int) (l6 : Int) (H : e3_H) (G : e3_G), wM_node_138 Q nl l4 l5 l6 H G → e3_Ev (wB L xs) 2 46 271 138 [(2, 40), (3, 0), (3, 0), (3, 0), (0, l4), (0, l5), (0, l6)] [] H G (e3_q0 Q) := by
  intro nl
  induction nl with
  | zero => intro l4 l5 l6 H G h; exact h.elim
  | succ nn ih =>
    intro l4 l5 l6 H G h
    have h : (((0 : Int) < l6 → (wM_node_138 Q nn l4 (e3_w32 (l5 + 1)) (e3_shr l6 3) H G)) ∧ (¬ ((0 : Int) < l6) → ((0 : Int) ≤ l4 ∧ (l4 : Int) < 3900) ∧ ((((H 105 l4) : Int) = (-4) → (wM_node_174 Q (-4) H G)) ∧ (¬ (((H 105 l4) : Int) = (-4)) → (wM_node_174 Q l5 H G))))) := h
    refine e3_K [0] 140 [(2, 40), (3, 0), (3, 0), (3, 0), (0, l4), (0, l5), (0, l6)] [(0, l6)] (H) (G) (wZ L xs) (M := tbM271) rfl rfl trivial ?_
    refine e3_br (M := tbM271) rfl rfl rfl Iff.rfl (fun hc => ?_) (fun hc => ?_)
    · replace h := h.1 hc
      refine e3_K [0, 0, 0, 0, 0, 0] 138 [(2, 40), (3, 0), (3, 0), (3, 0), (0, l4), (0, (e3_w32 (l5 + 1))), (0, (e3_shr l6 3))] [] (H) (G) (wZ L xs) (M := tbM271) rfl rfl trivial ?_
      exact ih _ _ _ _ _ h
    · replace h := h.2 hc
      obtain ⟨o1, h⟩ := h
      refine e3_K [0, 4, 0, 2, 0] 164 [(2, 40), (3, 0), (3, 0), (3, 0), (0, l4), (0, l5), (0, l6)] [(0, (-4)), (0, (H 105 l4))] (H) (G) (wZ L xs) (M := tbM271) rfl rfl ⟨trivial, o1, trivial⟩ ?_
      refine e3_br (M := tbM271) rfl rfl rfl Iff.rfl (fun hc => ?_) (fun hc => ?_)
      · replace h := h.1 hc
        refine e3_K [0, 0] 174 [(2, 40), (3, 0), (3, 0), (3, 0), (0, l4), (0, l5), (0, l6)] [(0, (-4))] (H) (G) (wZ L xs) (M := tbM271) rfl rfl trivial ?_
        refine e3_fgt [false, false, false, false, false, false, false] ?_
        exact sM_node_174 L xs Q _ _ _ h
      · replace h := h.2 hc
        refine e3_K [0] 174 [(2, 40), (3, 0), (3, 0), (3, 0), (0, l4), (0, l5), (0, l6)] [(0, l5)] (H) (G) (wZ L xs) (M := tbM271) rfl rfl trivial ?_
        refine e3_fgt [false, false, false, false, false, false, false] ?_
        exact sM_node_174 L xs Q _ _ _ h
set_option maxRecDepth 100000 in
set_option maxHeartbeats 4000000 in
theorem sM_node_204 (L : Nat) (xs : Nat → Int32) (Q : Int → e3_H → e3_G → Prop) (s0 : Int) (H : e3_H) (G : e3_G) (h : wM_node_204 Q s0 H G) : e3_Ev (wB L xs) 2 46 271 204 [(3, 0), (3, 0), (3, 0), (3, 0), (3, 0), (3, 0), (3, 0)] [(0, s0)] H G (e3_q0 Q) := by
  unfold wM_node_204 at h
  exact e3_reti (M := tbM271) rfl rfl rfl ⟨_, rfl, h⟩
set_option maxRecDepth 100000 in
set_option maxHeartbeats 4000000 in
theorem sM_node (L : Nat) (xs : Nat → Int32) (Q : Int → e3_H → e3_G → Prop) (l1 : Int) (l2 : Int) (l3 : Int) (H : e3_H) (G : e3_G) (h : wM_node Q l1 l2 l3 H G) : e3_Ev (wB L xs) 2 46 271 0 [(2, 40), (0, l1), (0, l2), (0, l3), (3, 0), (3, 0), (3, 0)] [] H G (e3_q0 Q) := by
  unfold wM_node at h
  refine e3_K [0, 0] 2 [(2, 40), (0, l1), (0, l2), (0, l3), (3, 0), (3, 0), (3, 0)] [(0, l1), (2, 40)] (H) (G) (wZ L xs) (M := tbM271) rfl rfl trivial ?_
  refine e3_call (o := 0) (k := 264) (M2 := tbM264) (f1 := 1) (w1 := 25) (as := [(2, 40), (0, l1)]) (rest := []) (M := tbM271) rfl rfl rfl trivial (Nat.le_of_ble_eq_true rfl) (Nat.le_of_ble_eq_true rfl) (Nat.le_of_ble_eq_true rfl) ?_
  refine e3_mono (sM_isFunction L xs _ _ _ _ h) (fun r H1 G2 h => ?_)
  obtain ⟨x3, rfl, h⟩ := h
  change e3_Ev _ _ _ _ 5 [(2, 40), (0, l1), (0, l2), (0, l3), (3, 0), (3, 0), (3, 0)] [(0, x3)] H1 G2 _
  refine e3_br (M := tbM271) rfl rfl rfl Iff.rfl (fun hc => ?_) (fun hc => ?_)
  · replace h := h.1 hc
    refine e3_fgt [false, false, false, false, false, false, false] ?_
    exact sM_node_38 L xs Q _ _ h
  · replace h := h.2 hc
    obtain ⟨o4, h⟩ := h
    refine e3_K [0, 0, 0, 0, 4, 0, 2, 0, 0, 0] 20 [(2, 40), (0, l1), (0, l2), (0, l3), (3, 0), (3, 0), (3, 0)] [(1, (e3_w32 ((H1 99 l1) - 1))), (1, 0), (1, l2)] (H1) (G2) (wZ L xs) (M := tbM271) rfl rfl ⟨trivial, o4, trivial⟩ ?_
    refine e3_call (o := 0) (k := 198) (M2 := tbM198) (f1 := 0) (w1 := 0) (as := [(1, l2), (1, 0), (1, (e3_w32 ((H1 99 l1) - 1)))]) (rest := []) (M := tbM271) rfl rfl rfl trivial (Nat.le_of_ble_eq_true rfl) (Nat.le_of_ble_eq_true rfl) (Nat.le_of_ble_eq_true rfl) ?_
    refine e3_mono (sM_in L xs _ _ _ _ _ _ h) (fun r H5 G6 h => ?_)
    obtain ⟨x7, rfl, h⟩ := h
    change e3_Ev _ _ _ _ 23 [(2, 40), (0, l1), (0, l2), (0, l3), (3, 0), (3, 0), (3, 0)] [(0, x7)] H5 G6 _
    refine e3_br (M := tbM271) rfl rfl rfl Iff.rfl (fun hc => ?_) (fun hc => ?_)
    · replace h := h.1 hc
      refine e3_fgt [false, false, false, false, false, false, false] ?_
      exact sM_node_38 L xs Q _ _ h
    · replace h := h.2 hc
      refine e3_K [0, 0, 0, 2] 32 [(2, 40), (0, l1), (0, l2), (0, l3), (3, 0), (3, 0), (3, 0)] [(1, 4), (1, 0), (1, l3)] (H5) (G6) (wZ L xs) (M := tbM271) rfl rfl ⟨trivial, trivial⟩ ?_
      refine e3_call (o := 0) (k := 198) (M2 := tbM198) (f1 := 0) (w1 := 0) (as := [(1, l3), (1, 0), (1, 4)]) (rest := []) (M := tbM271) rfl rfl rfl trivial (Nat.le_of_ble_eq_true rfl) (Nat.le_of_ble_eq_true rfl) (Nat.le_of_ble_eq_true rfl) ?_
      refine e3_mono (sM_in L xs _ _ _ _ _ _ h) (fun r H8 G9 h => ?_)
      obtain ⟨x10, rfl, h⟩ := h
      change e3_Ev _ _ _ _ 35 [(2, 40), (0, l1), (0, l2), (0, l3), (3, 0), (3, 0), (3, 0)] [(0, x10)] H8 G9 _
      refine e3_br (M := tbM271) rfl rfl rfl Iff.rfl (fun hc => ?_) (fun hc => ?_)
      · replace h := h.1 hc
        refine e3_fgt [false, false, false, false, false, false, false] ?_
        exact sM_node_38 L xs Q _ _ h
      · replace h := h.2 hc
        refine e3_K [0, 0, 0, 0, 0, 0, 0] 50 [(2, 40), (0, l1), (0, l2), (0, l3), (0, (e3_w32 ((e3_w32 (300 * l1)) + l2))), (3, 0), (3, 0)] [(0, l3)] (H8) (G9) (wZ L xs) (M := tbM271) rfl rfl trivial ?_
        by_cases hc0 : (l3 : Int) = 0
        · replace h := h.1 hc0
          refine e3_sw (M := tbM271) rfl rfl hc0 rfl ?_
          obtain ⟨o11, h⟩ := h
          refine e3_K [0, 4, 0, 2] 87 [(2, 40), (0, l1), (0, l2), (0, l3), (0, (e3_w32 ((e3_w32 (300 * l1)) + l2))), (3, 0), (3, 0)] [(0, (H8 102 (e3_w32 ((e3_w32 (300 * l1)) + l2))))] (H8) (G9) (wZ L xs) (M := tbM271) rfl rfl ⟨trivial, o11, trivial⟩ ?_
          exact e3_reti (M := tbM271) rfl rfl rfl ⟨_, rfl, h⟩
        replace h := h.2
        by_cases hc1 : (l3 : Int) = 1
        · replace h := h.1 hc1
          refine e3_sw (M := tbM271) rfl rfl hc1 rfl ?_
          obtain ⟨o12, h⟩ := h
          refine e3_K [0, 4, 0, 2, 0] 97 [(2, 40), (0, l1), (0, l2), (0, l3), (0, (e3_w32 ((e3_w32 (300 * l1)) + l2))), (3, 0), (3, 0)] [(0, (-4)), (0, (H8 103 (e3_w32 ((e3_w32 (300 * l1)) + l2))))] (H8) (G9) (wZ L xs) (M := tbM271) rfl rfl ⟨trivial, o12, trivial⟩ ?_
          refine e3_br (M := tbM271) rfl rfl rfl Iff.rfl (fun hc => ?_) (fun hc => ?_)
          · replace h := h.1 hc
            refine e3_K [0, 0] 115 [(2, 40), (0, l1), (0, l2), (0, l3), (0, (e3_w32 ((e3_w32 (300 * l1)) + l2))), (3, 0), (3, 0)] [(0, (-4))] (H8) (G9) (wZ L xs) (M := tbM271) rfl rfl trivial ?_
            refine e3_fgt [false, false, false, false, false, false, false] ?_
            exact sM_node_115 L xs Q _ _ _ h
          · replace h := h.2 hc
            obtain ⟨o13, o14, h⟩ := h
            refine e3_K [0, 4, 0, 2, 0, 1] 115 [(2, 40), (0, l1), (0, l2), (0, l3), (0, (e3_w32 ((e3_w32 (300 * l1)) + l2))), (3, 0), (3, 0)] [(0, (e3_rem (H8 103 (e3_w32 ((e3_w32 (300 * l1)) + l2))) 16))] (H8) (G9) (wZ L xs) (M := tbM271) rfl rfl ⟨trivial, o13, o14, trivial⟩ ?_
            refine e3_fgt [false, false, false, false, false, false, false] ?_
            exact sM_node_115 L xs Q _ _ _ h
        replace h := h.2
        by_cases hc2 : (l3 : Int) = 2
        · replace h := h.1 hc2
          refine e3_sw (M := tbM271) rfl rfl hc2 rfl ?_
          obtain ⟨o15, h⟩ := h
          refine e3_K [0, 4, 0, 2] 123 [(2, 40), (0, l1), (0, l2), (0, l3), (0, (e3_w32 ((e3_w32 (300 * l1)) + l2))), (3, 0), (3, 0)] [(0, (H8 106 (e3_w32 ((e3_w32 (300 * l1)) + l2))))] (H8) (G9) (wZ L xs) (M := tbM271) rfl rfl ⟨trivial, o15, trivial⟩ ?_
          exact e3_reti (M := tbM271) rfl rfl rfl ⟨_, rfl, h⟩
        replace h := h.2
        by_cases hc3 : (l3 : Int) = 3
        · replace h := h.1 hc3
          refine e3_sw (M := tbM271) rfl rfl hc3 rfl ?_
          obtain ⟨o16, h⟩ := h
          refine e3_K [0, 0, 0, 4, 0, 2, 0, 0, 0] 138 [(2, 40), (0, l1), (0, l2), (0, l3), (0, (e3_w32 ((e3_w32 (300 * l1)) + l2))), (0, 0), (0, (e3_shr (H8 105 (e3_w32 ((e3_w32 (300 * l1)) + l2))) 3))] [] (H8) (G9) (wZ L xs) (M := tbM271) rfl rfl ⟨trivial, o16, trivial⟩ ?_
          refine e3_fgt [true, false, false, false, true, true, true] ?_
          obtain ⟨nl, h⟩ := h
          exact sM_node_138 L xs Q nl _ _ _ _ _ h
        replace h := h.2
        replace h := h (by omega)
        refine e3_sw (M := tbM271) rfl rfl rfl ((e3_swdt (by omega)).trans rfl) ?_
        obtain ⟨o17, h⟩ := h
        refine e3_K [0, 4, 0, 2, 0] 184 [(2, 40), (0, l1), (0, l2), (0, l3), (0, (e3_w32 ((e3_w32 (300 * l1)) + l2))), (3, 0), (3, 0)] [(0, (-4)), (0, (H8 105 (e3_w32 ((e3_w32 (300 * l1)) + l2))))] (H8) (G9) (wZ L xs) (M := tbM271) rfl rfl ⟨trivial, o17, trivial⟩ ?_
        refine e3_br (M := tbM271) rfl rfl rfl Iff.rfl (fun hc => ?_) (fun hc => ?_)
        · replace h := h.1 hc
          refine e3_K [0, 0] 204 [(2, 40), (0, l1), (0, l2), (0, l3), (0, (e3_w32 ((e3_w32 (300 * l1)) + l2))), (3, 0), (3, 0)] [(0, (-4))] (H8) (G9) (wZ L xs) (M := tbM271) rfl rfl trivial ?_
          refine e3_fgt [false, false, false, false, false, false, false] ?_
          exact sM_node_204 L xs Q _ _ _ h
        · replace h := h.2 hc
          obtain ⟨o18, h⟩ := h
          refine e3_K [0, 4, 0, 2, 0, 0, 0, 0] 204 [(2, 40), (0, l1), (0, l2), (0, l3), (0, (e3_w32 ((e3_w32 (300 * l1)) + l2))), (3, 0), (3, 0)] [(0, (e3_w32 ((e3_and (H8 105 (e3_w32 ((e3_w32 (300 * l1)) + l2))) 7) - 1)))] (H8) (G9) (wZ L xs) (M := tbM271) rfl rfl ⟨trivial, o18, trivial⟩ ?_
          refine e3_fgt [false, false, false, false, false, false, false] ?_
          exact sM_node_204 L xs Q _ _ _ h
/-- LetterPostModel.branch(III)I -/
def wM_branch_50 (Q : Int → e3_H → e3_G → Prop)  (H : e3_H) (G : e3_G) : Prop :=
  Q (-1) H G
def wM_branch_69 (Q : Int → e3_H → e3_G → Prop) : Nat → Int → Int → Int → Int → e3_H → e3_G → Prop
  | 0, _, _, _, _, _, _ => False
  | nn + 1, l1, l3, l4, l5, H, G => (((l5 : Int) < l3 → ((0 : Int) ≤ l4 ∧ (l4 : Int) < 3900) ∧ (wM_branch_69 Q nn l1 l3 (H 110 l4) (e3_w32 (l5 + 1)) H G)) ∧ (¬ ((l5 : Int) < l3) → Q (e3_w32 (l4 - (e3_w32 (300 * l1)))) H G))
def wM_branch (Q : Int → e3_H → e3_G → Prop) (l1 : Int) (l2 : Int) (l3 : Int) (H : e3_H) (G : e3_G) : Prop :=
  (wM_isFunction (fun x3 H1 G2 => (((x3 : Int) = 0 → (wM_branch_50 Q H1 G2)) ∧ (¬ ((x3 : Int) = 0) → ((0 : Int) ≤ l1 ∧ (l1 : Int) < 13) ∧ (wM_in (fun x7 H5 G6 => (((x7 : Int) = 0 → (wM_branch_50 Q H5 G6)) ∧ (¬ ((x7 : Int) = 0) → ((0 : Int) ≤ (e3_w32 ((e3_w32 (300 * l1)) + l2)) ∧ ((e3_w32 ((e3_w32 (300 * l1)) + l2)) : Int) < 3900) ∧ (wM_in (fun x11 H9 G10 => (((x11 : Int) = 0 → (wM_branch_50 Q H9 G10)) ∧ (¬ ((x11 : Int) = 0) → ((0 : Int) ≤ (e3_w32 ((e3_w32 (300 * l1)) + l2)) ∧ ((e3_w32 ((e3_w32 (300 * l1)) + l2)) : Int) < 3900) ∧ (∃ n, wM_branch_69 Q n l1 l3 (H9 108 (e3_w32 ((e3_w32 (300 * l1)) + l2))) 0 H9 G10)))) l3 0 (e3_w32 ((H5 106 (e3_w32 ((e3_w32 (300 * l1)) + l2))) - 1)) H5 G6)))) l2 0 (e3_w32 ((H1 99 l1) - 1)) H1 G2)))) l1 H G)
set_option maxRecDepth 100000 in
set_option maxHeartbeats 4000000 in
theorem sM_branch_50 (L : Nat) (xs : Nat → Int32) (Q : Int → e3_H → e3_G → Prop)  (H : e3_H) (G : e3_G) (h : wM_branch_50 Q  H G) : e3_Ev (wB L xs) 2 46 272 50 [(3, 0), (3, 0), (3, 0), (3, 0), (3, 0), (3, 0)] [] H G (e3_q0 Q) := by
  unfold wM_branch_50 at h
  refine e3_K [0] 51 [(3, 0), (3, 0), (3, 0), (3, 0), (3, 0), (3, 0)] [(0, (-1))] (H) (G) (wZ L xs) (M := tbM272) rfl rfl trivial ?_
  exact e3_reti (M := tbM272) rfl rfl rfl ⟨_, rfl, h⟩
set_option maxRecDepth 100000 in
set_option maxHeartbeats 4000000 in
theorem sM_branch_69 (L : Nat) (xs : Nat → Int32) (Q : Int → e3_H → e3_G → Prop) : ∀ (nl : Nat) (l1 : Int) (l3 : Int) (l4 : Int) (l5 : Int) (H : e3_H) (G : e3_G), wM_branch_69 Q nl l1 l3 l4 l5 H G → e3_Ev (wB L xs) 2 46 272 69 [(2, 40), (0, l1), (3, 0), (0, l3), (0, l4), (0, l5)] [] H G (e3_q0 Q) := by
  intro nl
  induction nl with
  | zero => intro l1 l3 l4 l5 H G h; exact h.elim
  | succ nn ih =>
    intro l1 l3 l4 l5 H G h
    have h : (((l5 : Int) < l3 → ((0 : Int) ≤ l4 ∧ (l4 : Int) < 3900) ∧ (wM_branch_69 Q nn l1 l3 (H 110 l4) (e3_w32 (l5 + 1)) H G)) ∧ (¬ ((l5 : Int) < l3) → Q (e3_w32 (l4 - (e3_w32 (300 * l1)))) H G)) := h
    refine e3_K [0, 0] 72 [(2, 40), (0, l1), (3, 0), (0, l3), (0, l4), (0, l5)] [(0, l3), (0, l5)] (H) (G) (wZ L xs) (M := tbM272) rfl rfl trivial ?_
    refine e3_br (M := tbM272) rfl rfl rfl Iff.rfl (fun hc => ?_) (fun hc => ?_)
    · replace h := h.1 hc
      obtain ⟨o1, h⟩ := h
      refine e3_K [0, 4, 0, 2, 0, 0, 0] 69 [(2, 40), (0, l1), (3, 0), (0, l3), (0, (H 110 l4)), (0, (e3_w32 (l5 + 1)))] [] (H) (G) (wZ L xs) (M := tbM272) rfl rfl ⟨trivial, o1, trivial⟩ ?_
      exact ih _ _ _ _ _ _ h
    · replace h := h.2 hc
      refine e3_K [0, 0, 0, 0, 0] 98 [(2, 40), (0, l1), (3, 0), (0, l3), (0, l4), (0, l5)] [(0, (e3_w32 (l4 - (e3_w32 (300 * l1)))))] (H) (G) (wZ L xs) (M := tbM272) rfl rfl trivial ?_
      exact e3_reti (M := tbM272) rfl rfl rfl ⟨_, rfl, h⟩
set_option maxRecDepth 100000 in
set_option maxHeartbeats 4000000 in
theorem sM_branch (L : Nat) (xs : Nat → Int32) (Q : Int → e3_H → e3_G → Prop) (l1 : Int) (l2 : Int) (l3 : Int) (H : e3_H) (G : e3_G) (h : wM_branch Q l1 l2 l3 H G) : e3_Ev (wB L xs) 2 46 272 0 [(2, 40), (0, l1), (0, l2), (0, l3), (3, 0), (3, 0)] [] H G (e3_q0 Q) := by
  unfold wM_branch at h
  refine e3_K [0, 0] 2 [(2, 40), (0, l1), (0, l2), (0, l3), (3, 0), (3, 0)] [(0, l1), (2, 40)] (H) (G) (wZ L xs) (M := tbM272) rfl rfl trivial ?_
  refine e3_call (o := 0) (k := 264) (M2 := tbM264) (f1 := 1) (w1 := 25) (as := [(2, 40), (0, l1)]) (rest := []) (M := tbM272) rfl rfl rfl trivial (Nat.le_of_ble_eq_true rfl) (Nat.le_of_ble_eq_true rfl) (Nat.le_of_ble_eq_true rfl) ?_
  refine e3_mono (sM_isFunction L xs _ _ _ _ h) (fun r H1 G2 h => ?_)
  obtain ⟨x3, rfl, h⟩ := h
  change e3_Ev _ _ _ _ 5 [(2, 40), (0, l1), (0, l2), (0, l3), (3, 0), (3, 0)] [(0, x3)] H1 G2 _
  refine e3_br (M := tbM272) rfl rfl rfl Iff.rfl (fun hc => ?_) (fun hc => ?_)
  · replace h := h.1 hc
    refine e3_fgt [false, false, false, false, false, false] ?_
    exact sM_branch_50 L xs Q _ _ h
  · replace h := h.2 hc
    obtain ⟨o4, h⟩ := h
    refine e3_K [0, 0, 0, 0, 4, 0, 2, 0, 0, 0] 20 [(2, 40), (0, l1), (0, l2), (0, l3), (3, 0), (3, 0)] [(1, (e3_w32 ((H1 99 l1) - 1))), (1, 0), (1, l2)] (H1) (G2) (wZ L xs) (M := tbM272) rfl rfl ⟨trivial, o4, trivial⟩ ?_
    refine e3_call (o := 0) (k := 198) (M2 := tbM198) (f1 := 0) (w1 := 0) (as := [(1, l2), (1, 0), (1, (e3_w32 ((H1 99 l1) - 1)))]) (rest := []) (M := tbM272) rfl rfl rfl trivial (Nat.le_of_ble_eq_true rfl) (Nat.le_of_ble_eq_true rfl) (Nat.le_of_ble_eq_true rfl) ?_
    refine e3_mono (sM_in L xs _ _ _ _ _ _ h) (fun r H5 G6 h => ?_)
    obtain ⟨x7, rfl, h⟩ := h
    change e3_Ev _ _ _ _ 23 [(2, 40), (0, l1), (0, l2), (0, l3), (3, 0), (3, 0)] [(0, x7)] H5 G6 _
    refine e3_br (M := tbM272) rfl rfl rfl Iff.rfl (fun hc => ?_) (fun hc => ?_)
    · replace h := h.1 hc
      refine e3_fgt [false, false, false, false, false, false] ?_
      exact sM_branch_50 L xs Q _ _ h
    · replace h := h.2 hc
      obtain ⟨o8, h⟩ := h
      refine e3_K [0, 0, 0, 0, 4, 0, 0, 0, 0, 0, 2, 0, 0, 0] 44 [(2, 40), (0, l1), (0, l2), (0, l3), (3, 0), (3, 0)] [(1, (e3_w32 ((H5 106 (e3_w32 ((e3_w32 (300 * l1)) + l2))) - 1))), (1, 0), (1, l3)] (H5) (G6) (wZ L xs) (M := tbM272) rfl rfl ⟨trivial, o8, trivial⟩ ?_
      refine e3_call (o := 0) (k := 198) (M2 := tbM198) (f1 := 0) (w1 := 0) (as := [(1, l3), (1, 0), (1, (e3_w32 ((H5 106 (e3_w32 ((e3_w32 (300 * l1)) + l2))) - 1)))]) (rest := []) (M := tbM272) rfl rfl rfl trivial (Nat.le_of_ble_eq_true rfl) (Nat.le_of_ble_eq_true rfl) (Nat.le_of_ble_eq_true rfl) ?_
      refine e3_mono (sM_in L xs _ _ _ _ _ _ h) (fun r H9 G10 h => ?_)
      obtain ⟨x11, rfl, h⟩ := h
      change e3_Ev _ _ _ _ 47 [(2, 40), (0, l1), (0, l2), (0, l3), (3, 0), (3, 0)] [(0, x11)] H9 G10 _
      refine e3_br (M := tbM272) rfl rfl rfl Iff.rfl (fun hc => ?_) (fun hc => ?_)
      · replace h := h.1 hc
        refine e3_fgt [false, false, false, false, false, false] ?_
        exact sM_branch_50 L xs Q _ _ h
      · replace h := h.2 hc
        obtain ⟨o12, h⟩ := h
        refine e3_K [0, 4, 0, 0, 0, 0, 0, 2, 0, 0, 0] 69 [(2, 40), (0, l1), (0, l2), (0, l3), (0, (H9 108 (e3_w32 ((e3_w32 (300 * l1)) + l2)))), (0, 0)] [] (H9) (G10) (wZ L xs) (M := tbM272) rfl rfl ⟨trivial, o12, trivial⟩ ?_
        refine e3_fgt [true, true, false, true, true, true] ?_
        obtain ⟨nl, h⟩ := h
        exact sM_branch_69 L xs Q nl _ _ _ _ _ _ h
/-- LetterPostModel.missing(I)I -/
def wM_missing_78 (Q : Int → e3_H → e3_G → Prop) (s0 : Int) (H : e3_H) (G : e3_G) : Prop :=
  Q s0 H G
def wM_missing_62 (Q : Int → e3_H → e3_G → Prop) (k29 : Int → Int → e3_H → e3_G → Prop) (l3 : Int) (s0 : Int) (H : e3_H) (G : e3_G) : Prop :=
  (k29 s0 (e3_w32 (l3 + 1)) H G)
def wM_missing_57 (Q : Int → e3_H → e3_G → Prop) (k29 : Int → Int → e3_H → e3_G → Prop) (l3 : Int) (H : e3_H) (G : e3_G) : Prop :=
  (wM_missing_62 Q k29 l3 1 H G)
def wM_missing_29 (Q : Int → e3_H → e3_G → Prop) : Nat → Int → Int → e3_H → e3_G → Prop
  | 0, _, _, _, _ => False
  | nn + 1, l2, l3, H, G => (((l3 : Int) < (H 99 12) → (((l2 : Int) = 0 → ((0 : Int) ≤ (e3_w32 (3600 + l3)) ∧ ((e3_w32 (3600 + l3)) : Int) < 3900) ∧ ((((H 102 (e3_w32 (3600 + l3))) : Int) = 0 → (wM_missing_57 Q (fun l2 l3 H G => wM_missing_29 Q nn l2 l3 H G) l3 H G)) ∧ (¬ (((H 102 (e3_w32 (3600 + l3))) : Int) = 0) → (wM_missing_62 Q (fun l2 l3 H G => wM_missing_29 Q nn l2 l3 H G) l3 0 H G)))) ∧ (¬ ((l2 : Int) = 0) → (wM_missing_57 Q (fun l2 l3 H G => wM_missing_29 Q nn l2 l3 H G) l3 H G)))) ∧ (¬ ((l3 : Int) < (H 99 12)) → (((l2 : Int) = 0 → (wM_missing_78 Q 0 H G)) ∧ (¬ ((l2 : Int) = 0) → (wM_missing_78 Q 1 H G)))))
def wM_missing (Q : Int → e3_H → e3_G → Prop) (l1 : Int) (H : e3_H) (G : e3_G) : Prop :=
  (wM_isFunction (fun x3 H1 G2 => (((x3 : Int) = 0 → Q (-1) H1 G2) ∧ (¬ ((x3 : Int) = 0) → (wM_makes (fun x6 H4 G5 => (((x6 : Int) = 0 → Q (-3) H4 G5) ∧ (¬ ((x6 : Int) = 0) → (∃ n, wM_missing_29 Q n 0 0 H4 G5)))) 12 l1 0 1 H1 G2)))) l1 H G)
set_option maxRecDepth 100000 in
set_option maxHeartbeats 4000000 in
theorem sM_missing_78 (L : Nat) (xs : Nat → Int32) (Q : Int → e3_H → e3_G → Prop) (s0 : Int) (H : e3_H) (G : e3_G) (h : wM_missing_78 Q s0 H G) : e3_Ev (wB L xs) 6 157 273 78 [(3, 0), (3, 0), (3, 0), (3, 0)] [(0, s0)] H G (e3_q0 Q) := by
  unfold wM_missing_78 at h
  exact e3_reti (M := tbM273) rfl rfl rfl ⟨_, rfl, h⟩
set_option maxRecDepth 100000 in
set_option maxHeartbeats 4000000 in
theorem sM_missing_62 (L : Nat) (xs : Nat → Int32) (Q : Int → e3_H → e3_G → Prop) (k29 : Int → Int → e3_H → e3_G → Prop) (hk29 : ∀ (l2 : Int) (l3 : Int) (H : e3_H) (G : e3_G), k29 l2 l3 H G → e3_Ev (wB L xs) 6 157 273 29 [(2, 40), (3, 0), (0, l2), (0, l3)] [] H G (e3_q0 Q)) (l3 : Int) (s0 : Int) (H : e3_H) (G : e3_G) (h : wM_missing_62 Q k29 l3 s0 H G) : e3_Ev (wB L xs) 6 157 273 62 [(2, 40), (3, 0), (3, 0), (0, l3)] [(0, s0)] H G (e3_q0 Q) := by
  unfold wM_missing_62 at h
  refine e3_K [0, 0, 0] 29 [(2, 40), (3, 0), (0, s0), (0, (e3_w32 (l3 + 1)))] [] (H) (G) (wZ L xs) (M := tbM273) rfl rfl trivial ?_
  exact hk29 _ _ _ _ h
set_option maxRecDepth 100000 in
set_option maxHeartbeats 4000000 in
theorem sM_missing_57 (L : Nat) (xs : Nat → Int32) (Q : Int → e3_H → e3_G → Prop) (k29 : Int → Int → e3_H → e3_G → Prop) (hk29 : ∀ (l2 : Int) (l3 : Int) (H : e3_H) (G : e3_G), k29 l2 l3 H G → e3_Ev (wB L xs) 6 157 273 29 [(2, 40), (3, 0), (0, l2), (0, l3)] [] H G (e3_q0 Q)) (l3 : Int) (H : e3_H) (G : e3_G) (h : wM_missing_57 Q k29 l3 H G) : e3_Ev (wB L xs) 6 157 273 57 [(2, 40), (3, 0), (3, 0), (0, l3)] [] H G (e3_q0 Q) := by
  unfold wM_missing_57 at h
  refine e3_K [0, 0] 62 [(2, 40), (3, 0), (3, 0), (0, l3)] [(0, 1)] (H) (G) (wZ L xs) (M := tbM273) rfl rfl trivial ?_
  exact sM_missing_62 L xs Q k29 hk29 _ _ _ _ h
set_option maxRecDepth 100000 in
set_option maxHeartbeats 4000000 in
theorem sM_missing_29 (L : Nat) (xs : Nat → Int32) (Q : Int → e3_H → e3_G → Prop) : ∀ (nl : Nat) (l2 : Int) (l3 : Int) (H : e3_H) (G : e3_G), wM_missing_29 Q nl l2 l3 H G → e3_Ev (wB L xs) 6 157 273 29 [(2, 40), (3, 0), (0, l2), (0, l3)] [] H G (e3_q0 Q) := by
  intro nl
  induction nl with
  | zero => intro l2 l3 H G h; exact h.elim
  | succ nn ih =>
    intro l2 l3 H G h
    have h : (((l3 : Int) < (H 99 12) → (((l2 : Int) = 0 → ((0 : Int) ≤ (e3_w32 (3600 + l3)) ∧ ((e3_w32 (3600 + l3)) : Int) < 3900) ∧ ((((H 102 (e3_w32 (3600 + l3))) : Int) = 0 → (wM_missing_57 Q (fun l2 l3 H G => wM_missing_29 Q nn l2 l3 H G) l3 H G)) ∧ (¬ (((H 102 (e3_w32 (3600 + l3))) : Int) = 0) → (wM_missing_62 Q (fun l2 l3 H G => wM_missing_29 Q nn l2 l3 H G) l3 0 H G)))) ∧ (¬ ((l2 : Int) = 0) → (wM_missing_57 Q (fun l2 l3 H G => wM_missing_29 Q nn l2 l3 H G) l3 H G)))) ∧ (¬ ((l3 : Int) < (H 99 12)) → (((l2 : Int) = 0 → (wM_missing_78 Q 0 H G)) ∧ (¬ ((l2 : Int) = 0) → (wM_missing_78 Q 1 H G))))) := h
    refine e3_K [0, 0, 4, 0, 2] 37 [(2, 40), (3, 0), (0, l2), (0, l3)] [(0, (H 99 12)), (0, l3)] (H) (G) (wZ L xs) (M := tbM273) rfl rfl ⟨trivial, ⟨by decide, by decide⟩, trivial⟩ ?_
    refine e3_br (M := tbM273) rfl rfl rfl Iff.rfl (fun hc => ?_) (fun hc => ?_)
    · replace h := h.1 hc
      refine e3_K [0] 41 [(2, 40), (3, 0), (0, l2), (0, l3)] [(0, l2)] (H) (G) (wZ L xs) (M := tbM273) rfl rfl trivial ?_
      refine e3_br (M := tbM273) rfl rfl rfl Iff.rfl (fun hc => ?_) (fun hc => ?_)
      · replace h := h.1 hc
        obtain ⟨o1, h⟩ := h
        refine e3_K [0, 4, 0, 0, 0, 2] 54 [(2, 40), (3, 0), (0, l2), (0, l3)] [(0, (H 102 (e3_w32 (3600 + l3))))] (H) (G) (wZ L xs) (M := tbM273) rfl rfl ⟨trivial, o1, trivial⟩ ?_
        refine e3_br (M := tbM273) rfl rfl rfl Iff.rfl (fun hc => ?_) (fun hc => ?_)
        · replace h := h.1 hc
          refine e3_fgt [true, false, false, true] ?_
          exact sM_missing_57 L xs Q (fun l2 l3 H G => wM_missing_29 Q nn l2 l3 H G) ih _ _ _ h
        · replace h := h.2 hc
          refine e3_K [0] 62 [(2, 40), (3, 0), (0, l2), (0, l3)] [(0, 0)] (H) (G) (wZ L xs) (M := tbM273) rfl rfl trivial ?_
          refine e3_fgt [true, false, false, true] ?_
          exact sM_missing_62 L xs Q (fun l2 l3 H G => wM_missing_29 Q nn l2 l3 H G) ih _ _ _ _ h
      · replace h := h.2 hc
        refine e3_fgt [true, false, false, true] ?_
        exact sM_missing_57 L xs Q (fun l2 l3 H G => wM_missing_29 Q nn l2 l3 H G) ih _ _ _ h
    · replace h := h.2 hc
      refine e3_K [0] 70 [(2, 40), (3, 0), (0, l2), (0, l3)] [(0, l2)] (H) (G) (wZ L xs) (M := tbM273) rfl rfl trivial ?_
      refine e3_br (M := tbM273) rfl rfl rfl Iff.rfl (fun hc => ?_) (fun hc => ?_)
      · replace h := h.1 hc
        refine e3_K [0] 78 [(2, 40), (3, 0), (0, l2), (0, l3)] [(0, 0)] (H) (G) (wZ L xs) (M := tbM273) rfl rfl trivial ?_
        refine e3_fgt [false, false, false, false] ?_
        exact sM_missing_78 L xs Q _ _ _ h
      · replace h := h.2 hc
        refine e3_K [0, 0] 78 [(2, 40), (3, 0), (0, l2), (0, l3)] [(0, 1)] (H) (G) (wZ L xs) (M := tbM273) rfl rfl trivial ?_
        refine e3_fgt [false, false, false, false] ?_
        exact sM_missing_78 L xs Q _ _ _ h
set_option maxRecDepth 100000 in
set_option maxHeartbeats 4000000 in
theorem sM_missing (L : Nat) (xs : Nat → Int32) (Q : Int → e3_H → e3_G → Prop) (l1 : Int) (H : e3_H) (G : e3_G) (h : wM_missing Q l1 H G) : e3_Ev (wB L xs) 6 157 273 0 [(2, 40), (0, l1), (3, 0), (3, 0)] [] H G (e3_q0 Q) := by
  unfold wM_missing at h
  refine e3_K [0, 0] 2 [(2, 40), (0, l1), (3, 0), (3, 0)] [(0, l1), (2, 40)] (H) (G) (wZ L xs) (M := tbM273) rfl rfl trivial ?_
  refine e3_call (o := 0) (k := 264) (M2 := tbM264) (f1 := 1) (w1 := 25) (as := [(2, 40), (0, l1)]) (rest := []) (M := tbM273) rfl rfl rfl trivial (Nat.le_of_ble_eq_true rfl) (Nat.le_of_ble_eq_true rfl) (Nat.le_of_ble_eq_true rfl) ?_
  refine e3_mono (sM_isFunction L xs _ _ _ _ h) (fun r H1 G2 h => ?_)
  obtain ⟨x3, rfl, h⟩ := h
  change e3_Ev _ _ _ _ 5 [(2, 40), (0, l1), (3, 0), (3, 0)] [(0, x3)] H1 G2 _
  refine e3_br (M := tbM273) rfl rfl rfl Iff.rfl (fun hc => ?_) (fun hc => ?_)
  · replace h := h.1 hc
    refine e3_K [0] 9 [(2, 40), (0, l1), (3, 0), (3, 0)] [(0, (-1))] (H1) (G2) (wZ L xs) (M := tbM273) rfl rfl trivial ?_
    exact e3_reti (M := tbM273) rfl rfl rfl ⟨_, rfl, h⟩
  · replace h := h.2 hc
    refine e3_K [0, 0, 0, 0, 0] 16 [(2, 40), (0, l1), (3, 0), (3, 0)] [(0, 1), (0, 0), (0, l1), (0, 12), (2, 40)] (H1) (G2) (wZ L xs) (M := tbM273) rfl rfl trivial ?_
    refine e3_call (o := 0) (k := 242) (M2 := tbM242) (f1 := 5) (w1 := 129) (as := [(2, 40), (0, 12), (0, l1), (0, 0), (0, 1)]) (rest := []) (M := tbM273) rfl rfl rfl trivial (Nat.le_of_ble_eq_true rfl) (Nat.le_of_ble_eq_true rfl) (Nat.le_of_ble_eq_true rfl) ?_
    refine e3_mono (sM_makes L xs _ _ _ _ _ _ _ h) (fun r H4 G5 h => ?_)
    obtain ⟨x6, rfl, h⟩ := h
    change e3_Ev _ _ _ _ 19 [(2, 40), (0, l1), (3, 0), (3, 0)] [(0, x6)] H4 G5 _
    refine e3_br (M := tbM273) rfl rfl rfl Iff.rfl (fun hc => ?_) (fun hc => ?_)
    · replace h := h.1 hc
      refine e3_K [0] 24 [(2, 40), (0, l1), (3, 0), (3, 0)] [(0, (-3))] (H4) (G5) (wZ L xs) (M := tbM273) rfl rfl trivial ?_
      exact e3_reti (M := tbM273) rfl rfl rfl ⟨_, rfl, h⟩
    · replace h := h.2 hc
      refine e3_K [0, 0, 0, 0] 29 [(2, 40), (0, l1), (0, 0), (0, 0)] [] (H4) (G5) (wZ L xs) (M := tbM273) rfl rfl trivial ?_
      refine e3_fgt [true, false, true, true] ?_
      obtain ⟨nl, h⟩ := h
      exact sM_missing_29 L xs Q nl _ _ _ _ h
