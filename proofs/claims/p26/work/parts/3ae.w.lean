/-- LetterPost$Rule.hold(JI)V -/
def wU_hold_69 (Q : e3_H → e3_G → Prop)  (H : e3_H) (G : e3_G) : Prop :=
  Q H G
def wU_hold_45 (Q : e3_H → e3_G → Prop) (l0 : Int) (l3 : Int) (l4 : Int) (H : e3_H) (G : e3_G) : Prop :=
  (((l4 : Int) < 0 → (wU_hold_69 Q H G)) ∧ (¬ ((l4 : Int) < 0) → (e3_ob G 9 l0) ∧ (e3_ob G 9 l0) ∧ ∀ H1 : e3_H, H1 = e3_up H l0 6 (e3_lor (H l0 6) (e3_lshl (e3_w64 (l3 + 1)) (e3_w32 (8 * l4)))) → (wU_hold_69 Q H1 G)))
def wU_hold (Q : e3_H → e3_G → Prop) (l0 : Int) (l1 : Int) (l3 : Int) (H : e3_H) (G : e3_G) : Prop :=
  (e3_ob G 9 l0) ∧ (wU_nameNumber (fun x3 H1 G2 => (((x3 : Int) < 0 → (e3_ob G2 9 l0) ∧ ((((H1 l0 4) : Int) < 8 → (e3_ob G2 9 l0) ∧ (e3_ob G2 9 l0) ∧ (e3_oa G2 1 (H1 l0 5) (H1 l0 4)) ∧ ∀ H5 : e3_H, H5 = e3_up H1 (H1 l0 5) (H1 l0 4) l1 → (e3_ob G2 9 l0) ∧ (e3_ob G2 9 l0) ∧ ∀ H9 : e3_H, H9 = e3_up H5 l0 4 (e3_w32 ((H5 l0 4) + 1)) → (wU_hold_45 Q l0 l3 (H1 l0 4) H9 G2)) ∧ (¬ (((H1 l0 4) : Int) < 8) → (wU_hold_45 Q l0 l3 x3 H1 G2)))) ∧ (¬ ((x3 : Int) < 0) → (wU_hold_45 Q l0 l3 x3 H1 G2)))) l0 l1 H G)
set_option maxRecDepth 100000 in
set_option maxHeartbeats 4000000 in
theorem sU_hold_69 (L : Nat) (xs : Nat → Int32) (Q : e3_H → e3_G → Prop)  (H : e3_H) (G : e3_G) (h : wU_hold_69 Q  H G) : e3_Ev (wB L xs) 1 23 61 69 [(3, 0), (3, 0), (3, 0), (3, 0), (3, 0)] [] H G (e3_qv Q) := by
  unfold wU_hold_69 at h
  exact e3_retv (M := tbM61) rfl rfl rfl ⟨rfl, h⟩
set_option maxRecDepth 100000 in
set_option maxHeartbeats 4000000 in
theorem sU_hold_45 (L : Nat) (xs : Nat → Int32) (Q : e3_H → e3_G → Prop) (l0 : Int) (l3 : Int) (l4 : Int) (H : e3_H) (G : e3_G) (h : wU_hold_45 Q l0 l3 l4 H G) : e3_Ev (wB L xs) 1 23 61 45 [(2, l0), (3, 0), (3, 0), (0, l3), (0, l4)] [] H G (e3_qv Q) := by
  unfold wU_hold_45 at h
  refine e3_K [0] 47 [(2, l0), (3, 0), (3, 0), (0, l3), (0, l4)] [(0, l4)] (H) (G) (wZ L xs) (M := tbM61) rfl rfl trivial ?_
  refine e3_br (M := tbM61) rfl rfl rfl Iff.rfl (fun hc => ?_) (fun hc => ?_)
  · replace h := h.1 hc
    refine e3_fgt [false, false, false, false, false] ?_
    exact sU_hold_69 L xs Q _ _ h
  · replace h := h.2 hc
    obtain ⟨o2, o3, h⟩ := h
    refine e3_K [0, 0, 3, 0, 0, 0, 0, 0, 0, 0, 0, 0, 3] 69 [(2, l0), (3, 0), (3, 0), (0, l3), (0, l4)] [] (e3_up H l0 6 (e3_lor (H l0 6) (e3_lshl (e3_w64 (l3 + 1)) (e3_w32 (8 * l4))))) (G) (wZ L xs) (M := tbM61) rfl rfl ⟨o2, ⟨o3, trivial⟩, trivial⟩ ?_
    generalize hH1 : (e3_up H l0 6 (e3_lor (H l0 6) (e3_lshl (e3_w64 (l3 + 1)) (e3_w32 (8 * l4))))) = H1
    replace h := h H1 hH1.symm
    refine e3_fgt [false, false, false, false, false] ?_
    exact sU_hold_69 L xs Q _ _ h
set_option maxRecDepth 100000 in
set_option maxHeartbeats 4000000 in
theorem sU_hold (L : Nat) (xs : Nat → Int32) (Q : e3_H → e3_G → Prop) (l0 : Int) (l1 : Int) (l3 : Int) (H : e3_H) (G : e3_G) (h : wU_hold Q l0 l1 l3 H G) : e3_Ev (wB L xs) 1 23 61 0 [(2, l0), (1, l1), (3, 0), (0, l3), (3, 0)] [] H G (e3_qv Q) := by
  unfold wU_hold at h
  refine e3_K [0, 0] 2 [(2, l0), (1, l1), (3, 0), (0, l3), (3, 0)] [(1, l1), (2, l0)] (H) (G) (wZ L xs) (M := tbM61) rfl rfl trivial ?_
  obtain ⟨oz, h⟩ := h
  refine e3_call (o := 1) (k := 52) (M2 := tbM52) (f1 := 0) (w1 := 0) (as := [(2, l0), (1, l1)]) (rest := []) (M := tbM61) rfl rfl rfl oz (Nat.le_of_ble_eq_true rfl) (Nat.le_of_ble_eq_true rfl) (Nat.le_of_ble_eq_true rfl) ?_
  refine e3_mono (sU_nameNumber L xs _ _ _ _ _ h) (fun r H1 G2 h => ?_)
  obtain ⟨x3, rfl, h⟩ := h
  change e3_Ev _ _ _ _ 5 [(2, l0), (1, l1), (3, 0), (0, l3), (3, 0)] [(0, x3)] H1 G2 _
  refine e3_K [0, 0] 9 [(2, l0), (1, l1), (3, 0), (0, l3), (0, x3)] [(0, x3)] (H1) (G2) (wZ L xs) (M := tbM61) rfl rfl trivial ?_
  refine e3_br (M := tbM61) rfl rfl rfl Iff.rfl (fun hc => ?_) (fun hc => ?_)
  · replace h := h.1 hc
    obtain ⟨o4, h⟩ := h
    refine e3_K [0, 3, 0] 18 [(2, l0), (1, l1), (3, 0), (0, l3), (0, x3)] [(0, 8), (0, (H1 l0 4))] (H1) (G2) (wZ L xs) (M := tbM61) rfl rfl ⟨o4, trivial⟩ ?_
    refine e3_br (M := tbM61) rfl rfl rfl Iff.rfl (fun hc => ?_) (fun hc => ?_)
    · replace h := h.1 hc
      obtain ⟨o6, o7, o8, h⟩ := h
      refine e3_K [0, 3, 0, 0, 3, 0, 0, 4] 35 [(2, l0), (1, l1), (3, 0), (0, l3), (0, (H1 l0 4))] [] (e3_up H1 (H1 l0 5) (H1 l0 4) l1) (G2) (wZ L xs) (M := tbM61) rfl rfl ⟨o6, o7, o8, trivial⟩ ?_
      generalize hH5 : (e3_up H1 (H1 l0 5) (H1 l0 4) l1) = H5
      replace h := h H5 hH5.symm
      obtain ⟨o10, o11, h⟩ := h
      refine e3_K [0, 0, 3, 0, 0, 3] 45 [(2, l0), (1, l1), (3, 0), (0, l3), (0, (H1 l0 4))] [] (e3_up H5 l0 4 (e3_w32 ((H5 l0 4) + 1))) (G2) (wZ L xs) (M := tbM61) rfl rfl ⟨o10, ⟨o11, trivial⟩, trivial⟩ ?_
      generalize hH9 : (e3_up H5 l0 4 (e3_w32 ((H5 l0 4) + 1))) = H9
      replace h := h H9 hH9.symm
      refine e3_fgt [true, false, false, true, true] ?_
      exact sU_hold_45 L xs Q _ _ _ _ _ h
    · replace h := h.2 hc
      refine e3_fgt [true, false, false, true, true] ?_
      exact sU_hold_45 L xs Q _ _ _ _ _ h
  · replace h := h.2 hc
    refine e3_fgt [true, false, false, true, true] ?_
    exact sU_hold_45 L xs Q _ _ _ _ _ h
/-- LetterPost$Reader.readName(I)Z -/
def wR_readName (Q : Int → e3_H → e3_G → Prop) (l1 : Int) (H : e3_H) (G : e3_G) : Prop :=
  ((((H 3 7) : Int) = 258 → (e3_ob G 9 (H 14 7)) ∧ (wU_nameFault (fun x3 H1 G2 => (((x3 : Int) = 0 → (e3_ob G2 9 (H1 14 7)) ∧ (wU_hold (fun H4 G5 => (wT_step (fun H7 G8 => Q 1 H7 G8) H4 G5)) (H1 14 7) (H1 3 9) l1 H1 G2)) ∧ (¬ ((x3 : Int) = 0) → (wR_failHere (fun x12 H10 G11 => ((x12 : Int) = 0 ∨ x12 = 1) ∧ Q x12 H10 G11) x3 H1 G2)))) (H 14 7) (H 3 9) H G)) ∧ (¬ (((H 3 7) : Int) = 258) → (wR_failHere (fun x15 H13 G14 => ((x15 : Int) = 0 ∨ x15 = 1) ∧ Q x15 H13 G14) 2 H G)))
set_option maxRecDepth 100000 in
set_option maxHeartbeats 4000000 in
theorem sR_readName (L : Nat) (xs : Nat → Int32) (Q : Int → e3_H → e3_G → Prop) (l1 : Int) (H : e3_H) (G : e3_G) (h : wR_readName Q l1 H G) : e3_Ev (wB L xs) 2 47 60 0 [(2, 14), (0, l1), (3, 0)] [] H G (e3_q0 Q) := by
  unfold wR_readName at h
  refine e3_K [0, 4, 2, 0] 10 [(2, 14), (0, l1), (3, 0)] [(0, 258), (0, (H 3 7))] (H) (G) (wZ L xs) (M := tbM60) rfl rfl ⟨trivial, trivial, trivial⟩ ?_
  refine e3_br (M := tbM60) rfl rfl rfl Iff.rfl (fun hc => ?_) (fun hc => ?_)
  · replace h := h.1 hc
    refine e3_K [0, 2, 0, 4, 2] 30 [(2, 14), (0, l1), (3, 0)] [(1, (H 3 9)), (2, (H 14 7))] (H) (G) (wZ L xs) (M := tbM60) rfl rfl ⟨trivial, trivial, trivial, trivial⟩ ?_
    obtain ⟨oz, h⟩ := h
    refine e3_call (o := 1) (k := 51) (M2 := tbM51) (f1 := 1) (w1 := 23) (as := [(2, (H 14 7)), (1, (H 3 9))]) (rest := []) (M := tbM60) rfl rfl rfl oz (Nat.le_of_ble_eq_true rfl) (Nat.le_of_ble_eq_true rfl) (Nat.le_of_ble_eq_true rfl) ?_
    refine e3_mono (sU_nameFault L xs _ _ _ _ _ h) (fun r H1 G2 h => ?_)
    obtain ⟨x3, rfl, h⟩ := h
    change e3_Ev _ _ _ _ 33 [(2, 14), (0, l1), (3, 0)] [(0, x3)] H1 G2 _
    refine e3_K [0, 0] 35 [(2, 14), (0, l1), (0, x3)] [(0, x3)] (H1) (G2) (wZ L xs) (M := tbM60) rfl rfl trivial ?_
    refine e3_br (M := tbM60) rfl rfl rfl Iff.rfl (fun hc => ?_) (fun hc => ?_)
    · replace h := h.1 hc
      refine e3_K [0, 2, 0, 4, 2, 0] 56 [(2, 14), (0, l1), (0, x3)] [(0, l1), (1, (H1 3 9)), (2, (H1 14 7))] (H1) (G2) (wZ L xs) (M := tbM60) rfl rfl ⟨trivial, trivial, trivial, trivial⟩ ?_
      obtain ⟨oz, h⟩ := h
      refine e3_call (o := 1) (k := 61) (M2 := tbM61) (f1 := 1) (w1 := 23) (as := [(2, (H1 14 7)), (1, (H1 3 9)), (0, l1)]) (rest := []) (M := tbM60) rfl rfl rfl oz (Nat.le_of_ble_eq_true rfl) (Nat.le_of_ble_eq_true rfl) (Nat.le_of_ble_eq_true rfl) ?_
      refine e3_mono (sU_hold L xs _ _ _ _ _ _ h) (fun r H4 G5 h => ?_)
      obtain ⟨rfl, h⟩ := h
      change e3_Ev _ _ _ _ 59 [(2, 14), (0, l1), (0, x3)] [] H4 G5 _
      refine e3_K [0, 4] 63 [(2, 14), (0, l1), (0, x3)] [(2, 3)] (H4) (G5) (wZ L xs) (M := tbM60) rfl rfl ⟨trivial, trivial⟩ ?_
      refine e3_call (o := 0) (k := 25) (M2 := tbM25) (f1 := 0) (w1 := 0) (as := [(2, 3)]) (rest := []) (M := tbM60) rfl rfl rfl trivial (Nat.le_of_ble_eq_true rfl) (Nat.le_of_ble_eq_true rfl) (Nat.le_of_ble_eq_true rfl) ?_
      refine e3_mono (sT_step L xs _ _ _ h) (fun r H7 G8 h => ?_)
      obtain ⟨rfl, h⟩ := h
      change e3_Ev _ _ _ _ 66 [(2, 14), (0, l1), (0, x3)] [] H7 G8 _
      refine e3_K [0] 67 [(2, 14), (0, l1), (0, x3)] [(0, 1)] (H7) (G8) (wZ L xs) (M := tbM60) rfl rfl trivial ?_
      exact e3_retb (M := tbM60) rfl rfl rfl (Or.inr rfl) ⟨_, rfl, h⟩
    · replace h := h.2 hc
      refine e3_K [0, 0] 40 [(2, 14), (0, l1), (0, x3)] [(0, x3), (2, 14)] (H1) (G2) (wZ L xs) (M := tbM60) rfl rfl trivial ?_
      refine e3_call (o := 0) (k := 27) (M2 := tbM27) (f1 := 0) (w1 := 0) (as := [(2, 14), (0, x3)]) (rest := []) (M := tbM60) rfl rfl rfl trivial (Nat.le_of_ble_eq_true rfl) (Nat.le_of_ble_eq_true rfl) (Nat.le_of_ble_eq_true rfl) ?_
      refine e3_mono (sR_failHere L xs _ _ _ _ h) (fun r H10 G11 h => ?_)
      obtain ⟨x12, rfl, h⟩ := h
      change e3_Ev _ _ _ _ 43 [(2, 14), (0, l1), (0, x3)] [(0, x12)] H10 G11 _
      exact e3_retb (M := tbM60) rfl rfl rfl h.1 ⟨_, rfl, h.2⟩
  · replace h := h.2 hc
    refine e3_K [0, 0] 15 [(2, 14), (0, l1), (3, 0)] [(0, 2), (2, 14)] (H) (G) (wZ L xs) (M := tbM60) rfl rfl trivial ?_
    refine e3_call (o := 0) (k := 27) (M2 := tbM27) (f1 := 0) (w1 := 0) (as := [(2, 14), (0, 2)]) (rest := []) (M := tbM60) rfl rfl rfl trivial (Nat.le_of_ble_eq_true rfl) (Nat.le_of_ble_eq_true rfl) (Nat.le_of_ble_eq_true rfl) ?_
    refine e3_mono (sR_failHere L xs _ _ _ _ h) (fun r H13 G14 h => ?_)
    obtain ⟨x15, rfl, h⟩ := h
    change e3_Ev _ _ _ _ 18 [(2, 14), (0, l1), (3, 0)] [(0, x15)] H13 G14 _
    exact e3_retb (M := tbM60) rfl rfl rfl h.1 ⟨_, rfl, h.2⟩
/-- LetterPost$Reader.readNumber()I -/
def wR_readNumber_77 (Q : Int → e3_H → e3_G → Prop) (s0 : Int) (H : e3_H) (G : e3_G) : Prop :=
  Q s0 H G
def wR_readNumber_29 (Q : Int → e3_H → e3_G → Prop) (l1 : Int) (H : e3_H) (G : e3_G) : Prop :=
  ((((H 3 7) : Int) = 260 → (wT_step (fun H1 G2 => (((l1 : Int) = 0 → (wR_readNumber_77 Q (e3_w32 (H 3 9)) H1 G2)) ∧ (¬ ((l1 : Int) = 0) → (wR_readNumber_77 Q (e3_w32 (-(e3_w32 (H 3 9)))) H1 G2)))) H G)) ∧ (¬ (((H 3 7) : Int) = 260) → (wR_failHere (fun x6 H4 G5 => Q ((-2147483648 : Int32).toInt) H4 G5) 2 H G)))
def wR_readNumber_17 (Q : Int → e3_H → e3_G → Prop) (s0 : Int) (H : e3_H) (G : e3_G) : Prop :=
  (((s0 : Int) = 0 → (wR_readNumber_29 Q s0 H G)) ∧ (¬ ((s0 : Int) = 0) → (wT_step (fun H1 G2 => (wR_readNumber_29 Q s0 H1 G2)) H G)))
def wR_readNumber (Q : Int → e3_H → e3_G → Prop)  (H : e3_H) (G : e3_G) : Prop :=
  ((((H 3 7) : Int) = 45 → (wR_readNumber_17 Q 1 H G)) ∧ (¬ (((H 3 7) : Int) = 45) → (wR_readNumber_17 Q 0 H G)))
set_option maxRecDepth 100000 in
set_option maxHeartbeats 4000000 in
theorem sR_readNumber_77 (L : Nat) (xs : Nat → Int32) (Q : Int → e3_H → e3_G → Prop) (s0 : Int) (H : e3_H) (G : e3_G) (h : wR_readNumber_77 Q s0 H G) : e3_Ev (wB L xs) 1 21 63 77 [(3, 0), (3, 0), (3, 0)] [(0, s0)] H G (e3_q0 Q) := by
  unfold wR_readNumber_77 at h
  exact e3_reti (M := tbM63) rfl rfl rfl ⟨_, rfl, h⟩
set_option maxRecDepth 100000 in
set_option maxHeartbeats 4000000 in
theorem sR_readNumber_29 (L : Nat) (xs : Nat → Int32) (Q : Int → e3_H → e3_G → Prop) (l1 : Int) (H : e3_H) (G : e3_G) (h : wR_readNumber_29 Q l1 H G) : e3_Ev (wB L xs) 1 21 63 29 [(2, 14), (0, l1), (3, 0)] [] H G (e3_q0 Q) := by
  unfold wR_readNumber_29 at h
  refine e3_K [0, 4, 2, 0] 39 [(2, 14), (0, l1), (3, 0)] [(0, 260), (0, (H 3 7))] (H) (G) (wZ L xs) (M := tbM63) rfl rfl ⟨trivial, trivial, trivial⟩ ?_
  refine e3_br (M := tbM63) rfl rfl rfl Iff.rfl (fun hc => ?_) (fun hc => ?_)
  · replace h := h.1 hc
    refine e3_K [0, 4, 2, 0, 0, 0, 4] 64 [(2, 14), (0, l1), (0, (e3_w32 (H 3 9)))] [(2, 3)] (H) (G) (wZ L xs) (M := tbM63) rfl rfl ⟨trivial, trivial, trivial, trivial⟩ ?_
    refine e3_call (o := 0) (k := 25) (M2 := tbM25) (f1 := 0) (w1 := 0) (as := [(2, 3)]) (rest := []) (M := tbM63) rfl rfl rfl trivial (Nat.le_of_ble_eq_true rfl) (Nat.le_of_ble_eq_true rfl) (Nat.le_of_ble_eq_true rfl) ?_
    refine e3_mono (sT_step L xs _ _ _ h) (fun r H1 G2 h => ?_)
    obtain ⟨rfl, h⟩ := h
    change e3_Ev _ _ _ _ 67 [(2, 14), (0, l1), (0, (e3_w32 (H 3 9)))] [] H1 G2 _
    refine e3_K [0] 68 [(2, 14), (0, l1), (0, (e3_w32 (H 3 9)))] [(0, l1)] (H1) (G2) (wZ L xs) (M := tbM63) rfl rfl trivial ?_
    refine e3_br (M := tbM63) rfl rfl rfl Iff.rfl (fun hc => ?_) (fun hc => ?_)
    · replace h := h.1 hc
      refine e3_K [0] 77 [(2, 14), (0, l1), (0, (e3_w32 (H 3 9)))] [(0, (e3_w32 (H 3 9)))] (H1) (G2) (wZ L xs) (M := tbM63) rfl rfl trivial ?_
      refine e3_fgt [false, false, false] ?_
      exact sR_readNumber_77 L xs Q _ _ _ h
    · replace h := h.2 hc
      refine e3_K [0, 0, 0] 77 [(2, 14), (0, l1), (0, (e3_w32 (H 3 9)))] [(0, (e3_w32 (-(e3_w32 (H 3 9)))))] (H1) (G2) (wZ L xs) (M := tbM63) rfl rfl trivial ?_
      refine e3_fgt [false, false, false] ?_
      exact sR_readNumber_77 L xs Q _ _ _ h
  · replace h := h.2 hc
    refine e3_K [0, 0] 44 [(2, 14), (0, l1), (3, 0)] [(0, 2), (2, 14)] (H) (G) (wZ L xs) (M := tbM63) rfl rfl trivial ?_
    refine e3_call (o := 0) (k := 27) (M2 := tbM27) (f1 := 0) (w1 := 0) (as := [(2, 14), (0, 2)]) (rest := []) (M := tbM63) rfl rfl rfl trivial (Nat.le_of_ble_eq_true rfl) (Nat.le_of_ble_eq_true rfl) (Nat.le_of_ble_eq_true rfl) ?_
    refine e3_mono (sR_failHere L xs _ _ _ _ h) (fun r H4 G5 h => ?_)
    obtain ⟨x6, rfl, h⟩ := h
    change e3_Ev _ _ _ _ 47 [(2, 14), (0, l1), (3, 0)] [(0, x6)] H4 G5 _
    refine e3_K [0, 2] 50 [(2, 14), (0, l1), (3, 0)] [(0, ((-2147483648 : Int32).toInt))] (H4) (G5) (wZ L xs) (M := tbM63) rfl rfl ⟨trivial, trivial⟩ ?_
    exact e3_reti (M := tbM63) rfl rfl rfl ⟨_, rfl, h⟩
set_option maxRecDepth 100000 in
set_option maxHeartbeats 4000000 in
theorem sR_readNumber_17 (L : Nat) (xs : Nat → Int32) (Q : Int → e3_H → e3_G → Prop) (s0 : Int) (H : e3_H) (G : e3_G) (h : wR_readNumber_17 Q s0 H G) : e3_Ev (wB L xs) 1 21 63 17 [(2, 14), (3, 0), (3, 0)] [(0, s0)] H G (e3_q0 Q) := by
  unfold wR_readNumber_17 at h
  refine e3_K [0, 0] 19 [(2, 14), (0, s0), (3, 0)] [(0, s0)] (H) (G) (wZ L xs) (M := tbM63) rfl rfl trivial ?_
  refine e3_br (M := tbM63) rfl rfl rfl Iff.rfl (fun hc => ?_) (fun hc => ?_)
  · replace h := h.1 hc
    exact sR_readNumber_29 L xs Q _ _ _ h
  · replace h := h.2 hc
    refine e3_K [0, 4] 26 [(2, 14), (0, s0), (3, 0)] [(2, 3)] (H) (G) (wZ L xs) (M := tbM63) rfl rfl ⟨trivial, trivial⟩ ?_
    refine e3_call (o := 0) (k := 25) (M2 := tbM25) (f1 := 0) (w1 := 0) (as := [(2, 3)]) (rest := []) (M := tbM63) rfl rfl rfl trivial (Nat.le_of_ble_eq_true rfl) (Nat.le_of_ble_eq_true rfl) (Nat.le_of_ble_eq_true rfl) ?_
    refine e3_mono (sT_step L xs _ _ _ h) (fun r H1 G2 h => ?_)
    obtain ⟨rfl, h⟩ := h
    change e3_Ev _ _ _ _ 29 [(2, 14), (0, s0), (3, 0)] [] H1 G2 _
    exact sR_readNumber_29 L xs Q _ _ _ h
set_option maxRecDepth 100000 in
set_option maxHeartbeats 4000000 in
theorem sR_readNumber (L : Nat) (xs : Nat → Int32) (Q : Int → e3_H → e3_G → Prop)  (H : e3_H) (G : e3_G) (h : wR_readNumber Q  H G) : e3_Ev (wB L xs) 1 21 63 0 [(2, 14), (3, 0), (3, 0)] [] H G (e3_q0 Q) := by
  unfold wR_readNumber at h
  refine e3_K [0, 4, 2, 0] 9 [(2, 14), (3, 0), (3, 0)] [(0, 45), (0, (H 3 7))] (H) (G) (wZ L xs) (M := tbM63) rfl rfl ⟨trivial, trivial, trivial⟩ ?_
  refine e3_br (M := tbM63) rfl rfl rfl Iff.rfl (fun hc => ?_) (fun hc => ?_)
  · replace h := h.1 hc
    refine e3_K [0, 0] 17 [(2, 14), (3, 0), (3, 0)] [(0, 1)] (H) (G) (wZ L xs) (M := tbM63) rfl rfl trivial ?_
    exact sR_readNumber_17 L xs Q _ _ _ h
  · replace h := h.2 hc
    refine e3_K [0] 17 [(2, 14), (3, 0), (3, 0)] [(0, 0)] (H) (G) (wZ L xs) (M := tbM63) rfl rfl trivial ?_
    exact sR_readNumber_17 L xs Q _ _ _ h
/-- LetterPost$Pattern.want(JJ)V -/
def wA_want (Q : e3_H → e3_G → Prop) (l0 : Int) (l1 : Int) (l3 : Int) (H : e3_H) (G : e3_G) : Prop :=
  (e3_ob G 10 l0) ∧ ∀ H1 : e3_H, H1 = e3_up H l0 0 1 → (e3_ob G 10 l0) ∧ ∀ H3 : e3_H, H3 = e3_up H1 l0 3 l1 → (e3_ob G 10 l0) ∧ ∀ H5 : e3_H, H5 = e3_up H3 l0 4 l3 → Q H5 G
set_option maxRecDepth 100000 in
set_option maxHeartbeats 4000000 in
theorem sA_want (L : Nat) (xs : Nat → Int32) (Q : e3_H → e3_G → Prop) (l0 : Int) (l1 : Int) (l3 : Int) (H : e3_H) (G : e3_G) (h : wA_want Q l0 l1 l3 H G) : e3_Ev (wB L xs) 0 0 64 0 [(2, l0), (1, l1), (3, 0), (1, l3), (3, 0)] [] H G (e3_qv Q) := by
  unfold wA_want at h
  obtain ⟨o2, h⟩ := h
  refine e3_K [0, 0, 3] 5 [(2, l0), (1, l1), (3, 0), (1, l3), (3, 0)] [] (e3_up H l0 0 1) (G) (wZ L xs) (M := tbM64) rfl rfl ⟨⟨o2, trivial⟩, trivial⟩ ?_
  generalize hH1 : (e3_up H l0 0 1) = H1
  replace h := h H1 hH1.symm
  obtain ⟨o4, h⟩ := h
  refine e3_K [0, 0, 3] 10 [(2, l0), (1, l1), (3, 0), (1, l3), (3, 0)] [] (e3_up H1 l0 3 l1) (G) (wZ L xs) (M := tbM64) rfl rfl ⟨⟨o4, trivial⟩, trivial⟩ ?_
  generalize hH3 : (e3_up H1 l0 3 l1) = H3
  replace h := h H3 hH3.symm
  obtain ⟨o6, h⟩ := h
  refine e3_K [0, 0, 3] 15 [(2, l0), (1, l1), (3, 0), (1, l3), (3, 0)] [] (e3_up H3 l0 4 l3) (G) (wZ L xs) (M := tbM64) rfl rfl ⟨⟨o6, trivial⟩, trivial⟩ ?_
  generalize hH5 : (e3_up H3 l0 4 l3) = H5
  replace h := h H5 hH5.symm
  exact e3_retv (M := tbM64) rfl rfl rfl ⟨rfl, h⟩
/-- LetterPost$Reader.failAt(II)Z -/
def wR_failAt (Q : Int → e3_H → e3_G → Prop) (l1 : Int) (l2 : Int) (H : e3_H) (G : e3_G) : Prop :=
  ∀ H1 : e3_H, H1 = e3_up H 14 4 l1 → ∀ H2 : e3_H, H2 = e3_up H1 14 5 l2 → Q 0 H2 G
set_option maxRecDepth 100000 in
set_option maxHeartbeats 4000000 in
theorem sR_failAt (L : Nat) (xs : Nat → Int32) (Q : Int → e3_H → e3_G → Prop) (l1 : Int) (l2 : Int) (H : e3_H) (G : e3_G) (h : wR_failAt Q l1 l2 H G) : e3_Ev (wB L xs) 0 0 65 0 [(2, 14), (0, l1), (0, l2)] [] H G (e3_q0 Q) := by
  unfold wR_failAt at h
  refine e3_K [0, 0, 2] 5 [(2, 14), (0, l1), (0, l2)] [] (e3_up H 14 4 l1) (G) (wZ L xs) (M := tbM65) rfl rfl ⟨trivial, trivial⟩ ?_
  generalize hH1 : (e3_up H 14 4 l1) = H1
  replace h := h H1 hH1.symm
  refine e3_K [0, 0, 2] 10 [(2, 14), (0, l1), (0, l2)] [] (e3_up H1 14 5 l2) (G) (wZ L xs) (M := tbM65) rfl rfl ⟨trivial, trivial⟩ ?_
  generalize hH2 : (e3_up H1 14 5 l2) = H2
  replace h := h H2 hH2.symm
  refine e3_K [0] 11 [(2, 14), (0, l1), (0, l2)] [(0, 0)] (H2) (G) (wZ L xs) (M := tbM65) rfl rfl trivial ?_
  exact e3_retb (M := tbM65) rfl rfl rfl (Or.inl rfl) ⟨_, rfl, h⟩
/-- LetterPost$Reader.readRange(LLetterPost$Pattern;)Z -/
def wR_readRange_89 (Q : Int → e3_H → e3_G → Prop) (s0 : Int) (H : e3_H) (G : e3_G) : Prop :=
  ((s0 : Int) = 0 ∨ s0 = 1) ∧ Q s0 H G
def wR_readRange_84 (Q : Int → e3_H → e3_G → Prop)  (H : e3_H) (G : e3_G) : Prop :=
  (wR_readRange_89 Q 1 H G)
def wR_readRange_59 (Q : Int → e3_H → e3_G → Prop) (l1 : Int) (l2 : Int) (l3 : Int) (l4 : Int) (H : e3_H) (G : e3_G) : Prop :=
  (e3_ob G 10 l1) ∧ (wA_want (fun H1 G2 => (((l4 : Int) < l3 → (wR_failAt (fun x6 H4 G5 => (((x6 : Int) = 0 → (wR_readRange_89 Q 0 H4 G5)) ∧ (¬ ((x6 : Int) = 0) → (wR_readRange_84 Q H4 G5)))) 7 l2 H1 G2)) ∧ (¬ ((l4 : Int) < l3) → (wR_readRange_84 Q H1 G2)))) l1 l3 l4 H G)
def wR_readRange (Q : Int → e3_H → e3_G → Prop) (l1 : Int) (H : e3_H) (G : e3_G) : Prop :=
  (wR_readNumber (fun x3 H1 G2 => (((x3 : Int) = ((-2147483648 : Int32).toInt) → Q 0 H1 G2) ∧ (¬ ((x3 : Int) = ((-2147483648 : Int32).toInt)) → ((((H1 3 7) : Int) = 262 → (wT_step (fun H4 G5 => (wR_readNumber (fun x9 H7 G8 => (((x9 : Int) = ((-2147483648 : Int32).toInt) → Q 0 H7 G8) ∧ (¬ ((x9 : Int) = ((-2147483648 : Int32).toInt)) → (wR_readRange_59 Q l1 (H 3 8) x3 x9 H7 G8)))) H4 G5)) H1 G2)) ∧ (¬ (((H1 3 7) : Int) = 262) → (wR_readRange_59 Q l1 (H 3 8) x3 x3 H1 G2)))))) H G)
set_option maxRecDepth 100000 in
set_option maxHeartbeats 4000000 in
theorem sR_readRange_89 (L : Nat) (xs : Nat → Int32) (Q : Int → e3_H → e3_G → Prop) (s0 : Int) (H : e3_H) (G : e3_G) (h : wR_readRange_89 Q s0 H G) : e3_Ev (wB L xs) 2 43 62 89 [(3, 0), (3, 0), (3, 0), (3, 0), (3, 0)] [(0, s0)] H G (e3_q0 Q) := by
  unfold wR_readRange_89 at h
  exact e3_retb (M := tbM62) rfl rfl rfl h.1 ⟨_, rfl, h.2⟩
set_option maxRecDepth 100000 in
set_option maxHeartbeats 4000000 in
theorem sR_readRange_84 (L : Nat) (xs : Nat → Int32) (Q : Int → e3_H → e3_G → Prop)  (H : e3_H) (G : e3_G) (h : wR_readRange_84 Q  H G) : e3_Ev (wB L xs) 2 43 62 84 [(3, 0), (3, 0), (3, 0), (3, 0), (3, 0)] [] H G (e3_q0 Q) := by
  unfold wR_readRange_84 at h
  refine e3_K [0, 0] 89 [(3, 0), (3, 0), (3, 0), (3, 0), (3, 0)] [(0, 1)] (H) (G) (wZ L xs) (M := tbM62) rfl rfl trivial ?_
  exact sR_readRange_89 L xs Q _ _ _ h
set_option maxRecDepth 100000 in
set_option maxHeartbeats 4000000 in
theorem sR_readRange_59 (L : Nat) (xs : Nat → Int32) (Q : Int → e3_H → e3_G → Prop) (l1 : Int) (l2 : Int) (l3 : Int) (l4 : Int) (H : e3_H) (G : e3_G) (h : wR_readRange_59 Q l1 l2 l3 l4 H G) : e3_Ev (wB L xs) 2 43 62 59 [(2, 14), (2, l1), (0, l2), (0, l3), (0, l4)] [] H G (e3_q0 Q) := by
  unfold wR_readRange_59 at h
  refine e3_K [0, 0, 0, 0, 0] 65 [(2, 14), (2, l1), (0, l2), (0, l3), (0, l4)] [(1, l4), (1, l3), (2, l1)] (H) (G) (wZ L xs) (M := tbM62) rfl rfl trivial ?_
  obtain ⟨oz, h⟩ := h
  refine e3_call (o := 1) (k := 64) (M2 := tbM64) (f1 := 0) (w1 := 0) (as := [(2, l1), (1, l3), (1, l4)]) (rest := []) (M := tbM62) rfl rfl rfl oz (Nat.le_of_ble_eq_true rfl) (Nat.le_of_ble_eq_true rfl) (Nat.le_of_ble_eq_true rfl) ?_
  refine e3_mono (sA_want L xs _ _ _ _ _ _ h) (fun r H1 G2 h => ?_)
  obtain ⟨rfl, h⟩ := h
  change e3_Ev _ _ _ _ 68 [(2, 14), (2, l1), (0, l2), (0, l3), (0, l4)] [] H1 G2 _
  refine e3_K [0, 0] 71 [(2, 14), (2, l1), (0, l2), (0, l3), (0, l4)] [(0, l4), (0, l3)] (H1) (G2) (wZ L xs) (M := tbM62) rfl rfl trivial ?_
  refine e3_br (M := tbM62) rfl rfl rfl Iff.rfl (fun hc => ?_) (fun hc => ?_)
  · replace h := h.1 hc
    refine e3_K [0, 0, 0] 78 [(2, 14), (2, l1), (0, l2), (0, l3), (0, l4)] [(0, l2), (0, 7), (2, 14)] (H1) (G2) (wZ L xs) (M := tbM62) rfl rfl trivial ?_
    refine e3_call (o := 0) (k := 65) (M2 := tbM65) (f1 := 0) (w1 := 0) (as := [(2, 14), (0, 7), (0, l2)]) (rest := []) (M := tbM62) rfl rfl rfl trivial (Nat.le_of_ble_eq_true rfl) (Nat.le_of_ble_eq_true rfl) (Nat.le_of_ble_eq_true rfl) ?_
    refine e3_mono (sR_failAt L xs _ _ _ _ _ h) (fun r H4 G5 h => ?_)
    obtain ⟨x6, rfl, h⟩ := h
    change e3_Ev _ _ _ _ 81 [(2, 14), (2, l1), (0, l2), (0, l3), (0, l4)] [(0, x6)] H4 G5 _
    refine e3_br (M := tbM62) rfl rfl rfl Iff.rfl (fun hc => ?_) (fun hc => ?_)
    · replace h := h.1 hc
      refine e3_K [0] 89 [(2, 14), (2, l1), (0, l2), (0, l3), (0, l4)] [(0, 0)] (H4) (G5) (wZ L xs) (M := tbM62) rfl rfl trivial ?_
      refine e3_fgt [false, false, false, false, false] ?_
      exact sR_readRange_89 L xs Q _ _ _ h
    · replace h := h.2 hc
      refine e3_fgt [false, false, false, false, false] ?_
      exact sR_readRange_84 L xs Q _ _ h
  · replace h := h.2 hc
    refine e3_fgt [false, false, false, false, false] ?_
    exact sR_readRange_84 L xs Q _ _ h
set_option maxRecDepth 100000 in
set_option maxHeartbeats 4000000 in
theorem sR_readRange (L : Nat) (xs : Nat → Int32) (Q : Int → e3_H → e3_G → Prop) (l1 : Int) (H : e3_H) (G : e3_G) (h : wR_readRange Q l1 H G) : e3_Ev (wB L xs) 2 43 62 0 [(2, 14), (2, l1), (3, 0), (3, 0), (3, 0)] [] H G (e3_q0 Q) := by
  unfold wR_readRange at h
  refine e3_K [0, 4, 2, 0, 0] 9 [(2, 14), (2, l1), (0, (H 3 8)), (3, 0), (3, 0)] [(2, 14)] (H) (G) (wZ L xs) (M := tbM62) rfl rfl ⟨trivial, trivial, trivial⟩ ?_
  refine e3_call (o := 0) (k := 63) (M2 := tbM63) (f1 := 1) (w1 := 21) (as := [(2, 14)]) (rest := []) (M := tbM62) rfl rfl rfl trivial (Nat.le_of_ble_eq_true rfl) (Nat.le_of_ble_eq_true rfl) (Nat.le_of_ble_eq_true rfl) ?_
  refine e3_mono (sR_readNumber L xs _ _ _ h) (fun r H1 G2 h => ?_)
  obtain ⟨x3, rfl, h⟩ := h
  change e3_Ev _ _ _ _ 12 [(2, 14), (2, l1), (0, (H 3 8)), (3, 0), (3, 0)] [(0, x3)] H1 G2 _
  refine e3_K [0, 0, 2] 16 [(2, 14), (2, l1), (0, (H 3 8)), (0, x3), (3, 0)] [(0, ((-2147483648 : Int32).toInt)), (0, x3)] (H1) (G2) (wZ L xs) (M := tbM62) rfl rfl ⟨trivial, trivial⟩ ?_
  refine e3_br (M := tbM62) rfl rfl rfl Iff.rfl (fun hc => ?_) (fun hc => ?_)
  · replace h := h.1 hc
    refine e3_K [0] 20 [(2, 14), (2, l1), (0, (H 3 8)), (0, x3), (3, 0)] [(0, 0)] (H1) (G2) (wZ L xs) (M := tbM62) rfl rfl trivial ?_
    exact e3_retb (M := tbM62) rfl rfl rfl (Or.inl rfl) ⟨_, rfl, h⟩
  · replace h := h.2 hc
    refine e3_K [0, 0, 0, 4, 2, 0] 34 [(2, 14), (2, l1), (0, (H 3 8)), (0, x3), (0, x3)] [(0, 262), (0, (H1 3 7))] (H1) (G2) (wZ L xs) (M := tbM62) rfl rfl ⟨trivial, trivial, trivial⟩ ?_
    refine e3_br (M := tbM62) rfl rfl rfl Iff.rfl (fun hc => ?_) (fun hc => ?_)
    · replace h := h.1 hc
      refine e3_K [0, 4] 41 [(2, 14), (2, l1), (0, (H 3 8)), (0, x3), (0, x3)] [(2, 3)] (H1) (G2) (wZ L xs) (M := tbM62) rfl rfl ⟨trivial, trivial⟩ ?_
      refine e3_call (o := 0) (k := 25) (M2 := tbM25) (f1 := 0) (w1 := 0) (as := [(2, 3)]) (rest := []) (M := tbM62) rfl rfl rfl trivial (Nat.le_of_ble_eq_true rfl) (Nat.le_of_ble_eq_true rfl) (Nat.le_of_ble_eq_true rfl) ?_
      refine e3_mono (sT_step L xs _ _ _ h) (fun r H4 G5 h => ?_)
      obtain ⟨rfl, h⟩ := h
      change e3_Ev _ _ _ _ 44 [(2, 14), (2, l1), (0, (H 3 8)), (0, x3), (0, x3)] [] H4 G5 _
      refine e3_K [0] 45 [(2, 14), (2, l1), (0, (H 3 8)), (0, x3), (0, x3)] [(2, 14)] (H4) (G5) (wZ L xs) (M := tbM62) rfl rfl trivial ?_
      refine e3_call (o := 0) (k := 63) (M2 := tbM63) (f1 := 1) (w1 := 21) (as := [(2, 14)]) (rest := []) (M := tbM62) rfl rfl rfl trivial (Nat.le_of_ble_eq_true rfl) (Nat.le_of_ble_eq_true rfl) (Nat.le_of_ble_eq_true rfl) ?_
      refine e3_mono (sR_readNumber L xs _ _ _ h) (fun r H7 G8 h => ?_)
      obtain ⟨x9, rfl, h⟩ := h
      change e3_Ev _ _ _ _ 48 [(2, 14), (2, l1), (0, (H 3 8)), (0, x3), (0, x3)] [(0, x9)] H7 G8 _
      refine e3_K [0, 0, 2] 54 [(2, 14), (2, l1), (0, (H 3 8)), (0, x3), (0, x9)] [(0, ((-2147483648 : Int32).toInt)), (0, x9)] (H7) (G8) (wZ L xs) (M := tbM62) rfl rfl ⟨trivial, trivial⟩ ?_
      refine e3_br (M := tbM62) rfl rfl rfl Iff.rfl (fun hc => ?_) (fun hc => ?_)
      · replace h := h.1 hc
        refine e3_K [0] 58 [(2, 14), (2, l1), (0, (H 3 8)), (0, x3), (0, x9)] [(0, 0)] (H7) (G8) (wZ L xs) (M := tbM62) rfl rfl trivial ?_
        exact e3_retb (M := tbM62) rfl rfl rfl (Or.inl rfl) ⟨_, rfl, h⟩
      · replace h := h.2 hc
        exact sR_readRange_59 L xs Q _ _ _ _ _ _ h
    · replace h := h.2 hc
      exact sR_readRange_59 L xs Q _ _ _ _ _ _ h
/-- LetterPost$Pattern.wantKind(I)V -/
def wA_wantKind (Q : e3_H → e3_G → Prop) (l0 : Int) (l1 : Int) (H : e3_H) (G : e3_G) : Prop :=
  (e3_ob G 10 l0) ∧ ∀ H1 : e3_H, H1 = e3_up H l0 0 2 → (e3_ob G 10 l0) ∧ ∀ H3 : e3_H, H3 = e3_up H1 l0 3 l1 → (e3_ob G 10 l0) ∧ ∀ H5 : e3_H, H5 = e3_up H3 l0 4 l1 → Q H5 G
set_option maxRecDepth 100000 in
set_option maxHeartbeats 4000000 in
theorem sA_wantKind (L : Nat) (xs : Nat → Int32) (Q : e3_H → e3_G → Prop) (l0 : Int) (l1 : Int) (H : e3_H) (G : e3_G) (h : wA_wantKind Q l0 l1 H G) : e3_Ev (wB L xs) 0 0 67 0 [(2, l0), (0, l1)] [] H G (e3_qv Q) := by
  unfold wA_wantKind at h
  obtain ⟨o2, h⟩ := h
  refine e3_K [0, 0, 3] 5 [(2, l0), (0, l1)] [] (e3_up H l0 0 2) (G) (wZ L xs) (M := tbM67) rfl rfl ⟨⟨o2, trivial⟩, trivial⟩ ?_
  generalize hH1 : (e3_up H l0 0 2) = H1
  replace h := h H1 hH1.symm
  obtain ⟨o4, h⟩ := h
  refine e3_K [0, 0, 0, 3] 11 [(2, l0), (0, l1)] [] (e3_up H1 l0 3 l1) (G) (wZ L xs) (M := tbM67) rfl rfl ⟨⟨o4, trivial⟩, trivial⟩ ?_
  generalize hH3 : (e3_up H1 l0 3 l1) = H3
  replace h := h H3 hH3.symm
  obtain ⟨o6, h⟩ := h
  refine e3_K [0, 0, 0, 3] 17 [(2, l0), (0, l1)] [] (e3_up H3 l0 4 l1) (G) (wZ L xs) (M := tbM67) rfl rfl ⟨⟨o6, trivial⟩, trivial⟩ ?_
  generalize hH5 : (e3_up H3 l0 4 l1) = H5
  replace h := h H5 hH5.symm
  exact e3_retv (M := tbM67) rfl rfl rfl ⟨rfl, h⟩
/-- LetterPost$Kinds.partSort(II)I -/
def wK_partSort_28 (Q : Int → e3_H → e3_G → Prop) (s0 : Int) (H : e3_H) (G : e3_G) : Prop :=
  Q s0 H G
def wK_partSort_26 (Q : Int → e3_H → e3_G → Prop)  (H : e3_H) (G : e3_G) : Prop :=
  (wK_partSort_28 Q (-4) H G)
def wK_partSort (Q : Int → e3_H → e3_G → Prop) (l1 : Int) (l2 : Int) (H : e3_H) (G : e3_G) : Prop :=
  (((l2 : Int) < 0 → (wK_partSort_26 Q H G)) ∧ (¬ ((l2 : Int) < 0) → (wK_partCount (fun x3 H1 G2 => (((l2 : Int) < x3 → ((0 : Int) ≤ (e3_w32 ((e3_w32 (l1 * 4)) + l2)) ∧ ((e3_w32 ((e3_w32 (l1 * 4)) + l2)) : Int) < 96) ∧ (wK_partSort_28 Q (H1 13 (e3_w32 ((e3_w32 (l1 * 4)) + l2))) H1 G2)) ∧ (¬ ((l2 : Int) < x3) → (wK_partSort_26 Q H1 G2)))) l1 H G)))
set_option maxRecDepth 100000 in
set_option maxHeartbeats 4000000 in
theorem sK_partSort_28 (L : Nat) (xs : Nat → Int32) (Q : Int → e3_H → e3_G → Prop) (s0 : Int) (H : e3_H) (G : e3_G) (h : wK_partSort_28 Q s0 H G) : e3_Ev (wB L xs) 1 21 68 28 [(3, 0), (3, 0), (3, 0)] [(0, s0)] H G (e3_q0 Q) := by
  unfold wK_partSort_28 at h
  exact e3_reti (M := tbM68) rfl rfl rfl ⟨_, rfl, h⟩
set_option maxRecDepth 100000 in
set_option maxHeartbeats 4000000 in
theorem sK_partSort_26 (L : Nat) (xs : Nat → Int32) (Q : Int → e3_H → e3_G → Prop)  (H : e3_H) (G : e3_G) (h : wK_partSort_26 Q  H G) : e3_Ev (wB L xs) 1 21 68 26 [(3, 0), (3, 0), (3, 0)] [] H G (e3_q0 Q) := by
  unfold wK_partSort_26 at h
  refine e3_K [0] 28 [(3, 0), (3, 0), (3, 0)] [(0, (-4))] (H) (G) (wZ L xs) (M := tbM68) rfl rfl trivial ?_
  exact sK_partSort_28 L xs Q _ _ _ h
set_option maxRecDepth 100000 in
set_option maxHeartbeats 4000000 in
theorem sK_partSort (L : Nat) (xs : Nat → Int32) (Q : Int → e3_H → e3_G → Prop) (l1 : Int) (l2 : Int) (H : e3_H) (G : e3_G) (h : wK_partSort Q l1 l2 H G) : e3_Ev (wB L xs) 1 21 68 0 [(2, 8), (0, l1), (0, l2)] [] H G (e3_q0 Q) := by
  unfold wK_partSort at h
  refine e3_K [0] 1 [(2, 8), (0, l1), (0, l2)] [(0, l2)] (H) (G) (wZ L xs) (M := tbM68) rfl rfl trivial ?_
  refine e3_br (M := tbM68) rfl rfl rfl Iff.rfl (fun hc => ?_) (fun hc => ?_)
  · replace h := h.1 hc
    refine e3_fgt [false, false, false] ?_
    exact sK_partSort_26 L xs Q _ _ h
  · replace h := h.2 hc
    refine e3_K [0, 0, 0] 7 [(2, 8), (0, l1), (0, l2)] [(0, l1), (2, 8), (0, l2)] (H) (G) (wZ L xs) (M := tbM68) rfl rfl trivial ?_
    refine e3_call (o := 0) (k := 31) (M2 := tbM31) (f1 := 0) (w1 := 0) (as := [(2, 8), (0, l1)]) (rest := [(0, l2)]) (M := tbM68) rfl rfl rfl trivial (Nat.le_of_ble_eq_true rfl) (Nat.le_of_ble_eq_true rfl) (Nat.le_of_ble_eq_true rfl) ?_
    refine e3_mono (sK_partCount L xs _ _ _ _ h) (fun r H1 G2 h => ?_)
    obtain ⟨x3, rfl, h⟩ := h
    change e3_Ev _ _ _ _ 10 [(2, 8), (0, l1), (0, l2)] [(0, x3), (0, l2)] H1 G2 _
    refine e3_br (M := tbM68) rfl rfl rfl Iff.rfl (fun hc => ?_) (fun hc => ?_)
    · replace h := h.1 hc
      obtain ⟨o4, h⟩ := h
      refine e3_K [0, 4, 0, 0, 0, 0, 0, 2, 0] 28 [(2, 8), (0, l1), (0, l2)] [(0, (H1 13 (e3_w32 ((e3_w32 (l1 * 4)) + l2))))] (H1) (G2) (wZ L xs) (M := tbM68) rfl rfl ⟨trivial, o4, trivial⟩ ?_
      refine e3_fgt [false, false, false] ?_
      exact sK_partSort_28 L xs Q _ _ _ h
    · replace h := h.2 hc
      refine e3_fgt [false, false, false] ?_
      exact sK_partSort_26 L xs Q _ _ h
/-- LetterPost$Pattern.hang(LLetterPost$Pattern;LLetterPost$Pattern;)LLetterPost$Pattern; -/
def wA_hang_17 (Q : Int → e3_H → e3_G → Prop) (l1 : Int) (H : e3_H) (G : e3_G) : Prop :=
  Q l1 H G
def wA_hang (Q : Int → e3_H → e3_G → Prop) (l0 : Int) (l1 : Int) (l2 : Int) (H : e3_H) (G : e3_G) : Prop :=
  (((l2 : Int) < 0 → (e3_ob G 10 l0) ∧ ∀ H1 : e3_H, H1 = e3_up H l0 7 l1 → (wA_hang_17 Q l1 H1 G)) ∧ (¬ ((l2 : Int) < 0) → (e3_ob G 10 l2) ∧ ∀ H3 : e3_H, H3 = e3_up H l2 8 l1 → (wA_hang_17 Q l1 H3 G)))
set_option maxRecDepth 100000 in
set_option maxHeartbeats 4000000 in
theorem sA_hang_17 (L : Nat) (xs : Nat → Int32) (Q : Int → e3_H → e3_G → Prop) (l1 : Int) (H : e3_H) (G : e3_G) (h : wA_hang_17 Q l1 H G) : e3_Ev (wB L xs) 0 0 69 17 [(3, 0), (2, l1), (3, 0)] [] H G (e3_q2 Q) := by
  unfold wA_hang_17 at h
  refine e3_K [0] 18 [(3, 0), (2, l1), (3, 0)] [(2, l1)] (H) (G) (wZ L xs) (M := tbM69) rfl rfl trivial ?_
  exact e3_reta (M := tbM69) rfl rfl rfl ⟨_, rfl, h⟩
set_option maxRecDepth 100000 in
set_option maxHeartbeats 4000000 in
theorem sA_hang (L : Nat) (xs : Nat → Int32) (Q : Int → e3_H → e3_G → Prop) (l0 : Int) (l1 : Int) (l2 : Int) (H : e3_H) (G : e3_G) (h : wA_hang Q l0 l1 l2 H G) : e3_Ev (wB L xs) 0 0 69 0 [(2, l0), (2, l1), (2, l2)] [] H G (e3_q2 Q) := by
  unfold wA_hang at h
  refine e3_K [0] 1 [(2, l0), (2, l1), (2, l2)] [(2, l2)] (H) (G) (wZ L xs) (M := tbM69) rfl rfl trivial ?_
  refine e3_br (M := tbM69) rfl rfl rfl Iff.rfl (fun hc => ?_) (fun hc => ?_)
  · replace h := h.1 hc
    obtain ⟨o2, h⟩ := h
    refine e3_K [0, 0, 3] 9 [(2, l0), (2, l1), (2, l2)] [] (e3_up H l0 7 l1) (G) (wZ L xs) (M := tbM69) rfl rfl ⟨⟨o2, trivial⟩, trivial⟩ ?_
    generalize hH1 : (e3_up H l0 7 l1) = H1
    replace h := h H1 hH1.symm
    refine e3_K [0] 17 [(2, l0), (2, l1), (2, l2)] [] (H1) (G) (wZ L xs) (M := tbM69) rfl rfl trivial ?_
    refine e3_fgt [false, true, false] ?_
    exact sA_hang_17 L xs Q _ _ _ h
  · replace h := h.2 hc
    obtain ⟨o4, h⟩ := h
    refine e3_K [0, 0, 3] 17 [(2, l0), (2, l1), (2, l2)] [] (e3_up H l2 8 l1) (G) (wZ L xs) (M := tbM69) rfl rfl ⟨⟨o4, trivial⟩, trivial⟩ ?_
    generalize hH3 : (e3_up H l2 8 l1) = H3
    replace h := h H3 hH3.symm
    refine e3_fgt [false, true, false] ?_
    exact sA_hang_17 L xs Q _ _ _ h
/-- LetterPost$Pattern.chainWays(LLetterPost$Pattern;)I -/
def wA_chainWays_4 (Q : Int → e3_H → e3_G → Prop) : Nat → Int → Int → e3_H → e3_G → Prop
  | 0, _, _, _, _ => False
  | nn + 1, l1, l2, H, G => (((l2 : Int) < 0 → Q l1 H G) ∧ (¬ ((l2 : Int) < 0) → (e3_ob G 10 l2) ∧ (wJ_min_II (fun x4 H2 G3 => (e3_ob G3 10 l2) ∧ (wA_chainWays_4 Q nn x4 (H2 l2 8) H2 G3)) 10000 (e3_w32 (l1 * (H l2 9))) H G)))
def wA_chainWays (Q : Int → e3_H → e3_G → Prop) (l0 : Int) (H : e3_H) (G : e3_G) : Prop :=
  (∃ n, wA_chainWays_4 Q n 1 l0 H G)
set_option maxRecDepth 100000 in
set_option maxHeartbeats 4000000 in
theorem sA_chainWays_4 (L : Nat) (xs : Nat → Int32) (Q : Int → e3_H → e3_G → Prop) : ∀ (nl : Nat) (l1 : Int) (l2 : Int) (H : e3_H) (G : e3_G), wA_chainWays_4 Q nl l1 l2 H G → e3_Ev (wB L xs) 1 21 70 4 [(3, 0), (0, l1), (2, l2)] [] H G (e3_q0 Q) := by
  intro nl
  induction nl with
  | zero => intro l1 l2 H G h; exact h.elim
  | succ nn ih =>
    intro l1 l2 H G h
    have h : (((l2 : Int) < 0 → Q l1 H G) ∧ (¬ ((l2 : Int) < 0) → (e3_ob G 10 l2) ∧ (wJ_min_II (fun x4 H2 G3 => (e3_ob G3 10 l2) ∧ (wA_chainWays_4 Q nn x4 (H2 l2 8) H2 G3)) 10000 (e3_w32 (l1 * (H l2 9))) H G))) := h
    refine e3_K [0] 5 [(3, 0), (0, l1), (2, l2)] [(2, l2)] (H) (G) (wZ L xs) (M := tbM70) rfl rfl trivial ?_
    refine e3_br (M := tbM70) rfl rfl rfl Iff.rfl (fun hc => ?_) (fun hc => ?_)
    · replace h := h.1 hc
      refine e3_K [0] 30 [(3, 0), (0, l1), (2, l2)] [(0, l1)] (H) (G) (wZ L xs) (M := tbM70) rfl rfl trivial ?_
      exact e3_reti (M := tbM70) rfl rfl rfl ⟨_, rfl, h⟩
    · replace h := h.2 hc
      obtain ⟨o1, h⟩ := h
      refine e3_K [0, 0, 0, 3, 0] 17 [(3, 0), (0, l1), (2, l2)] [(0, (e3_w32 (l1 * (H l2 9)))), (0, 10000)] (H) (G) (wZ L xs) (M := tbM70) rfl rfl ⟨o1, trivial⟩ ?_
      refine e3_call (o := 0) (k := 303) (M2 := tbM303) (f1 := 0) (w1 := 0) (as := [(0, 10000), (0, (e3_w32 (l1 * (H l2 9))))]) (rest := []) (M := tbM70) rfl rfl rfl trivial (Nat.le_of_ble_eq_true rfl) (Nat.le_of_ble_eq_true rfl) (Nat.le_of_ble_eq_true rfl) ?_
      refine e3_mono (sJ_min_II L xs _ _ _ _ _ h) (fun r H2 G3 h => ?_)
      obtain ⟨x4, rfl, h⟩ := h
      change e3_Ev _ _ _ _ 20 [(3, 0), (0, l1), (2, l2)] [(0, x4)] H2 G3 _
      obtain ⟨o5, h⟩ := h
      refine e3_K [0, 0, 3, 0, 0] 4 [(3, 0), (0, x4), (2, (H2 l2 8))] [] (H2) (G3) (wZ L xs) (M := tbM70) rfl rfl ⟨o5, trivial⟩ ?_
      exact ih _ _ _ _ h
set_option maxRecDepth 100000 in
set_option maxHeartbeats 4000000 in
theorem sA_chainWays (L : Nat) (xs : Nat → Int32) (Q : Int → e3_H → e3_G → Prop) (l0 : Int) (H : e3_H) (G : e3_G) (h : wA_chainWays Q l0 H G) : e3_Ev (wB L xs) 1 21 70 0 [(2, l0), (3, 0), (3, 0)] [] H G (e3_q0 Q) := by
  unfold wA_chainWays at h
  refine e3_K [0, 0, 0, 0] 4 [(2, l0), (0, 1), (2, l0)] [] (H) (G) (wZ L xs) (M := tbM70) rfl rfl trivial ?_
  refine e3_fgt [false, true, true] ?_
  obtain ⟨nl, h⟩ := h
  exact sA_chainWays_4 L xs Q nl _ _ _ _ h
/-- LetterPost$Reader.readKindPattern(LLetterPost$Pattern;I)Z -/
def wR_readKindPattern_191 (R : Int → Int → Int → Int → e3_H → e3_G → (Int → e3_H → e3_G → Prop) → Prop) (Q : Int → e3_H → e3_G → Prop) (s0 : Int) (H : e3_H) (G : e3_G) : Prop :=
  ((s0 : Int) = 0 ∨ s0 = 1) ∧ Q s0 H G
def wR_readKindPattern_97 (R : Int → Int → Int → Int → e3_H → e3_G → (Int → e3_H → e3_G → Prop) → Prop) (Q : Int → e3_H → e3_G → Prop) (k76 : Int → Int → Int → Int → Int → Int → e3_H → e3_G → Prop) (l1 : Int) (l2 : Int) (l3 : Int) (l4 : Int) (l5 : Int) (l6 : Int) (H : e3_H) (G : e3_G) : Prop :=
  (wK_partSort (fun x3 H1 G2 => (e3_ob G2 10 l1) ∧ (e3_ob G2 8 (H1 14 6)) ∧ (wF_placeIn (fun x7 H5 G6 => (R x3 x7 (e3_w32 (l2 + 1)) 0 H5 G6 (fun x10 H8 G9 => (((x10 : Int) < 0 → Q 0 H8 G9) ∧ (¬ ((x10 : Int) < 0) → (e3_ob G9 10 l1) ∧ (wA_hang (fun x13 H11 G12 => (k76 l1 l2 l3 l4 x13 (e3_w32 (l6 + 1)) H11 G12)) l1 x10 l5 H8 G9)))))) (H1 14 6) (H1 l1 2) l6 H1 G2)) l3 l6 H G)
def wR_readKindPattern_76 (R : Int → Int → Int → Int → e3_H → e3_G → (Int → e3_H → e3_G → Prop) → Prop) (Q : Int → e3_H → e3_G → Prop) : Nat → Int → Int → Int → Int → Int → Int → e3_H → e3_G → Prop
  | 0, _, _, _, _, _, _, _, _ => False
  | nn + 1, l1, l2, l3, l4, l5, l6, H, G => (((l6 : Int) < l4 → (((0 : Int) < l6 → (wR_readComma (fun x3 H1 G2 => (((x3 : Int) = 0 → Q 0 H1 G2) ∧ (¬ ((x3 : Int) = 0) → (wR_readKindPattern_97 R Q (fun l1 l2 l3 l4 l5 l6 H G => wR_readKindPattern_76 R Q nn l1 l2 l3 l4 l5 l6 H G) l1 l2 l3 l4 l5 l6 H1 G2)))) H G)) ∧ (¬ ((0 : Int) < l6) → (wR_readKindPattern_97 R Q (fun l1 l2 l3 l4 l5 l6 H G => wR_readKindPattern_76 R Q nn l1 l2 l3 l4 l5 l6 H G) l1 l2 l3 l4 l5 l6 H G)))) ∧ (¬ ((l6 : Int) < l4) → (e3_ob G 10 l1) ∧ (wA_chainWays (fun x7 H5 G6 => (e3_ob G6 10 l1) ∧ ∀ H8 : e3_H, H8 = e3_up H5 l1 9 x7 → ((((H8 3 7) : Int) = 44 → (wR_failHere (fun x12 H10 G11 => (wR_readKindPattern_191 R Q x12 H10 G11)) 6 H8 G6)) ∧ (¬ (((H8 3 7) : Int) = 44) → (wR_expect (fun x15 H13 G14 => (wR_readKindPattern_191 R Q x15 H13 G14)) 41 H8 G6)))) (H l1 7) H G)))
def wR_readKindPattern (R : Int → Int → Int → Int → e3_H → e3_G → (Int → e3_H → e3_G → Prop) → Prop) (Q : Int → e3_H → e3_G → Prop) (l1 : Int) (l2 : Int) (H : e3_H) (G : e3_G) : Prop :=
  (wK_find (fun x3 H1 G2 => (e3_ob G2 10 l1) ∧ (wA_wantKind (fun H4 G5 => (wT_step (fun H7 G8 => ((((H7 3 7) : Int) = 40 → (wK_partCount (fun x12 H10 G11 => (((x12 : Int) = 0 → (wR_failHere (fun x15 H13 G14 => ((x15 : Int) = 0 ∨ x15 = 1) ∧ Q x15 H13 G14) 6 H10 G11)) ∧ (¬ ((x12 : Int) = 0) → (wT_step (fun H16 G17 => (∃ n, wR_readKindPattern_76 R Q n l1 l2 x3 x12 (-1) 0 H16 G17)) H10 G11)))) x3 H7 G8)) ∧ (¬ (((H7 3 7) : Int) = 40) → Q 1 H7 G8))) H4 G5)) l1 x3 H1 G2)) (H 3 9) H G)
set_option maxRecDepth 100000 in
set_option maxHeartbeats 4000000 in
theorem sR_readKindPattern_191 (L : Nat) (xs : Nat → Int32) (n : Nat) (R : Int → Int → Int → Int → e3_H → e3_G → (Int → e3_H → e3_G → Prop) → Prop) (hR : ∀ (l1 : Int) (l2 : Int) (l3 : Int) (l4 : Int) (H : e3_H) (G : e3_G) (Q : Int → e3_H → e3_G → Prop), R l1 l2 l3 l4 H G Q → e3_Ev (wB L xs) (4 + 3 * n) (144 + 77 * n) 49 0 [(2, 14), (0, l1), (0, l2), (0, l3), (0, l4), (3, 0), (3, 0), (3, 0)] [] H G (e3_q2 Q)) (Q : Int → e3_H → e3_G → Prop) (s0 : Int) (H : e3_H) (G : e3_G) (h : wR_readKindPattern_191 R Q s0 H G) : e3_Ev (wB L xs) (5 + 3 * n) (171 + 77 * n) 66 191 [(3, 0), (3, 0), (3, 0), (3, 0), (3, 0), (3, 0), (3, 0), (3, 0)] [(0, s0)] H G (e3_q0 Q) := by
  unfold wR_readKindPattern_191 at h
  exact e3_retb (M := tbM66) rfl rfl rfl h.1 ⟨_, rfl, h.2⟩
set_option maxRecDepth 100000 in
set_option maxHeartbeats 4000000 in
theorem sR_readKindPattern_97 (L : Nat) (xs : Nat → Int32) (n : Nat) (R : Int → Int → Int → Int → e3_H → e3_G → (Int → e3_H → e3_G → Prop) → Prop) (hR : ∀ (l1 : Int) (l2 : Int) (l3 : Int) (l4 : Int) (H : e3_H) (G : e3_G) (Q : Int → e3_H → e3_G → Prop), R l1 l2 l3 l4 H G Q → e3_Ev (wB L xs) (4 + 3 * n) (144 + 77 * n) 49 0 [(2, 14), (0, l1), (0, l2), (0, l3), (0, l4), (3, 0), (3, 0), (3, 0)] [] H G (e3_q2 Q)) (Q : Int → e3_H → e3_G → Prop) (k76 : Int → Int → Int → Int → Int → Int → e3_H → e3_G → Prop) (hk76 : ∀ (l1 : Int) (l2 : Int) (l3 : Int) (l4 : Int) (l5 : Int) (l6 : Int) (H : e3_H) (G : e3_G), k76 l1 l2 l3 l4 l5 l6 H G → e3_Ev (wB L xs) (5 + 3 * n) (171 + 77 * n) 66 76 [(2, 14), (2, l1), (0, l2), (0, l3), (0, l4), (2, l5), (0, l6), (3, 0)] [] H G (e3_q0 Q)) (l1 : Int) (l2 : Int) (l3 : Int) (l4 : Int) (l5 : Int) (l6 : Int) (H : e3_H) (G : e3_G) (h : wR_readKindPattern_97 R Q k76 l1 l2 l3 l4 l5 l6 H G) : e3_Ev (wB L xs) (5 + 3 * n) (171 + 77 * n) 66 97 [(2, 14), (2, l1), (0, l2), (0, l3), (0, l4), (2, l5), (0, l6), (3, 0)] [] H G (e3_q0 Q) := by
  unfold wR_readKindPattern_97 at h
  refine e3_K [0, 0, 4, 0, 0] 105 [(2, 14), (2, l1), (0, l2), (0, l3), (0, l4), (2, l5), (0, l6), (3, 0)] [(0, l6), (0, l3), (2, 8), (2, 14)] (H) (G) (wZ L xs) (M := tbM66) rfl rfl ⟨trivial, trivial⟩ ?_
  refine e3_call (o := 0) (k := 68) (M2 := tbM68) (f1 := 1) (w1 := 21) (as := [(2, 8), (0, l3), (0, l6)]) (rest := [(2, 14)]) (M := tbM66) rfl rfl rfl trivial (by omega) (by show 21 + (19 + 3) ≤ (171 + 77 * n); omega) (Nat.le_of_ble_eq_true rfl) ?_
  refine e3_mono (sK_partSort L xs _ _ _ _ _ h) (fun r H1 G2 h => ?_)
  obtain ⟨x3, rfl, h⟩ := h
  change e3_Ev _ _ _ _ 108 [(2, 14), (2, l1), (0, l2), (0, l3), (0, l4), (2, l5), (0, l6), (3, 0)] [(0, x3), (2, 14)] H1 G2 _
  obtain ⟨o4, h⟩ := h
  refine e3_K [0, 2, 0, 3, 0] 118 [(2, 14), (2, l1), (0, l2), (0, l3), (0, l4), (2, l5), (0, l6), (3, 0)] [(0, l6), (0, (H1 l1 2)), (2, (H1 14 6)), (0, x3), (2, 14)] (H1) (G2) (wZ L xs) (M := tbM66) rfl rfl ⟨trivial, o4, trivial⟩ ?_
  obtain ⟨oz, h⟩ := h
  refine e3_call (o := 1) (k := 44) (M2 := tbM44) (f1 := 2) (w1 := 102) (as := [(2, (H1 14 6)), (0, (H1 l1 2)), (0, l6)]) (rest := [(0, x3), (2, 14)]) (M := tbM66) rfl rfl rfl oz (by omega) (by show 102 + (19 + 4) ≤ (171 + 77 * n); omega) (Nat.le_of_ble_eq_true rfl) ?_
  refine e3_mono (sF_placeIn L xs _ _ _ _ _ _ h) (fun r H5 G6 h => ?_)
  obtain ⟨x7, rfl, h⟩ := h
  change e3_Ev _ _ _ _ 121 [(2, 14), (2, l1), (0, l2), (0, l3), (0, l4), (2, l5), (0, l6), (3, 0)] [(0, x7), (0, x3), (2, 14)] H5 G6 _
  refine e3_K [0, 0, 0, 0] 125 [(2, 14), (2, l1), (0, l2), (0, l3), (0, l4), (2, l5), (0, l6), (3, 0)] [(0, 0), (0, (e3_w32 (l2 + 1))), (0, x7), (0, x3), (2, 14)] (H5) (G6) (wZ L xs) (M := tbM66) rfl rfl trivial ?_
  refine e3_call (o := 0) (k := 49) (M2 := tbM49) (f1 := (4 + 3 * n)) (w1 := (144 + 77 * n)) (as := [(2, 14), (0, x3), (0, x7), (0, (e3_w32 (l2 + 1))), (0, 0)]) (rest := []) (M := tbM66) rfl rfl rfl trivial (by omega) (by show (144 + 77 * n) + (19 + 8) ≤ (171 + 77 * n); omega) (Nat.le_of_ble_eq_true rfl) ?_
  refine e3_mono (hR _ _ _ _ _ _ _ h) (fun r H8 G9 h => ?_)
  obtain ⟨x10, rfl, h⟩ := h
  change e3_Ev _ _ _ _ 128 [(2, 14), (2, l1), (0, l2), (0, l3), (0, l4), (2, l5), (0, l6), (3, 0)] [(2, x10)] H8 G9 _
  refine e3_K [0, 0] 132 [(2, 14), (2, l1), (0, l2), (0, l3), (0, l4), (2, l5), (0, l6), (2, x10)] [(2, x10)] (H8) (G9) (wZ L xs) (M := tbM66) rfl rfl trivial ?_
  refine e3_br (M := tbM66) rfl rfl rfl Iff.rfl (fun hc => ?_) (fun hc => ?_)
  · replace h := h.1 hc
    refine e3_K [0] 136 [(2, 14), (2, l1), (0, l2), (0, l3), (0, l4), (2, l5), (0, l6), (2, x10)] [(0, 0)] (H8) (G9) (wZ L xs) (M := tbM66) rfl rfl trivial ?_
    exact e3_retb (M := tbM66) rfl rfl rfl (Or.inl rfl) ⟨_, rfl, h⟩
  · replace h := h.2 hc
    refine e3_K [0, 0, 0] 142 [(2, 14), (2, l1), (0, l2), (0, l3), (0, l4), (2, l5), (0, l6), (2, x10)] [(2, l5), (2, x10), (2, l1)] (H8) (G9) (wZ L xs) (M := tbM66) rfl rfl trivial ?_
    obtain ⟨oz, h⟩ := h
    refine e3_call (o := 1) (k := 69) (M2 := tbM69) (f1 := 0) (w1 := 0) (as := [(2, l1), (2, x10), (2, l5)]) (rest := []) (M := tbM66) rfl rfl rfl oz (by omega) (by show 0 + (19 + 3) ≤ (171 + 77 * n); omega) (Nat.le_of_ble_eq_true rfl) ?_
    refine e3_mono (sA_hang L xs _ _ _ _ _ _ h) (fun r H11 G12 h => ?_)
    obtain ⟨x13, rfl, h⟩ := h
    change e3_Ev _ _ _ _ 145 [(2, 14), (2, l1), (0, l2), (0, l3), (0, l4), (2, l5), (0, l6), (2, x10)] [(2, x13)] H11 G12 _
    refine e3_K [0, 0, 0] 76 [(2, 14), (2, l1), (0, l2), (0, l3), (0, l4), (2, x13), (0, (e3_w32 (l6 + 1))), (2, x10)] [] (H11) (G12) (wZ L xs) (M := tbM66) rfl rfl trivial ?_
    refine e3_fgt [true, true, true, true, true, true, true, false] ?_
    exact hk76 _ _ _ _ _ _ _ _ h
set_option maxRecDepth 100000 in
set_option maxHeartbeats 4000000 in
theorem sR_readKindPattern_76 (L : Nat) (xs : Nat → Int32) (n : Nat) (R : Int → Int → Int → Int → e3_H → e3_G → (Int → e3_H → e3_G → Prop) → Prop) (hR : ∀ (l1 : Int) (l2 : Int) (l3 : Int) (l4 : Int) (H : e3_H) (G : e3_G) (Q : Int → e3_H → e3_G → Prop), R l1 l2 l3 l4 H G Q → e3_Ev (wB L xs) (4 + 3 * n) (144 + 77 * n) 49 0 [(2, 14), (0, l1), (0, l2), (0, l3), (0, l4), (3, 0), (3, 0), (3, 0)] [] H G (e3_q2 Q)) (Q : Int → e3_H → e3_G → Prop) : ∀ (nl : Nat) (l1 : Int) (l2 : Int) (l3 : Int) (l4 : Int) (l5 : Int) (l6 : Int) (H : e3_H) (G : e3_G), wR_readKindPattern_76 R Q nl l1 l2 l3 l4 l5 l6 H G → e3_Ev (wB L xs) (5 + 3 * n) (171 + 77 * n) 66 76 [(2, 14), (2, l1), (0, l2), (0, l3), (0, l4), (2, l5), (0, l6), (3, 0)] [] H G (e3_q0 Q) := by
  intro nl
  induction nl with
  | zero => intro l1 l2 l3 l4 l5 l6 H G h; exact h.elim
  | succ nn ih =>
    intro l1 l2 l3 l4 l5 l6 H G h
    have h : (((l6 : Int) < l4 → (((0 : Int) < l6 → (wR_readComma (fun x3 H1 G2 => (((x3 : Int) = 0 → Q 0 H1 G2) ∧ (¬ ((x3 : Int) = 0) → (wR_readKindPattern_97 R Q (fun l1 l2 l3 l4 l5 l6 H G => wR_readKindPattern_76 R Q nn l1 l2 l3 l4 l5 l6 H G) l1 l2 l3 l4 l5 l6 H1 G2)))) H G)) ∧ (¬ ((0 : Int) < l6) → (wR_readKindPattern_97 R Q (fun l1 l2 l3 l4 l5 l6 H G => wR_readKindPattern_76 R Q nn l1 l2 l3 l4 l5 l6 H G) l1 l2 l3 l4 l5 l6 H G)))) ∧ (¬ ((l6 : Int) < l4) → (e3_ob G 10 l1) ∧ (wA_chainWays (fun x7 H5 G6 => (e3_ob G6 10 l1) ∧ ∀ H8 : e3_H, H8 = e3_up H5 l1 9 x7 → ((((H8 3 7) : Int) = 44 → (wR_failHere (fun x12 H10 G11 => (wR_readKindPattern_191 R Q x12 H10 G11)) 6 H8 G6)) ∧ (¬ (((H8 3 7) : Int) = 44) → (wR_expect (fun x15 H13 G14 => (wR_readKindPattern_191 R Q x15 H13 G14)) 41 H8 G6)))) (H l1 7) H G))) := h
    refine e3_K [0, 0] 80 [(2, 14), (2, l1), (0, l2), (0, l3), (0, l4), (2, l5), (0, l6), (3, 0)] [(0, l4), (0, l6)] (H) (G) (wZ L xs) (M := tbM66) rfl rfl trivial ?_
    refine e3_br (M := tbM66) rfl rfl rfl Iff.rfl (fun hc => ?_) (fun hc => ?_)
    · replace h := h.1 hc
      refine e3_K [0] 85 [(2, 14), (2, l1), (0, l2), (0, l3), (0, l4), (2, l5), (0, l6), (3, 0)] [(0, l6)] (H) (G) (wZ L xs) (M := tbM66) rfl rfl trivial ?_
      refine e3_br (M := tbM66) rfl rfl rfl Iff.rfl (fun hc => ?_) (fun hc => ?_)
      · replace h := h.1 hc
        refine e3_K [0] 89 [(2, 14), (2, l1), (0, l2), (0, l3), (0, l4), (2, l5), (0, l6), (3, 0)] [(2, 14)] (H) (G) (wZ L xs) (M := tbM66) rfl rfl trivial ?_
        refine e3_call (o := 0) (k := 48) (M2 := tbM48) (f1 := 1) (w1 := 21) (as := [(2, 14)]) (rest := []) (M := tbM66) rfl rfl rfl trivial (by omega) (by show 21 + (19 + 1) ≤ (171 + 77 * n); omega) (Nat.le_of_ble_eq_true rfl) ?_
        refine e3_mono (sR_readComma L xs _ _ _ h) (fun r H1 G2 h => ?_)
        obtain ⟨x3, rfl, h⟩ := h
        change e3_Ev _ _ _ _ 92 [(2, 14), (2, l1), (0, l2), (0, l3), (0, l4), (2, l5), (0, l6), (3, 0)] [(0, x3)] H1 G2 _
        refine e3_br (M := tbM66) rfl rfl rfl Iff.rfl (fun hc => ?_) (fun hc => ?_)
        · replace h := h.1 hc
          refine e3_K [0] 96 [(2, 14), (2, l1), (0, l2), (0, l3), (0, l4), (2, l5), (0, l6), (3, 0)] [(0, 0)] (H1) (G2) (wZ L xs) (M := tbM66) rfl rfl trivial ?_
          exact e3_retb (M := tbM66) rfl rfl rfl (Or.inl rfl) ⟨_, rfl, h⟩
        · replace h := h.2 hc
          exact sR_readKindPattern_97 L xs n R hR Q (fun l1 l2 l3 l4 l5 l6 H G => wR_readKindPattern_76 R Q nn l1 l2 l3 l4 l5 l6 H G) ih _ _ _ _ _ _ _ _ h
      · replace h := h.2 hc
        exact sR_readKindPattern_97 L xs n R hR Q (fun l1 l2 l3 l4 l5 l6 H G => wR_readKindPattern_76 R Q nn l1 l2 l3 l4 l5 l6 H G) ih _ _ _ _ _ _ _ _ h
    · replace h := h.2 hc
      obtain ⟨o4, h⟩ := h
      refine e3_K [0, 0, 3] 158 [(2, 14), (2, l1), (0, l2), (0, l3), (0, l4), (2, l5), (0, l6), (3, 0)] [(2, (H l1 7)), (2, l1)] (H) (G) (wZ L xs) (M := tbM66) rfl rfl ⟨o4, trivial⟩ ?_
      refine e3_call (o := 0) (k := 70) (M2 := tbM70) (f1 := 1) (w1 := 21) (as := [(2, (H l1 7))]) (rest := [(2, l1)]) (M := tbM66) rfl rfl rfl trivial (by omega) (by show 21 + (19 + 3) ≤ (171 + 77 * n); omega) (Nat.le_of_ble_eq_true rfl) ?_
      refine e3_mono (sA_chainWays L xs _ _ _ _ h) (fun r H5 G6 h => ?_)
      obtain ⟨x7, rfl, h⟩ := h
      change e3_Ev _ _ _ _ 161 [(2, 14), (2, l1), (0, l2), (0, l3), (0, l4), (2, l5), (0, l6), (3, 0)] [(0, x7), (2, l1)] H5 G6 _
      obtain ⟨o9, h⟩ := h
      refine e3_K [3] 164 [(2, 14), (2, l1), (0, l2), (0, l3), (0, l4), (2, l5), (0, l6), (3, 0)] [] (e3_up H5 l1 9 x7) (G6) (wZ L xs) (M := tbM66) rfl rfl ⟨⟨o9, trivial⟩, trivial⟩ ?_
      generalize hH8 : (e3_up H5 l1 9 x7) = H8
      replace h := h H8 hH8.symm
      refine e3_K [0, 4, 2, 0] 173 [(2, 14), (2, l1), (0, l2), (0, l3), (0, l4), (2, l5), (0, l6), (3, 0)] [(0, 44), (0, (H8 3 7))] (H8) (G6) (wZ L xs) (M := tbM66) rfl rfl ⟨trivial, trivial, trivial⟩ ?_
      refine e3_br (M := tbM66) rfl rfl rfl Iff.rfl (fun hc => ?_) (fun hc => ?_)
      · replace h := h.1 hc
        refine e3_K [0, 0] 179 [(2, 14), (2, l1), (0, l2), (0, l3), (0, l4), (2, l5), (0, l6), (3, 0)] [(0, 6), (2, 14)] (H8) (G6) (wZ L xs) (M := tbM66) rfl rfl trivial ?_
        refine e3_call (o := 0) (k := 27) (M2 := tbM27) (f1 := 0) (w1 := 0) (as := [(2, 14), (0, 6)]) (rest := []) (M := tbM66) rfl rfl rfl trivial (by omega) (by show 0 + (19 + 2) ≤ (171 + 77 * n); omega) (Nat.le_of_ble_eq_true rfl) ?_
        refine e3_mono (sR_failHere L xs _ _ _ _ h) (fun r H10 G11 h => ?_)
        obtain ⟨x12, rfl, h⟩ := h
        change e3_Ev _ _ _ _ 182 [(2, 14), (2, l1), (0, l2), (0, l3), (0, l4), (2, l5), (0, l6), (3, 0)] [(0, x12)] H10 G11 _
        refine e3_K [0] 191 [(2, 14), (2, l1), (0, l2), (0, l3), (0, l4), (2, l5), (0, l6), (3, 0)] [(0, x12)] (H10) (G11) (wZ L xs) (M := tbM66) rfl rfl trivial ?_
        refine e3_fgt [false, false, false, false, false, false, false, false] ?_
        exact sR_readKindPattern_191 L xs n R hR Q _ _ _ h
      · replace h := h.2 hc
        refine e3_K [0, 0] 188 [(2, 14), (2, l1), (0, l2), (0, l3), (0, l4), (2, l5), (0, l6), (3, 0)] [(0, 41), (2, 14)] (H8) (G6) (wZ L xs) (M := tbM66) rfl rfl trivial ?_
        refine e3_call (o := 0) (k := 38) (M2 := tbM38) (f1 := 1) (w1 := 21) (as := [(2, 14), (0, 41)]) (rest := []) (M := tbM66) rfl rfl rfl trivial (by omega) (by show 21 + (19 + 2) ≤ (171 + 77 * n); omega) (Nat.le_of_ble_eq_true rfl) ?_
        refine e3_mono (sR_expect L xs _ _ _ _ h) (fun r H13 G14 h => ?_)
        obtain ⟨x15, rfl, h⟩ := h
        change e3_Ev _ _ _ _ 191 [(2, 14), (2, l1), (0, l2), (0, l3), (0, l4), (2, l5), (0, l6), (3, 0)] [(0, x15)] H13 G14 _
        refine e3_fgt [false, false, false, false, false, false, false, false] ?_
        exact sR_readKindPattern_191 L xs n R hR Q _ _ _ h
set_option maxRecDepth 100000 in
set_option maxHeartbeats 4000000 in
theorem sR_readKindPattern (L : Nat) (xs : Nat → Int32) (n : Nat) (R : Int → Int → Int → Int → e3_H → e3_G → (Int → e3_H → e3_G → Prop) → Prop) (hR : ∀ (l1 : Int) (l2 : Int) (l3 : Int) (l4 : Int) (H : e3_H) (G : e3_G) (Q : Int → e3_H → e3_G → Prop), R l1 l2 l3 l4 H G Q → e3_Ev (wB L xs) (4 + 3 * n) (144 + 77 * n) 49 0 [(2, 14), (0, l1), (0, l2), (0, l3), (0, l4), (3, 0), (3, 0), (3, 0)] [] H G (e3_q2 Q)) (Q : Int → e3_H → e3_G → Prop) (l1 : Int) (l2 : Int) (H : e3_H) (G : e3_G) (h : wR_readKindPattern R Q l1 l2 H G) : e3_Ev (wB L xs) (5 + 3 * n) (171 + 77 * n) 66 0 [(2, 14), (2, l1), (0, l2), (3, 0), (3, 0), (3, 0), (3, 0), (3, 0)] [] H G (e3_q0 Q) := by
  unfold wR_readKindPattern at h
  refine e3_K [0, 4, 0, 4, 2] 11 [(2, 14), (2, l1), (0, l2), (3, 0), (3, 0), (3, 0), (3, 0), (3, 0)] [(1, (H 3 9)), (2, 8)] (H) (G) (wZ L xs) (M := tbM66) rfl rfl ⟨trivial, trivial, trivial, trivial⟩ ?_
  refine e3_call (o := 0) (k := 28) (M2 := tbM28) (f1 := 0) (w1 := 0) (as := [(2, 8), (1, (H 3 9))]) (rest := []) (M := tbM66) rfl rfl rfl trivial (by omega) (by show 0 + (19 + 4) ≤ (171 + 77 * n); omega) (Nat.le_of_ble_eq_true rfl) ?_
  refine e3_mono (sK_find L xs _ _ _ _ h) (fun r H1 G2 h => ?_)
  obtain ⟨x3, rfl, h⟩ := h
  change e3_Ev _ _ _ _ 14 [(2, 14), (2, l1), (0, l2), (3, 0), (3, 0), (3, 0), (3, 0), (3, 0)] [(0, x3)] H1 G2 _
  refine e3_K [0, 0, 0] 17 [(2, 14), (2, l1), (0, l2), (0, x3), (3, 0), (3, 0), (3, 0), (3, 0)] [(0, x3), (2, l1)] (H1) (G2) (wZ L xs) (M := tbM66) rfl rfl trivial ?_
  obtain ⟨oz, h⟩ := h
  refine e3_call (o := 1) (k := 67) (M2 := tbM67) (f1 := 0) (w1 := 0) (as := [(2, l1), (0, x3)]) (rest := []) (M := tbM66) rfl rfl rfl oz (by omega) (by show 0 + (19 + 2) ≤ (171 + 77 * n); omega) (Nat.le_of_ble_eq_true rfl) ?_
  refine e3_mono (sA_wantKind L xs _ _ _ _ _ h) (fun r H4 G5 h => ?_)
  obtain ⟨rfl, h⟩ := h
  change e3_Ev _ _ _ _ 20 [(2, 14), (2, l1), (0, l2), (0, x3), (3, 0), (3, 0), (3, 0), (3, 0)] [] H4 G5 _
  refine e3_K [0, 4] 24 [(2, 14), (2, l1), (0, l2), (0, x3), (3, 0), (3, 0), (3, 0), (3, 0)] [(2, 3)] (H4) (G5) (wZ L xs) (M := tbM66) rfl rfl ⟨trivial, trivial⟩ ?_
  refine e3_call (o := 0) (k := 25) (M2 := tbM25) (f1 := 0) (w1 := 0) (as := [(2, 3)]) (rest := []) (M := tbM66) rfl rfl rfl trivial (by omega) (by show 0 + (19 + 1) ≤ (171 + 77 * n); omega) (Nat.le_of_ble_eq_true rfl) ?_
  refine e3_mono (sT_step L xs _ _ _ h) (fun r H7 G8 h => ?_)
  obtain ⟨rfl, h⟩ := h
  change e3_Ev _ _ _ _ 27 [(2, 14), (2, l1), (0, l2), (0, x3), (3, 0), (3, 0), (3, 0), (3, 0)] [] H7 G8 _
  refine e3_K [0, 4, 2, 0] 36 [(2, 14), (2, l1), (0, l2), (0, x3), (3, 0), (3, 0), (3, 0), (3, 0)] [(0, 40), (0, (H7 3 7))] (H7) (G8) (wZ L xs) (M := tbM66) rfl rfl ⟨trivial, trivial, trivial⟩ ?_
  refine e3_br (M := tbM66) rfl rfl rfl Iff.rfl (fun hc => ?_) (fun hc => ?_)
  · replace h := h.1 hc
    refine e3_K [0, 4, 0] 46 [(2, 14), (2, l1), (0, l2), (0, x3), (3, 0), (3, 0), (3, 0), (3, 0)] [(0, x3), (2, 8)] (H7) (G8) (wZ L xs) (M := tbM66) rfl rfl ⟨trivial, trivial⟩ ?_
    refine e3_call (o := 0) (k := 31) (M2 := tbM31) (f1 := 0) (w1 := 0) (as := [(2, 8), (0, x3)]) (rest := []) (M := tbM66) rfl rfl rfl trivial (by omega) (by show 0 + (19 + 2) ≤ (171 + 77 * n); omega) (Nat.le_of_ble_eq_true rfl) ?_
    refine e3_mono (sK_partCount L xs _ _ _ _ h) (fun r H10 G11 h => ?_)
    obtain ⟨x12, rfl, h⟩ := h
    change e3_Ev _ _ _ _ 49 [(2, 14), (2, l1), (0, l2), (0, x3), (3, 0), (3, 0), (3, 0), (3, 0)] [(0, x12)] H10 G11 _
    refine e3_K [0, 0] 53 [(2, 14), (2, l1), (0, l2), (0, x3), (0, x12), (3, 0), (3, 0), (3, 0)] [(0, x12)] (H10) (G11) (wZ L xs) (M := tbM66) rfl rfl trivial ?_
    refine e3_br (M := tbM66) rfl rfl rfl Iff.rfl (fun hc => ?_) (fun hc => ?_)
    · replace h := h.1 hc
      refine e3_K [0, 0] 59 [(2, 14), (2, l1), (0, l2), (0, x3), (0, x12), (3, 0), (3, 0), (3, 0)] [(0, 6), (2, 14)] (H10) (G11) (wZ L xs) (M := tbM66) rfl rfl trivial ?_
      refine e3_call (o := 0) (k := 27) (M2 := tbM27) (f1 := 0) (w1 := 0) (as := [(2, 14), (0, 6)]) (rest := []) (M := tbM66) rfl rfl rfl trivial (by omega) (by show 0 + (19 + 2) ≤ (171 + 77 * n); omega) (Nat.le_of_ble_eq_true rfl) ?_
      refine e3_mono (sR_failHere L xs _ _ _ _ h) (fun r H13 G14 h => ?_)
      obtain ⟨x15, rfl, h⟩ := h
      change e3_Ev _ _ _ _ 62 [(2, 14), (2, l1), (0, l2), (0, x3), (0, x12), (3, 0), (3, 0), (3, 0)] [(0, x15)] H13 G14 _
      exact e3_retb (M := tbM66) rfl rfl rfl h.1 ⟨_, rfl, h.2⟩
    · replace h := h.2 hc
      refine e3_K [0, 4] 67 [(2, 14), (2, l1), (0, l2), (0, x3), (0, x12), (3, 0), (3, 0), (3, 0)] [(2, 3)] (H10) (G11) (wZ L xs) (M := tbM66) rfl rfl ⟨trivial, trivial⟩ ?_
      refine e3_call (o := 0) (k := 25) (M2 := tbM25) (f1 := 0) (w1 := 0) (as := [(2, 3)]) (rest := []) (M := tbM66) rfl rfl rfl trivial (by omega) (by show 0 + (19 + 1) ≤ (171 + 77 * n); omega) (Nat.le_of_ble_eq_true rfl) ?_
      refine e3_mono (sT_step L xs _ _ _ h) (fun r H16 G17 h => ?_)
      obtain ⟨rfl, h⟩ := h
      change e3_Ev _ _ _ _ 70 [(2, 14), (2, l1), (0, l2), (0, x3), (0, x12), (3, 0), (3, 0), (3, 0)] [] H16 G17 _
      refine e3_K [0, 0, 0, 0] 76 [(2, 14), (2, l1), (0, l2), (0, x3), (0, x12), (2, (-1)), (0, 0), (3, 0)] [] (H16) (G17) (wZ L xs) (M := tbM66) rfl rfl trivial ?_
      obtain ⟨nl, h⟩ := h
      exact sR_readKindPattern_76 L xs n R hR Q nl _ _ _ _ _ _ _ _ h
  · replace h := h.2 hc
    refine e3_K [0] 40 [(2, 14), (2, l1), (0, l2), (0, x3), (3, 0), (3, 0), (3, 0), (3, 0)] [(0, 1)] (H7) (G8) (wZ L xs) (M := tbM66) rfl rfl trivial ?_
    exact e3_retb (M := tbM66) rfl rfl rfl (Or.inr rfl) ⟨_, rfl, h⟩
/-- LetterPost$Reader.readAlternatives(LLetterPost$Pattern;I)Z -/
def wR_readAlternatives_225 (R : Int → Int → Int → Int → e3_H → e3_G → (Int → e3_H → e3_G → Prop) → Prop) (Q : Int → e3_H → e3_G → Prop) (s0 : Int) (H : e3_H) (G : e3_G) : Prop :=
  ((s0 : Int) = 0 ∨ s0 = 1) ∧ Q s0 H G
def wR_readAlternatives_224 (R : Int → Int → Int → Int → e3_H → e3_G → (Int → e3_H → e3_G → Prop) → Prop) (Q : Int → e3_H → e3_G → Prop)  (H : e3_H) (G : e3_G) : Prop :=
  (wR_readAlternatives_225 R Q 0 H G)
def wR_readAlternatives_220 (R : Int → Int → Int → Int → e3_H → e3_G → (Int → e3_H → e3_G → Prop) → Prop) (Q : Int → e3_H → e3_G → Prop)  (H : e3_H) (G : e3_G) : Prop :=
  (wR_readAlternatives_225 R Q 1 H G)
def wR_readAlternatives_196 (R : Int → Int → Int → Int → e3_H → e3_G → (Int → e3_H → e3_G → Prop) → Prop) (Q : Int → e3_H → e3_G → Prop) (l3 : Int) (l8 : Int) (H : e3_H) (G : e3_G) : Prop :=
  (wR_expect (fun x3 H1 G2 => (((x3 : Int) = 0 → (wR_readAlternatives_224 R Q H1 G2)) ∧ (¬ ((x3 : Int) = 0) → (((l8 : Int) = 0 → (wR_failAt (fun x6 H4 G5 => (((x6 : Int) = 0 → (wR_readAlternatives_224 R Q H4 G5)) ∧ (¬ ((x6 : Int) = 0) → (wR_readAlternatives_220 R Q H4 G5)))) 8 l3 H1 G2)) ∧ (¬ ((l8 : Int) = 0) → (wR_readAlternatives_220 R Q H1 G2)))))) 41 H G)
def wR_readAlternatives_158 (R : Int → Int → Int → Int → e3_H → e3_G → (Int → e3_H → e3_G → Prop) → Prop) (Q : Int → e3_H → e3_G → Prop) (k40 : Int → Int → Int → Int → Int → Int → Int → Int → e3_H → e3_G → Prop) (l1 : Int) (l2 : Int) (l3 : Int) (l4 : Int) (l6 : Int) (l9 : Int) (l10 : Int) (l11 : Int) (s0 : Int) (H : e3_H) (G : e3_G) : Prop :=
  (e3_ob G 10 l1) ∧ (wA_hang (fun x3 H1 G2 => (e3_ob G2 10 l1) ∧ (e3_ob G2 10 l11) ∧ (wJ_min_II (fun x8 H6 G7 => (e3_ob G7 10 l1) ∧ ∀ H9 : e3_H, H9 = e3_up H6 l1 9 x8 → (k40 l1 l2 l3 l4 l6 s0 x3 (e3_w32 (l10 + 1)) H9 G7)) 10000 (e3_w32 ((H1 l1 9) + (H1 l11 9))) H1 G2)) l1 l11 l9 H G)
def wR_readAlternatives_157 (R : Int → Int → Int → Int → e3_H → e3_G → (Int → e3_H → e3_G → Prop) → Prop) (Q : Int → e3_H → e3_G → Prop) (k40 : Int → Int → Int → Int → Int → Int → Int → Int → e3_H → e3_G → Prop) (l1 : Int) (l2 : Int) (l3 : Int) (l4 : Int) (l6 : Int) (l9 : Int) (l10 : Int) (l11 : Int) (H : e3_H) (G : e3_G) : Prop :=
  (wR_readAlternatives_158 R Q k40 l1 l2 l3 l4 l6 l9 l10 l11 0 H G)
def wR_readAlternatives_133 (R : Int → Int → Int → Int → e3_H → e3_G → (Int → e3_H → e3_G → Prop) → Prop) (Q : Int → e3_H → e3_G → Prop) (k40 : Int → Int → Int → Int → Int → Int → Int → Int → e3_H → e3_G → Prop) (l1 : Int) (l2 : Int) (l3 : Int) (l4 : Int) (l8 : Int) (l9 : Int) (l10 : Int) (l11 : Int) (s0 : Int) (H : e3_H) (G : e3_G) : Prop :=
  (((l8 : Int) = 0 → (wR_readAlternatives_157 R Q k40 l1 l2 l3 l4 s0 l9 l10 l11 H G)) ∧ (¬ ((l8 : Int) = 0) → (e3_ob G 9 (H 14 7)) ∧ ((((H (H 14 7) 6) : Int) = s0 → (wR_readAlternatives_158 R Q k40 l1 l2 l3 l4 s0 l9 l10 l11 1 H G)) ∧ (¬ (((H (H 14 7) 6) : Int) = s0) → (wR_readAlternatives_157 R Q k40 l1 l2 l3 l4 s0 l9 l10 l11 H G)))))
def wR_readAlternatives_104 (R : Int → Int → Int → Int → e3_H → e3_G → (Int → e3_H → e3_G → Prop) → Prop) (Q : Int → e3_H → e3_G → Prop) (k40 : Int → Int → Int → Int → Int → Int → Int → Int → e3_H → e3_G → Prop) (l1 : Int) (l2 : Int) (l3 : Int) (l4 : Int) (l6 : Int) (l8 : Int) (l9 : Int) (l10 : Int) (s0 : Int) (s1 : Int) (s2 : Int) (s3 : Int) (H : e3_H) (G : e3_G) : Prop :=
  (R s3 s2 s1 s0 H G (fun x3 H1 G2 => (((x3 : Int) < 0 → Q 0 H1 G2) ∧ (¬ ((x3 : Int) < 0) → (((l10 : Int) = 0 → (e3_ob G2 9 (H1 14 7)) ∧ (wR_readAlternatives_133 R Q k40 l1 l2 l3 l4 l8 l9 l10 x3 (H1 (H1 14 7) 6) H1 G2)) ∧ (¬ ((l10 : Int) = 0) → (wR_readAlternatives_133 R Q k40 l1 l2 l3 l4 l8 l9 l10 x3 l6 H1 G2)))))))
def wR_readAlternatives_64 (R : Int → Int → Int → Int → e3_H → e3_G → (Int → e3_H → e3_G → Prop) → Prop) (Q : Int → e3_H → e3_G → Prop) (k40 : Int → Int → Int → Int → Int → Int → Int → Int → e3_H → e3_G → Prop) (l1 : Int) (l2 : Int) (l3 : Int) (l4 : Int) (l6 : Int) (l8 : Int) (l9 : Int) (l10 : Int) (H : e3_H) (G : e3_G) : Prop :=
  (wT_step (fun H1 G2 => (e3_ob G2 9 (H1 14 7)) ∧ ∀ H4 : e3_H, H4 = e3_up H1 (H1 14 7) 6 l4 → (e3_ob G2 10 l1) ∧ (e3_ob G2 10 l1) ∧ (((l10 : Int) = 6 → (wR_readAlternatives_104 R Q k40 l1 l2 l3 l4 l6 l8 l9 l10 1 (e3_w32 (l2 + 1)) (H4 l1 2) (H4 l1 1) H4 G2)) ∧ (¬ ((l10 : Int) = 6) → (wR_readAlternatives_104 R Q k40 l1 l2 l3 l4 l6 l8 l9 l10 0 (e3_w32 (l2 + 1)) (H4 l1 2) (H4 l1 1) H4 G2)))) H G)
def wR_readAlternatives_40 (R : Int → Int → Int → Int → e3_H → e3_G → (Int → e3_H → e3_G → Prop) → Prop) (Q : Int → e3_H → e3_G → Prop) : Nat → Int → Int → Int → Int → Int → Int → Int → Int → e3_H → e3_G → Prop
  | 0, _, _, _, _, _, _, _, _, _, _ => False
  | nn + 1, l1, l2, l3, l4, l6, l8, l9, l10, H, G => (((6 : Int) < l10 → (wR_readAlternatives_196 R Q l3 l8 H G)) ∧ (¬ ((6 : Int) < l10) → (((l10 : Int) = 0 → (wR_readAlternatives_64 R Q (fun l1 l2 l3 l4 l6 l8 l9 l10 H G => wR_readAlternatives_40 R Q nn l1 l2 l3 l4 l6 l8 l9 l10 H G) l1 l2 l3 l4 l6 l8 l9 l10 H G)) ∧ (¬ ((l10 : Int) = 0) → ((((H 3 7) : Int) = 124 → (wR_readAlternatives_64 R Q (fun l1 l2 l3 l4 l6 l8 l9 l10 H G => wR_readAlternatives_40 R Q nn l1 l2 l3 l4 l6 l8 l9 l10 H G) l1 l2 l3 l4 l6 l8 l9 l10 H G)) ∧ (¬ (((H 3 7) : Int) = 124) → (wR_readAlternatives_196 R Q l3 l8 H G)))))))
def wR_readAlternatives (R : Int → Int → Int → Int → e3_H → e3_G → (Int → e3_H → e3_G → Prop) → Prop) (Q : Int → e3_H → e3_G → Prop) (l1 : Int) (l2 : Int) (H : e3_H) (G : e3_G) : Prop :=
  (e3_ob G 9 (H 14 7)) ∧ (e3_ob G 10 l1) ∧ ∀ H1 : e3_H, H1 = e3_up H l1 0 3 → (e3_ob G 10 l1) ∧ ∀ H4 : e3_H, H4 = e3_up H1 l1 9 0 → (∃ n, wR_readAlternatives_40 R Q n l1 l2 (H 3 8) (H (H 14 7) 6) (H (H 14 7) 6) 1 (-1) 0 H4 G)
set_option maxRecDepth 100000 in
set_option maxHeartbeats 4000000 in
theorem sR_readAlternatives_225 (L : Nat) (xs : Nat → Int32) (n : Nat) (R : Int → Int → Int → Int → e3_H → e3_G → (Int → e3_H → e3_G → Prop) → Prop) (hR : ∀ (l1 : Int) (l2 : Int) (l3 : Int) (l4 : Int) (H : e3_H) (G : e3_G) (Q : Int → e3_H → e3_G → Prop), R l1 l2 l3 l4 H G Q → e3_Ev (wB L xs) (4 + 3 * n) (144 + 77 * n) 49 0 [(2, 14), (0, l1), (0, l2), (0, l3), (0, l4), (3, 0), (3, 0), (3, 0)] [] H G (e3_q2 Q)) (Q : Int → e3_H → e3_G → Prop) (s0 : Int) (H : e3_H) (G : e3_G) (h : wR_readAlternatives_225 R Q s0 H G) : e3_Ev (wB L xs) (5 + 3 * n) (171 + 77 * n) 71 225 [(3, 0), (3, 0), (3, 0), (3, 0), (3, 0), (3, 0), (3, 0), (3, 0), (3, 0), (3, 0), (3, 0), (3, 0)] [(0, s0)] H G (e3_q0 Q) := by
  unfold wR_readAlternatives_225 at h
  exact e3_retb (M := tbM71) rfl rfl rfl h.1 ⟨_, rfl, h.2⟩
set_option maxRecDepth 100000 in
set_option maxHeartbeats 4000000 in
theorem sR_readAlternatives_224 (L : Nat) (xs : Nat → Int32) (n : Nat) (R : Int → Int → Int → Int → e3_H → e3_G → (Int → e3_H → e3_G → Prop) → Prop) (hR : ∀ (l1 : Int) (l2 : Int) (l3 : Int) (l4 : Int) (H : e3_H) (G : e3_G) (Q : Int → e3_H → e3_G → Prop), R l1 l2 l3 l4 H G Q → e3_Ev (wB L xs) (4 + 3 * n) (144 + 77 * n) 49 0 [(2, 14), (0, l1), (0, l2), (0, l3), (0, l4), (3, 0), (3, 0), (3, 0)] [] H G (e3_q2 Q)) (Q : Int → e3_H → e3_G → Prop)  (H : e3_H) (G : e3_G) (h : wR_readAlternatives_224 R Q  H G) : e3_Ev (wB L xs) (5 + 3 * n) (171 + 77 * n) 71 224 [(3, 0), (3, 0), (3, 0), (3, 0), (3, 0), (3, 0), (3, 0), (3, 0), (3, 0), (3, 0), (3, 0), (3, 0)] [] H G (e3_q0 Q) := by
  unfold wR_readAlternatives_224 at h
  refine e3_K [0] 225 [(3, 0), (3, 0), (3, 0), (3, 0), (3, 0), (3, 0), (3, 0), (3, 0), (3, 0), (3, 0), (3, 0), (3, 0)] [(0, 0)] (H) (G) (wZ L xs) (M := tbM71) rfl rfl trivial ?_
  exact sR_readAlternatives_225 L xs n R hR Q _ _ _ h
set_option maxRecDepth 100000 in
set_option maxHeartbeats 4000000 in
theorem sR_readAlternatives_220 (L : Nat) (xs : Nat → Int32) (n : Nat) (R : Int → Int → Int → Int → e3_H → e3_G → (Int → e3_H → e3_G → Prop) → Prop) (hR : ∀ (l1 : Int) (l2 : Int) (l3 : Int) (l4 : Int) (H : e3_H) (G : e3_G) (Q : Int → e3_H → e3_G → Prop), R l1 l2 l3 l4 H G Q → e3_Ev (wB L xs) (4 + 3 * n) (144 + 77 * n) 49 0 [(2, 14), (0, l1), (0, l2), (0, l3), (0, l4), (3, 0), (3, 0), (3, 0)] [] H G (e3_q2 Q)) (Q : Int → e3_H → e3_G → Prop)  (H : e3_H) (G : e3_G) (h : wR_readAlternatives_220 R Q  H G) : e3_Ev (wB L xs) (5 + 3 * n) (171 + 77 * n) 71 220 [(3, 0), (3, 0), (3, 0), (3, 0), (3, 0), (3, 0), (3, 0), (3, 0), (3, 0), (3, 0), (3, 0), (3, 0)] [] H G (e3_q0 Q) := by
  unfold wR_readAlternatives_220 at h
  refine e3_K [0, 0] 225 [(3, 0), (3, 0), (3, 0), (3, 0), (3, 0), (3, 0), (3, 0), (3, 0), (3, 0), (3, 0), (3, 0), (3, 0)] [(0, 1)] (H) (G) (wZ L xs) (M := tbM71) rfl rfl trivial ?_
  exact sR_readAlternatives_225 L xs n R hR Q _ _ _ h
set_option maxRecDepth 100000 in
set_option maxHeartbeats 4000000 in
theorem sR_readAlternatives_196 (L : Nat) (xs : Nat → Int32) (n : Nat) (R : Int → Int → Int → Int → e3_H → e3_G → (Int → e3_H → e3_G → Prop) → Prop) (hR : ∀ (l1 : Int) (l2 : Int) (l3 : Int) (l4 : Int) (H : e3_H) (G : e3_G) (Q : Int → e3_H → e3_G → Prop), R l1 l2 l3 l4 H G Q → e3_Ev (wB L xs) (4 + 3 * n) (144 + 77 * n) 49 0 [(2, 14), (0, l1), (0, l2), (0, l3), (0, l4), (3, 0), (3, 0), (3, 0)] [] H G (e3_q2 Q)) (Q : Int → e3_H → e3_G → Prop) (l3 : Int) (l8 : Int) (H : e3_H) (G : e3_G) (h : wR_readAlternatives_196 R Q l3 l8 H G) : e3_Ev (wB L xs) (5 + 3 * n) (171 + 77 * n) 71 196 [(2, 14), (3, 0), (3, 0), (0, l3), (3, 0), (3, 0), (3, 0), (3, 0), (0, l8), (3, 0), (3, 0), (3, 0)] [] H G (e3_q0 Q) := by
  unfold wR_readAlternatives_196 at h
  refine e3_K [0, 0] 199 [(2, 14), (3, 0), (3, 0), (0, l3), (3, 0), (3, 0), (3, 0), (3, 0), (0, l8), (3, 0), (3, 0), (3, 0)] [(0, 41), (2, 14)] (H) (G) (wZ L xs) (M := tbM71) rfl rfl trivial ?_
  refine e3_call (o := 0) (k := 38) (M2 := tbM38) (f1 := 1) (w1 := 21) (as := [(2, 14), (0, 41)]) (rest := []) (M := tbM71) rfl rfl rfl trivial (by omega) (by show 21 + (19 + 2) ≤ (171 + 77 * n); omega) (Nat.le_of_ble_eq_true rfl) ?_
  refine e3_mono (sR_expect L xs _ _ _ _ h) (fun r H1 G2 h => ?_)
  obtain ⟨x3, rfl, h⟩ := h
  change e3_Ev _ _ _ _ 202 [(2, 14), (3, 0), (3, 0), (0, l3), (3, 0), (3, 0), (3, 0), (3, 0), (0, l8), (3, 0), (3, 0), (3, 0)] [(0, x3)] H1 G2 _
  refine e3_br (M := tbM71) rfl rfl rfl Iff.rfl (fun hc => ?_) (fun hc => ?_)
  · replace h := h.1 hc
    refine e3_fgt [false, false, false, false, false, false, false, false, false, false, false, false] ?_
    exact sR_readAlternatives_224 L xs n R hR Q _ _ h
  · replace h := h.2 hc
    refine e3_K [0] 207 [(2, 14), (3, 0), (3, 0), (0, l3), (3, 0), (3, 0), (3, 0), (3, 0), (0, l8), (3, 0), (3, 0), (3, 0)] [(0, l8)] (H1) (G2) (wZ L xs) (M := tbM71) rfl rfl trivial ?_
    refine e3_br (M := tbM71) rfl rfl rfl Iff.rfl (fun hc => ?_) (fun hc => ?_)
    · replace h := h.1 hc
      refine e3_K [0, 0, 0] 214 [(2, 14), (3, 0), (3, 0), (0, l3), (3, 0), (3, 0), (3, 0), (3, 0), (0, l8), (3, 0), (3, 0), (3, 0)] [(0, l3), (0, 8), (2, 14)] (H1) (G2) (wZ L xs) (M := tbM71) rfl rfl trivial ?_
      refine e3_call (o := 0) (k := 65) (M2 := tbM65) (f1 := 0) (w1 := 0) (as := [(2, 14), (0, 8), (0, l3)]) (rest := []) (M := tbM71) rfl rfl rfl trivial (by omega) (by show 0 + (19 + 3) ≤ (171 + 77 * n); omega) (Nat.le_of_ble_eq_true rfl) ?_
      refine e3_mono (sR_failAt L xs _ _ _ _ _ h) (fun r H4 G5 h => ?_)
      obtain ⟨x6, rfl, h⟩ := h
      change e3_Ev _ _ _ _ 217 [(2, 14), (3, 0), (3, 0), (0, l3), (3, 0), (3, 0), (3, 0), (3, 0), (0, l8), (3, 0), (3, 0), (3, 0)] [(0, x6)] H4 G5 _
      refine e3_br (M := tbM71) rfl rfl rfl Iff.rfl (fun hc => ?_) (fun hc => ?_)
      · replace h := h.1 hc
        refine e3_fgt [false, false, false, false, false, false, false, false, false, false, false, false] ?_
        exact sR_readAlternatives_224 L xs n R hR Q _ _ h
      · replace h := h.2 hc
        refine e3_fgt [false, false, false, false, false, false, false, false, false, false, false, false] ?_
        exact sR_readAlternatives_220 L xs n R hR Q _ _ h
    · replace h := h.2 hc
      refine e3_fgt [false, false, false, false, false, false, false, false, false, false, false, false] ?_
      exact sR_readAlternatives_220 L xs n R hR Q _ _ h
set_option maxRecDepth 100000 in
set_option maxHeartbeats 4000000 in
theorem sR_readAlternatives_158 (L : Nat) (xs : Nat → Int32) (n : Nat) (R : Int → Int → Int → Int → e3_H → e3_G → (Int → e3_H → e3_G → Prop) → Prop) (hR : ∀ (l1 : Int) (l2 : Int) (l3 : Int) (l4 : Int) (H : e3_H) (G : e3_G) (Q : Int → e3_H → e3_G → Prop), R l1 l2 l3 l4 H G Q → e3_Ev (wB L xs) (4 + 3 * n) (144 + 77 * n) 49 0 [(2, 14), (0, l1), (0, l2), (0, l3), (0, l4), (3, 0), (3, 0), (3, 0)] [] H G (e3_q2 Q)) (Q : Int → e3_H → e3_G → Prop) (k40 : Int → Int → Int → Int → Int → Int → Int → Int → e3_H → e3_G → Prop) (hk40 : ∀ (l1 : Int) (l2 : Int) (l3 : Int) (l4 : Int) (l6 : Int) (l8 : Int) (l9 : Int) (l10 : Int) (H : e3_H) (G : e3_G), k40 l1 l2 l3 l4 l6 l8 l9 l10 H G → e3_Ev (wB L xs) (5 + 3 * n) (171 + 77 * n) 71 40 [(2, 14), (2, l1), (0, l2), (0, l3), (1, l4), (3, 0), (1, l6), (3, 0), (0, l8), (2, l9), (0, l10), (3, 0)] [] H G (e3_q0 Q)) (l1 : Int) (l2 : Int) (l3 : Int) (l4 : Int) (l6 : Int) (l9 : Int) (l10 : Int) (l11 : Int) (s0 : Int) (H : e3_H) (G : e3_G) (h : wR_readAlternatives_158 R Q k40 l1 l2 l3 l4 l6 l9 l10 l11 s0 H G) : e3_Ev (wB L xs) (5 + 3 * n) (171 + 77 * n) 71 158 [(2, 14), (2, l1), (0, l2), (0, l3), (1, l4), (3, 0), (1, l6), (3, 0), (3, 0), (2, l9), (0, l10), (2, l11)] [(0, s0)] H G (e3_q0 Q) := by
  unfold wR_readAlternatives_158 at h
  refine e3_K [0, 0, 0, 0] 165 [(2, 14), (2, l1), (0, l2), (0, l3), (1, l4), (3, 0), (1, l6), (3, 0), (0, s0), (2, l9), (0, l10), (2, l11)] [(2, l9), (2, l11), (2, l1)] (H) (G) (wZ L xs) (M := tbM71) rfl rfl trivial ?_
  obtain ⟨oz, h⟩ := h
  refine e3_call (o := 1) (k := 69) (M2 := tbM69) (f1 := 0) (w1 := 0) (as := [(2, l1), (2, l11), (2, l9)]) (rest := []) (M := tbM71) rfl rfl rfl oz (by omega) (by show 0 + (19 + 3) ≤ (171 + 77 * n); omega) (Nat.le_of_ble_eq_true rfl) ?_
  refine e3_mono (sA_hang L xs _ _ _ _ _ _ h) (fun r H1 G2 h => ?_)
  obtain ⟨x3, rfl, h⟩ := h
  change e3_Ev _ _ _ _ 168 [(2, 14), (2, l1), (0, l2), (0, l3), (1, l4), (3, 0), (1, l6), (3, 0), (0, s0), (2, l9), (0, l10), (2, l11)] [(2, x3)] H1 G2 _
  obtain ⟨o4, o5, h⟩ := h
  refine e3_K [0, 0, 0, 0, 3, 0, 3, 0] 184 [(2, 14), (2, l1), (0, l2), (0, l3), (1, l4), (3, 0), (1, l6), (3, 0), (0, s0), (2, x3), (0, l10), (2, l11)] [(0, (e3_w32 ((H1 l1 9) + (H1 l11 9)))), (0, 10000), (2, l1)] (H1) (G2) (wZ L xs) (M := tbM71) rfl rfl ⟨o4, o5, trivial⟩ ?_
  refine e3_call (o := 0) (k := 303) (M2 := tbM303) (f1 := 0) (w1 := 0) (as := [(0, 10000), (0, (e3_w32 ((H1 l1 9) + (H1 l11 9))))]) (rest := [(2, l1)]) (M := tbM71) rfl rfl rfl trivial (by omega) (by show 0 + (19 + 2) ≤ (171 + 77 * n); omega) (Nat.le_of_ble_eq_true rfl) ?_
  refine e3_mono (sJ_min_II L xs _ _ _ _ _ h) (fun r H6 G7 h => ?_)
  obtain ⟨x8, rfl, h⟩ := h
  change e3_Ev _ _ _ _ 187 [(2, 14), (2, l1), (0, l2), (0, l3), (1, l4), (3, 0), (1, l6), (3, 0), (0, s0), (2, x3), (0, l10), (2, l11)] [(0, x8), (2, l1)] H6 G7 _
  obtain ⟨o10, h⟩ := h
  refine e3_K [3] 190 [(2, 14), (2, l1), (0, l2), (0, l3), (1, l4), (3, 0), (1, l6), (3, 0), (0, s0), (2, x3), (0, l10), (2, l11)] [] (e3_up H6 l1 9 x8) (G7) (wZ L xs) (M := tbM71) rfl rfl ⟨⟨o10, trivial⟩, trivial⟩ ?_
  generalize hH9 : (e3_up H6 l1 9 x8) = H9
  replace h := h H9 hH9.symm
  refine e3_K [0, 0] 40 [(2, 14), (2, l1), (0, l2), (0, l3), (1, l4), (3, 0), (1, l6), (3, 0), (0, s0), (2, x3), (0, (e3_w32 (l10 + 1))), (2, l11)] [] (H9) (G7) (wZ L xs) (M := tbM71) rfl rfl trivial ?_
  refine e3_fgt [true, true, true, true, true, false, true, false, true, true, true, false] ?_
  exact hk40 _ _ _ _ _ _ _ _ _ _ h
set_option maxRecDepth 100000 in
set_option maxHeartbeats 4000000 in
theorem sR_readAlternatives_157 (L : Nat) (xs : Nat → Int32) (n : Nat) (R : Int → Int → Int → Int → e3_H → e3_G → (Int → e3_H → e3_G → Prop) → Prop) (hR : ∀ (l1 : Int) (l2 : Int) (l3 : Int) (l4 : Int) (H : e3_H) (G : e3_G) (Q : Int → e3_H → e3_G → Prop), R l1 l2 l3 l4 H G Q → e3_Ev (wB L xs) (4 + 3 * n) (144 + 77 * n) 49 0 [(2, 14), (0, l1), (0, l2), (0, l3), (0, l4), (3, 0), (3, 0), (3, 0)] [] H G (e3_q2 Q)) (Q : Int → e3_H → e3_G → Prop) (k40 : Int → Int → Int → Int → Int → Int → Int → Int → e3_H → e3_G → Prop) (hk40 : ∀ (l1 : Int) (l2 : Int) (l3 : Int) (l4 : Int) (l6 : Int) (l8 : Int) (l9 : Int) (l10 : Int) (H : e3_H) (G : e3_G), k40 l1 l2 l3 l4 l6 l8 l9 l10 H G → e3_Ev (wB L xs) (5 + 3 * n) (171 + 77 * n) 71 40 [(2, 14), (2, l1), (0, l2), (0, l3), (1, l4), (3, 0), (1, l6), (3, 0), (0, l8), (2, l9), (0, l10), (3, 0)] [] H G (e3_q0 Q)) (l1 : Int) (l2 : Int) (l3 : Int) (l4 : Int) (l6 : Int) (l9 : Int) (l10 : Int) (l11 : Int) (H : e3_H) (G : e3_G) (h : wR_readAlternatives_157 R Q k40 l1 l2 l3 l4 l6 l9 l10 l11 H G) : e3_Ev (wB L xs) (5 + 3 * n) (171 + 77 * n) 71 157 [(2, 14), (2, l1), (0, l2), (0, l3), (1, l4), (3, 0), (1, l6), (3, 0), (3, 0), (2, l9), (0, l10), (2, l11)] [] H G (e3_q0 Q) := by
  unfold wR_readAlternatives_157 at h
  refine e3_K [0] 158 [(2, 14), (2, l1), (0, l2), (0, l3), (1, l4), (3, 0), (1, l6), (3, 0), (3, 0), (2, l9), (0, l10), (2, l11)] [(0, 0)] (H) (G) (wZ L xs) (M := tbM71) rfl rfl trivial ?_
  exact sR_readAlternatives_158 L xs n R hR Q k40 hk40 _ _ _ _ _ _ _ _ _ _ _ h
set_option maxRecDepth 100000 in
set_option maxHeartbeats 4000000 in
theorem sR_readAlternatives_133 (L : Nat) (xs : Nat → Int32) (n : Nat) (R : Int → Int → Int → Int → e3_H → e3_G → (Int → e3_H → e3_G → Prop) → Prop) (hR : ∀ (l1 : Int) (l2 : Int) (l3 : Int) (l4 : Int) (H : e3_H) (G : e3_G) (Q : Int → e3_H → e3_G → Prop), R l1 l2 l3 l4 H G Q → e3_Ev (wB L xs) (4 + 3 * n) (144 + 77 * n) 49 0 [(2, 14), (0, l1), (0, l2), (0, l3), (0, l4), (3, 0), (3, 0), (3, 0)] [] H G (e3_q2 Q)) (Q : Int → e3_H → e3_G → Prop) (k40 : Int → Int → Int → Int → Int → Int → Int → Int → e3_H → e3_G → Prop) (hk40 : ∀ (l1 : Int) (l2 : Int) (l3 : Int) (l4 : Int) (l6 : Int) (l8 : Int) (l9 : Int) (l10 : Int) (H : e3_H) (G : e3_G), k40 l1 l2 l3 l4 l6 l8 l9 l10 H G → e3_Ev (wB L xs) (5 + 3 * n) (171 + 77 * n) 71 40 [(2, 14), (2, l1), (0, l2), (0, l3), (1, l4), (3, 0), (1, l6), (3, 0), (0, l8), (2, l9), (0, l10), (3, 0)] [] H G (e3_q0 Q)) (l1 : Int) (l2 : Int) (l3 : Int) (l4 : Int) (l8 : Int) (l9 : Int) (l10 : Int) (l11 : Int) (s0 : Int) (H : e3_H) (G : e3_G) (h : wR_readAlternatives_133 R Q k40 l1 l2 l3 l4 l8 l9 l10 l11 s0 H G) : e3_Ev (wB L xs) (5 + 3 * n) (171 + 77 * n) 71 133 [(2, 14), (2, l1), (0, l2), (0, l3), (1, l4), (3, 0), (3, 0), (3, 0), (0, l8), (2, l9), (0, l10), (2, l11)] [(1, s0)] H G (e3_q0 Q) := by
  unfold wR_readAlternatives_133 at h
  refine e3_K [0, 0] 137 [(2, 14), (2, l1), (0, l2), (0, l3), (1, l4), (3, 0), (1, s0), (3, 0), (0, l8), (2, l9), (0, l10), (2, l11)] [(0, l8)] (H) (G) (wZ L xs) (M := tbM71) rfl rfl trivial ?_
  refine e3_br (M := tbM71) rfl rfl rfl Iff.rfl (fun hc => ?_) (fun hc => ?_)
  · replace h := h.1 hc
    refine e3_fgt [true, true, true, true, true, false, true, false, false, true, true, true] ?_
    exact sR_readAlternatives_157 L xs n R hR Q k40 hk40 _ _ _ _ _ _ _ _ _ _ h
  · replace h := h.2 hc
    obtain ⟨o1, h⟩ := h
    refine e3_K [0, 2, 3, 0, 0] 150 [(2, 14), (2, l1), (0, l2), (0, l3), (1, l4), (3, 0), (1, s0), (3, 0), (0, l8), (2, l9), (0, l10), (2, l11)] [(0, (e3_cmp (H (H 14 7) 6) s0))] (H) (G) (wZ L xs) (M := tbM71) rfl rfl ⟨trivial, o1, trivial⟩ ?_
    refine e3_br (M := tbM71) rfl rfl rfl e3_cmp_eq (fun hc => ?_) (fun hc => ?_)
    · replace h := h.1 hc
      refine e3_K [0, 0] 158 [(2, 14), (2, l1), (0, l2), (0, l3), (1, l4), (3, 0), (1, s0), (3, 0), (0, l8), (2, l9), (0, l10), (2, l11)] [(0, 1)] (H) (G) (wZ L xs) (M := tbM71) rfl rfl trivial ?_
      refine e3_fgt [true, true, true, true, true, false, true, false, false, true, true, true] ?_
      exact sR_readAlternatives_158 L xs n R hR Q k40 hk40 _ _ _ _ _ _ _ _ _ _ _ h
    · replace h := h.2 hc
      refine e3_fgt [true, true, true, true, true, false, true, false, false, true, true, true] ?_
      exact sR_readAlternatives_157 L xs n R hR Q k40 hk40 _ _ _ _ _ _ _ _ _ _ h
set_option maxRecDepth 100000 in
set_option maxHeartbeats 4000000 in
theorem sR_readAlternatives_104 (L : Nat) (xs : Nat → Int32) (n : Nat) (R : Int → Int → Int → Int → e3_H → e3_G → (Int → e3_H → e3_G → Prop) → Prop) (hR : ∀ (l1 : Int) (l2 : Int) (l3 : Int) (l4 : Int) (H : e3_H) (G : e3_G) (Q : Int → e3_H → e3_G → Prop), R l1 l2 l3 l4 H G Q → e3_Ev (wB L xs) (4 + 3 * n) (144 + 77 * n) 49 0 [(2, 14), (0, l1), (0, l2), (0, l3), (0, l4), (3, 0), (3, 0), (3, 0)] [] H G (e3_q2 Q)) (Q : Int → e3_H → e3_G → Prop) (k40 : Int → Int → Int → Int → Int → Int → Int → Int → e3_H → e3_G → Prop) (hk40 : ∀ (l1 : Int) (l2 : Int) (l3 : Int) (l4 : Int) (l6 : Int) (l8 : Int) (l9 : Int) (l10 : Int) (H : e3_H) (G : e3_G), k40 l1 l2 l3 l4 l6 l8 l9 l10 H G → e3_Ev (wB L xs) (5 + 3 * n) (171 + 77 * n) 71 40 [(2, 14), (2, l1), (0, l2), (0, l3), (1, l4), (3, 0), (1, l6), (3, 0), (0, l8), (2, l9), (0, l10), (3, 0)] [] H G (e3_q0 Q)) (l1 : Int) (l2 : Int) (l3 : Int) (l4 : Int) (l6 : Int) (l8 : Int) (l9 : Int) (l10 : Int) (s0 : Int) (s1 : Int) (s2 : Int) (s3 : Int) (H : e3_H) (G : e3_G) (h : wR_readAlternatives_104 R Q k40 l1 l2 l3 l4 l6 l8 l9 l10 s0 s1 s2 s3 H G) : e3_Ev (wB L xs) (5 + 3 * n) (171 + 77 * n) 71 104 [(2, 14), (2, l1), (0, l2), (0, l3), (1, l4), (3, 0), (1, l6), (3, 0), (0, l8), (2, l9), (0, l10), (3, 0)] [(0, s0), (0, s1), (0, s2), (0, s3), (2, 14)] H G (e3_q0 Q) := by
  unfold wR_readAlternatives_104 at h
  refine e3_call (o := 0) (k := 49) (M2 := tbM49) (f1 := (4 + 3 * n)) (w1 := (144 + 77 * n)) (as := [(2, 14), (0, s3), (0, s2), (0, s1), (0, s0)]) (rest := []) (M := tbM71) rfl rfl rfl trivial (by omega) (by show (144 + 77 * n) + (19 + 8) ≤ (171 + 77 * n); omega) (Nat.le_of_ble_eq_true rfl) ?_
  refine e3_mono (hR _ _ _ _ _ _ _ h) (fun r H1 G2 h => ?_)
  obtain ⟨x3, rfl, h⟩ := h
  change e3_Ev _ _ _ _ 107 [(2, 14), (2, l1), (0, l2), (0, l3), (1, l4), (3, 0), (1, l6), (3, 0), (0, l8), (2, l9), (0, l10), (3, 0)] [(2, x3)] H1 G2 _
  refine e3_K [0, 0] 111 [(2, 14), (2, l1), (0, l2), (0, l3), (1, l4), (3, 0), (1, l6), (3, 0), (0, l8), (2, l9), (0, l10), (2, x3)] [(2, x3)] (H1) (G2) (wZ L xs) (M := tbM71) rfl rfl trivial ?_
  refine e3_br (M := tbM71) rfl rfl rfl Iff.rfl (fun hc => ?_) (fun hc => ?_)
  · replace h := h.1 hc
    refine e3_K [0] 115 [(2, 14), (2, l1), (0, l2), (0, l3), (1, l4), (3, 0), (1, l6), (3, 0), (0, l8), (2, l9), (0, l10), (2, x3)] [(0, 0)] (H1) (G2) (wZ L xs) (M := tbM71) rfl rfl trivial ?_
    exact e3_retb (M := tbM71) rfl rfl rfl (Or.inl rfl) ⟨_, rfl, h⟩
  · replace h := h.2 hc
    refine e3_K [0] 118 [(2, 14), (2, l1), (0, l2), (0, l3), (1, l4), (3, 0), (1, l6), (3, 0), (0, l8), (2, l9), (0, l10), (2, x3)] [(0, l10)] (H1) (G2) (wZ L xs) (M := tbM71) rfl rfl trivial ?_
    refine e3_br (M := tbM71) rfl rfl rfl Iff.rfl (fun hc => ?_) (fun hc => ?_)
    · replace h := h.1 hc
      obtain ⟨o4, h⟩ := h
      refine e3_K [0, 2, 3, 0] 133 [(2, 14), (2, l1), (0, l2), (0, l3), (1, l4), (3, 0), (1, l6), (3, 0), (0, l8), (2, l9), (0, l10), (2, x3)] [(1, (H1 (H1 14 7) 6))] (H1) (G2) (wZ L xs) (M := tbM71) rfl rfl ⟨trivial, o4, trivial⟩ ?_
      refine e3_fgt [true, true, true, true, true, false, false, false, true, true, true, true] ?_
      exact sR_readAlternatives_133 L xs n R hR Q k40 hk40 _ _ _ _ _ _ _ _ _ _ _ h
    · replace h := h.2 hc
      refine e3_K [0] 133 [(2, 14), (2, l1), (0, l2), (0, l3), (1, l4), (3, 0), (1, l6), (3, 0), (0, l8), (2, l9), (0, l10), (2, x3)] [(1, l6)] (H1) (G2) (wZ L xs) (M := tbM71) rfl rfl trivial ?_
      refine e3_fgt [true, true, true, true, true, false, false, false, true, true, true, true] ?_
      exact sR_readAlternatives_133 L xs n R hR Q k40 hk40 _ _ _ _ _ _ _ _ _ _ _ h
set_option maxRecDepth 100000 in
set_option maxHeartbeats 4000000 in
theorem sR_readAlternatives_64 (L : Nat) (xs : Nat → Int32) (n : Nat) (R : Int → Int → Int → Int → e3_H → e3_G → (Int → e3_H → e3_G → Prop) → Prop) (hR : ∀ (l1 : Int) (l2 : Int) (l3 : Int) (l4 : Int) (H : e3_H) (G : e3_G) (Q : Int → e3_H → e3_G → Prop), R l1 l2 l3 l4 H G Q → e3_Ev (wB L xs) (4 + 3 * n) (144 + 77 * n) 49 0 [(2, 14), (0, l1), (0, l2), (0, l3), (0, l4), (3, 0), (3, 0), (3, 0)] [] H G (e3_q2 Q)) (Q : Int → e3_H → e3_G → Prop) (k40 : Int → Int → Int → Int → Int → Int → Int → Int → e3_H → e3_G → Prop) (hk40 : ∀ (l1 : Int) (l2 : Int) (l3 : Int) (l4 : Int) (l6 : Int) (l8 : Int) (l9 : Int) (l10 : Int) (H : e3_H) (G : e3_G), k40 l1 l2 l3 l4 l6 l8 l9 l10 H G → e3_Ev (wB L xs) (5 + 3 * n) (171 + 77 * n) 71 40 [(2, 14), (2, l1), (0, l2), (0, l3), (1, l4), (3, 0), (1, l6), (3, 0), (0, l8), (2, l9), (0, l10), (3, 0)] [] H G (e3_q0 Q)) (l1 : Int) (l2 : Int) (l3 : Int) (l4 : Int) (l6 : Int) (l8 : Int) (l9 : Int) (l10 : Int) (H : e3_H) (G : e3_G) (h : wR_readAlternatives_64 R Q k40 l1 l2 l3 l4 l6 l8 l9 l10 H G) : e3_Ev (wB L xs) (5 + 3 * n) (171 + 77 * n) 71 64 [(2, 14), (2, l1), (0, l2), (0, l3), (1, l4), (3, 0), (1, l6), (3, 0), (0, l8), (2, l9), (0, l10), (3, 0)] [] H G (e3_q0 Q) := by
  unfold wR_readAlternatives_64 at h
  refine e3_K [0, 4] 68 [(2, 14), (2, l1), (0, l2), (0, l3), (1, l4), (3, 0), (1, l6), (3, 0), (0, l8), (2, l9), (0, l10), (3, 0)] [(2, 3)] (H) (G) (wZ L xs) (M := tbM71) rfl rfl ⟨trivial, trivial⟩ ?_
  refine e3_call (o := 0) (k := 25) (M2 := tbM25) (f1 := 0) (w1 := 0) (as := [(2, 3)]) (rest := []) (M := tbM71) rfl rfl rfl trivial (by omega) (by show 0 + (19 + 1) ≤ (171 + 77 * n); omega) (Nat.le_of_ble_eq_true rfl) ?_
  refine e3_mono (sT_step L xs _ _ _ h) (fun r H1 G2 h => ?_)
  obtain ⟨rfl, h⟩ := h
  change e3_Ev _ _ _ _ 71 [(2, 14), (2, l1), (0, l2), (0, l3), (1, l4), (3, 0), (1, l6), (3, 0), (0, l8), (2, l9), (0, l10), (3, 0)] [] H1 G2 _
  obtain ⟨o5, h⟩ := h
  refine e3_K [0, 2, 0, 3] 80 [(2, 14), (2, l1), (0, l2), (0, l3), (1, l4), (3, 0), (1, l6), (3, 0), (0, l8), (2, l9), (0, l10), (3, 0)] [] (e3_up H1 (H1 14 7) 6 l4) (G2) (wZ L xs) (M := tbM71) rfl rfl ⟨trivial, ⟨o5, trivial⟩, trivial⟩ ?_
  generalize hH4 : (e3_up H1 (H1 14 7) 6 l4) = H4
  replace h := h H4 hH4.symm
  obtain ⟨o6, o7, h⟩ := h
  refine e3_K [0, 0, 3, 0, 3, 0, 0, 0, 0, 0] 96 [(2, 14), (2, l1), (0, l2), (0, l3), (1, l4), (3, 0), (1, l6), (3, 0), (0, l8), (2, l9), (0, l10), (3, 0)] [(0, 6), (0, l10), (0, (e3_w32 (l2 + 1))), (0, (H4 l1 2)), (0, (H4 l1 1)), (2, 14)] (H4) (G2) (wZ L xs) (M := tbM71) rfl rfl ⟨o6, o7, trivial⟩ ?_
  refine e3_br (M := tbM71) rfl rfl rfl Iff.rfl (fun hc => ?_) (fun hc => ?_)
  · replace h := h.1 hc
    refine e3_K [0, 0] 104 [(2, 14), (2, l1), (0, l2), (0, l3), (1, l4), (3, 0), (1, l6), (3, 0), (0, l8), (2, l9), (0, l10), (3, 0)] [(0, 1), (0, (e3_w32 (l2 + 1))), (0, (H4 l1 2)), (0, (H4 l1 1)), (2, 14)] (H4) (G2) (wZ L xs) (M := tbM71) rfl rfl trivial ?_
    exact sR_readAlternatives_104 L xs n R hR Q k40 hk40 _ _ _ _ _ _ _ _ _ _ _ _ _ _ h
  · replace h := h.2 hc
    refine e3_K [0] 104 [(2, 14), (2, l1), (0, l2), (0, l3), (1, l4), (3, 0), (1, l6), (3, 0), (0, l8), (2, l9), (0, l10), (3, 0)] [(0, 0), (0, (e3_w32 (l2 + 1))), (0, (H4 l1 2)), (0, (H4 l1 1)), (2, 14)] (H4) (G2) (wZ L xs) (M := tbM71) rfl rfl trivial ?_
    exact sR_readAlternatives_104 L xs n R hR Q k40 hk40 _ _ _ _ _ _ _ _ _ _ _ _ _ _ h
set_option maxRecDepth 100000 in
set_option maxHeartbeats 4000000 in
theorem sR_readAlternatives_40 (L : Nat) (xs : Nat → Int32) (n : Nat) (R : Int → Int → Int → Int → e3_H → e3_G → (Int → e3_H → e3_G → Prop) → Prop) (hR : ∀ (l1 : Int) (l2 : Int) (l3 : Int) (l4 : Int) (H : e3_H) (G : e3_G) (Q : Int → e3_H → e3_G → Prop), R l1 l2 l3 l4 H G Q → e3_Ev (wB L xs) (4 + 3 * n) (144 + 77 * n) 49 0 [(2, 14), (0, l1), (0, l2), (0, l3), (0, l4), (3, 0), (3, 0), (3, 0)] [] H G (e3_q2 Q)) (Q : Int → e3_H → e3_G → Prop) : ∀ (nl : Nat) (l1 : Int) (l2 : Int) (l3 : Int) (l4 : Int) (l6 : Int) (l8 : Int) (l9 : Int) (l10 : Int) (H : e3_H) (G : e3_G), wR_readAlternatives_40 R Q nl l1 l2 l3 l4 l6 l8 l9 l10 H G → e3_Ev (wB L xs) (5 + 3 * n) (171 + 77 * n) 71 40 [(2, 14), (2, l1), (0, l2), (0, l3), (1, l4), (3, 0), (1, l6), (3, 0), (0, l8), (2, l9), (0, l10), (3, 0)] [] H G (e3_q0 Q) := by
  intro nl
  induction nl with
  | zero => intro l1 l2 l3 l4 l6 l8 l9 l10 H G h; exact h.elim
  | succ nn ih =>
    intro l1 l2 l3 l4 l6 l8 l9 l10 H G h
    have h : (((6 : Int) < l10 → (wR_readAlternatives_196 R Q l3 l8 H G)) ∧ (¬ ((6 : Int) < l10) → (((l10 : Int) = 0 → (wR_readAlternatives_64 R Q (fun l1 l2 l3 l4 l6 l8 l9 l10 H G => wR_readAlternatives_40 R Q nn l1 l2 l3 l4 l6 l8 l9 l10 H G) l1 l2 l3 l4 l6 l8 l9 l10 H G)) ∧ (¬ ((l10 : Int) = 0) → ((((H 3 7) : Int) = 124 → (wR_readAlternatives_64 R Q (fun l1 l2 l3 l4 l6 l8 l9 l10 H G => wR_readAlternatives_40 R Q nn l1 l2 l3 l4 l6 l8 l9 l10 H G) l1 l2 l3 l4 l6 l8 l9 l10 H G)) ∧ (¬ (((H 3 7) : Int) = 124) → (wR_readAlternatives_196 R Q l3 l8 H G))))))) := h
    refine e3_K [0, 0] 44 [(2, 14), (2, l1), (0, l2), (0, l3), (1, l4), (3, 0), (1, l6), (3, 0), (0, l8), (2, l9), (0, l10), (3, 0)] [(0, 6), (0, l10)] (H) (G) (wZ L xs) (M := tbM71) rfl rfl trivial ?_
    refine e3_br (M := tbM71) rfl rfl rfl Iff.rfl (fun hc => ?_) (fun hc => ?_)
    · replace h := h.1 hc
      refine e3_fgt [true, false, false, true, false, false, false, false, true, false, false, false] ?_
      exact sR_readAlternatives_196 L xs n R hR Q _ _ _ _ h
    · replace h := h.2 hc
      refine e3_K [0] 49 [(2, 14), (2, l1), (0, l2), (0, l3), (1, l4), (3, 0), (1, l6), (3, 0), (0, l8), (2, l9), (0, l10), (3, 0)] [(0, l10)] (H) (G) (wZ L xs) (M := tbM71) rfl rfl trivial ?_
      refine e3_br (M := tbM71) rfl rfl rfl Iff.rfl (fun hc => ?_) (fun hc => ?_)
      · replace h := h.1 hc
        exact sR_readAlternatives_64 L xs n R hR Q (fun l1 l2 l3 l4 l6 l8 l9 l10 H G => wR_readAlternatives_40 R Q nn l1 l2 l3 l4 l6 l8 l9 l10 H G) ih _ _ _ _ _ _ _ _ _ _ h
      · replace h := h.2 hc
        refine e3_K [0, 4, 2, 0] 61 [(2, 14), (2, l1), (0, l2), (0, l3), (1, l4), (3, 0), (1, l6), (3, 0), (0, l8), (2, l9), (0, l10), (3, 0)] [(0, 124), (0, (H 3 7))] (H) (G) (wZ L xs) (M := tbM71) rfl rfl ⟨trivial, trivial, trivial⟩ ?_
        refine e3_br (M := tbM71) rfl rfl rfl Iff.rfl (fun hc => ?_) (fun hc => ?_)
        · replace h := h.1 hc
          exact sR_readAlternatives_64 L xs n R hR Q (fun l1 l2 l3 l4 l6 l8 l9 l10 H G => wR_readAlternatives_40 R Q nn l1 l2 l3 l4 l6 l8 l9 l10 H G) ih _ _ _ _ _ _ _ _ _ _ h
        · replace h := h.2 hc
          refine e3_fgt [true, false, false, true, false, false, false, false, true, false, false, false] ?_
          exact sR_readAlternatives_196 L xs n R hR Q _ _ _ _ h
set_option maxRecDepth 100000 in
set_option maxHeartbeats 4000000 in
theorem sR_readAlternatives (L : Nat) (xs : Nat → Int32) (n : Nat) (R : Int → Int → Int → Int → e3_H → e3_G → (Int → e3_H → e3_G → Prop) → Prop) (hR : ∀ (l1 : Int) (l2 : Int) (l3 : Int) (l4 : Int) (H : e3_H) (G : e3_G) (Q : Int → e3_H → e3_G → Prop), R l1 l2 l3 l4 H G Q → e3_Ev (wB L xs) (4 + 3 * n) (144 + 77 * n) 49 0 [(2, 14), (0, l1), (0, l2), (0, l3), (0, l4), (3, 0), (3, 0), (3, 0)] [] H G (e3_q2 Q)) (Q : Int → e3_H → e3_G → Prop) (l1 : Int) (l2 : Int) (H : e3_H) (G : e3_G) (h : wR_readAlternatives R Q l1 l2 H G) : e3_Ev (wB L xs) (5 + 3 * n) (171 + 77 * n) 71 0 [(2, 14), (2, l1), (0, l2), (3, 0), (3, 0), (3, 0), (3, 0), (3, 0), (3, 0), (3, 0), (3, 0), (3, 0)] [] H G (e3_q0 Q) := by
  unfold wR_readAlternatives at h
  obtain ⟨o2, o3, h⟩ := h
  refine e3_K [0, 4, 2, 0, 0, 2, 3, 0, 0, 0, 0, 0, 0, 0, 0, 0, 3] 32 [(2, 14), (2, l1), (0, l2), (0, (H 3 8)), (1, (H (H 14 7) 6)), (3, 0), (1, (H (H 14 7) 6)), (3, 0), (0, 1), (2, (-1)), (3, 0), (3, 0)] [] (e3_up H l1 0 3) (G) (wZ L xs) (M := tbM71) rfl rfl ⟨trivial, trivial, trivial, o2, ⟨o3, trivial⟩, trivial⟩ ?_
  generalize hH1 : (e3_up H l1 0 3) = H1
  replace h := h H1 hH1.symm
  obtain ⟨o5, h⟩ := h
  refine e3_K [0, 0, 3] 37 [(2, 14), (2, l1), (0, l2), (0, (H 3 8)), (1, (H (H 14 7) 6)), (3, 0), (1, (H (H 14 7) 6)), (3, 0), (0, 1), (2, (-1)), (3, 0), (3, 0)] [] (e3_up H1 l1 9 0) (G) (wZ L xs) (M := tbM71) rfl rfl ⟨⟨o5, trivial⟩, trivial⟩ ?_
  generalize hH4 : (e3_up H1 l1 9 0) = H4
  replace h := h H4 hH4.symm
  refine e3_K [0, 0] 40 [(2, 14), (2, l1), (0, l2), (0, (H 3 8)), (1, (H (H 14 7) 6)), (3, 0), (1, (H (H 14 7) 6)), (3, 0), (0, 1), (2, (-1)), (0, 0), (3, 0)] [] (H4) (G) (wZ L xs) (M := tbM71) rfl rfl trivial ?_
  obtain ⟨nl, h⟩ := h
  exact sR_readAlternatives_40 L xs n R hR Q nl _ _ _ _ _ _ _ _ _ _ h
