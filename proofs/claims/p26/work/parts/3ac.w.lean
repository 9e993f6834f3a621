/-- LetterPost$Reader.readKind(Z)Z -/
def wR_readKind_150 (Q : Int → e3_H → e3_G → Prop) (s0 : Int) (H : e3_H) (G : e3_G) : Prop :=
  ((s0 : Int) = 0 ∨ s0 = 1) ∧ Q s0 H G
def wR_readKind_149 (Q : Int → e3_H → e3_G → Prop)  (H : e3_H) (G : e3_G) : Prop :=
  (wR_readKind_150 Q 0 H G)
def wR_readKind_136 (Q : Int → e3_H → e3_G → Prop)  (H : e3_H) (G : e3_G) : Prop :=
  (wR_expect (fun x3 H1 G2 => (((x3 : Int) = 0 → (wR_readKind_149 Q H1 G2)) ∧ (¬ ((x3 : Int) = 0) → (wR_readKind_150 Q 1 H1 G2)))) 59 H G)
def wR_readKind_116 (Q : Int → e3_H → e3_G → Prop) (l2 : Int) (H : e3_H) (G : e3_G) : Prop :=
  ((((H 3 7) : Int) = 40 → (wR_readParts (fun x3 H1 G2 => (((x3 : Int) = 0 → (wR_readKind_149 Q H1 G2)) ∧ (¬ ((x3 : Int) = 0) → (wR_readKind_136 Q H1 G2)))) l2 H G)) ∧ (¬ (((H 3 7) : Int) = 40) → (wR_readKind_136 Q H G)))
def wR_readKind (Q : Int → e3_H → e3_G → Prop) (l1 : Int) (H : e3_H) (G : e3_G) : Prop :=
  (wT_step (fun H1 G2 => ((((H1 3 7) : Int) = 259 → (wK_find (fun x6 H4 G5 => (((x6 : Int) < 0 → (wK_begin (fun x9 H7 G8 => (((x9 : Int) < 0 → (wR_failHere (fun x12 H10 G11 => ((x12 : Int) = 0 ∨ x12 = 1) ∧ Q x12 H10 G11) 9 H7 G8)) ∧ (¬ ((x9 : Int) < 0) → (wT_step (fun H13 G14 => ((((H13 3 7) : Int) = 271 → (wR_readUnder (fun x18 H16 G17 => (((x18 : Int) = 0 → Q 0 H16 G17) ∧ (¬ ((x18 : Int) = 0) → (wR_readKind_116 Q x9 H16 G17)))) x9 l1 H13 G14)) ∧ (¬ (((H13 3 7) : Int) = 271) → (((l1 : Int) = 0 → (wR_readKind_116 Q x9 H13 G14)) ∧ (¬ ((l1 : Int) = 0) → (wR_failHere (fun x21 H19 G20 => ((x21 : Int) = 0 ∨ x21 = 1) ∧ Q x21 H19 G20) 2 H13 G14)))))) H7 G8)))) (H4 3 9) H4 G5)) ∧ (¬ ((x6 : Int) < 0) → (wR_failHere (fun x24 H22 G23 => ((x24 : Int) = 0 ∨ x24 = 1) ∧ Q x24 H22 G23) 3 H4 G5)))) (H1 3 9) H1 G2)) ∧ (¬ (((H1 3 7) : Int) = 259) → (wR_failHere (fun x27 H25 G26 => ((x27 : Int) = 0 ∨ x27 = 1) ∧ Q x27 H25 G26) 2 H1 G2)))) H G)
set_option maxRecDepth 100000 in
set_option maxHeartbeats 4000000 in
theorem sR_readKind_150 (L : Nat) (xs : Nat → Int32) (Q : Int → e3_H → e3_G → Prop) (s0 : Int) (H : e3_H) (G : e3_G) (h : wR_readKind_150 Q s0 H G) : e3_Ev (wB L xs) 3 67 26 150 [(3, 0), (3, 0), (3, 0)] [(0, s0)] H G (e3_q0 Q) := by
  unfold wR_readKind_150 at h
  exact e3_retb (M := tbM26) rfl rfl rfl h.1 ⟨_, rfl, h.2⟩
set_option maxRecDepth 100000 in
set_option maxHeartbeats 4000000 in
theorem sR_readKind_149 (L : Nat) (xs : Nat → Int32) (Q : Int → e3_H → e3_G → Prop)  (H : e3_H) (G : e3_G) (h : wR_readKind_149 Q  H G) : e3_Ev (wB L xs) 3 67 26 149 [(3, 0), (3, 0), (3, 0)] [] H G (e3_q0 Q) := by
  unfold wR_readKind_149 at h
  refine e3_K [0] 150 [(3, 0), (3, 0), (3, 0)] [(0, 0)] (H) (G) (wZ L xs) (M := tbM26) rfl rfl trivial ?_
  exact sR_readKind_150 L xs Q _ _ _ h
set_option maxRecDepth 100000 in
set_option maxHeartbeats 4000000 in
theorem sR_readKind_136 (L : Nat) (xs : Nat → Int32) (Q : Int → e3_H → e3_G → Prop)  (H : e3_H) (G : e3_G) (h : wR_readKind_136 Q  H G) : e3_Ev (wB L xs) 3 67 26 136 [(2, 14), (3, 0), (3, 0)] [] H G (e3_q0 Q) := by
  unfold wR_readKind_136 at h
  refine e3_K [0, 0] 139 [(2, 14), (3, 0), (3, 0)] [(0, 59), (2, 14)] (H) (G) (wZ L xs) (M := tbM26) rfl rfl trivial ?_
  refine e3_call (o := 0) (k := 38) (M2 := tbM38) (f1 := 1) (w1 := 21) (as := [(2, 14), (0, 59)]) (rest := []) (M := tbM26) rfl rfl rfl trivial (Nat.le_of_ble_eq_true rfl) (Nat.le_of_ble_eq_true rfl) (Nat.le_of_ble_eq_true rfl) ?_
  refine e3_mono (sR_expect L xs _ _ _ _ h) (fun r H1 G2 h => ?_)
  obtain ⟨x3, rfl, h⟩ := h
  change e3_Ev _ _ _ _ 142 [(2, 14), (3, 0), (3, 0)] [(0, x3)] H1 G2 _
  refine e3_br (M := tbM26) rfl rfl rfl Iff.rfl (fun hc => ?_) (fun hc => ?_)
  · replace h := h.1 hc
    refine e3_fgt [false, false, false] ?_
    exact sR_readKind_149 L xs Q _ _ h
  · replace h := h.2 hc
    refine e3_K [0, 0] 150 [(2, 14), (3, 0), (3, 0)] [(0, 1)] (H1) (G2) (wZ L xs) (M := tbM26) rfl rfl trivial ?_
    refine e3_fgt [false, false, false] ?_
    exact sR_readKind_150 L xs Q _ _ _ h
set_option maxRecDepth 100000 in
set_option maxHeartbeats 4000000 in
theorem sR_readKind_116 (L : Nat) (xs : Nat → Int32) (Q : Int → e3_H → e3_G → Prop) (l2 : Int) (H : e3_H) (G : e3_G) (h : wR_readKind_116 Q l2 H G) : e3_Ev (wB L xs) 3 67 26 116 [(2, 14), (3, 0), (0, l2)] [] H G (e3_q0 Q) := by
  unfold wR_readKind_116 at h
  refine e3_K [0, 4, 2, 0] 125 [(2, 14), (3, 0), (0, l2)] [(0, 40), (0, (H 3 7))] (H) (G) (wZ L xs) (M := tbM26) rfl rfl ⟨trivial, trivial, trivial⟩ ?_
  refine e3_br (M := tbM26) rfl rfl rfl Iff.rfl (fun hc => ?_) (fun hc => ?_)
  · replace h := h.1 hc
    refine e3_K [0, 0] 130 [(2, 14), (3, 0), (0, l2)] [(0, l2), (2, 14)] (H) (G) (wZ L xs) (M := tbM26) rfl rfl trivial ?_
    refine e3_call (o := 0) (k := 35) (M2 := tbM35) (f1 := 2) (w1 := 44) (as := [(2, 14), (0, l2)]) (rest := []) (M := tbM26) rfl rfl rfl trivial (Nat.le_of_ble_eq_true rfl) (Nat.le_of_ble_eq_true rfl) (Nat.le_of_ble_eq_true rfl) ?_
    refine e3_mono (sR_readParts L xs _ _ _ _ h) (fun r H1 G2 h => ?_)
    obtain ⟨x3, rfl, h⟩ := h
    change e3_Ev _ _ _ _ 133 [(2, 14), (3, 0), (0, l2)] [(0, x3)] H1 G2 _
    refine e3_br (M := tbM26) rfl rfl rfl Iff.rfl (fun hc => ?_) (fun hc => ?_)
    · replace h := h.1 hc
      refine e3_fgt [false, false, false] ?_
      exact sR_readKind_149 L xs Q _ _ h
    · replace h := h.2 hc
      refine e3_fgt [true, false, false] ?_
      exact sR_readKind_136 L xs Q _ _ h
  · replace h := h.2 hc
    refine e3_fgt [true, false, false] ?_
    exact sR_readKind_136 L xs Q _ _ h
set_option maxRecDepth 100000 in
set_option maxHeartbeats 4000000 in
theorem sR_readKind (L : Nat) (xs : Nat → Int32) (Q : Int → e3_H → e3_G → Prop) (l1 : Int) (H : e3_H) (G : e3_G) (h : wR_readKind Q l1 H G) : e3_Ev (wB L xs) 3 67 26 0 [(2, 14), (0, l1), (3, 0)] [] H G (e3_q0 Q) := by
  unfold wR_readKind at h
  refine e3_K [0, 4] 4 [(2, 14), (0, l1), (3, 0)] [(2, 3)] (H) (G) (wZ L xs) (M := tbM26) rfl rfl ⟨trivial, trivial⟩ ?_
  refine e3_call (o := 0) (k := 25) (M2 := tbM25) (f1 := 0) (w1 := 0) (as := [(2, 3)]) (rest := []) (M := tbM26) rfl rfl rfl trivial (Nat.le_of_ble_eq_true rfl) (Nat.le_of_ble_eq_true rfl) (Nat.le_of_ble_eq_true rfl) ?_
  refine e3_mono (sT_step L xs _ _ _ h) (fun r H1 G2 h => ?_)
  obtain ⟨rfl, h⟩ := h
  change e3_Ev _ _ _ _ 7 [(2, 14), (0, l1), (3, 0)] [] H1 G2 _
  refine e3_K [0, 4, 2, 0] 17 [(2, 14), (0, l1), (3, 0)] [(0, 259), (0, (H1 3 7))] (H1) (G2) (wZ L xs) (M := tbM26) rfl rfl ⟨trivial, trivial, trivial⟩ ?_
  refine e3_br (M := tbM26) rfl rfl rfl Iff.rfl (fun hc => ?_) (fun hc => ?_)
  · replace h := h.1 hc
    refine e3_K [0, 4, 0, 4, 2] 37 [(2, 14), (0, l1), (3, 0)] [(1, (H1 3 9)), (2, 8)] (H1) (G2) (wZ L xs) (M := tbM26) rfl rfl ⟨trivial, trivial, trivial, trivial⟩ ?_
    refine e3_call (o := 0) (k := 28) (M2 := tbM28) (f1 := 0) (w1 := 0) (as := [(2, 8), (1, (H1 3 9))]) (rest := []) (M := tbM26) rfl rfl rfl trivial (Nat.le_of_ble_eq_true rfl) (Nat.le_of_ble_eq_true rfl) (Nat.le_of_ble_eq_true rfl) ?_
    refine e3_mono (sK_find L xs _ _ _ _ h) (fun r H4 G5 h => ?_)
    obtain ⟨x6, rfl, h⟩ := h
    change e3_Ev _ _ _ _ 40 [(2, 14), (0, l1), (3, 0)] [(0, x6)] H4 G5 _
    refine e3_br (M := tbM26) rfl rfl rfl Iff.rfl (fun hc => ?_) (fun hc => ?_)
    · replace h := h.1 hc
      refine e3_K [0, 4, 0, 4, 2] 60 [(2, 14), (0, l1), (3, 0)] [(1, (H4 3 9)), (2, 8)] (H4) (G5) (wZ L xs) (M := tbM26) rfl rfl ⟨trivial, trivial, trivial, trivial⟩ ?_
      refine e3_call (o := 0) (k := 29) (M2 := tbM29) (f1 := 0) (w1 := 0) (as := [(2, 8), (1, (H4 3 9))]) (rest := []) (M := tbM26) rfl rfl rfl trivial (Nat.le_of_ble_eq_true rfl) (Nat.le_of_ble_eq_true rfl) (Nat.le_of_ble_eq_true rfl) ?_
      refine e3_mono (sK_begin L xs _ _ _ _ h) (fun r H7 G8 h => ?_)
      obtain ⟨x9, rfl, h⟩ := h
      change e3_Ev _ _ _ _ 63 [(2, 14), (0, l1), (3, 0)] [(0, x9)] H7 G8 _
      refine e3_K [0, 0] 65 [(2, 14), (0, l1), (0, x9)] [(0, x9)] (H7) (G8) (wZ L xs) (M := tbM26) rfl rfl trivial ?_
      refine e3_br (M := tbM26) rfl rfl rfl Iff.rfl (fun hc => ?_) (fun hc => ?_)
      · replace h := h.1 hc
        refine e3_K [0, 0] 71 [(2, 14), (0, l1), (0, x9)] [(0, 9), (2, 14)] (H7) (G8) (wZ L xs) (M := tbM26) rfl rfl trivial ?_
        refine e3_call (o := 0) (k := 27) (M2 := tbM27) (f1 := 0) (w1 := 0) (as := [(2, 14), (0, 9)]) (rest := []) (M := tbM26) rfl rfl rfl trivial (Nat.le_of_ble_eq_true rfl) (Nat.le_of_ble_eq_true rfl) (Nat.le_of_ble_eq_true rfl) ?_
        refine e3_mono (sR_failHere L xs _ _ _ _ h) (fun r H10 G11 h => ?_)
        obtain ⟨x12, rfl, h⟩ := h
        change e3_Ev _ _ _ _ 74 [(2, 14), (0, l1), (0, x9)] [(0, x12)] H10 G11 _
        exact e3_retb (M := tbM26) rfl rfl rfl h.1 ⟨_, rfl, h.2⟩
      · replace h := h.2 hc
        refine e3_K [0, 4] 79 [(2, 14), (0, l1), (0, x9)] [(2, 3)] (H7) (G8) (wZ L xs) (M := tbM26) rfl rfl ⟨trivial, trivial⟩ ?_
        refine e3_call (o := 0) (k := 25) (M2 := tbM25) (f1 := 0) (w1 := 0) (as := [(2, 3)]) (rest := []) (M := tbM26) rfl rfl rfl trivial (Nat.le_of_ble_eq_true rfl) (Nat.le_of_ble_eq_true rfl) (Nat.le_of_ble_eq_true rfl) ?_
        refine e3_mono (sT_step L xs _ _ _ h) (fun r H13 G14 h => ?_)
        obtain ⟨rfl, h⟩ := h
        change e3_Ev _ _ _ _ 82 [(2, 14), (0, l1), (0, x9)] [] H13 G14 _
        refine e3_K [0, 4, 2, 0] 92 [(2, 14), (0, l1), (0, x9)] [(0, 271), (0, (H13 3 7))] (H13) (G14) (wZ L xs) (M := tbM26) rfl rfl ⟨trivial, trivial, trivial⟩ ?_
        refine e3_br (M := tbM26) rfl rfl rfl Iff.rfl (fun hc => ?_) (fun hc => ?_)
        · replace h := h.1 hc
          refine e3_K [0, 0, 0] 98 [(2, 14), (0, l1), (0, x9)] [(0, l1), (0, x9), (2, 14)] (H13) (G14) (wZ L xs) (M := tbM26) rfl rfl trivial ?_
          refine e3_call (o := 0) (k := 30) (M2 := tbM30) (f1 := 2) (w1 := 43) (as := [(2, 14), (0, x9), (0, l1)]) (rest := []) (M := tbM26) rfl rfl rfl trivial (Nat.le_of_ble_eq_true rfl) (Nat.le_of_ble_eq_true rfl) (Nat.le_of_ble_eq_true rfl) ?_
          refine e3_mono (sR_readUnder L xs _ _ _ _ _ h) (fun r H16 G17 h => ?_)
          obtain ⟨x18, rfl, h⟩ := h
          change e3_Ev _ _ _ _ 101 [(2, 14), (0, l1), (0, x9)] [(0, x18)] H16 G17 _
          refine e3_br (M := tbM26) rfl rfl rfl Iff.rfl (fun hc => ?_) (fun hc => ?_)
          · replace h := h.1 hc
            refine e3_K [0] 105 [(2, 14), (0, l1), (0, x9)] [(0, 0)] (H16) (G17) (wZ L xs) (M := tbM26) rfl rfl trivial ?_
            exact e3_retb (M := tbM26) rfl rfl rfl (Or.inl rfl) ⟨_, rfl, h⟩
          · replace h := h.2 hc
            refine e3_fgt [true, false, true] ?_
            exact sR_readKind_116 L xs Q _ _ _ h
        · replace h := h.2 hc
          refine e3_K [0] 107 [(2, 14), (0, l1), (0, x9)] [(0, l1)] (H13) (G14) (wZ L xs) (M := tbM26) rfl rfl trivial ?_
          refine e3_br (M := tbM26) rfl rfl rfl Iff.rfl (fun hc => ?_) (fun hc => ?_)
          · replace h := h.1 hc
            refine e3_fgt [true, false, true] ?_
            exact sR_readKind_116 L xs Q _ _ _ h
          · replace h := h.2 hc
            refine e3_K [0, 0] 112 [(2, 14), (0, l1), (0, x9)] [(0, 2), (2, 14)] (H13) (G14) (wZ L xs) (M := tbM26) rfl rfl trivial ?_
            refine e3_call (o := 0) (k := 27) (M2 := tbM27) (f1 := 0) (w1 := 0) (as := [(2, 14), (0, 2)]) (rest := []) (M := tbM26) rfl rfl rfl trivial (Nat.le_of_ble_eq_true rfl) (Nat.le_of_ble_eq_true rfl) (Nat.le_of_ble_eq_true rfl) ?_
            refine e3_mono (sR_failHere L xs _ _ _ _ h) (fun r H19 G20 h => ?_)
            obtain ⟨x21, rfl, h⟩ := h
            change e3_Ev _ _ _ _ 115 [(2, 14), (0, l1), (0, x9)] [(0, x21)] H19 G20 _
            exact e3_retb (M := tbM26) rfl rfl rfl h.1 ⟨_, rfl, h.2⟩
    · replace h := h.2 hc
      refine e3_K [0, 0] 45 [(2, 14), (0, l1), (3, 0)] [(0, 3), (2, 14)] (H4) (G5) (wZ L xs) (M := tbM26) rfl rfl trivial ?_
      refine e3_call (o := 0) (k := 27) (M2 := tbM27) (f1 := 0) (w1 := 0) (as := [(2, 14), (0, 3)]) (rest := []) (M := tbM26) rfl rfl rfl trivial (Nat.le_of_ble_eq_true rfl) (Nat.le_of_ble_eq_true rfl) (Nat.le_of_ble_eq_true rfl) ?_
      refine e3_mono (sR_failHere L xs _ _ _ _ h) (fun r H22 G23 h => ?_)
      obtain ⟨x24, rfl, h⟩ := h
      change e3_Ev _ _ _ _ 48 [(2, 14), (0, l1), (3, 0)] [(0, x24)] H22 G23 _
      exact e3_retb (M := tbM26) rfl rfl rfl h.1 ⟨_, rfl, h.2⟩
  · replace h := h.2 hc
    refine e3_K [0, 0] 22 [(2, 14), (0, l1), (3, 0)] [(0, 2), (2, 14)] (H1) (G2) (wZ L xs) (M := tbM26) rfl rfl trivial ?_
    refine e3_call (o := 0) (k := 27) (M2 := tbM27) (f1 := 0) (w1 := 0) (as := [(2, 14), (0, 2)]) (rest := []) (M := tbM26) rfl rfl rfl trivial (Nat.le_of_ble_eq_true rfl) (Nat.le_of_ble_eq_true rfl) (Nat.le_of_ble_eq_true rfl) ?_
    refine e3_mono (sR_failHere L xs _ _ _ _ h) (fun r H25 G26 h => ?_)
    obtain ⟨x27, rfl, h⟩ := h
    change e3_Ev _ _ _ _ 25 [(2, 14), (0, l1), (3, 0)] [(0, x27)] H25 G26 _
    exact e3_retb (M := tbM26) rfl rfl rfl h.1 ⟨_, rfl, h.2⟩
/-- LetterPost$Reader.findFunction(J)I -/
def wR_findFunction_2 (Q : Int → e3_H → e3_G → Prop) : Nat → Int → Int → e3_H → e3_G → Prop
  | 0, _, _, _, _ => False
  | nn + 1, l1, l3, H, G => (((l3 : Int) < (H 14 3) → ((0 : Int) ≤ l3 ∧ (l3 : Int) < 12) ∧ (e3_ob G 8 (H 15 l3)) ∧ ((((H (H 15 l3) 0) : Int) = l1 → Q l3 H G) ∧ (¬ (((H (H 15 l3) 0) : Int) = l1) → (wR_findFunction_2 Q nn l1 (e3_w32 (l3 + 1)) H G)))) ∧ (¬ ((l3 : Int) < (H 14 3)) → Q (-1) H G))
def wR_findFunction (Q : Int → e3_H → e3_G → Prop) (l1 : Int) (H : e3_H) (G : e3_G) : Prop :=
  (∃ n, wR_findFunction_2 Q n l1 0 H G)
set_option maxRecDepth 100000 in
set_option maxHeartbeats 4000000 in
theorem sR_findFunction_2 (L : Nat) (xs : Nat → Int32) (Q : Int → e3_H → e3_G → Prop) : ∀ (nl : Nat) (l1 : Int) (l3 : Int) (H : e3_H) (G : e3_G), wR_findFunction_2 Q nl l1 l3 H G → e3_Ev (wB L xs) 0 0 40 2 [(2, 14), (1, l1), (3, 0), (0, l3)] [] H G (e3_q0 Q) := by
  intro nl
  induction nl with
  | zero => intro l1 l3 H G h; exact h.elim
  | succ nn ih =>
    intro l1 l3 H G h
    have h : (((l3 : Int) < (H 14 3) → ((0 : Int) ≤ l3 ∧ (l3 : Int) < 12) ∧ (e3_ob G 8 (H 15 l3)) ∧ ((((H (H 15 l3) 0) : Int) = l1 → Q l3 H G) ∧ (¬ (((H (H 15 l3) 0) : Int) = l1) → (wR_findFunction_2 Q nn l1 (e3_w32 (l3 + 1)) H G)))) ∧ (¬ ((l3 : Int) < (H 14 3)) → Q (-1) H G)) := h
    refine e3_K [0, 0, 2] 7 [(2, 14), (1, l1), (3, 0), (0, l3)] [(0, (H 14 3)), (0, l3)] (H) (G) (wZ L xs) (M := tbM40) rfl rfl ⟨trivial, trivial⟩ ?_
    refine e3_br (M := tbM40) rfl rfl rfl Iff.rfl (fun hc => ?_) (fun hc => ?_)
    · replace h := h.1 hc
      obtain ⟨o1, o2, h⟩ := h
      refine e3_K [0, 4, 0, 2, 3, 0, 0] 21 [(2, 14), (1, l1), (3, 0), (0, l3)] [(0, (e3_cmp (H (H 15 l3) 0) l1))] (H) (G) (wZ L xs) (M := tbM40) rfl rfl ⟨trivial, o1, o2, trivial⟩ ?_
      refine e3_br (M := tbM40) rfl rfl rfl e3_cmp_eq (fun hc => ?_) (fun hc => ?_)
      · replace h := h.1 hc
        refine e3_K [0] 25 [(2, 14), (1, l1), (3, 0), (0, l3)] [(0, l3)] (H) (G) (wZ L xs) (M := tbM40) rfl rfl trivial ?_
        exact e3_reti (M := tbM40) rfl rfl rfl ⟨_, rfl, h⟩
      · replace h := h.2 hc
        refine e3_K [0, 0] 2 [(2, 14), (1, l1), (3, 0), (0, (e3_w32 (l3 + 1)))] [] (H) (G) (wZ L xs) (M := tbM40) rfl rfl trivial ?_
        exact ih _ _ _ _ h
    · replace h := h.2 hc
      refine e3_K [0] 33 [(2, 14), (1, l1), (3, 0), (0, l3)] [(0, (-1))] (H) (G) (wZ L xs) (M := tbM40) rfl rfl trivial ?_
      exact e3_reti (M := tbM40) rfl rfl rfl ⟨_, rfl, h⟩
set_option maxRecDepth 100000 in
set_option maxHeartbeats 4000000 in
theorem sR_findFunction (L : Nat) (xs : Nat → Int32) (Q : Int → e3_H → e3_G → Prop) (l1 : Int) (H : e3_H) (G : e3_G) (h : wR_findFunction Q l1 H G) : e3_Ev (wB L xs) 0 0 40 0 [(2, 14), (1, l1), (3, 0), (3, 0)] [] H G (e3_q0 Q) := by
  unfold wR_findFunction at h
  refine e3_K [0, 0] 2 [(2, 14), (1, l1), (3, 0), (0, 0)] [] (H) (G) (wZ L xs) (M := tbM40) rfl rfl trivial ?_
  obtain ⟨nl, h⟩ := h
  exact sR_findFunction_2 L xs Q nl _ _ _ _ h
/-- LetterPost$Function.<init>(J)V -/
def wF_init (Q : e3_H → e3_G → Prop) (l0 : Int) (l1 : Int) (H : e3_H) (G : e3_G) : Prop :=
  ((0 : Int) ≤ l0) ∧ ∀ (H1 : e3_H) (G2 : e3_G), H1 = e3_nw H (G.length : Int) (fun _ => 0) → G2 = G ++ [(0, (3 : Int).toNat)] → (e3_ob G2 8 l0) ∧ ∀ H3 : e3_H, H3 = e3_up H1 l0 2 (G.length : Int) → ∀ (H5 : e3_H) (G6 : e3_G), H5 = e3_nw H3 (G2.length : Int) (fun _ => -1) → G6 = G2 ++ [(5, (16 : Int).toNat)] → (e3_ob G6 8 l0) ∧ ∀ H7 : e3_H, H7 = e3_up H5 l0 4 (G2.length : Int) → ∀ (H9 : e3_H) (G10 : e3_G), H9 = e3_nw H7 (G6.length : Int) (fun _ => -1) → G10 = G6 ++ [(6, (40 : Int).toNat)] → (e3_ob G10 8 l0) ∧ ∀ H11 : e3_H, H11 = e3_up H9 l0 6 (G6.length : Int) → ∀ (H13 : e3_H) (G14 : e3_G), H13 = e3_nw H11 (G10.length : Int) (fun _ => 0) → G14 = G10 ++ [(0, (16 : Int).toNat)] → (e3_ob G14 8 l0) ∧ ∀ H15 : e3_H, H15 = e3_up H13 l0 8 (G10.length : Int) → ∀ (H17 : e3_H) (G18 : e3_G), H17 = e3_nw H15 (G14.length : Int) (fun _ => 0) → G18 = G14 ++ [(0, (16 : Int).toNat)] → (e3_ob G18 8 l0) ∧ ∀ H19 : e3_H, H19 = e3_up H17 l0 9 (G14.length : Int) → ∀ (H21 : e3_H) (G22 : e3_G), H21 = e3_nw H19 (G18.length : Int) (e3_dz (wFc.getD 5 [])) → G22 = G18 ++ [(105, 10)] → ((0 : Int) ≤ (G18.length : Int)) ∧ (wE_init (fun H23 G24 => (e3_ob G24 8 l0) ∧ ∀ H26 : e3_H, H26 = e3_up H23 l0 10 (G18.length : Int) → (e3_ob G24 8 l0) ∧ ∀ H28 : e3_H, H28 = e3_up H26 l0 0 l1 → Q H28 G24) (G18.length : Int) H21 G22)
set_option maxRecDepth 100000 in
set_option maxHeartbeats 4000000 in
theorem sF_init (L : Nat) (xs : Nat → Int32) (Q : e3_H → e3_G → Prop) (l0 : Int) (l1 : Int) (H : e3_H) (G : e3_G) (h : wF_init Q l0 l1 H G) : e3_Ev (wB L xs) 2 60 41 0 [(2, l0), (1, l1), (3, 0)] [] H G (e3_qv Q) := by
  unfold wF_init at h
  refine e3_K [0] 1 [(2, l0), (1, l1), (3, 0)] [(2, l0)] (H) (G) (wZ L xs) (M := tbM41) rfl rfl trivial ?_
  obtain ⟨oz, h⟩ := h
  refine e3_oi (M := tbM41) rfl rfl rfl oz (Nat.le_of_ble_eq_true rfl) (Nat.le_of_ble_eq_true rfl) ?_
  refine e3_K [0, 0, 2] 8 [(2, l0), (1, l1), (3, 0)] [(2, (G.length : Int)), (2, l0)] (e3_nw H (G.length : Int) (fun _ => 0)) (G ++ [(0, (3 : Int).toNat)]) (wZ L xs) (M := tbM41) rfl rfl ⟨⟨by decide, by decide⟩, trivial⟩ ?_
  generalize hH1 : (e3_nw H (G.length : Int) (fun _ => 0)) = H1
  generalize hG2 : (G ++ [(0, (3 : Int).toNat)]) = G2
  replace h := h H1 G2 hH1.symm hG2.symm
  obtain ⟨o4, h⟩ := h
  refine e3_K [3] 11 [(2, l0), (1, l1), (3, 0)] [] (e3_up H1 l0 2 (G.length : Int)) (G2) (wZ L xs) (M := tbM41) rfl rfl ⟨⟨o4, trivial⟩, trivial⟩ ?_
  generalize hH3 : (e3_up H1 l0 2 (G.length : Int)) = H3
  replace h := h H3 hH3.symm
  refine e3_K [0, 0, 2] 17 [(2, l0), (1, l1), (3, 0)] [(2, (G2.length : Int)), (2, l0)] (e3_nw H3 (G2.length : Int) (fun _ => -1)) (G2 ++ [(5, (16 : Int).toNat)]) (wZ L xs) (M := tbM41) rfl rfl ⟨⟨by decide, by decide⟩, trivial⟩ ?_
  generalize hH5 : (e3_nw H3 (G2.length : Int) (fun _ => -1)) = H5
  generalize hG6 : (G2 ++ [(5, (16 : Int).toNat)]) = G6
  replace h := h H5 G6 hH5.symm hG6.symm
  obtain ⟨o8, h⟩ := h
  refine e3_K [3] 20 [(2, l0), (1, l1), (3, 0)] [] (e3_up H5 l0 4 (G2.length : Int)) (G6) (wZ L xs) (M := tbM41) rfl rfl ⟨⟨o8, trivial⟩, trivial⟩ ?_
  generalize hH7 : (e3_up H5 l0 4 (G2.length : Int)) = H7
  replace h := h H7 hH7.symm
  refine e3_K [0, 0, 2] 26 [(2, l0), (1, l1), (3, 0)] [(2, (G6.length : Int)), (2, l0)] (e3_nw H7 (G6.length : Int) (fun _ => -1)) (G6 ++ [(6, (40 : Int).toNat)]) (wZ L xs) (M := tbM41) rfl rfl ⟨⟨by decide, by decide⟩, trivial⟩ ?_
  generalize hH9 : (e3_nw H7 (G6.length : Int) (fun _ => -1)) = H9
  generalize hG10 : (G6 ++ [(6, (40 : Int).toNat)]) = G10
  replace h := h H9 G10 hH9.symm hG10.symm
  obtain ⟨o12, h⟩ := h
  refine e3_K [3] 29 [(2, l0), (1, l1), (3, 0)] [] (e3_up H9 l0 6 (G6.length : Int)) (G10) (wZ L xs) (M := tbM41) rfl rfl ⟨⟨o12, trivial⟩, trivial⟩ ?_
  generalize hH11 : (e3_up H9 l0 6 (G6.length : Int)) = H11
  replace h := h H11 hH11.symm
  refine e3_K [0, 0, 2] 34 [(2, l0), (1, l1), (3, 0)] [(2, (G10.length : Int)), (2, l0)] (e3_nw H11 (G10.length : Int) (fun _ => 0)) (G10 ++ [(0, (16 : Int).toNat)]) (wZ L xs) (M := tbM41) rfl rfl ⟨⟨by decide, by decide⟩, trivial⟩ ?_
  generalize hH13 : (e3_nw H11 (G10.length : Int) (fun _ => 0)) = H13
  generalize hG14 : (G10 ++ [(0, (16 : Int).toNat)]) = G14
  replace h := h H13 G14 hH13.symm hG14.symm
  obtain ⟨o16, h⟩ := h
  refine e3_K [3] 37 [(2, l0), (1, l1), (3, 0)] [] (e3_up H13 l0 8 (G10.length : Int)) (G14) (wZ L xs) (M := tbM41) rfl rfl ⟨⟨o16, trivial⟩, trivial⟩ ?_
  generalize hH15 : (e3_up H13 l0 8 (G10.length : Int)) = H15
  replace h := h H15 hH15.symm
  refine e3_K [0, 0, 2] 42 [(2, l0), (1, l1), (3, 0)] [(2, (G14.length : Int)), (2, l0)] (e3_nw H15 (G14.length : Int) (fun _ => 0)) (G14 ++ [(0, (16 : Int).toNat)]) (wZ L xs) (M := tbM41) rfl rfl ⟨⟨by decide, by decide⟩, trivial⟩ ?_
  generalize hH17 : (e3_nw H15 (G14.length : Int) (fun _ => 0)) = H17
  generalize hG18 : (G14 ++ [(0, (16 : Int).toNat)]) = G18
  replace h := h H17 G18 hH17.symm hG18.symm
  obtain ⟨o20, h⟩ := h
  refine e3_K [3] 45 [(2, l0), (1, l1), (3, 0)] [] (e3_up H17 l0 9 (G14.length : Int)) (G18) (wZ L xs) (M := tbM41) rfl rfl ⟨⟨o20, trivial⟩, trivial⟩ ?_
  generalize hH19 : (e3_up H17 l0 9 (G14.length : Int)) = H19
  replace h := h H19 hH19.symm
  refine e3_K [0, 2] 49 [(2, l0), (1, l1), (3, 0)] [(2, (G18.length : Int)), (2, l0)] (e3_nw H19 (G18.length : Int) (e3_dz (wFc.getD 5 []))) (G18 ++ [(105, 10)]) (wZ L xs) (M := tbM41) rfl rfl ⟨trivial, trivial⟩ ?_
  generalize hH21 : (e3_nw H19 (G18.length : Int) (e3_dz (wFc.getD 5 []))) = H21
  generalize hG22 : (G18 ++ [(105, 10)]) = G22
  replace h := h H21 G22 hH21.symm hG22.symm
  refine e3_K [0] 50 [(2, l0), (1, l1), (3, 0)] [(2, (G18.length : Int)), (2, (G18.length : Int)), (2, l0)] (H21) (G22) (wZ L xs) (M := tbM41) rfl rfl trivial ?_
  obtain ⟨oz, h⟩ := h
  refine e3_call (o := 0) (k := 6) (M2 := tbM6) (f1 := 1) (w1 := 40) (as := [(2, (G18.length : Int))]) (rest := [(2, (G18.length : Int)), (2, l0)]) (M := tbM41) rfl rfl rfl oz (Nat.le_of_ble_eq_true rfl) (Nat.le_of_ble_eq_true rfl) (Nat.le_of_ble_eq_true rfl) ?_
  refine e3_mono (sE_init L xs _ _ _ _ h) (fun r H23 G24 h => ?_)
  obtain ⟨rfl, h⟩ := h
  change e3_Ev _ _ _ _ 53 [(2, l0), (1, l1), (3, 0)] [(2, (G18.length : Int)), (2, l0)] H23 G24 _
  obtain ⟨o27, h⟩ := h
  refine e3_K [3] 56 [(2, l0), (1, l1), (3, 0)] [] (e3_up H23 l0 10 (G18.length : Int)) (G24) (wZ L xs) (M := tbM41) rfl rfl ⟨⟨o27, trivial⟩, trivial⟩ ?_
  generalize hH26 : (e3_up H23 l0 10 (G18.length : Int)) = H26
  replace h := h H26 hH26.symm
  obtain ⟨o29, h⟩ := h
  refine e3_K [0, 0, 3] 61 [(2, l0), (1, l1), (3, 0)] [] (e3_up H26 l0 0 l1) (G24) (wZ L xs) (M := tbM41) rfl rfl ⟨⟨o29, trivial⟩, trivial⟩ ?_
  generalize hH28 : (e3_up H26 l0 0 l1) = H28
  replace h := h H28 hH28.symm
  exact e3_retv (M := tbM41) rfl rfl rfl ⟨rfl, h⟩
/-- java/lang/Math.min(II)I -/
def wJ_min_II_10 (Q : Int → e3_H → e3_G → Prop) (s0 : Int) (H : e3_H) (G : e3_G) : Prop :=
  Q s0 H G
def wJ_min_II (Q : Int → e3_H → e3_G → Prop) (l0 : Int) (l1 : Int) (H : e3_H) (G : e3_G) : Prop :=
  (((l1 : Int) < l0 → (wJ_min_II_10 Q l1 H G)) ∧ (¬ ((l1 : Int) < l0) → (wJ_min_II_10 Q l0 H G)))
set_option maxRecDepth 100000 in
set_option maxHeartbeats 4000000 in
theorem sJ_min_II_10 (L : Nat) (xs : Nat → Int32) (Q : Int → e3_H → e3_G → Prop) (s0 : Int) (H : e3_H) (G : e3_G) (h : wJ_min_II_10 Q s0 H G) : e3_Ev (wB L xs) 0 0 303 10 [(3, 0), (3, 0)] [(0, s0)] H G (e3_q0 Q) := by
  unfold wJ_min_II_10 at h
  exact e3_reti (M := tbM303) rfl rfl rfl ⟨_, rfl, h⟩
set_option maxRecDepth 100000 in
set_option maxHeartbeats 4000000 in
theorem sJ_min_II (L : Nat) (xs : Nat → Int32) (Q : Int → e3_H → e3_G → Prop) (l0 : Int) (l1 : Int) (H : e3_H) (G : e3_G) (h : wJ_min_II Q l0 l1 H G) : e3_Ev (wB L xs) 0 0 303 0 [(0, l0), (0, l1)] [] H G (e3_q0 Q) := by
  unfold wJ_min_II at h
  refine e3_K [0, 0] 2 [(0, l0), (0, l1)] [(0, l1), (0, l0)] (H) (G) (wZ L xs) (M := tbM303) rfl rfl trivial ?_
  refine e3_br (M := tbM303) rfl rfl rfl Iff.rfl (fun hc => ?_) (fun hc => ?_)
  · replace h := h.1 hc
    refine e3_K [0] 10 [(0, l0), (0, l1)] [(0, l1)] (H) (G) (wZ L xs) (M := tbM303) rfl rfl trivial ?_
    refine e3_fgt [false, false] ?_
    exact sJ_min_II_10 L xs Q _ _ _ h
  · replace h := h.2 hc
    refine e3_K [0, 0] 10 [(0, l0), (0, l1)] [(0, l0)] (H) (G) (wZ L xs) (M := tbM303) rfl rfl trivial ?_
    refine e3_fgt [false, false] ?_
    exact sJ_min_II_10 L xs Q _ _ _ h
/-- java/util/Arrays.copyOf([II)[I -/
def wJ_copyOf_AII (Q : Int → e3_H → e3_G → Prop) (l0 : Int) (l1 : Int) (H : e3_H) (G : e3_G) : Prop :=
  ((2 : Int) ≤ l0 ∧ e3_ln G l0 ≤ 2147483647 ∧ ∃ n, G[(l0 : Int).toNat]? = some (0, n)) ∧ (((l1 : Int) = (e3_ln G l0) → False) ∧ (¬ ((l1 : Int) = (e3_ln G l0)) → ((0 : Int) ≤ l1 ∧ l1 ≤ 1000000) ∧ ∀ (H2 : e3_H) (G3 : e3_G), H2 = e3_nw H (G.length : Int) (fun _ => 0) → G3 = G ++ [(0, (l1 : Int).toNat)] → ((2 : Int) ≤ l0 ∧ e3_ln G3 l0 ≤ 2147483647 ∧ ∃ n, G3[(l0 : Int).toNat]? = some (0, n)) ∧ (wJ_min_II (fun x8 H6 G7 => (e3_co G7 l0 0 (G.length : Int) 0 x8) ∧ ∀ H9 : e3_H, H9 = e3_cpy H6 l0 0 (G.length : Int) 0 x8 → Q (G.length : Int) H9 G7) (e3_ln G3 l0) l1 H2 G3)))
set_option maxRecDepth 100000 in
set_option maxHeartbeats 4000000 in
theorem sJ_copyOf_AII (L : Nat) (xs : Nat → Int32) (Q : Int → e3_H → e3_G → Prop) (l0 : Int) (l1 : Int) (H : e3_H) (G : e3_G) (h : wJ_copyOf_AII Q l0 l1 H G) : e3_Ev (wB L xs) 1 80 304 0 [(2, l0), (0, l1), (3, 0)] [] H G (e3_q2 Q) := by
  unfold wJ_copyOf_AII at h
  obtain ⟨o1, h⟩ := h
  refine e3_K [0, 0, 3] 3 [(2, l0), (0, l1), (3, 0)] [(0, (e3_ln G l0)), (0, l1)] (H) (G) (wZ L xs) (M := tbM304) rfl rfl ⟨o1, trivial⟩ ?_
  refine e3_br (M := tbM304) rfl rfl rfl Iff.rfl (fun hc => ?_) (fun hc => ?_)
  · replace h := h.1 hc
    refine e3_K [0] 7 [(2, l0), (0, l1), (3, 0)] [(2, l0)] (H) (G) (wZ L xs) (M := tbM304) rfl rfl trivial ?_
    exact h.elim
  · replace h := h.2 hc
    obtain ⟨o4, h⟩ := h
    refine e3_K [0, 2] 17 [(2, l0), (0, l1), (3, 0)] [(2, (G.length : Int))] (e3_nw H (G.length : Int) (fun _ => 0)) (G ++ [(0, (l1 : Int).toNat)]) (wZ L xs) (M := tbM304) rfl rfl ⟨o4, trivial⟩ ?_
    generalize hH2 : (e3_nw H (G.length : Int) (fun _ => 0)) = H2
    generalize hG3 : (G ++ [(0, (l1 : Int).toNat)]) = G3
    replace h := h H2 G3 hH2.symm hG3.symm
    obtain ⟨o5, h⟩ := h
    refine e3_K [0, 0, 0, 0, 0, 0, 3, 0] 25 [(2, l0), (0, l1), (2, (G.length : Int))] [(0, l1), (0, (e3_ln G3 l0)), (0, 0), (2, (G.length : Int)), (0, 0), (2, l0)] (H2) (G3) (wZ L xs) (M := tbM304) rfl rfl ⟨o5, trivial⟩ ?_
    refine e3_call (o := 0) (k := 303) (M2 := tbM303) (f1 := 0) (w1 := 0) (as := [(0, (e3_ln G3 l0)), (0, l1)]) (rest := [(0, 0), (2, (G.length : Int)), (0, 0), (2, l0)]) (M := tbM304) rfl rfl rfl trivial (Nat.le_of_ble_eq_true rfl) (Nat.le_of_ble_eq_true rfl) (Nat.le_of_ble_eq_true rfl) ?_
    refine e3_mono (sJ_min_II L xs _ _ _ _ _ h) (fun r H6 G7 h => ?_)
    obtain ⟨x8, rfl, h⟩ := h
    change e3_Ev _ _ _ _ 28 [(2, l0), (0, l1), (2, (G.length : Int))] [(0, x8), (0, 0), (2, (G.length : Int)), (0, 0), (2, l0)] H6 G7 _
    obtain ⟨oz, h⟩ := h
    refine e3_cp2 (M := tbM304) rfl rfl rfl oz (Nat.le_of_ble_eq_true rfl) (Nat.le_of_ble_eq_true rfl) ?_
    generalize hH9 : e3_cpy H6 l0 0 (G.length : Int) 0 x8 = H9
    replace h := h H9 hH9.symm
    refine e3_K [0] 32 [(2, l0), (0, l1), (2, (G.length : Int))] [(2, (G.length : Int))] (H9) (G7) (wZ L xs) (M := tbM304) rfl rfl trivial ?_
    exact e3_reta (M := tbM304) rfl rfl rfl ⟨_, rfl, h⟩
/-- LetterPost$Function.placeIn(II)I -/
def wF_placeIn_84 (Q : Int → e3_H → e3_G → Prop) (l0 : Int) (l1 : Int) (l2 : Int) (H : e3_H) (G : e3_G) : Prop :=
  (e3_ob G 8 l0) ∧ (e3_ob G 8 l0) ∧ (e3_oa G 0 (H l0 8) (H l0 7)) ∧ ∀ H1 : e3_H, H1 = e3_up H (H l0 8) (H l0 7) l1 → (e3_ob G 8 l0) ∧ (e3_ob G 8 l0) ∧ (e3_oa G 0 (H1 l0 9) (H1 l0 7)) ∧ ∀ H5 : e3_H, H5 = e3_up H1 (H1 l0 9) (H1 l0 7) l2 → (e3_ob G 8 l0) ∧ (e3_ob G 8 l0) ∧ ∀ H9 : e3_H, H9 = e3_up H5 l0 7 (e3_w32 ((H5 l0 7) + 1)) → (e3_ob G 8 l0) ∧ Q (e3_w32 ((H9 l0 7) - 1)) H9 G
def wF_placeIn_32 (Q : Int → e3_H → e3_G → Prop) (k2 : Int → Int → Int → Int → e3_H → e3_G → Prop) (l0 : Int) (l1 : Int) (l2 : Int) (l3 : Int) (H : e3_H) (G : e3_G) : Prop :=
  (k2 l0 l1 l2 (e3_w32 (l3 + 1)) H G)
def wF_placeIn_2 (Q : Int → e3_H → e3_G → Prop) : Nat → Int → Int → Int → Int → e3_H → e3_G → Prop
  | 0, _, _, _, _, _, _ => False
  | nn + 1, l0, l1, l2, l3, H, G => (e3_ob G 8 l0) ∧ (((l3 : Int) < (H l0 7) → (e3_ob G 8 l0) ∧ (e3_oa G 0 (H l0 8) l3) ∧ ((((H (H l0 8) l3) : Int) = l1 → (e3_ob G 8 l0) ∧ (e3_oa G 0 (H l0 9) l3) ∧ ((((H (H l0 9) l3) : Int) = l2 → Q l3 H G) ∧ (¬ (((H (H l0 9) l3) : Int) = l2) → (wF_placeIn_32 Q (fun l0 l1 l2 l3 H G => wF_placeIn_2 Q nn l0 l1 l2 l3 H G) l0 l1 l2 l3 H G)))) ∧ (¬ (((H (H l0 8) l3) : Int) = l1) → (wF_placeIn_32 Q (fun l0 l1 l2 l3 H G => wF_placeIn_2 Q nn l0 l1 l2 l3 H G) l0 l1 l2 l3 H G)))) ∧ (¬ ((l3 : Int) < (H l0 7)) → (e3_ob G 8 l0) ∧ (e3_ob G 8 l0) ∧ ((2 : Int) ≤ (H l0 8) ∧ e3_ln G (H l0 8) ≤ 2147483647 ∧ ∃ n, G[((H l0 8) : Int).toNat]? = some (0, n)) ∧ ((((H l0 7) : Int) < (e3_ln G (H l0 8)) → (wF_placeIn_84 Q l0 l1 l2 H G)) ∧ (¬ (((H l0 7) : Int) < (e3_ln G (H l0 8))) → (e3_ob G 8 l0) ∧ (e3_ob G 8 l0) ∧ (wJ_copyOf_AII (fun x13 H11 G12 => (e3_ob G12 8 l0) ∧ ∀ H14 : e3_H, H14 = e3_up H11 l0 8 x13 → (e3_ob G12 8 l0) ∧ (e3_ob G12 8 l0) ∧ (wJ_copyOf_AII (fun x20 H18 G19 => (e3_ob G19 8 l0) ∧ ∀ H21 : e3_H, H21 = e3_up H18 l0 9 x20 → (wF_placeIn_84 Q l0 l1 l2 H21 G19)) (H14 l0 9) (e3_w32 ((H14 l0 7) * 2)) H14 G12)) (H l0 8) (e3_w32 ((H l0 7) * 2)) H G)))))
def wF_placeIn (Q : Int → e3_H → e3_G → Prop) (l0 : Int) (l1 : Int) (l2 : Int) (H : e3_H) (G : e3_G) : Prop :=
  (∃ n, wF_placeIn_2 Q n l0 l1 l2 0 H G)
set_option maxRecDepth 100000 in
set_option maxHeartbeats 4000000 in
theorem sF_placeIn_84 (L : Nat) (xs : Nat → Int32) (Q : Int → e3_H → e3_G → Prop) (l0 : Int) (l1 : Int) (l2 : Int) (H : e3_H) (G : e3_G) (h : wF_placeIn_84 Q l0 l1 l2 H G) : e3_Ev (wB L xs) 2 102 44 84 [(2, l0), (0, l1), (0, l2), (3, 0)] [] H G (e3_q0 Q) := by
  unfold wF_placeIn_84 at h
  obtain ⟨o2, o3, o4, h⟩ := h
  refine e3_K [0, 3, 0, 3, 0, 3] 94 [(2, l0), (0, l1), (0, l2), (3, 0)] [] (e3_up H (H l0 8) (H l0 7) l1) (G) (wZ L xs) (M := tbM44) rfl rfl ⟨o2, o3, o4, trivial⟩ ?_
  generalize hH1 : (e3_up H (H l0 8) (H l0 7) l1) = H1
  replace h := h H1 hH1.symm
  obtain ⟨o6, o7, o8, h⟩ := h
  refine e3_K [0, 3, 0, 3, 0, 3] 104 [(2, l0), (0, l1), (0, l2), (3, 0)] [] (e3_up H1 (H1 l0 9) (H1 l0 7) l2) (G) (wZ L xs) (M := tbM44) rfl rfl ⟨o6, o7, o8, trivial⟩ ?_
  generalize hH5 : (e3_up H1 (H1 l0 9) (H1 l0 7) l2) = H5
  replace h := h H5 hH5.symm
  obtain ⟨o10, o11, h⟩ := h
  refine e3_K [0, 0, 3, 0, 0, 3] 114 [(2, l0), (0, l1), (0, l2), (3, 0)] [] (e3_up H5 l0 7 (e3_w32 ((H5 l0 7) + 1))) (G) (wZ L xs) (M := tbM44) rfl rfl ⟨o10, ⟨o11, trivial⟩, trivial⟩ ?_
  generalize hH9 : (e3_up H5 l0 7 (e3_w32 ((H5 l0 7) + 1))) = H9
  replace h := h H9 hH9.symm
  obtain ⟨o12, h⟩ := h
  refine e3_K [0, 3, 0, 0] 120 [(2, l0), (0, l1), (0, l2), (3, 0)] [(0, (e3_w32 ((H9 l0 7) - 1)))] (H9) (G) (wZ L xs) (M := tbM44) rfl rfl ⟨o12, trivial⟩ ?_
  exact e3_reti (M := tbM44) rfl rfl rfl ⟨_, rfl, h⟩
set_option maxRecDepth 100000 in
set_option maxHeartbeats 4000000 in
theorem sF_placeIn_32 (L : Nat) (xs : Nat → Int32) (Q : Int → e3_H → e3_G → Prop) (k2 : Int → Int → Int → Int → e3_H → e3_G → Prop) (hk2 : ∀ (l0 : Int) (l1 : Int) (l2 : Int) (l3 : Int) (H : e3_H) (G : e3_G), k2 l0 l1 l2 l3 H G → e3_Ev (wB L xs) 2 102 44 2 [(2, l0), (0, l1), (0, l2), (0, l3)] [] H G (e3_q0 Q)) (l0 : Int) (l1 : Int) (l2 : Int) (l3 : Int) (H : e3_H) (G : e3_G) (h : wF_placeIn_32 Q k2 l0 l1 l2 l3 H G) : e3_Ev (wB L xs) 2 102 44 32 [(2, l0), (0, l1), (0, l2), (0, l3)] [] H G (e3_q0 Q) := by
  unfold wF_placeIn_32 at h
  refine e3_K [0, 0] 2 [(2, l0), (0, l1), (0, l2), (0, (e3_w32 (l3 + 1)))] [] (H) (G) (wZ L xs) (M := tbM44) rfl rfl trivial ?_
  exact hk2 _ _ _ _ _ _ h
set_option maxRecDepth 100000 in
set_option maxHeartbeats 4000000 in
theorem sF_placeIn_2 (L : Nat) (xs : Nat → Int32) (Q : Int → e3_H → e3_G → Prop) : ∀ (nl : Nat) (l0 : Int) (l1 : Int) (l2 : Int) (l3 : Int) (H : e3_H) (G : e3_G), wF_placeIn_2 Q nl l0 l1 l2 l3 H G → e3_Ev (wB L xs) 2 102 44 2 [(2, l0), (0, l1), (0, l2), (0, l3)] [] H G (e3_q0 Q) := by
  intro nl
  induction nl with
  | zero => intro l0 l1 l2 l3 H G h; exact h.elim
  | succ nn ih =>
    intro l0 l1 l2 l3 H G h
    have h : (e3_ob G 8 l0) ∧ (((l3 : Int) < (H l0 7) → (e3_ob G 8 l0) ∧ (e3_oa G 0 (H l0 8) l3) ∧ ((((H (H l0 8) l3) : Int) = l1 → (e3_ob G 8 l0) ∧ (e3_oa G 0 (H l0 9) l3) ∧ ((((H (H l0 9) l3) : Int) = l2 → Q l3 H G) ∧ (¬ (((H (H l0 9) l3) : Int) = l2) → (wF_placeIn_32 Q (fun l0 l1 l2 l3 H G => wF_placeIn_2 Q nn l0 l1 l2 l3 H G) l0 l1 l2 l3 H G)))) ∧ (¬ (((H (H l0 8) l3) : Int) = l1) → (wF_placeIn_32 Q (fun l0 l1 l2 l3 H G => wF_placeIn_2 Q nn l0 l1 l2 l3 H G) l0 l1 l2 l3 H G)))) ∧ (¬ ((l3 : Int) < (H l0 7)) → (e3_ob G 8 l0) ∧ (e3_ob G 8 l0) ∧ ((2 : Int) ≤ (H l0 8) ∧ e3_ln G (H l0 8) ≤ 2147483647 ∧ ∃ n, G[((H l0 8) : Int).toNat]? = some (0, n)) ∧ ((((H l0 7) : Int) < (e3_ln G (H l0 8)) → (wF_placeIn_84 Q l0 l1 l2 H G)) ∧ (¬ (((H l0 7) : Int) < (e3_ln G (H l0 8))) → (e3_ob G 8 l0) ∧ (e3_ob G 8 l0) ∧ (wJ_copyOf_AII (fun x13 H11 G12 => (e3_ob G12 8 l0) ∧ ∀ H14 : e3_H, H14 = e3_up H11 l0 8 x13 → (e3_ob G12 8 l0) ∧ (e3_ob G12 8 l0) ∧ (wJ_copyOf_AII (fun x20 H18 G19 => (e3_ob G19 8 l0) ∧ ∀ H21 : e3_H, H21 = e3_up H18 l0 9 x20 → (wF_placeIn_84 Q l0 l1 l2 H21 G19)) (H14 l0 9) (e3_w32 ((H14 l0 7) * 2)) H14 G12)) (H l0 8) (e3_w32 ((H l0 7) * 2)) H G))))) := h
    obtain ⟨o1, h⟩ := h
    refine e3_K [0, 0, 3] 7 [(2, l0), (0, l1), (0, l2), (0, l3)] [(0, (H l0 7)), (0, l3)] (H) (G) (wZ L xs) (M := tbM44) rfl rfl ⟨o1, trivial⟩ ?_
    refine e3_br (M := tbM44) rfl rfl rfl Iff.rfl (fun hc => ?_) (fun hc => ?_)
    · replace h := h.1 hc
      obtain ⟨o2, o3, h⟩ := h
      refine e3_K [0, 3, 0, 3, 0] 17 [(2, l0), (0, l1), (0, l2), (0, l3)] [(0, l1), (0, (H (H l0 8) l3))] (H) (G) (wZ L xs) (M := tbM44) rfl rfl ⟨o2, o3, trivial⟩ ?_
      refine e3_br (M := tbM44) rfl rfl rfl Iff.rfl (fun hc => ?_) (fun hc => ?_)
      · replace h := h.1 hc
        obtain ⟨o4, o5, h⟩ := h
        refine e3_K [0, 3, 0, 3, 0] 27 [(2, l0), (0, l1), (0, l2), (0, l3)] [(0, l2), (0, (H (H l0 9) l3))] (H) (G) (wZ L xs) (M := tbM44) rfl rfl ⟨o4, o5, trivial⟩ ?_
        refine e3_br (M := tbM44) rfl rfl rfl Iff.rfl (fun hc => ?_) (fun hc => ?_)
        · replace h := h.1 hc
          refine e3_K [0] 31 [(2, l0), (0, l1), (0, l2), (0, l3)] [(0, l3)] (H) (G) (wZ L xs) (M := tbM44) rfl rfl trivial ?_
          exact e3_reti (M := tbM44) rfl rfl rfl ⟨_, rfl, h⟩
        · replace h := h.2 hc
          exact sF_placeIn_32 L xs Q (fun l0 l1 l2 l3 H G => wF_placeIn_2 Q nn l0 l1 l2 l3 H G) ih _ _ _ _ _ _ h
      · replace h := h.2 hc
        exact sF_placeIn_32 L xs Q (fun l0 l1 l2 l3 H G => wF_placeIn_2 Q nn l0 l1 l2 l3 H G) ih _ _ _ _ _ _ h
    · replace h := h.2 hc
      obtain ⟨o6, o7, o8, h⟩ := h
      refine e3_K [0, 3, 0, 3, 3] 47 [(2, l0), (0, l1), (0, l2), (0, l3)] [(0, (e3_ln G (H l0 8))), (0, (H l0 7))] (H) (G) (wZ L xs) (M := tbM44) rfl rfl ⟨o6, o7, o8, trivial⟩ ?_
      refine e3_br (M := tbM44) rfl rfl rfl Iff.rfl (fun hc => ?_) (fun hc => ?_)
      · replace h := h.1 hc
        refine e3_fgt [true, true, true, false] ?_
        exact sF_placeIn_84 L xs Q _ _ _ _ _ h
      · replace h := h.2 hc
        obtain ⟨o9, o10, h⟩ := h
        refine e3_K [0, 0, 3, 0, 3, 0, 0] 61 [(2, l0), (0, l1), (0, l2), (0, l3)] [(0, (e3_w32 ((H l0 7) * 2))), (2, (H l0 8)), (2, l0)] (H) (G) (wZ L xs) (M := tbM44) rfl rfl ⟨o9, o10, trivial⟩ ?_
        refine e3_call (o := 0) (k := 304) (M2 := tbM304) (f1 := 1) (w1 := 80) (as := [(2, (H l0 8)), (0, (e3_w32 ((H l0 7) * 2)))]) (rest := [(2, l0)]) (M := tbM44) rfl rfl rfl trivial (Nat.le_of_ble_eq_true rfl) (Nat.le_of_ble_eq_true rfl) (Nat.le_of_ble_eq_true rfl) ?_
        refine e3_mono (sJ_copyOf_AII L xs _ _ _ _ _ h) (fun r H11 G12 h => ?_)
        obtain ⟨x13, rfl, h⟩ := h
        change e3_Ev _ _ _ _ 64 [(2, l0), (0, l1), (0, l2), (0, l3)] [(2, x13), (2, l0)] H11 G12 _
        obtain ⟨o15, h⟩ := h
        refine e3_K [3] 67 [(2, l0), (0, l1), (0, l2), (0, l3)] [] (e3_up H11 l0 8 x13) (G12) (wZ L xs) (M := tbM44) rfl rfl ⟨⟨o15, trivial⟩, trivial⟩ ?_
        generalize hH14 : (e3_up H11 l0 8 x13) = H14
        replace h := h H14 hH14.symm
        obtain ⟨o16, o17, h⟩ := h
        refine e3_K [0, 0, 3, 0, 3, 0, 0] 78 [(2, l0), (0, l1), (0, l2), (0, l3)] [(0, (e3_w32 ((H14 l0 7) * 2))), (2, (H14 l0 9)), (2, l0)] (H14) (G12) (wZ L xs) (M := tbM44) rfl rfl ⟨o16, o17, trivial⟩ ?_
        refine e3_call (o := 0) (k := 304) (M2 := tbM304) (f1 := 1) (w1 := 80) (as := [(2, (H14 l0 9)), (0, (e3_w32 ((H14 l0 7) * 2)))]) (rest := [(2, l0)]) (M := tbM44) rfl rfl rfl trivial (Nat.le_of_ble_eq_true rfl) (Nat.le_of_ble_eq_true rfl) (Nat.le_of_ble_eq_true rfl) ?_
        refine e3_mono (sJ_copyOf_AII L xs _ _ _ _ _ h) (fun r H18 G19 h => ?_)
        obtain ⟨x20, rfl, h⟩ := h
        change e3_Ev _ _ _ _ 81 [(2, l0), (0, l1), (0, l2), (0, l3)] [(2, x20), (2, l0)] H18 G19 _
        obtain ⟨o22, h⟩ := h
        refine e3_K [3] 84 [(2, l0), (0, l1), (0, l2), (0, l3)] [] (e3_up H18 l0 9 x20) (G19) (wZ L xs) (M := tbM44) rfl rfl ⟨⟨o22, trivial⟩, trivial⟩ ?_
        generalize hH21 : (e3_up H18 l0 9 x20) = H21
        replace h := h H21 hH21.symm
        refine e3_fgt [true, true, true, false] ?_
        exact sF_placeIn_84 L xs Q _ _ _ _ _ h
set_option maxRecDepth 100000 in
set_option maxHeartbeats 4000000 in
theorem sF_placeIn (L : Nat) (xs : Nat → Int32) (Q : Int → e3_H → e3_G → Prop) (l0 : Int) (l1 : Int) (l2 : Int) (H : e3_H) (G : e3_G) (h : wF_placeIn Q l0 l1 l2 H G) : e3_Ev (wB L xs) 2 102 44 0 [(2, l0), (0, l1), (0, l2), (3, 0)] [] H G (e3_q0 Q) := by
  unfold wF_placeIn at h
  refine e3_K [0, 0] 2 [(2, l0), (0, l1), (0, l2), (0, 0)] [] (H) (G) (wZ L xs) (M := tbM44) rfl rfl trivial ?_
  obtain ⟨nl, h⟩ := h
  exact sF_placeIn_2 L xs Q nl _ _ _ _ _ _ h
/-- LetterPost$Function.addColumn(I)V -/
def wF_addColumn_40 (Q : e3_H → e3_G → Prop)  (H : e3_H) (G : e3_G) : Prop :=
  Q H G
def wF_addColumn (Q : e3_H → e3_G → Prop) (l0 : Int) (l1 : Int) (H : e3_H) (G : e3_G) : Prop :=
  (e3_ob G 8 l0) ∧ ((((H l0 1) : Int) < 3 → (e3_ob G 8 l0) ∧ (e3_ob G 8 l0) ∧ (e3_oa G 0 (H l0 2) (H l0 1)) ∧ ∀ H2 : e3_H, H2 = e3_up H (H l0 2) (H l0 1) l1 → (e3_ob G 8 l0) ∧ (e3_ob G 8 l0) ∧ ∀ H6 : e3_H, H6 = e3_up H2 l0 1 (e3_w32 ((H2 l0 1) + 1)) → (e3_ob G 8 l0) ∧ (e3_ob G 8 l0) ∧ (wF_placeIn (fun x12 H10 G11 => (wF_addColumn_40 Q H10 G11)) l0 (-1) (e3_w32 ((H6 l0 1) - 1)) H6 G)) ∧ (¬ (((H l0 1) : Int) < 3) → (wF_addColumn_40 Q H G)))
set_option maxRecDepth 100000 in
set_option maxHeartbeats 4000000 in
theorem sF_addColumn_40 (L : Nat) (xs : Nat → Int32) (Q : e3_H → e3_G → Prop)  (H : e3_H) (G : e3_G) (h : wF_addColumn_40 Q  H G) : e3_Ev (wB L xs) 3 125 43 40 [(3, 0), (3, 0)] [] H G (e3_qv Q) := by
  unfold wF_addColumn_40 at h
  exact e3_retv (M := tbM43) rfl rfl rfl ⟨rfl, h⟩
set_option maxRecDepth 100000 in
set_option maxHeartbeats 4000000 in
theorem sF_addColumn (L : Nat) (xs : Nat → Int32) (Q : e3_H → e3_G → Prop) (l0 : Int) (l1 : Int) (H : e3_H) (G : e3_G) (h : wF_addColumn Q l0 l1 H G) : e3_Ev (wB L xs) 3 125 43 0 [(2, l0), (0, l1)] [] H G (e3_qv Q) := by
  unfold wF_addColumn at h
  obtain ⟨o1, h⟩ := h
  refine e3_K [0, 3, 0] 5 [(2, l0), (0, l1)] [(0, 3), (0, (H l0 1))] (H) (G) (wZ L xs) (M := tbM43) rfl rfl ⟨o1, trivial⟩ ?_
  refine e3_br (M := tbM43) rfl rfl rfl Iff.rfl (fun hc => ?_) (fun hc => ?_)
  · replace h := h.1 hc
    obtain ⟨o3, o4, o5, h⟩ := h
    refine e3_K [0, 3, 0, 3, 0, 3] 18 [(2, l0), (0, l1)] [] (e3_up H (H l0 2) (H l0 1) l1) (G) (wZ L xs) (M := tbM43) rfl rfl ⟨o3, o4, o5, trivial⟩ ?_
    generalize hH2 : (e3_up H (H l0 2) (H l0 1) l1) = H2
    replace h := h H2 hH2.symm
    obtain ⟨o7, o8, h⟩ := h
    refine e3_K [0, 0, 3, 0, 0, 3] 28 [(2, l0), (0, l1)] [] (e3_up H2 l0 1 (e3_w32 ((H2 l0 1) + 1))) (G) (wZ L xs) (M := tbM43) rfl rfl ⟨o7, ⟨o8, trivial⟩, trivial⟩ ?_
    generalize hH6 : (e3_up H2 l0 1 (e3_w32 ((H2 l0 1) + 1))) = H6
    replace h := h H6 hH6.symm
    obtain ⟨o9, h⟩ := h
    refine e3_K [0, 0, 0, 3, 0, 0] 36 [(2, l0), (0, l1)] [(0, (e3_w32 ((H6 l0 1) - 1))), (0, (-1)), (2, l0)] (H6) (G) (wZ L xs) (M := tbM43) rfl rfl ⟨o9, trivial⟩ ?_
    obtain ⟨oz, h⟩ := h
    refine e3_call (o := 1) (k := 44) (M2 := tbM44) (f1 := 2) (w1 := 102) (as := [(2, l0), (0, (-1)), (0, (e3_w32 ((H6 l0 1) - 1)))]) (rest := []) (M := tbM43) rfl rfl rfl oz (Nat.le_of_ble_eq_true rfl) (Nat.le_of_ble_eq_true rfl) (Nat.le_of_ble_eq_true rfl) ?_
    refine e3_mono (sF_placeIn L xs _ _ _ _ _ _ h) (fun r H10 G11 h => ?_)
    obtain ⟨x12, rfl, h⟩ := h
    change e3_Ev _ _ _ _ 39 [(2, l0), (0, l1)] [(0, x12)] H10 G11 _
    refine e3_K [0] 40 [(2, l0), (0, l1)] [] (H10) (G11) (wZ L xs) (M := tbM43) rfl rfl trivial ?_
    refine e3_fgt [false, false] ?_
    exact sF_addColumn_40 L xs Q _ _ h
  · replace h := h.2 hc
    refine e3_fgt [false, false] ?_
    exact sF_addColumn_40 L xs Q _ _ h
/-- LetterPost$Reader.readColumns()Z -/
def wR_readColumns_92 (Q : Int → e3_H → e3_G → Prop)  (H : e3_H) (G : e3_G) : Prop :=
  (wR_expect (fun x3 H1 G2 => ((x3 : Int) = 0 ∨ x3 = 1) ∧ Q x3 H1 G2) 41 H G)
def wR_readColumns_41 (Q : Int → e3_H → e3_G → Prop) (k20 : Int → e3_H → e3_G → Prop) (l1 : Int) (H : e3_H) (G : e3_G) : Prop :=
  (wT_step (fun H1 G2 => (wR_sortHere (fun x6 H4 G5 => (((x6 : Int) < 0 → Q 0 H4 G5) ∧ (¬ ((x6 : Int) < 0) → (((l1 : Int) = 3 → (wR_failHere (fun x9 H7 G8 => ((x9 : Int) = 0 ∨ x9 = 1) ∧ Q x9 H7 G8) 9 H4 G5)) ∧ (¬ ((l1 : Int) = 3) → (e3_ob G5 8 (H4 14 6)) ∧ (wF_addColumn (fun H10 G11 => (wT_step (fun H13 G14 => (k20 (e3_w32 (l1 + 1)) H13 G14)) H10 G11)) (H4 14 6) x6 H4 G5)))))) H1 G2)) H G)
def wR_readColumns_20 (Q : Int → e3_H → e3_G → Prop) : Nat → Int → e3_H → e3_G → Prop
  | 0, _, _, _ => False
  | nn + 1, l1, H, G => (((3 : Int) < l1 → (wR_readColumns_92 Q H G)) ∧ (¬ ((3 : Int) < l1) → (((l1 : Int) = 0 → (wR_readColumns_41 Q (fun l1 H G => wR_readColumns_20 Q nn l1 H G) l1 H G)) ∧ (¬ ((l1 : Int) = 0) → ((((H 3 7) : Int) = 44 → (wR_readColumns_41 Q (fun l1 H G => wR_readColumns_20 Q nn l1 H G) l1 H G)) ∧ (¬ (((H 3 7) : Int) = 44) → (wR_readColumns_92 Q H G)))))))
def wR_readColumns (Q : Int → e3_H → e3_G → Prop)  (H : e3_H) (G : e3_G) : Prop :=
  ((((H 3 7) : Int) = 40 → (∃ n, wR_readColumns_20 Q n 0 H G)) ∧ (¬ (((H 3 7) : Int) = 40) → (wR_failHere (fun x3 H1 G2 => ((x3 : Int) = 0 ∨ x3 = 1) ∧ Q x3 H1 G2) 2 H G)))
set_option maxRecDepth 100000 in
set_option maxHeartbeats 4000000 in
theorem sR_readColumns_92 (L : Nat) (xs : Nat → Int32) (Q : Int → e3_H → e3_G → Prop)  (H : e3_H) (G : e3_G) (h : wR_readColumns_92 Q  H G) : e3_Ev (wB L xs) 4 146 42 92 [(2, 14), (3, 0), (3, 0)] [] H G (e3_q0 Q) := by
  unfold wR_readColumns_92 at h
  refine e3_K [0, 0] 95 [(2, 14), (3, 0), (3, 0)] [(0, 41), (2, 14)] (H) (G) (wZ L xs) (M := tbM42) rfl rfl trivial ?_
  refine e3_call (o := 0) (k := 38) (M2 := tbM38) (f1 := 1) (w1 := 21) (as := [(2, 14), (0, 41)]) (rest := []) (M := tbM42) rfl rfl rfl trivial (Nat.le_of_ble_eq_true rfl) (Nat.le_of_ble_eq_true rfl) (Nat.le_of_ble_eq_true rfl) ?_
  refine e3_mono (sR_expect L xs _ _ _ _ h) (fun r H1 G2 h => ?_)
  obtain ⟨x3, rfl, h⟩ := h
  change e3_Ev _ _ _ _ 98 [(2, 14), (3, 0), (3, 0)] [(0, x3)] H1 G2 _
  exact e3_retb (M := tbM42) rfl rfl rfl h.1 ⟨_, rfl, h.2⟩
set_option maxRecDepth 100000 in
set_option maxHeartbeats 4000000 in
theorem sR_readColumns_41 (L : Nat) (xs : Nat → Int32) (Q : Int → e3_H → e3_G → Prop) (k20 : Int → e3_H → e3_G → Prop) (hk20 : ∀ (l1 : Int) (H : e3_H) (G : e3_G), k20 l1 H G → e3_Ev (wB L xs) 4 146 42 20 [(2, 14), (0, l1), (3, 0)] [] H G (e3_q0 Q)) (l1 : Int) (H : e3_H) (G : e3_G) (h : wR_readColumns_41 Q k20 l1 H G) : e3_Ev (wB L xs) 4 146 42 41 [(2, 14), (0, l1), (3, 0)] [] H G (e3_q0 Q) := by
  unfold wR_readColumns_41 at h
  refine e3_K [0, 4] 45 [(2, 14), (0, l1), (3, 0)] [(2, 3)] (H) (G) (wZ L xs) (M := tbM42) rfl rfl ⟨trivial, trivial⟩ ?_
  refine e3_call (o := 0) (k := 25) (M2 := tbM25) (f1 := 0) (w1 := 0) (as := [(2, 3)]) (rest := []) (M := tbM42) rfl rfl rfl trivial (Nat.le_of_ble_eq_true rfl) (Nat.le_of_ble_eq_true rfl) (Nat.le_of_ble_eq_true rfl) ?_
  refine e3_mono (sT_step L xs _ _ _ h) (fun r H1 G2 h => ?_)
  obtain ⟨rfl, h⟩ := h
  change e3_Ev _ _ _ _ 48 [(2, 14), (0, l1), (3, 0)] [] H1 G2 _
  refine e3_K [0] 49 [(2, 14), (0, l1), (3, 0)] [(2, 14)] (H1) (G2) (wZ L xs) (M := tbM42) rfl rfl trivial ?_
  refine e3_call (o := 0) (k := 36) (M2 := tbM36) (f1 := 1) (w1 := 23) (as := [(2, 14)]) (rest := []) (M := tbM42) rfl rfl rfl trivial (Nat.le_of_ble_eq_true rfl) (Nat.le_of_ble_eq_true rfl) (Nat.le_of_ble_eq_true rfl) ?_
  refine e3_mono (sR_sortHere L xs _ _ _ h) (fun r H4 G5 h => ?_)
  obtain ⟨x6, rfl, h⟩ := h
  change e3_Ev _ _ _ _ 52 [(2, 14), (0, l1), (3, 0)] [(0, x6)] H4 G5 _
  refine e3_K [0, 0] 54 [(2, 14), (0, l1), (0, x6)] [(0, x6)] (H4) (G5) (wZ L xs) (M := tbM42) rfl rfl trivial ?_
  refine e3_br (M := tbM42) rfl rfl rfl Iff.rfl (fun hc => ?_) (fun hc => ?_)
  · replace h := h.1 hc
    refine e3_K [0] 58 [(2, 14), (0, l1), (0, x6)] [(0, 0)] (H4) (G5) (wZ L xs) (M := tbM42) rfl rfl trivial ?_
    exact e3_retb (M := tbM42) rfl rfl rfl (Or.inl rfl) ⟨_, rfl, h⟩
  · replace h := h.2 hc
    refine e3_K [0, 0] 61 [(2, 14), (0, l1), (0, x6)] [(0, 3), (0, l1)] (H4) (G5) (wZ L xs) (M := tbM42) rfl rfl trivial ?_
    refine e3_br (M := tbM42) rfl rfl rfl Iff.rfl (fun hc => ?_) (fun hc => ?_)
    · replace h := h.1 hc
      refine e3_K [0, 0] 67 [(2, 14), (0, l1), (0, x6)] [(0, 9), (2, 14)] (H4) (G5) (wZ L xs) (M := tbM42) rfl rfl trivial ?_
      refine e3_call (o := 0) (k := 27) (M2 := tbM27) (f1 := 0) (w1 := 0) (as := [(2, 14), (0, 9)]) (rest := []) (M := tbM42) rfl rfl rfl trivial (Nat.le_of_ble_eq_true rfl) (Nat.le_of_ble_eq_true rfl) (Nat.le_of_ble_eq_true rfl) ?_
      refine e3_mono (sR_failHere L xs _ _ _ _ h) (fun r H7 G8 h => ?_)
      obtain ⟨x9, rfl, h⟩ := h
      change e3_Ev _ _ _ _ 70 [(2, 14), (0, l1), (0, x6)] [(0, x9)] H7 G8 _
      exact e3_retb (M := tbM42) rfl rfl rfl h.1 ⟨_, rfl, h.2⟩
    · replace h := h.2 hc
      refine e3_K [0, 2, 0] 76 [(2, 14), (0, l1), (0, x6)] [(0, x6), (2, (H4 14 6))] (H4) (G5) (wZ L xs) (M := tbM42) rfl rfl ⟨trivial, trivial⟩ ?_
      obtain ⟨oz, h⟩ := h
      refine e3_call (o := 1) (k := 43) (M2 := tbM43) (f1 := 3) (w1 := 125) (as := [(2, (H4 14 6)), (0, x6)]) (rest := []) (M := tbM42) rfl rfl rfl oz (Nat.le_of_ble_eq_true rfl) (Nat.le_of_ble_eq_true rfl) (Nat.le_of_ble_eq_true rfl) ?_
      refine e3_mono (sF_addColumn L xs _ _ _ _ _ h) (fun r H10 G11 h => ?_)
      obtain ⟨rfl, h⟩ := h
      change e3_Ev _ _ _ _ 79 [(2, 14), (0, l1), (0, x6)] [] H10 G11 _
      refine e3_K [0, 4] 83 [(2, 14), (0, l1), (0, x6)] [(2, 3)] (H10) (G11) (wZ L xs) (M := tbM42) rfl rfl ⟨trivial, trivial⟩ ?_
      refine e3_call (o := 0) (k := 25) (M2 := tbM25) (f1 := 0) (w1 := 0) (as := [(2, 3)]) (rest := []) (M := tbM42) rfl rfl rfl trivial (Nat.le_of_ble_eq_true rfl) (Nat.le_of_ble_eq_true rfl) (Nat.le_of_ble_eq_true rfl) ?_
      refine e3_mono (sT_step L xs _ _ _ h) (fun r H13 G14 h => ?_)
      obtain ⟨rfl, h⟩ := h
      change e3_Ev _ _ _ _ 86 [(2, 14), (0, l1), (0, x6)] [] H13 G14 _
      refine e3_K [0, 0] 20 [(2, 14), (0, (e3_w32 (l1 + 1))), (0, x6)] [] (H13) (G14) (wZ L xs) (M := tbM42) rfl rfl trivial ?_
      refine e3_fgt [true, true, false] ?_
      exact hk20 _ _ _ h
set_option maxRecDepth 100000 in
set_option maxHeartbeats 4000000 in
theorem sR_readColumns_20 (L : Nat) (xs : Nat → Int32) (Q : Int → e3_H → e3_G → Prop) : ∀ (nl : Nat) (l1 : Int) (H : e3_H) (G : e3_G), wR_readColumns_20 Q nl l1 H G → e3_Ev (wB L xs) 4 146 42 20 [(2, 14), (0, l1), (3, 0)] [] H G (e3_q0 Q) := by
  intro nl
  induction nl with
  | zero => intro l1 H G h; exact h.elim
  | succ nn ih =>
    intro l1 H G h
    have h : (((3 : Int) < l1 → (wR_readColumns_92 Q H G)) ∧ (¬ ((3 : Int) < l1) → (((l1 : Int) = 0 → (wR_readColumns_41 Q (fun l1 H G => wR_readColumns_20 Q nn l1 H G) l1 H G)) ∧ (¬ ((l1 : Int) = 0) → ((((H 3 7) : Int) = 44 → (wR_readColumns_41 Q (fun l1 H G => wR_readColumns_20 Q nn l1 H G) l1 H G)) ∧ (¬ (((H 3 7) : Int) = 44) → (wR_readColumns_92 Q H G))))))) := h
    refine e3_K [0, 0] 22 [(2, 14), (0, l1), (3, 0)] [(0, 3), (0, l1)] (H) (G) (wZ L xs) (M := tbM42) rfl rfl trivial ?_
    refine e3_br (M := tbM42) rfl rfl rfl Iff.rfl (fun hc => ?_) (fun hc => ?_)
    · replace h := h.1 hc
      refine e3_fgt [true, false, false] ?_
      exact sR_readColumns_92 L xs Q _ _ h
    · replace h := h.2 hc
      refine e3_K [0] 26 [(2, 14), (0, l1), (3, 0)] [(0, l1)] (H) (G) (wZ L xs) (M := tbM42) rfl rfl trivial ?_
      refine e3_br (M := tbM42) rfl rfl rfl Iff.rfl (fun hc => ?_) (fun hc => ?_)
      · replace h := h.1 hc
        exact sR_readColumns_41 L xs Q (fun l1 H G => wR_readColumns_20 Q nn l1 H G) ih _ _ _ h
      · replace h := h.2 hc
        refine e3_K [0, 4, 2, 0] 38 [(2, 14), (0, l1), (3, 0)] [(0, 44), (0, (H 3 7))] (H) (G) (wZ L xs) (M := tbM42) rfl rfl ⟨trivial, trivial, trivial⟩ ?_
        refine e3_br (M := tbM42) rfl rfl rfl Iff.rfl (fun hc => ?_) (fun hc => ?_)
        · replace h := h.1 hc
          exact sR_readColumns_41 L xs Q (fun l1 H G => wR_readColumns_20 Q nn l1 H G) ih _ _ _ h
        · replace h := h.2 hc
          refine e3_fgt [true, false, false] ?_
          exact sR_readColumns_92 L xs Q _ _ h
set_option maxRecDepth 100000 in
set_option maxHeartbeats 4000000 in
theorem sR_readColumns (L : Nat) (xs : Nat → Int32) (Q : Int → e3_H → e3_G → Prop)  (H : e3_H) (G : e3_G) (h : wR_readColumns Q  H G) : e3_Ev (wB L xs) 4 146 42 0 [(2, 14), (3, 0), (3, 0)] [] H G (e3_q0 Q) := by
  unfold wR_readColumns at h
  refine e3_K [0, 4, 2, 0] 9 [(2, 14), (3, 0), (3, 0)] [(0, 40), (0, (H 3 7))] (H) (G) (wZ L xs) (M := tbM42) rfl rfl ⟨trivial, trivial, trivial⟩ ?_
  refine e3_br (M := tbM42) rfl rfl rfl Iff.rfl (fun hc => ?_) (fun hc => ?_)
  · replace h := h.1 hc
    refine e3_K [0, 0] 20 [(2, 14), (0, 0), (3, 0)] [] (H) (G) (wZ L xs) (M := tbM42) rfl rfl trivial ?_
    obtain ⟨nl, h⟩ := h
    exact sR_readColumns_20 L xs Q nl _ _ _ h
  · replace h := h.2 hc
    refine e3_K [0, 0] 14 [(2, 14), (3, 0), (3, 0)] [(0, 2), (2, 14)] (H) (G) (wZ L xs) (M := tbM42) rfl rfl trivial ?_
    refine e3_call (o := 0) (k := 27) (M2 := tbM27) (f1 := 0) (w1 := 0) (as := [(2, 14), (0, 2)]) (rest := []) (M := tbM42) rfl rfl rfl trivial (Nat.le_of_ble_eq_true rfl) (Nat.le_of_ble_eq_true rfl) (Nat.le_of_ble_eq_true rfl) ?_
    refine e3_mono (sR_failHere L xs _ _ _ _ h) (fun r H1 G2 h => ?_)
    obtain ⟨x3, rfl, h⟩ := h
    change e3_Ev _ _ _ _ 17 [(2, 14), (3, 0), (3, 0)] [(0, x3)] H1 G2 _
    exact e3_retb (M := tbM42) rfl rfl rfl h.1 ⟨_, rfl, h.2⟩
/-- LetterPost$Reader.readHead()Z -/
def wR_readHead_131 (Q : Int → e3_H → e3_G → Prop) (s0 : Int) (H : e3_H) (G : e3_G) : Prop :=
  ((s0 : Int) = 0 ∨ s0 = 1) ∧ Q s0 H G
def wR_readHead_130 (Q : Int → e3_H → e3_G → Prop)  (H : e3_H) (G : e3_G) : Prop :=
  (wR_readHead_131 Q 0 H G)
def wR_readHead (Q : Int → e3_H → e3_G → Prop)  (H : e3_H) (G : e3_G) : Prop :=
  (wT_step (fun H1 G2 => ((((H1 3 7) : Int) = 258 → (wR_findFunction (fun x6 H4 G5 => (((x6 : Int) < 0 → ((((H4 14 3) : Int) < 12 → ∀ (H7 : e3_H) (G8 : e3_G), H7 = e3_nw H4 (G5.length : Int) (e3_dz (wFc.getD 8 [])) → G8 = G5 ++ [(108, 11)] → ((0 : Int) ≤ (G5.length : Int)) ∧ (wF_init (fun H9 G10 => ∀ H12 : e3_H, H12 = e3_up H9 14 6 (G5.length : Int) → ((0 : Int) ≤ (H12 14 3) ∧ ((H12 14 3) : Int) < 12) ∧ (((H12 14 6) : Int) < 0 ∨ e3_ob G10 8 (H12 14 6)) ∧ ∀ H13 : e3_H, H13 = e3_up H12 15 (H12 14 3) (H12 14 6) → ∀ H16 : e3_H, H16 = e3_up H13 14 3 (e3_w32 ((H13 14 3) + 1)) → (wT_step (fun H17 G18 => (wR_readColumns (fun x22 H20 G21 => (((x22 : Int) = 0 → (wR_readHead_130 Q H20 G21)) ∧ (¬ ((x22 : Int) = 0) → (wR_expect (fun x25 H23 G24 => (((x25 : Int) = 0 → (wR_readHead_130 Q H23 G24)) ∧ (¬ ((x25 : Int) = 0) → (wR_readHead_131 Q 1 H23 G24)))) 123 H20 G21)))) H17 G18)) H16 G10)) (G5.length : Int) (H7 3 9) H7 G8)) ∧ (¬ (((H4 14 3) : Int) < 12) → (wR_failHere (fun x28 H26 G27 => ((x28 : Int) = 0 ∨ x28 = 1) ∧ Q x28 H26 G27) 9 H4 G5)))) ∧ (¬ ((x6 : Int) < 0) → (wR_failHere (fun x31 H29 G30 => ((x31 : Int) = 0 ∨ x31 = 1) ∧ Q x31 H29 G30) 3 H4 G5)))) (H1 3 9) H1 G2)) ∧ (¬ (((H1 3 7) : Int) = 258) → (wR_failHere (fun x34 H32 G33 => ((x34 : Int) = 0 ∨ x34 = 1) ∧ Q x34 H32 G33) 2 H1 G2)))) H G)
set_option maxRecDepth 100000 in
set_option maxHeartbeats 4000000 in
theorem sR_readHead_131 (L : Nat) (xs : Nat → Int32) (Q : Int → e3_H → e3_G → Prop) (s0 : Int) (H : e3_H) (G : e3_G) (h : wR_readHead_131 Q s0 H G) : e3_Ev (wB L xs) 5 168 39 131 [(3, 0)] [(0, s0)] H G (e3_q0 Q) := by
  unfold wR_readHead_131 at h
  exact e3_retb (M := tbM39) rfl rfl rfl h.1 ⟨_, rfl, h.2⟩
set_option maxRecDepth 100000 in
set_option maxHeartbeats 4000000 in
theorem sR_readHead_130 (L : Nat) (xs : Nat → Int32) (Q : Int → e3_H → e3_G → Prop)  (H : e3_H) (G : e3_G) (h : wR_readHead_130 Q  H G) : e3_Ev (wB L xs) 5 168 39 130 [(3, 0)] [] H G (e3_q0 Q) := by
  unfold wR_readHead_130 at h
  refine e3_K [0] 131 [(3, 0)] [(0, 0)] (H) (G) (wZ L xs) (M := tbM39) rfl rfl trivial ?_
  exact sR_readHead_131 L xs Q _ _ _ h
set_option maxRecDepth 100000 in
set_option maxHeartbeats 4000000 in
theorem sR_readHead (L : Nat) (xs : Nat → Int32) (Q : Int → e3_H → e3_G → Prop)  (H : e3_H) (G : e3_G) (h : wR_readHead Q  H G) : e3_Ev (wB L xs) 5 168 39 0 [(2, 14)] [] H G (e3_q0 Q) := by
  unfold wR_readHead at h
  refine e3_K [0, 4] 4 [(2, 14)] [(2, 3)] (H) (G) (wZ L xs) (M := tbM39) rfl rfl ⟨trivial, trivial⟩ ?_
  refine e3_call (o := 0) (k := 25) (M2 := tbM25) (f1 := 0) (w1 := 0) (as := [(2, 3)]) (rest := []) (M := tbM39) rfl rfl rfl trivial (Nat.le_of_ble_eq_true rfl) (Nat.le_of_ble_eq_true rfl) (Nat.le_of_ble_eq_true rfl) ?_
  refine e3_mono (sT_step L xs _ _ _ h) (fun r H1 G2 h => ?_)
  obtain ⟨rfl, h⟩ := h
  change e3_Ev _ _ _ _ 7 [(2, 14)] [] H1 G2 _
  refine e3_K [0, 4, 2, 0] 17 [(2, 14)] [(0, 258), (0, (H1 3 7))] (H1) (G2) (wZ L xs) (M := tbM39) rfl rfl ⟨trivial, trivial, trivial⟩ ?_
  refine e3_br (M := tbM39) rfl rfl rfl Iff.rfl (fun hc => ?_) (fun hc => ?_)
  · replace h := h.1 hc
    refine e3_K [0, 0, 4, 2] 34 [(2, 14)] [(1, (H1 3 9)), (2, 14)] (H1) (G2) (wZ L xs) (M := tbM39) rfl rfl ⟨trivial, trivial, trivial⟩ ?_
    refine e3_call (o := 0) (k := 40) (M2 := tbM40) (f1 := 0) (w1 := 0) (as := [(2, 14), (1, (H1 3 9))]) (rest := []) (M := tbM39) rfl rfl rfl trivial (Nat.le_of_ble_eq_true rfl) (Nat.le_of_ble_eq_true rfl) (Nat.le_of_ble_eq_true rfl) ?_
    refine e3_mono (sR_findFunction L xs _ _ _ _ h) (fun r H4 G5 h => ?_)
    obtain ⟨x6, rfl, h⟩ := h
    change e3_Ev _ _ _ _ 37 [(2, 14)] [(0, x6)] H4 G5 _
    refine e3_br (M := tbM39) rfl rfl rfl Iff.rfl (fun hc => ?_) (fun hc => ?_)
    · replace h := h.1 hc
      refine e3_K [0, 2, 0] 52 [(2, 14)] [(0, 12), (0, (H4 14 3))] (H4) (G5) (wZ L xs) (M := tbM39) rfl rfl ⟨trivial, trivial⟩ ?_
      refine e3_br (M := tbM39) rfl rfl rfl Iff.rfl (fun hc => ?_) (fun hc => ?_)
      · replace h := h.1 hc
        refine e3_K [0, 2] 66 [(2, 14)] [(2, (G5.length : Int)), (2, 14)] (e3_nw H4 (G5.length : Int) (e3_dz (wFc.getD 8 []))) (G5 ++ [(108, 11)]) (wZ L xs) (M := tbM39) rfl rfl ⟨trivial, trivial⟩ ?_
        generalize hH7 : (e3_nw H4 (G5.length : Int) (e3_dz (wFc.getD 8 []))) = H7
        generalize hG8 : (G5 ++ [(108, 11)]) = G8
        replace h := h H7 G8 hH7.symm hG8.symm
        refine e3_K [0, 0, 4, 2] 74 [(2, 14)] [(1, (H7 3 9)), (2, (G5.length : Int)), (2, (G5.length : Int)), (2, 14)] (H7) (G8) (wZ L xs) (M := tbM39) rfl rfl ⟨trivial, trivial, trivial⟩ ?_
        obtain ⟨oz, h⟩ := h
        refine e3_call (o := 0) (k := 41) (M2 := tbM41) (f1 := 2) (w1 := 60) (as := [(2, (G5.length : Int)), (1, (H7 3 9))]) (rest := [(2, (G5.length : Int)), (2, 14)]) (M := tbM39) rfl rfl rfl oz (Nat.le_of_ble_eq_true rfl) (Nat.le_of_ble_eq_true rfl) (Nat.le_of_ble_eq_true rfl) ?_
        refine e3_mono (sF_init L xs _ _ _ _ _ h) (fun r H9 G10 h => ?_)
        obtain ⟨rfl, h⟩ := h
        change e3_Ev _ _ _ _ 77 [(2, 14)] [(2, (G5.length : Int)), (2, 14)] H9 G10 _
        refine e3_K [2] 80 [(2, 14)] [] (e3_up H9 14 6 (G5.length : Int)) (G10) (wZ L xs) (M := tbM39) rfl rfl ⟨trivial, trivial⟩ ?_
        generalize hH12 : (e3_up H9 14 6 (G5.length : Int)) = H12
        replace h := h H12 hH12.symm
        obtain ⟨o14, o15, h⟩ := h
        refine e3_K [0, 4, 0, 2, 0, 2, 2] 93 [(2, 14)] [] (e3_up H12 15 (H12 14 3) (H12 14 6)) (G10) (wZ L xs) (M := tbM39) rfl rfl ⟨trivial, trivial, trivial, ⟨o14, o15⟩, trivial⟩ ?_
        generalize hH13 : (e3_up H12 15 (H12 14 3) (H12 14 6)) = H13
        replace h := h H13 hH13.symm
        refine e3_K [0, 0, 2, 0, 0, 2] 103 [(2, 14)] [] (e3_up H13 14 3 (e3_w32 ((H13 14 3) + 1))) (G10) (wZ L xs) (M := tbM39) rfl rfl ⟨trivial, trivial, trivial⟩ ?_
        generalize hH16 : (e3_up H13 14 3 (e3_w32 ((H13 14 3) + 1))) = H16
        replace h := h H16 hH16.symm
        refine e3_K [0, 4] 107 [(2, 14)] [(2, 3)] (H16) (G10) (wZ L xs) (M := tbM39) rfl rfl ⟨trivial, trivial⟩ ?_
        refine e3_call (o := 0) (k := 25) (M2 := tbM25) (f1 := 0) (w1 := 0) (as := [(2, 3)]) (rest := []) (M := tbM39) rfl rfl rfl trivial (Nat.le_of_ble_eq_true rfl) (Nat.le_of_ble_eq_true rfl) (Nat.le_of_ble_eq_true rfl) ?_
        refine e3_mono (sT_step L xs _ _ _ h) (fun r H17 G18 h => ?_)
        obtain ⟨rfl, h⟩ := h
        change e3_Ev _ _ _ _ 110 [(2, 14)] [] H17 G18 _
        refine e3_K [0] 111 [(2, 14)] [(2, 14)] (H17) (G18) (wZ L xs) (M := tbM39) rfl rfl trivial ?_
        refine e3_call (o := 0) (k := 42) (M2 := tbM42) (f1 := 4) (w1 := 146) (as := [(2, 14)]) (rest := []) (M := tbM39) rfl rfl rfl trivial (Nat.le_of_ble_eq_true rfl) (Nat.le_of_ble_eq_true rfl) (Nat.le_of_ble_eq_true rfl) ?_
        refine e3_mono (sR_readColumns L xs _ _ _ h) (fun r H20 G21 h => ?_)
        obtain ⟨x22, rfl, h⟩ := h
        change e3_Ev _ _ _ _ 114 [(2, 14)] [(0, x22)] H20 G21 _
        refine e3_br (M := tbM39) rfl rfl rfl Iff.rfl (fun hc => ?_) (fun hc => ?_)
        · replace h := h.1 hc
          refine e3_fgt [false] ?_
          exact sR_readHead_130 L xs Q _ _ h
        · replace h := h.2 hc
          refine e3_K [0, 0] 120 [(2, 14)] [(0, 123), (2, 14)] (H20) (G21) (wZ L xs) (M := tbM39) rfl rfl trivial ?_
          refine e3_call (o := 0) (k := 38) (M2 := tbM38) (f1 := 1) (w1 := 21) (as := [(2, 14), (0, 123)]) (rest := []) (M := tbM39) rfl rfl rfl trivial (Nat.le_of_ble_eq_true rfl) (Nat.le_of_ble_eq_true rfl) (Nat.le_of_ble_eq_true rfl) ?_
          refine e3_mono (sR_expect L xs _ _ _ _ h) (fun r H23 G24 h => ?_)
          obtain ⟨x25, rfl, h⟩ := h
          change e3_Ev _ _ _ _ 123 [(2, 14)] [(0, x25)] H23 G24 _
          refine e3_br (M := tbM39) rfl rfl rfl Iff.rfl (fun hc => ?_) (fun hc => ?_)
          · replace h := h.1 hc
            refine e3_fgt [false] ?_
            exact sR_readHead_130 L xs Q _ _ h
          · replace h := h.2 hc
            refine e3_K [0, 0] 131 [(2, 14)] [(0, 1)] (H23) (G24) (wZ L xs) (M := tbM39) rfl rfl trivial ?_
            refine e3_fgt [false] ?_
            exact sR_readHead_131 L xs Q _ _ _ h
      · replace h := h.2 hc
        refine e3_K [0, 0] 58 [(2, 14)] [(0, 9), (2, 14)] (H4) (G5) (wZ L xs) (M := tbM39) rfl rfl trivial ?_
        refine e3_call (o := 0) (k := 27) (M2 := tbM27) (f1 := 0) (w1 := 0) (as := [(2, 14), (0, 9)]) (rest := []) (M := tbM39) rfl rfl rfl trivial (Nat.le_of_ble_eq_true rfl) (Nat.le_of_ble_eq_true rfl) (Nat.le_of_ble_eq_true rfl) ?_
        refine e3_mono (sR_failHere L xs _ _ _ _ h) (fun r H26 G27 h => ?_)
        obtain ⟨x28, rfl, h⟩ := h
        change e3_Ev _ _ _ _ 61 [(2, 14)] [(0, x28)] H26 G27 _
        exact e3_retb (M := tbM39) rfl rfl rfl h.1 ⟨_, rfl, h.2⟩
    · replace h := h.2 hc
      refine e3_K [0, 0] 42 [(2, 14)] [(0, 3), (2, 14)] (H4) (G5) (wZ L xs) (M := tbM39) rfl rfl trivial ?_
      refine e3_call (o := 0) (k := 27) (M2 := tbM27) (f1 := 0) (w1 := 0) (as := [(2, 14), (0, 3)]) (rest := []) (M := tbM39) rfl rfl rfl trivial (Nat.le_of_ble_eq_true rfl) (Nat.le_of_ble_eq_true rfl) (Nat.le_of_ble_eq_true rfl) ?_
      refine e3_mono (sR_failHere L xs _ _ _ _ h) (fun r H29 G30 h => ?_)
      obtain ⟨x31, rfl, h⟩ := h
      change e3_Ev _ _ _ _ 45 [(2, 14)] [(0, x31)] H29 G30 _
      exact e3_retb (M := tbM39) rfl rfl rfl h.1 ⟨_, rfl, h.2⟩
  · replace h := h.2 hc
    refine e3_K [0, 0] 22 [(2, 14)] [(0, 2), (2, 14)] (H1) (G2) (wZ L xs) (M := tbM39) rfl rfl trivial ?_
    refine e3_call (o := 0) (k := 27) (M2 := tbM27) (f1 := 0) (w1 := 0) (as := [(2, 14), (0, 2)]) (rest := []) (M := tbM39) rfl rfl rfl trivial (Nat.le_of_ble_eq_true rfl) (Nat.le_of_ble_eq_true rfl) (Nat.le_of_ble_eq_true rfl) ?_
    refine e3_mono (sR_failHere L xs _ _ _ _ h) (fun r H32 G33 h => ?_)
    obtain ⟨x34, rfl, h⟩ := h
    change e3_Ev _ _ _ _ 25 [(2, 14)] [(0, x34)] H32 G33 _
    exact e3_retb (M := tbM39) rfl rfl rfl h.1 ⟨_, rfl, h.2⟩
