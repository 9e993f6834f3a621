/-- LetterPostModel.beginTape()V -/
def wM_beginTape (Q : e3_H → e3_G → Prop)  (H : e3_H) (G : e3_G) : Prop :=
  ∀ H1 : e3_H, H1 = e3_up H 40 7 0 → ∀ H2 : e3_H, H2 = e3_up H1 40 6 0 → (wM_next (fun H3 G4 => Q H3 G4) H2 G)
set_option maxRecDepth 100000 in
set_option maxHeartbeats 4000000 in
theorem sM_beginTape (L : Nat) (xs : Nat → Int32) (Q : e3_H → e3_G → Prop)  (H : e3_H) (G : e3_G) (h : wM_beginTape Q  H G) : e3_Ev (wB L xs) 4 89 200 0 [(2, 40)] [] H G (e3_qv Q) := by
  unfold wM_beginTape at h
  refine e3_K [0, 0, 2] 5 [(2, 40)] [] (e3_up H 40 7 0) (G) (wZ L xs) (M := tbM200) rfl rfl ⟨trivial, trivial⟩ ?_
  generalize hH1 : (e3_up H 40 7 0) = H1
  replace h := h H1 hH1.symm
  refine e3_K [0, 0, 2] 10 [(2, 40)] [] (e3_up H1 40 6 0) (G) (wZ L xs) (M := tbM200) rfl rfl ⟨trivial, trivial⟩ ?_
  generalize hH2 : (e3_up H1 40 6 0) = H2
  replace h := h H2 hH2.symm
  refine e3_K [0] 11 [(2, 40)] [(2, 40)] (H2) (G) (wZ L xs) (M := tbM200) rfl rfl trivial ?_
  refine e3_call (o := 0) (k := 201) (M2 := tbM201) (f1 := 3) (w1 := 67) (as := [(2, 40)]) (rest := []) (M := tbM200) rfl rfl rfl trivial (Nat.le_of_ble_eq_true rfl) (Nat.le_of_ble_eq_true rfl) (Nat.le_of_ble_eq_true rfl) ?_
  refine e3_mono (sM_next L xs _ _ _ h) (fun r H3 G4 h => ?_)
  obtain ⟨rfl, h⟩ := h
  change e3_Ev _ _ _ _ 14 [(2, 40)] [] H3 G4 _
  exact e3_retv (M := tbM200) rfl rfl rfl ⟨rfl, h⟩
/-- LetterPostModel.isWord(I)Z -/
def wM_isWord_24 (Q : Int → e3_H → e3_G → Prop) (s0 : Int) (H : e3_H) (G : e3_G) : Prop :=
  ((s0 : Int) = 0 ∨ s0 = 1) ∧ Q s0 H G
def wM_isWord_23 (Q : Int → e3_H → e3_G → Prop)  (H : e3_H) (G : e3_G) : Prop :=
  (wM_isWord_24 Q 0 H G)
def wM_isWord (Q : Int → e3_H → e3_G → Prop) (l1 : Int) (H : e3_H) (G : e3_G) : Prop :=
  ((((H 40 3) : Int) = 6 → ((((H 40 4) : Int) = l1 → (wM_isWord_24 Q 1 H G)) ∧ (¬ (((H 40 4) : Int) = l1) → (wM_isWord_23 Q H G)))) ∧ (¬ (((H 40 3) : Int) = 6) → (wM_isWord_23 Q H G)))
set_option maxRecDepth 100000 in
set_option maxHeartbeats 4000000 in
theorem sM_isWord_24 (L : Nat) (xs : Nat → Int32) (Q : Int → e3_H → e3_G → Prop) (s0 : Int) (H : e3_H) (G : e3_G) (h : wM_isWord_24 Q s0 H G) : e3_Ev (wB L xs) 0 0 207 24 [(3, 0), (3, 0)] [(0, s0)] H G (e3_q0 Q) := by
  unfold wM_isWord_24 at h
  exact e3_retb (M := tbM207) rfl rfl rfl h.1 ⟨_, rfl, h.2⟩
set_option maxRecDepth 100000 in
set_option maxHeartbeats 4000000 in
theorem sM_isWord_23 (L : Nat) (xs : Nat → Int32) (Q : Int → e3_H → e3_G → Prop)  (H : e3_H) (G : e3_G) (h : wM_isWord_23 Q  H G) : e3_Ev (wB L xs) 0 0 207 23 [(3, 0), (3, 0)] [] H G (e3_q0 Q) := by
  unfold wM_isWord_23 at h
  refine e3_K [0] 24 [(3, 0), (3, 0)] [(0, 0)] (H) (G) (wZ L xs) (M := tbM207) rfl rfl trivial ?_
  exact sM_isWord_24 L xs Q _ _ _ h
set_option maxRecDepth 100000 in
set_option maxHeartbeats 4000000 in
theorem sM_isWord (L : Nat) (xs : Nat → Int32) (Q : Int → e3_H → e3_G → Prop) (l1 : Int) (H : e3_H) (G : e3_G) (h : wM_isWord Q l1 H G) : e3_Ev (wB L xs) 0 0 207 0 [(2, 40), (0, l1)] [] H G (e3_q0 Q) := by
  unfold wM_isWord at h
  refine e3_K [0, 2, 0] 6 [(2, 40), (0, l1)] [(0, 6), (0, (H 40 3))] (H) (G) (wZ L xs) (M := tbM207) rfl rfl ⟨trivial, trivial⟩ ?_
  refine e3_br (M := tbM207) rfl rfl rfl Iff.rfl (fun hc => ?_) (fun hc => ?_)
  · replace h := h.1 hc
    refine e3_K [0, 2, 0, 0, 0] 16 [(2, 40), (0, l1)] [(0, (e3_cmp (H 40 4) l1))] (H) (G) (wZ L xs) (M := tbM207) rfl rfl ⟨trivial, trivial⟩ ?_
    refine e3_br (M := tbM207) rfl rfl rfl e3_cmp_eq (fun hc => ?_) (fun hc => ?_)
    · replace h := h.1 hc
      refine e3_K [0, 0] 24 [(2, 40), (0, l1)] [(0, 1)] (H) (G) (wZ L xs) (M := tbM207) rfl rfl trivial ?_
      refine e3_fgt [false, false] ?_
      exact sM_isWord_24 L xs Q _ _ _ h
    · replace h := h.2 hc
      refine e3_fgt [false, false] ?_
      exact sM_isWord_23 L xs Q _ _ h
  · replace h := h.2 hc
    refine e3_fgt [false, false] ?_
    exact sM_isWord_23 L xs Q _ _ h
/-- LetterPostModel.fails(II)V -/
def wM_fails_17 (Q : e3_H → e3_G → Prop)  (H : e3_H) (G : e3_G) : Prop :=
  Q H G
def wM_fails (Q : e3_H → e3_G → Prop) (l1 : Int) (l2 : Int) (H : e3_H) (G : e3_G) : Prop :=
  ((((H 40 7) : Int) = 0 → ∀ H1 : e3_H, H1 = e3_up H 40 7 l1 → ∀ H2 : e3_H, H2 = e3_up H1 40 8 l2 → (wM_fails_17 Q H2 G)) ∧ (¬ (((H 40 7) : Int) = 0) → (wM_fails_17 Q H G)))
set_option maxRecDepth 100000 in
set_option maxHeartbeats 4000000 in
theorem sM_fails_17 (L : Nat) (xs : Nat → Int32) (Q : e3_H → e3_G → Prop)  (H : e3_H) (G : e3_G) (h : wM_fails_17 Q  H G) : e3_Ev (wB L xs) 0 0 210 17 [(3, 0), (3, 0), (3, 0)] [] H G (e3_qv Q) := by
  unfold wM_fails_17 at h
  exact e3_retv (M := tbM210) rfl rfl rfl ⟨rfl, h⟩
set_option maxRecDepth 100000 in
set_option maxHeartbeats 4000000 in
theorem sM_fails (L : Nat) (xs : Nat → Int32) (Q : e3_H → e3_G → Prop) (l1 : Int) (l2 : Int) (H : e3_H) (G : e3_G) (h : wM_fails Q l1 l2 H G) : e3_Ev (wB L xs) 0 0 210 0 [(2, 40), (0, l1), (0, l2)] [] H G (e3_qv Q) := by
  unfold wM_fails at h
  refine e3_K [0, 2] 4 [(2, 40), (0, l1), (0, l2)] [(0, (H 40 7))] (H) (G) (wZ L xs) (M := tbM210) rfl rfl ⟨trivial, trivial⟩ ?_
  refine e3_br (M := tbM210) rfl rfl rfl Iff.rfl (fun hc => ?_) (fun hc => ?_)
  · replace h := h.1 hc
    refine e3_K [0, 0, 2] 12 [(2, 40), (0, l1), (0, l2)] [] (e3_up H 40 7 l1) (G) (wZ L xs) (M := tbM210) rfl rfl ⟨trivial, trivial⟩ ?_
    generalize hH1 : (e3_up H 40 7 l1) = H1
    replace h := h H1 hH1.symm
    refine e3_K [0, 0, 2] 17 [(2, 40), (0, l1), (0, l2)] [] (e3_up H1 40 8 l2) (G) (wZ L xs) (M := tbM210) rfl rfl ⟨trivial, trivial⟩ ?_
    generalize hH2 : (e3_up H1 40 8 l2) = H2
    replace h := h H2 hH2.symm
    refine e3_fgt [false, false, false] ?_
    exact sM_fails_17 L xs Q _ _ h
  · replace h := h.2 hc
    refine e3_fgt [false, false, false] ?_
    exact sM_fails_17 L xs Q _ _ h
/-- LetterPostModel.stop(I)V -/
def wM_stop_15 (Q : e3_H → e3_G → Prop) (s0 : Int) (H : e3_H) (G : e3_G) : Prop :=
  (wM_fails (fun H1 G2 => Q H1 G2) s0 (H 40 5) H G)
def wM_stop (Q : e3_H → e3_G → Prop) (l1 : Int) (H : e3_H) (G : e3_G) : Prop :=
  ((((H 40 3) : Int) = 7 → (wM_stop_15 Q 1 H G)) ∧ (¬ (((H 40 3) : Int) = 7) → (wM_stop_15 Q l1 H G)))
set_option maxRecDepth 100000 in
set_option maxHeartbeats 4000000 in
theorem sM_stop_15 (L : Nat) (xs : Nat → Int32) (Q : e3_H → e3_G → Prop) (s0 : Int) (H : e3_H) (G : e3_G) (h : wM_stop_15 Q s0 H G) : e3_Ev (wB L xs) 1 22 209 15 [(2, 40), (3, 0)] [(0, s0), (2, 40)] H G (e3_qv Q) := by
  unfold wM_stop_15 at h
  refine e3_K [0, 2] 19 [(2, 40), (3, 0)] [(0, (H 40 5)), (0, s0), (2, 40)] (H) (G) (wZ L xs) (M := tbM209) rfl rfl ⟨trivial, trivial⟩ ?_
  refine e3_call (o := 0) (k := 210) (M2 := tbM210) (f1 := 0) (w1 := 0) (as := [(2, 40), (0, s0), (0, (H 40 5))]) (rest := []) (M := tbM209) rfl rfl rfl trivial (Nat.le_of_ble_eq_true rfl) (Nat.le_of_ble_eq_true rfl) (Nat.le_of_ble_eq_true rfl) ?_
  refine e3_mono (sM_fails L xs _ _ _ _ _ h) (fun r H1 G2 h => ?_)
  obtain ⟨rfl, h⟩ := h
  change e3_Ev _ _ _ _ 22 [(2, 40), (3, 0)] [] H1 G2 _
  exact e3_retv (M := tbM209) rfl rfl rfl ⟨rfl, h⟩
set_option maxRecDepth 100000 in
set_option maxHeartbeats 4000000 in
theorem sM_stop (L : Nat) (xs : Nat → Int32) (Q : e3_H → e3_G → Prop) (l1 : Int) (H : e3_H) (G : e3_G) (h : wM_stop Q l1 H G) : e3_Ev (wB L xs) 1 22 209 0 [(2, 40), (0, l1)] [] H G (e3_qv Q) := by
  unfold wM_stop at h
  refine e3_K [0, 0, 2, 0] 7 [(2, 40), (0, l1)] [(0, 7), (0, (H 40 3)), (2, 40)] (H) (G) (wZ L xs) (M := tbM209) rfl rfl ⟨trivial, trivial⟩ ?_
  refine e3_br (M := tbM209) rfl rfl rfl Iff.rfl (fun hc => ?_) (fun hc => ?_)
  · replace h := h.1 hc
    refine e3_K [0, 0] 15 [(2, 40), (0, l1)] [(0, 1), (2, 40)] (H) (G) (wZ L xs) (M := tbM209) rfl rfl trivial ?_
    refine e3_fgt [true, false] ?_
    exact sM_stop_15 L xs Q _ _ _ h
  · replace h := h.2 hc
    refine e3_K [0] 15 [(2, 40), (0, l1)] [(0, l1), (2, 40)] (H) (G) (wZ L xs) (M := tbM209) rfl rfl trivial ?_
    refine e3_fgt [true, false] ?_
    exact sM_stop_15 L xs Q _ _ _ h
/-- LetterPostModel.kindOf(J)I -/
def wM_kindOf_33 (Q : Int → e3_H → e3_G → Prop) (k6 : Int → Int → Int → e3_H → e3_G → Prop) (l1 : Int) (l4 : Int) (s0 : Int) (H : e3_H) (G : e3_G) : Prop :=
  (k6 l1 s0 (e3_w32 (l4 + 1)) H G)
def wM_kindOf_6 (Q : Int → e3_H → e3_G → Prop) : Nat → Int → Int → Int → e3_H → e3_G → Prop
  | 0, _, _, _, _, _ => False
  | nn + 1, l1, l3, l4, H, G => (((l4 : Int) < (H 40 10) → ((0 : Int) ≤ l4 ∧ (l4 : Int) < 24) ∧ ((((H 42 l4) : Int) = l1 → (wM_kindOf_33 Q (fun l1 l3 l4 H G => wM_kindOf_6 Q nn l1 l3 l4 H G) l1 l4 l4 H G)) ∧ (¬ (((H 42 l4) : Int) = l1) → (wM_kindOf_33 Q (fun l1 l3 l4 H G => wM_kindOf_6 Q nn l1 l3 l4 H G) l1 l4 l3 H G)))) ∧ (¬ ((l4 : Int) < (H 40 10)) → Q l3 H G))
def wM_kindOf (Q : Int → e3_H → e3_G → Prop) (l1 : Int) (H : e3_H) (G : e3_G) : Prop :=
  (∃ n, wM_kindOf_6 Q n l1 (-4) 0 H G)
set_option maxRecDepth 100000 in
set_option maxHeartbeats 4000000 in
theorem sM_kindOf_33 (L : Nat) (xs : Nat → Int32) (Q : Int → e3_H → e3_G → Prop) (k6 : Int → Int → Int → e3_H → e3_G → Prop) (hk6 : ∀ (l1 : Int) (l3 : Int) (l4 : Int) (H : e3_H) (G : e3_G), k6 l1 l3 l4 H G → e3_Ev (wB L xs) 0 0 211 6 [(2, 40), (1, l1), (3, 0), (0, l3), (0, l4)] [] H G (e3_q0 Q)) (l1 : Int) (l4 : Int) (s0 : Int) (H : e3_H) (G : e3_G) (h : wM_kindOf_33 Q k6 l1 l4 s0 H G) : e3_Ev (wB L xs) 0 0 211 33 [(2, 40), (1, l1), (3, 0), (3, 0), (0, l4)] [(0, s0)] H G (e3_q0 Q) := by
  unfold wM_kindOf_33 at h
  refine e3_K [0, 0, 0] 6 [(2, 40), (1, l1), (3, 0), (0, s0), (0, (e3_w32 (l4 + 1)))] [] (H) (G) (wZ L xs) (M := tbM211) rfl rfl trivial ?_
  exact hk6 _ _ _ _ _ h
set_option maxRecDepth 100000 in
set_option maxHeartbeats 4000000 in
theorem sM_kindOf_6 (L : Nat) (xs : Nat → Int32) (Q : Int → e3_H → e3_G → Prop) : ∀ (nl : Nat) (l1 : Int) (l3 : Int) (l4 : Int) (H : e3_H) (G : e3_G), wM_kindOf_6 Q nl l1 l3 l4 H G → e3_Ev (wB L xs) 0 0 211 6 [(2, 40), (1, l1), (3, 0), (0, l3), (0, l4)] [] H G (e3_q0 Q) := by
  intro nl
  induction nl with
  | zero => intro l1 l3 l4 H G h; exact h.elim
  | succ nn ih =>
    intro l1 l3 l4 H G h
    have h : (((l4 : Int) < (H 40 10) → ((0 : Int) ≤ l4 ∧ (l4 : Int) < 24) ∧ ((((H 42 l4) : Int) = l1 → (wM_kindOf_33 Q (fun l1 l3 l4 H G => wM_kindOf_6 Q nn l1 l3 l4 H G) l1 l4 l4 H G)) ∧ (¬ (((H 42 l4) : Int) = l1) → (wM_kindOf_33 Q (fun l1 l3 l4 H G => wM_kindOf_6 Q nn l1 l3 l4 H G) l1 l4 l3 H G)))) ∧ (¬ ((l4 : Int) < (H 40 10)) → Q l3 H G)) := h
    refine e3_K [0, 0, 2] 12 [(2, 40), (1, l1), (3, 0), (0, l3), (0, l4)] [(0, (H 40 10)), (0, l4)] (H) (G) (wZ L xs) (M := tbM211) rfl rfl ⟨trivial, trivial⟩ ?_
    refine e3_br (M := tbM211) rfl rfl rfl Iff.rfl (fun hc => ?_) (fun hc => ?_)
    · replace h := h.1 hc
      obtain ⟨o1, h⟩ := h
      refine e3_K [0, 4, 0, 2, 0, 0] 24 [(2, 40), (1, l1), (3, 0), (0, l3), (0, l4)] [(0, (e3_cmp (H 42 l4) l1))] (H) (G) (wZ L xs) (M := tbM211) rfl rfl ⟨trivial, o1, trivial⟩ ?_
      refine e3_br (M := tbM211) rfl rfl rfl e3_cmp_eq (fun hc => ?_) (fun hc => ?_)
      · replace h := h.1 hc
        refine e3_K [0, 0] 33 [(2, 40), (1, l1), (3, 0), (0, l3), (0, l4)] [(0, l4)] (H) (G) (wZ L xs) (M := tbM211) rfl rfl trivial ?_
        refine e3_fgt [true, true, false, false, true] ?_
        exact sM_kindOf_33 L xs Q (fun l1 l3 l4 H G => wM_kindOf_6 Q nn l1 l3 l4 H G) ih _ _ _ _ _ h
      · replace h := h.2 hc
        refine e3_K [0] 33 [(2, 40), (1, l1), (3, 0), (0, l3), (0, l4)] [(0, l3)] (H) (G) (wZ L xs) (M := tbM211) rfl rfl trivial ?_
        refine e3_fgt [true, true, false, false, true] ?_
        exact sM_kindOf_33 L xs Q (fun l1 l3 l4 H G => wM_kindOf_6 Q nn l1 l3 l4 H G) ih _ _ _ _ _ h
    · replace h := h.2 hc
      refine e3_K [0] 41 [(2, 40), (1, l1), (3, 0), (0, l3), (0, l4)] [(0, l3)] (H) (G) (wZ L xs) (M := tbM211) rfl rfl trivial ?_
      exact e3_reti (M := tbM211) rfl rfl rfl ⟨_, rfl, h⟩
set_option maxRecDepth 100000 in
set_option maxHeartbeats 4000000 in
theorem sM_kindOf (L : Nat) (xs : Nat → Int32) (Q : Int → e3_H → e3_G → Prop) (l1 : Int) (H : e3_H) (G : e3_G) (h : wM_kindOf Q l1 H G) : e3_Ev (wB L xs) 0 0 211 0 [(2, 40), (1, l1), (3, 0), (3, 0), (3, 0)] [] H G (e3_q0 Q) := by
  unfold wM_kindOf at h
  refine e3_K [0, 0, 0, 0] 6 [(2, 40), (1, l1), (3, 0), (0, (-4)), (0, 0)] [] (H) (G) (wZ L xs) (M := tbM211) rfl rfl trivial ?_
  obtain ⟨nl, h⟩ := h
  exact sM_kindOf_6 L xs Q nl _ _ _ _ _ h
/-- LetterPostModel.isSealed(I)Z -/
def wM_isSealed_31 (Q : Int → e3_H → e3_G → Prop) (k4 : Int → Int → Int → e3_H → e3_G → Prop) (l1 : Int) (l3 : Int) (s0 : Int) (H : e3_H) (G : e3_G) : Prop :=
  (k4 l1 s0 (e3_w32 (l3 + 1)) H G)
def wM_isSealed_26 (Q : Int → e3_H → e3_G → Prop) (k4 : Int → Int → Int → e3_H → e3_G → Prop) (l1 : Int) (l3 : Int) (H : e3_H) (G : e3_G) : Prop :=
  (wM_isSealed_31 Q k4 l1 l3 1 H G)
def wM_isSealed_4 (Q : Int → e3_H → e3_G → Prop) : Nat → Int → Int → Int → e3_H → e3_G → Prop
  | 0, _, _, _, _, _ => False
  | nn + 1, l1, l2, l3, H, G => (((l3 : Int) < (H 40 10) → (((l2 : Int) = 0 → ((0 : Int) ≤ l3 ∧ (l3 : Int) < 24) ∧ ((((H 43 l3) : Int) = l1 → (wM_isSealed_26 Q (fun l1 l2 l3 H G => wM_isSealed_4 Q nn l1 l2 l3 H G) l1 l3 H G)) ∧ (¬ (((H 43 l3) : Int) = l1) → (wM_isSealed_31 Q (fun l1 l2 l3 H G => wM_isSealed_4 Q nn l1 l2 l3 H G) l1 l3 0 H G)))) ∧ (¬ ((l2 : Int) = 0) → (wM_isSealed_26 Q (fun l1 l2 l3 H G => wM_isSealed_4 Q nn l1 l2 l3 H G) l1 l3 H G)))) ∧ (¬ ((l3 : Int) < (H 40 10)) → ((l2 : Int) = 0 ∨ l2 = 1) ∧ Q l2 H G))
def wM_isSealed (Q : Int → e3_H → e3_G → Prop) (l1 : Int) (H : e3_H) (G : e3_G) : Prop :=
  (∃ n, wM_isSealed_4 Q n l1 0 0 H G)
set_option maxRecDepth 100000 in
set_option maxHeartbeats 4000000 in
theorem sM_isSealed_31 (L : Nat) (xs : Nat → Int32) (Q : Int → e3_H → e3_G → Prop) (k4 : Int → Int → Int → e3_H → e3_G → Prop) (hk4 : ∀ (l1 : Int) (l2 : Int) (l3 : Int) (H : e3_H) (G : e3_G), k4 l1 l2 l3 H G → e3_Ev (wB L xs) 0 0 213 4 [(2, 40), (0, l1), (0, l2), (0, l3)] [] H G (e3_q0 Q)) (l1 : Int) (l3 : Int) (s0 : Int) (H : e3_H) (G : e3_G) (h : wM_isSealed_31 Q k4 l1 l3 s0 H G) : e3_Ev (wB L xs) 0 0 213 31 [(2, 40), (0, l1), (3, 0), (0, l3)] [(0, s0)] H G (e3_q0 Q) := by
  unfold wM_isSealed_31 at h
  refine e3_K [0, 0, 0] 4 [(2, 40), (0, l1), (0, s0), (0, (e3_w32 (l3 + 1)))] [] (H) (G) (wZ L xs) (M := tbM213) rfl rfl trivial ?_
  exact hk4 _ _ _ _ _ h
set_option maxRecDepth 100000 in
set_option maxHeartbeats 4000000 in
theorem sM_isSealed_26 (L : Nat) (xs : Nat → Int32) (Q : Int → e3_H → e3_G → Prop) (k4 : Int → Int → Int → e3_H → e3_G → Prop) (hk4 : ∀ (l1 : Int) (l2 : Int) (l3 : Int) (H : e3_H) (G : e3_G), k4 l1 l2 l3 H G → e3_Ev (wB L xs) 0 0 213 4 [(2, 40), (0, l1), (0, l2), (0, l3)] [] H G (e3_q0 Q)) (l1 : Int) (l3 : Int) (H : e3_H) (G : e3_G) (h : wM_isSealed_26 Q k4 l1 l3 H G) : e3_Ev (wB L xs) 0 0 213 26 [(2, 40), (0, l1), (3, 0), (0, l3)] [] H G (e3_q0 Q) := by
  unfold wM_isSealed_26 at h
  refine e3_K [0, 0] 31 [(2, 40), (0, l1), (3, 0), (0, l3)] [(0, 1)] (H) (G) (wZ L xs) (M := tbM213) rfl rfl trivial ?_
  exact sM_isSealed_31 L xs Q k4 hk4 _ _ _ _ _ h
set_option maxRecDepth 100000 in
set_option maxHeartbeats 4000000 in
theorem sM_isSealed_4 (L : Nat) (xs : Nat → Int32) (Q : Int → e3_H → e3_G → Prop) : ∀ (nl : Nat) (l1 : Int) (l2 : Int) (l3 : Int) (H : e3_H) (G : e3_G), wM_isSealed_4 Q nl l1 l2 l3 H G → e3_Ev (wB L xs) 0 0 213 4 [(2, 40), (0, l1), (0, l2), (0, l3)] [] H G (e3_q0 Q) := by
  intro nl
  induction nl with
  | zero => intro l1 l2 l3 H G h; exact h.elim
  | succ nn ih =>
    intro l1 l2 l3 H G h
    have h : (((l3 : Int) < (H 40 10) → (((l2 : Int) = 0 → ((0 : Int) ≤ l3 ∧ (l3 : Int) < 24) ∧ ((((H 43 l3) : Int) = l1 → (wM_isSealed_26 Q (fun l1 l2 l3 H G => wM_isSealed_4 Q nn l1 l2 l3 H G) l1 l3 H G)) ∧ (¬ (((H 43 l3) : Int) = l1) → (wM_isSealed_31 Q (fun l1 l2 l3 H G => wM_isSealed_4 Q nn l1 l2 l3 H G) l1 l3 0 H G)))) ∧ (¬ ((l2 : Int) = 0) → (wM_isSealed_26 Q (fun l1 l2 l3 H G => wM_isSealed_4 Q nn l1 l2 l3 H G) l1 l3 H G)))) ∧ (¬ ((l3 : Int) < (H 40 10)) → ((l2 : Int) = 0 ∨ l2 = 1) ∧ Q l2 H G)) := h
    refine e3_K [0, 0, 2] 9 [(2, 40), (0, l1), (0, l2), (0, l3)] [(0, (H 40 10)), (0, l3)] (H) (G) (wZ L xs) (M := tbM213) rfl rfl ⟨trivial, trivial⟩ ?_
    refine e3_br (M := tbM213) rfl rfl rfl Iff.rfl (fun hc => ?_) (fun hc => ?_)
    · replace h := h.1 hc
      refine e3_K [0] 13 [(2, 40), (0, l1), (0, l2), (0, l3)] [(0, l2)] (H) (G) (wZ L xs) (M := tbM213) rfl rfl trivial ?_
      refine e3_br (M := tbM213) rfl rfl rfl Iff.rfl (fun hc => ?_) (fun hc => ?_)
      · replace h := h.1 hc
        obtain ⟨o1, h⟩ := h
        refine e3_K [0, 4, 0, 2, 0] 23 [(2, 40), (0, l1), (0, l2), (0, l3)] [(0, l1), (0, (H 43 l3))] (H) (G) (wZ L xs) (M := tbM213) rfl rfl ⟨trivial, o1, trivial⟩ ?_
        refine e3_br (M := tbM213) rfl rfl rfl Iff.rfl (fun hc => ?_) (fun hc => ?_)
        · replace h := h.1 hc
          refine e3_fgt [true, true, false, true] ?_
          exact sM_isSealed_26 L xs Q (fun l1 l2 l3 H G => wM_isSealed_4 Q nn l1 l2 l3 H G) ih _ _ _ _ h
        · replace h := h.2 hc
          refine e3_K [0] 31 [(2, 40), (0, l1), (0, l2), (0, l3)] [(0, 0)] (H) (G) (wZ L xs) (M := tbM213) rfl rfl trivial ?_
          refine e3_fgt [true, true, false, true] ?_
          exact sM_isSealed_31 L xs Q (fun l1 l2 l3 H G => wM_isSealed_4 Q nn l1 l2 l3 H G) ih _ _ _ _ _ h
      · replace h := h.2 hc
        refine e3_fgt [true, true, false, true] ?_
        exact sM_isSealed_26 L xs Q (fun l1 l2 l3 H G => wM_isSealed_4 Q nn l1 l2 l3 H G) ih _ _ _ _ h
    · replace h := h.2 hc
      refine e3_K [0] 39 [(2, 40), (0, l1), (0, l2), (0, l3)] [(0, l2)] (H) (G) (wZ L xs) (M := tbM213) rfl rfl trivial ?_
      exact e3_retb (M := tbM213) rfl rfl rfl h.1 ⟨_, rfl, h.2⟩
set_option maxRecDepth 100000 in
set_option maxHeartbeats 4000000 in
theorem sM_isSealed (L : Nat) (xs : Nat → Int32) (Q : Int → e3_H → e3_G → Prop) (l1 : Int) (H : e3_H) (G : e3_G) (h : wM_isSealed Q l1 H G) : e3_Ev (wB L xs) 0 0 213 0 [(2, 40), (0, l1), (3, 0), (3, 0)] [] H G (e3_q0 Q) := by
  unfold wM_isSealed at h
  refine e3_K [0, 0, 0, 0] 4 [(2, 40), (0, l1), (0, 0), (0, 0)] [] (H) (G) (wZ L xs) (M := tbM213) rfl rfl trivial ?_
  obtain ⟨nl, h⟩ := h
  exact sM_isSealed_4 L xs Q nl _ _ _ _ _ h
/-- LetterPostModel.readUnder(IZ)V -/
def wM_readUnder_94 (Q : e3_H → e3_G → Prop)  (H : e3_H) (G : e3_G) : Prop :=
  Q H G
def wM_readUnder_38 (Q : e3_H → e3_G → Prop)  (H : e3_H) (G : e3_G) : Prop :=
  (wM_fails (fun H1 G2 => (wM_readUnder_94 Q H1 G2)) 4 (H 40 5) H G)
def wM_readUnder_71 (Q : e3_H → e3_G → Prop)  (H : e3_H) (G : e3_G) : Prop :=
  (wM_fails (fun H1 G2 => (wM_readUnder_94 Q H1 G2)) 5 (H 40 5) H G)
def wM_readUnder_83 (Q : e3_H → e3_G → Prop) (l1 : Int) (l3 : Int) (H : e3_H) (G : e3_G) : Prop :=
  ((0 : Int) ≤ l1 ∧ (l1 : Int) < 24) ∧ ∀ H1 : e3_H, H1 = e3_up H 43 l1 l3 → (wM_next (fun H3 G4 => (wM_readUnder_94 Q H3 G4)) H1 G)
def wM_readUnder (Q : e3_H → e3_G → Prop) (l1 : Int) (l2 : Int) (H : e3_H) (G : e3_G) : Prop :=
  (wM_next (fun H1 G2 => ((((H1 40 3) : Int) = 2 → (wM_kindOf (fun x6 H4 G5 => (((x6 : Int) = (-4) → (wM_readUnder_38 Q H4 G5)) ∧ (¬ ((x6 : Int) = (-4)) → (((x6 : Int) = l1 → (wM_readUnder_38 Q H4 G5)) ∧ (¬ ((x6 : Int) = l1) → ((0 : Int) ≤ x6 ∧ (x6 : Int) < 24) ∧ (((0 : Int) < (H4 44 x6) → (wM_readUnder_71 Q H4 G5)) ∧ (¬ ((0 : Int) < (H4 44 x6)) → (((l2 : Int) = 0 → (wM_readUnder_83 Q l1 x6 H4 G5)) ∧ (¬ ((l2 : Int) = 0) → (wM_isSealed (fun x10 H8 G9 => (((x10 : Int) = 0 → (wM_readUnder_71 Q H8 G9)) ∧ (¬ ((x10 : Int) = 0) → (wM_readUnder_83 Q l1 x6 H8 G9)))) x6 H4 G5)))))))))) (H1 40 4) H1 G2)) ∧ (¬ (((H1 40 3) : Int) = 2) → (wM_stop (fun H11 G12 => Q H11 G12) 2 H1 G2)))) H G)
set_option maxRecDepth 100000 in
set_option maxHeartbeats 4000000 in
theorem sM_readUnder_94 (L : Nat) (xs : Nat → Int32) (Q : e3_H → e3_G → Prop)  (H : e3_H) (G : e3_G) (h : wM_readUnder_94 Q  H G) : e3_Ev (wB L xs) 4 89 212 94 [(3, 0), (3, 0), (3, 0), (3, 0)] [] H G (e3_qv Q) := by
  unfold wM_readUnder_94 at h
  exact e3_retv (M := tbM212) rfl rfl rfl ⟨rfl, h⟩
set_option maxRecDepth 100000 in
set_option maxHeartbeats 4000000 in
theorem sM_readUnder_38 (L : Nat) (xs : Nat → Int32) (Q : e3_H → e3_G → Prop)  (H : e3_H) (G : e3_G) (h : wM_readUnder_38 Q  H G) : e3_Ev (wB L xs) 4 89 212 38 [(2, 40), (3, 0), (3, 0), (3, 0)] [] H G (e3_qv Q) := by
  unfold wM_readUnder_38 at h
  refine e3_K [0, 0, 0, 2] 44 [(2, 40), (3, 0), (3, 0), (3, 0)] [(0, (H 40 5)), (0, 4), (2, 40)] (H) (G) (wZ L xs) (M := tbM212) rfl rfl ⟨trivial, trivial⟩ ?_
  refine e3_call (o := 0) (k := 210) (M2 := tbM210) (f1 := 0) (w1 := 0) (as := [(2, 40), (0, 4), (0, (H 40 5))]) (rest := []) (M := tbM212) rfl rfl rfl trivial (Nat.le_of_ble_eq_true rfl) (Nat.le_of_ble_eq_true rfl) (Nat.le_of_ble_eq_true rfl) ?_
  refine e3_mono (sM_fails L xs _ _ _ _ _ h) (fun r H1 G2 h => ?_)
  obtain ⟨rfl, h⟩ := h
  change e3_Ev _ _ _ _ 47 [(2, 40), (3, 0), (3, 0), (3, 0)] [] H1 G2 _
  refine e3_K [0] 94 [(2, 40), (3, 0), (3, 0), (3, 0)] [] (H1) (G2) (wZ L xs) (M := tbM212) rfl rfl trivial ?_
  refine e3_fgt [false, false, false, false] ?_
  exact sM_readUnder_94 L xs Q _ _ h
set_option maxRecDepth 100000 in
set_option maxHeartbeats 4000000 in
theorem sM_readUnder_71 (L : Nat) (xs : Nat → Int32) (Q : e3_H → e3_G → Prop)  (H : e3_H) (G : e3_G) (h : wM_readUnder_71 Q  H G) : e3_Ev (wB L xs) 4 89 212 71 [(2, 40), (3, 0), (3, 0), (3, 0)] [] H G (e3_qv Q) := by
  unfold wM_readUnder_71 at h
  refine e3_K [0, 0, 0, 2] 77 [(2, 40), (3, 0), (3, 0), (3, 0)] [(0, (H 40 5)), (0, 5), (2, 40)] (H) (G) (wZ L xs) (M := tbM212) rfl rfl ⟨trivial, trivial⟩ ?_
  refine e3_call (o := 0) (k := 210) (M2 := tbM210) (f1 := 0) (w1 := 0) (as := [(2, 40), (0, 5), (0, (H 40 5))]) (rest := []) (M := tbM212) rfl rfl rfl trivial (Nat.le_of_ble_eq_true rfl) (Nat.le_of_ble_eq_true rfl) (Nat.le_of_ble_eq_true rfl) ?_
  refine e3_mono (sM_fails L xs _ _ _ _ _ h) (fun r H1 G2 h => ?_)
  obtain ⟨rfl, h⟩ := h
  change e3_Ev _ _ _ _ 80 [(2, 40), (3, 0), (3, 0), (3, 0)] [] H1 G2 _
  refine e3_K [0] 94 [(2, 40), (3, 0), (3, 0), (3, 0)] [] (H1) (G2) (wZ L xs) (M := tbM212) rfl rfl trivial ?_
  refine e3_fgt [false, false, false, false] ?_
  exact sM_readUnder_94 L xs Q _ _ h
set_option maxRecDepth 100000 in
set_option maxHeartbeats 4000000 in
theorem sM_readUnder_83 (L : Nat) (xs : Nat → Int32) (Q : e3_H → e3_G → Prop) (l1 : Int) (l3 : Int) (H : e3_H) (G : e3_G) (h : wM_readUnder_83 Q l1 l3 H G) : e3_Ev (wB L xs) 4 89 212 83 [(2, 40), (0, l1), (3, 0), (0, l3)] [] H G (e3_qv Q) := by
  unfold wM_readUnder_83 at h
  obtain ⟨o2, h⟩ := h
  refine e3_K [0, 4, 0, 0, 2] 90 [(2, 40), (0, l1), (3, 0), (0, l3)] [] (e3_up H 43 l1 l3) (G) (wZ L xs) (M := tbM212) rfl rfl ⟨trivial, o2, trivial⟩ ?_
  generalize hH1 : (e3_up H 43 l1 l3) = H1
  replace h := h H1 hH1.symm
  refine e3_K [0] 91 [(2, 40), (0, l1), (3, 0), (0, l3)] [(2, 40)] (H1) (G) (wZ L xs) (M := tbM212) rfl rfl trivial ?_
  refine e3_call (o := 0) (k := 201) (M2 := tbM201) (f1 := 3) (w1 := 67) (as := [(2, 40)]) (rest := []) (M := tbM212) rfl rfl rfl trivial (Nat.le_of_ble_eq_true rfl) (Nat.le_of_ble_eq_true rfl) (Nat.le_of_ble_eq_true rfl) ?_
  refine e3_mono (sM_next L xs _ _ _ h) (fun r H3 G4 h => ?_)
  obtain ⟨rfl, h⟩ := h
  change e3_Ev _ _ _ _ 94 [(2, 40), (0, l1), (3, 0), (0, l3)] [] H3 G4 _
  refine e3_fgt [false, false, false, false] ?_
  exact sM_readUnder_94 L xs Q _ _ h
set_option maxRecDepth 100000 in
set_option maxHeartbeats 4000000 in
theorem sM_readUnder (L : Nat) (xs : Nat → Int32) (Q : e3_H → e3_G → Prop) (l1 : Int) (l2 : Int) (H : e3_H) (G : e3_G) (h : wM_readUnder Q l1 l2 H G) : e3_Ev (wB L xs) 4 89 212 0 [(2, 40), (0, l1), (0, l2), (3, 0)] [] H G (e3_qv Q) := by
  unfold wM_readUnder at h
  refine e3_K [0] 1 [(2, 40), (0, l1), (0, l2), (3, 0)] [(2, 40)] (H) (G) (wZ L xs) (M := tbM212) rfl rfl trivial ?_
  refine e3_call (o := 0) (k := 201) (M2 := tbM201) (f1 := 3) (w1 := 67) (as := [(2, 40)]) (rest := []) (M := tbM212) rfl rfl rfl trivial (Nat.le_of_ble_eq_true rfl) (Nat.le_of_ble_eq_true rfl) (Nat.le_of_ble_eq_true rfl) ?_
  refine e3_mono (sM_next L xs _ _ _ h) (fun r H1 G2 h => ?_)
  obtain ⟨rfl, h⟩ := h
  change e3_Ev _ _ _ _ 4 [(2, 40), (0, l1), (0, l2), (3, 0)] [] H1 G2 _
  refine e3_K [0, 2, 0] 9 [(2, 40), (0, l1), (0, l2), (3, 0)] [(0, 2), (0, (H1 40 3))] (H1) (G2) (wZ L xs) (M := tbM212) rfl rfl ⟨trivial, trivial⟩ ?_
  refine e3_br (M := tbM212) rfl rfl rfl Iff.rfl (fun hc => ?_) (fun hc => ?_)
  · replace h := h.1 hc
    refine e3_K [0, 0, 2] 23 [(2, 40), (0, l1), (0, l2), (3, 0)] [(1, (H1 40 4)), (2, 40)] (H1) (G2) (wZ L xs) (M := tbM212) rfl rfl ⟨trivial, trivial⟩ ?_
    refine e3_call (o := 0) (k := 211) (M2 := tbM211) (f1 := 0) (w1 := 0) (as := [(2, 40), (1, (H1 40 4))]) (rest := []) (M := tbM212) rfl rfl rfl trivial (Nat.le_of_ble_eq_true rfl) (Nat.le_of_ble_eq_true rfl) (Nat.le_of_ble_eq_true rfl) ?_
    refine e3_mono (sM_kindOf L xs _ _ _ _ h) (fun r H4 G5 h => ?_)
    obtain ⟨x6, rfl, h⟩ := h
    change e3_Ev _ _ _ _ 26 [(2, 40), (0, l1), (0, l2), (3, 0)] [(0, x6)] H4 G5 _
    refine e3_K [0, 0, 0] 30 [(2, 40), (0, l1), (0, l2), (0, x6)] [(0, (-4)), (0, x6)] (H4) (G5) (wZ L xs) (M := tbM212) rfl rfl trivial ?_
    refine e3_br (M := tbM212) rfl rfl rfl Iff.rfl (fun hc => ?_) (fun hc => ?_)
    · replace h := h.1 hc
      refine e3_fgt [true, false, false, false] ?_
      exact sM_readUnder_38 L xs Q _ _ h
    · replace h := h.2 hc
      refine e3_K [0, 0] 35 [(2, 40), (0, l1), (0, l2), (0, x6)] [(0, l1), (0, x6)] (H4) (G5) (wZ L xs) (M := tbM212) rfl rfl trivial ?_
      refine e3_br (M := tbM212) rfl rfl rfl Iff.rfl (fun hc => ?_) (fun hc => ?_)
      · replace h := h.1 hc
        refine e3_fgt [true, false, false, false] ?_
        exact sM_readUnder_38 L xs Q _ _ h
      · replace h := h.2 hc
        obtain ⟨o7, h⟩ := h
        refine e3_K [0, 4, 0, 2] 56 [(2, 40), (0, l1), (0, l2), (0, x6)] [(0, (H4 44 x6))] (H4) (G5) (wZ L xs) (M := tbM212) rfl rfl ⟨trivial, o7, trivial⟩ ?_
        refine e3_br (M := tbM212) rfl rfl rfl Iff.rfl (fun hc => ?_) (fun hc => ?_)
        · replace h := h.1 hc
          refine e3_fgt [true, false, false, false] ?_
          exact sM_readUnder_71 L xs Q _ _ h
        · replace h := h.2 hc
          refine e3_K [0] 60 [(2, 40), (0, l1), (0, l2), (0, x6)] [(0, l2)] (H4) (G5) (wZ L xs) (M := tbM212) rfl rfl trivial ?_
          refine e3_br (M := tbM212) rfl rfl rfl Iff.rfl (fun hc => ?_) (fun hc => ?_)
          · replace h := h.1 hc
            refine e3_fgt [true, true, false, true] ?_
            exact sM_readUnder_83 L xs Q _ _ _ _ h
          · replace h := h.2 hc
            refine e3_K [0, 0] 65 [(2, 40), (0, l1), (0, l2), (0, x6)] [(0, x6), (2, 40)] (H4) (G5) (wZ L xs) (M := tbM212) rfl rfl trivial ?_
            refine e3_call (o := 0) (k := 213) (M2 := tbM213) (f1 := 0) (w1 := 0) (as := [(2, 40), (0, x6)]) (rest := []) (M := tbM212) rfl rfl rfl trivial (Nat.le_of_ble_eq_true rfl) (Nat.le_of_ble_eq_true rfl) (Nat.le_of_ble_eq_true rfl) ?_
            refine e3_mono (sM_isSealed L xs _ _ _ _ h) (fun r H8 G9 h => ?_)
            obtain ⟨x10, rfl, h⟩ := h
            change e3_Ev _ _ _ _ 68 [(2, 40), (0, l1), (0, l2), (0, x6)] [(0, x10)] H8 G9 _
            refine e3_br (M := tbM212) rfl rfl rfl Iff.rfl (fun hc => ?_) (fun hc => ?_)
            · replace h := h.1 hc
              refine e3_fgt [true, false, false, false] ?_
              exact sM_readUnder_71 L xs Q _ _ h
            · replace h := h.2 hc
              refine e3_fgt [true, true, false, true] ?_
              exact sM_readUnder_83 L xs Q _ _ _ _ h
  · replace h := h.2 hc
    refine e3_K [0, 0] 14 [(2, 40), (0, l1), (0, l2), (3, 0)] [(0, 2), (2, 40)] (H1) (G2) (wZ L xs) (M := tbM212) rfl rfl trivial ?_
    refine e3_call (o := 0) (k := 209) (M2 := tbM209) (f1 := 1) (w1 := 22) (as := [(2, 40), (0, 2)]) (rest := []) (M := tbM212) rfl rfl rfl trivial (Nat.le_of_ble_eq_true rfl) (Nat.le_of_ble_eq_true rfl) (Nat.le_of_ble_eq_true rfl) ?_
    refine e3_mono (sM_stop L xs _ _ _ _ h) (fun r H11 G12 h => ?_)
    obtain ⟨rfl, h⟩ := h
    change e3_Ev _ _ _ _ 17 [(2, 40), (0, l1), (0, l2), (3, 0)] [] H11 G12 _
    exact e3_retv (M := tbM212) rfl rfl rfl ⟨rfl, h⟩
/-- LetterPostModel.isSign(I)Z -/
def wM_isSign_23 (Q : Int → e3_H → e3_G → Prop) (s0 : Int) (H : e3_H) (G : e3_G) : Prop :=
  ((s0 : Int) = 0 ∨ s0 = 1) ∧ Q s0 H G
def wM_isSign_22 (Q : Int → e3_H → e3_G → Prop)  (H : e3_H) (G : e3_G) : Prop :=
  (wM_isSign_23 Q 0 H G)
def wM_isSign (Q : Int → e3_H → e3_G → Prop) (l1 : Int) (H : e3_H) (G : e3_G) : Prop :=
  ((((H 40 3) : Int) = 5 → ((((H 40 4) : Int) = l1 → (wM_isSign_23 Q 1 H G)) ∧ (¬ (((H 40 4) : Int) = l1) → (wM_isSign_22 Q H G)))) ∧ (¬ (((H 40 3) : Int) = 5) → (wM_isSign_22 Q H G)))
set_option maxRecDepth 100000 in
set_option maxHeartbeats 4000000 in
theorem sM_isSign_23 (L : Nat) (xs : Nat → Int32) (Q : Int → e3_H → e3_G → Prop) (s0 : Int) (H : e3_H) (G : e3_G) (h : wM_isSign_23 Q s0 H G) : e3_Ev (wB L xs) 0 0 215 23 [(3, 0), (3, 0)] [(0, s0)] H G (e3_q0 Q) := by
  unfold wM_isSign_23 at h
  exact e3_retb (M := tbM215) rfl rfl rfl h.1 ⟨_, rfl, h.2⟩
set_option maxRecDepth 100000 in
set_option maxHeartbeats 4000000 in
theorem sM_isSign_22 (L : Nat) (xs : Nat → Int32) (Q : Int → e3_H → e3_G → Prop)  (H : e3_H) (G : e3_G) (h : wM_isSign_22 Q  H G) : e3_Ev (wB L xs) 0 0 215 22 [(3, 0), (3, 0)] [] H G (e3_q0 Q) := by
  unfold wM_isSign_22 at h
  refine e3_K [0] 23 [(3, 0), (3, 0)] [(0, 0)] (H) (G) (wZ L xs) (M := tbM215) rfl rfl trivial ?_
  exact sM_isSign_23 L xs Q _ _ _ h
set_option maxRecDepth 100000 in
set_option maxHeartbeats 4000000 in
theorem sM_isSign (L : Nat) (xs : Nat → Int32) (Q : Int → e3_H → e3_G → Prop) (l1 : Int) (H : e3_H) (G : e3_G) (h : wM_isSign Q l1 H G) : e3_Ev (wB L xs) 0 0 215 0 [(2, 40), (0, l1)] [] H G (e3_q0 Q) := by
  unfold wM_isSign at h
  refine e3_K [0, 2, 0] 5 [(2, 40), (0, l1)] [(0, 5), (0, (H 40 3))] (H) (G) (wZ L xs) (M := tbM215) rfl rfl ⟨trivial, trivial⟩ ?_
  refine e3_br (M := tbM215) rfl rfl rfl Iff.rfl (fun hc => ?_) (fun hc => ?_)
  · replace h := h.1 hc
    refine e3_K [0, 2, 0, 0, 0] 15 [(2, 40), (0, l1)] [(0, (e3_cmp (H 40 4) l1))] (H) (G) (wZ L xs) (M := tbM215) rfl rfl ⟨trivial, trivial⟩ ?_
    refine e3_br (M := tbM215) rfl rfl rfl e3_cmp_eq (fun hc => ?_) (fun hc => ?_)
    · replace h := h.1 hc
      refine e3_K [0, 0] 23 [(2, 40), (0, l1)] [(0, 1)] (H) (G) (wZ L xs) (M := tbM215) rfl rfl trivial ?_
      refine e3_fgt [false, false] ?_
      exact sM_isSign_23 L xs Q _ _ _ h
    · replace h := h.2 hc
      refine e3_fgt [false, false] ?_
      exact sM_isSign_22 L xs Q _ _ h
  · replace h := h.2 hc
    refine e3_fgt [false, false] ?_
    exact sM_isSign_22 L xs Q _ _ h
/-- LetterPostModel.takes(I)Z -/
def wM_takes_29 (Q : Int → e3_H → e3_G → Prop) (l2 : Int) (H : e3_H) (G : e3_G) : Prop :=
  ((l2 : Int) = 0 ∨ l2 = 1) ∧ Q l2 H G
def wM_takes_20 (Q : Int → e3_H → e3_G → Prop) (s0 : Int) (H : e3_H) (G : e3_G) : Prop :=
  (((s0 : Int) = 0 → (wM_takes_29 Q s0 H G)) ∧ (¬ ((s0 : Int) = 0) → (wM_next (fun H1 G2 => (wM_takes_29 Q s0 H1 G2)) H G)))
def wM_takes_19 (Q : Int → e3_H → e3_G → Prop)  (H : e3_H) (G : e3_G) : Prop :=
  (wM_takes_20 Q 0 H G)
def wM_takes (Q : Int → e3_H → e3_G → Prop) (l1 : Int) (H : e3_H) (G : e3_G) : Prop :=
  ((((H 40 7) : Int) = 0 → (wM_isSign (fun x3 H1 G2 => (((x3 : Int) = 0 → (wM_takes_19 Q H1 G2)) ∧ (¬ ((x3 : Int) = 0) → (wM_takes_20 Q 1 H1 G2)))) l1 H G)) ∧ (¬ (((H 40 7) : Int) = 0) → (wM_takes_19 Q H G)))
set_option maxRecDepth 100000 in
set_option maxHeartbeats 4000000 in
theorem sM_takes_29 (L : Nat) (xs : Nat → Int32) (Q : Int → e3_H → e3_G → Prop) (l2 : Int) (H : e3_H) (G : e3_G) (h : wM_takes_29 Q l2 H G) : e3_Ev (wB L xs) 4 89 214 29 [(3, 0), (3, 0), (0, l2)] [] H G (e3_q0 Q) := by
  unfold wM_takes_29 at h
  refine e3_K [0] 30 [(3, 0), (3, 0), (0, l2)] [(0, l2)] (H) (G) (wZ L xs) (M := tbM214) rfl rfl trivial ?_
  exact e3_retb (M := tbM214) rfl rfl rfl h.1 ⟨_, rfl, h.2⟩
set_option maxRecDepth 100000 in
set_option maxHeartbeats 4000000 in
theorem sM_takes_20 (L : Nat) (xs : Nat → Int32) (Q : Int → e3_H → e3_G → Prop) (s0 : Int) (H : e3_H) (G : e3_G) (h : wM_takes_20 Q s0 H G) : e3_Ev (wB L xs) 4 89 214 20 [(2, 40), (3, 0), (3, 0)] [(0, s0)] H G (e3_q0 Q) := by
  unfold wM_takes_20 at h
  refine e3_K [0, 0] 22 [(2, 40), (3, 0), (0, s0)] [(0, s0)] (H) (G) (wZ L xs) (M := tbM214) rfl rfl trivial ?_
  refine e3_br (M := tbM214) rfl rfl rfl Iff.rfl (fun hc => ?_) (fun hc => ?_)
  · replace h := h.1 hc
    refine e3_fgt [false, false, true] ?_
    exact sM_takes_29 L xs Q _ _ _ h
  · replace h := h.2 hc
    refine e3_K [0] 26 [(2, 40), (3, 0), (0, s0)] [(2, 40)] (H) (G) (wZ L xs) (M := tbM214) rfl rfl trivial ?_
    refine e3_call (o := 0) (k := 201) (M2 := tbM201) (f1 := 3) (w1 := 67) (as := [(2, 40)]) (rest := []) (M := tbM214) rfl rfl rfl trivial (Nat.le_of_ble_eq_true rfl) (Nat.le_of_ble_eq_true rfl) (Nat.le_of_ble_eq_true rfl) ?_
    refine e3_mono (sM_next L xs _ _ _ h) (fun r H1 G2 h => ?_)
    obtain ⟨rfl, h⟩ := h
    change e3_Ev _ _ _ _ 29 [(2, 40), (3, 0), (0, s0)] [] H1 G2 _
    refine e3_fgt [false, false, true] ?_
    exact sM_takes_29 L xs Q _ _ _ h
set_option maxRecDepth 100000 in
set_option maxHeartbeats 4000000 in
theorem sM_takes_19 (L : Nat) (xs : Nat → Int32) (Q : Int → e3_H → e3_G → Prop)  (H : e3_H) (G : e3_G) (h : wM_takes_19 Q  H G) : e3_Ev (wB L xs) 4 89 214 19 [(2, 40), (3, 0), (3, 0)] [] H G (e3_q0 Q) := by
  unfold wM_takes_19 at h
  refine e3_K [0] 20 [(2, 40), (3, 0), (3, 0)] [(0, 0)] (H) (G) (wZ L xs) (M := tbM214) rfl rfl trivial ?_
  exact sM_takes_20 L xs Q _ _ _ h
set_option maxRecDepth 100000 in
set_option maxHeartbeats 4000000 in
theorem sM_takes (L : Nat) (xs : Nat → Int32) (Q : Int → e3_H → e3_G → Prop) (l1 : Int) (H : e3_H) (G : e3_G) (h : wM_takes Q l1 H G) : e3_Ev (wB L xs) 4 89 214 0 [(2, 40), (0, l1), (3, 0)] [] H G (e3_q0 Q) := by
  unfold wM_takes at h
  refine e3_K [0, 2] 4 [(2, 40), (0, l1), (3, 0)] [(0, (H 40 7))] (H) (G) (wZ L xs) (M := tbM214) rfl rfl ⟨trivial, trivial⟩ ?_
  refine e3_br (M := tbM214) rfl rfl rfl Iff.rfl (fun hc => ?_) (fun hc => ?_)
  · replace h := h.1 hc
    refine e3_K [0, 0] 9 [(2, 40), (0, l1), (3, 0)] [(0, l1), (2, 40)] (H) (G) (wZ L xs) (M := tbM214) rfl rfl trivial ?_
    refine e3_call (o := 0) (k := 215) (M2 := tbM215) (f1 := 0) (w1 := 0) (as := [(2, 40), (0, l1)]) (rest := []) (M := tbM214) rfl rfl rfl trivial (Nat.le_of_ble_eq_true rfl) (Nat.le_of_ble_eq_true rfl) (Nat.le_of_ble_eq_true rfl) ?_
    refine e3_mono (sM_isSign L xs _ _ _ _ h) (fun r H1 G2 h => ?_)
    obtain ⟨x3, rfl, h⟩ := h
    change e3_Ev _ _ _ _ 12 [(2, 40), (0, l1), (3, 0)] [(0, x3)] H1 G2 _
    refine e3_br (M := tbM214) rfl rfl rfl Iff.rfl (fun hc => ?_) (fun hc => ?_)
    · replace h := h.1 hc
      refine e3_fgt [true, false, false] ?_
      exact sM_takes_19 L xs Q _ _ h
    · replace h := h.2 hc
      refine e3_K [0, 0] 20 [(2, 40), (0, l1), (3, 0)] [(0, 1)] (H1) (G2) (wZ L xs) (M := tbM214) rfl rfl trivial ?_
      refine e3_fgt [true, false, false] ?_
      exact sM_takes_20 L xs Q _ _ _ h
  · replace h := h.2 hc
    refine e3_fgt [true, false, false] ?_
    exact sM_takes_19 L xs Q _ _ h
/-- LetterPostModel.readSort(Z)I -/
def wM_readSort_107 (Q : Int → e3_H → e3_G → Prop) (l2 : Int) (H : e3_H) (G : e3_G) : Prop :=
  Q l2 H G
def wM_readSort_96 (Q : Int → e3_H → e3_G → Prop) (l2 : Int) (H : e3_H) (G : e3_G) : Prop :=
  ((((H 40 7) : Int) = 0 → (wM_next (fun H1 G2 => (wM_readSort_107 Q l2 H1 G2)) H G)) ∧ (¬ (((H 40 7) : Int) = 0) → (wM_readSort_107 Q l2 H G)))
def wM_readSort_82 (Q : Int → e3_H → e3_G → Prop) (l1 : Int) (l2 : Int) (H : e3_H) (G : e3_G) : Prop :=
  (((l1 : Int) = 0 → (wM_readSort_96 Q l2 H G)) ∧ (¬ ((l1 : Int) = 0) → (wM_fails (fun H1 G2 => (wM_readSort_96 Q l2 H1 G2)) 9 (H 40 5) H G)))
def wM_readSort_71 (Q : Int → e3_H → e3_G → Prop) (l1 : Int) (l2 : Int) (H : e3_H) (G : e3_G) : Prop :=
  (wM_readSort_82 Q l1 (e3_w32 (l2 + 3)) H G)
def wM_readSort_39 (Q : Int → e3_H → e3_G → Prop) (l1 : Int) (l2 : Int) (H : e3_H) (G : e3_G) : Prop :=
  ((((H 40 3) : Int) = 2 → (wM_kindOf (fun x3 H1 G2 => (((x3 : Int) = (-4) → (wM_fails (fun H4 G5 => (wM_readSort_71 Q l1 x3 H4 G5)) 4 (H1 40 5) H1 G2)) ∧ (¬ ((x3 : Int) = (-4)) → (wM_readSort_71 Q l1 x3 H1 G2)))) (H 40 4) H G)) ∧ (¬ (((H 40 3) : Int) = 2) → (wM_stop (fun H7 G8 => (wM_readSort_82 Q l1 l2 H7 G8)) 2 H G)))
def wM_readSort (Q : Int → e3_H → e3_G → Prop) (l1 : Int) (H : e3_H) (G : e3_G) : Prop :=
  ((((H 40 3) : Int) = 6 → (wM_in (fun x3 H1 G2 => (((x3 : Int) = 0 → (wM_readSort_39 Q l1 (-4) H1 G2)) ∧ (¬ ((x3 : Int) = 0) → (wM_readSort_82 Q l1 (e3_w32 ((e3_w32 (H1 40 4)) - 5)) H1 G2)))) (H 40 4) 5 7 H G)) ∧ (¬ (((H 40 3) : Int) = 6) → (wM_readSort_39 Q l1 (-4) H G)))
set_option maxRecDepth 100000 in
set_option maxHeartbeats 4000000 in
theorem sM_readSort_107 (L : Nat) (xs : Nat → Int32) (Q : Int → e3_H → e3_G → Prop) (l2 : Int) (H : e3_H) (G : e3_G) (h : wM_readSort_107 Q l2 H G) : e3_Ev (wB L xs) 4 89 216 107 [(3, 0), (3, 0), (0, l2)] [] H G (e3_q0 Q) := by
  unfold wM_readSort_107 at h
  refine e3_K [0] 108 [(3, 0), (3, 0), (0, l2)] [(0, l2)] (H) (G) (wZ L xs) (M := tbM216) rfl rfl trivial ?_
  exact e3_reti (M := tbM216) rfl rfl rfl ⟨_, rfl, h⟩
set_option maxRecDepth 100000 in
set_option maxHeartbeats 4000000 in
theorem sM_readSort_96 (L : Nat) (xs : Nat → Int32) (Q : Int → e3_H → e3_G → Prop) (l2 : Int) (H : e3_H) (G : e3_G) (h : wM_readSort_96 Q l2 H G) : e3_Ev (wB L xs) 4 89 216 96 [(2, 40), (3, 0), (0, l2)] [] H G (e3_q0 Q) := by
  unfold wM_readSort_96 at h
  refine e3_K [0, 2] 100 [(2, 40), (3, 0), (0, l2)] [(0, (H 40 7))] (H) (G) (wZ L xs) (M := tbM216) rfl rfl ⟨trivial, trivial⟩ ?_
  refine e3_br (M := tbM216) rfl rfl rfl Iff.rfl (fun hc => ?_) (fun hc => ?_)
  · replace h := h.1 hc
    refine e3_K [0] 104 [(2, 40), (3, 0), (0, l2)] [(2, 40)] (H) (G) (wZ L xs) (M := tbM216) rfl rfl trivial ?_
    refine e3_call (o := 0) (k := 201) (M2 := tbM201) (f1 := 3) (w1 := 67) (as := [(2, 40)]) (rest := []) (M := tbM216) rfl rfl rfl trivial (Nat.le_of_ble_eq_true rfl) (Nat.le_of_ble_eq_true rfl) (Nat.le_of_ble_eq_true rfl) ?_
    refine e3_mono (sM_next L xs _ _ _ h) (fun r H1 G2 h => ?_)
    obtain ⟨rfl, h⟩ := h
    change e3_Ev _ _ _ _ 107 [(2, 40), (3, 0), (0, l2)] [] H1 G2 _
    refine e3_fgt [false, false, true] ?_
    exact sM_readSort_107 L xs Q _ _ _ h
  · replace h := h.2 hc
    refine e3_fgt [false, false, true] ?_
    exact sM_readSort_107 L xs Q _ _ _ h
set_option maxRecDepth 100000 in
set_option maxHeartbeats 4000000 in
theorem sM_readSort_82 (L : Nat) (xs : Nat → Int32) (Q : Int → e3_H → e3_G → Prop) (l1 : Int) (l2 : Int) (H : e3_H) (G : e3_G) (h : wM_readSort_82 Q l1 l2 H G) : e3_Ev (wB L xs) 4 89 216 82 [(2, 40), (0, l1), (0, l2)] [] H G (e3_q0 Q) := by
  unfold wM_readSort_82 at h
  refine e3_K [0] 83 [(2, 40), (0, l1), (0, l2)] [(0, l1)] (H) (G) (wZ L xs) (M := tbM216) rfl rfl trivial ?_
  refine e3_br (M := tbM216) rfl rfl rfl Iff.rfl (fun hc => ?_) (fun hc => ?_)
  · replace h := h.1 hc
    refine e3_fgt [true, false, true] ?_
    exact sM_readSort_96 L xs Q _ _ _ h
  · replace h := h.2 hc
    refine e3_K [0, 0, 0, 2] 93 [(2, 40), (0, l1), (0, l2)] [(0, (H 40 5)), (0, 9), (2, 40)] (H) (G) (wZ L xs) (M := tbM216) rfl rfl ⟨trivial, trivial⟩ ?_
    refine e3_call (o := 0) (k := 210) (M2 := tbM210) (f1 := 0) (w1 := 0) (as := [(2, 40), (0, 9), (0, (H 40 5))]) (rest := []) (M := tbM216) rfl rfl rfl trivial (Nat.le_of_ble_eq_true rfl) (Nat.le_of_ble_eq_true rfl) (Nat.le_of_ble_eq_true rfl) ?_
    refine e3_mono (sM_fails L xs _ _ _ _ _ h) (fun r H1 G2 h => ?_)
    obtain ⟨rfl, h⟩ := h
    change e3_Ev _ _ _ _ 96 [(2, 40), (0, l1), (0, l2)] [] H1 G2 _
    refine e3_fgt [true, false, true] ?_
    exact sM_readSort_96 L xs Q _ _ _ h
set_option maxRecDepth 100000 in
set_option maxHeartbeats 4000000 in
theorem sM_readSort_71 (L : Nat) (xs : Nat → Int32) (Q : Int → e3_H → e3_G → Prop) (l1 : Int) (l2 : Int) (H : e3_H) (G : e3_G) (h : wM_readSort_71 Q l1 l2 H G) : e3_Ev (wB L xs) 4 89 216 71 [(2, 40), (0, l1), (0, l2)] [] H G (e3_q0 Q) := by
  unfold wM_readSort_71 at h
  refine e3_K [0, 0] 82 [(2, 40), (0, l1), (0, (e3_w32 (l2 + 3)))] [] (H) (G) (wZ L xs) (M := tbM216) rfl rfl trivial ?_
  exact sM_readSort_82 L xs Q _ _ _ _ h
set_option maxRecDepth 100000 in
set_option maxHeartbeats 4000000 in
theorem sM_readSort_39 (L : Nat) (xs : Nat → Int32) (Q : Int → e3_H → e3_G → Prop) (l1 : Int) (l2 : Int) (H : e3_H) (G : e3_G) (h : wM_readSort_39 Q l1 l2 H G) : e3_Ev (wB L xs) 4 89 216 39 [(2, 40), (0, l1), (0, l2)] [] H G (e3_q0 Q) := by
  unfold wM_readSort_39 at h
  refine e3_K [0, 2, 0] 44 [(2, 40), (0, l1), (0, l2)] [(0, 2), (0, (H 40 3))] (H) (G) (wZ L xs) (M := tbM216) rfl rfl ⟨trivial, trivial⟩ ?_
  refine e3_br (M := tbM216) rfl rfl rfl Iff.rfl (fun hc => ?_) (fun hc => ?_)
  · replace h := h.1 hc
    refine e3_K [0, 0, 2] 52 [(2, 40), (0, l1), (0, l2)] [(1, (H 40 4)), (2, 40)] (H) (G) (wZ L xs) (M := tbM216) rfl rfl ⟨trivial, trivial⟩ ?_
    refine e3_call (o := 0) (k := 211) (M2 := tbM211) (f1 := 0) (w1 := 0) (as := [(2, 40), (1, (H 40 4))]) (rest := []) (M := tbM216) rfl rfl rfl trivial (Nat.le_of_ble_eq_true rfl) (Nat.le_of_ble_eq_true rfl) (Nat.le_of_ble_eq_true rfl) ?_
    refine e3_mono (sM_kindOf L xs _ _ _ _ h) (fun r H1 G2 h => ?_)
    obtain ⟨x3, rfl, h⟩ := h
    change e3_Ev _ _ _ _ 55 [(2, 40), (0, l1), (0, l2)] [(0, x3)] H1 G2 _
    refine e3_K [0, 0, 0] 59 [(2, 40), (0, l1), (0, x3)] [(0, (-4)), (0, x3)] (H1) (G2) (wZ L xs) (M := tbM216) rfl rfl trivial ?_
    refine e3_br (M := tbM216) rfl rfl rfl Iff.rfl (fun hc => ?_) (fun hc => ?_)
    · replace h := h.1 hc
      refine e3_K [0, 0, 0, 2] 68 [(2, 40), (0, l1), (0, x3)] [(0, (H1 40 5)), (0, 4), (2, 40)] (H1) (G2) (wZ L xs) (M := tbM216) rfl rfl ⟨trivial, trivial⟩ ?_
      refine e3_call (o := 0) (k := 210) (M2 := tbM210) (f1 := 0) (w1 := 0) (as := [(2, 40), (0, 4), (0, (H1 40 5))]) (rest := []) (M := tbM216) rfl rfl rfl trivial (Nat.le_of_ble_eq_true rfl) (Nat.le_of_ble_eq_true rfl) (Nat.le_of_ble_eq_true rfl) ?_
      refine e3_mono (sM_fails L xs _ _ _ _ _ h) (fun r H4 G5 h => ?_)
      obtain ⟨rfl, h⟩ := h
      change e3_Ev _ _ _ _ 71 [(2, 40), (0, l1), (0, x3)] [] H4 G5 _
      exact sM_readSort_71 L xs Q _ _ _ _ h
    · replace h := h.2 hc
      exact sM_readSort_71 L xs Q _ _ _ _ h
  · replace h := h.2 hc
    refine e3_K [0, 0] 79 [(2, 40), (0, l1), (0, l2)] [(0, 2), (2, 40)] (H) (G) (wZ L xs) (M := tbM216) rfl rfl trivial ?_
    refine e3_call (o := 0) (k := 209) (M2 := tbM209) (f1 := 1) (w1 := 22) (as := [(2, 40), (0, 2)]) (rest := []) (M := tbM216) rfl rfl rfl trivial (Nat.le_of_ble_eq_true rfl) (Nat.le_of_ble_eq_true rfl) (Nat.le_of_ble_eq_true rfl) ?_
    refine e3_mono (sM_stop L xs _ _ _ _ h) (fun r H7 G8 h => ?_)
    obtain ⟨rfl, h⟩ := h
    change e3_Ev _ _ _ _ 82 [(2, 40), (0, l1), (0, l2)] [] H7 G8 _
    exact sM_readSort_82 L xs Q _ _ _ _ h
set_option maxRecDepth 100000 in
set_option maxHeartbeats 4000000 in
theorem sM_readSort (L : Nat) (xs : Nat → Int32) (Q : Int → e3_H → e3_G → Prop) (l1 : Int) (H : e3_H) (G : e3_G) (h : wM_readSort Q l1 H G) : e3_Ev (wB L xs) 4 89 216 0 [(2, 40), (0, l1), (3, 0)] [] H G (e3_q0 Q) := by
  unfold wM_readSort at h
  refine e3_K [0, 0, 0, 2, 0] 9 [(2, 40), (0, l1), (0, (-4))] [(0, 6), (0, (H 40 3))] (H) (G) (wZ L xs) (M := tbM216) rfl rfl ⟨trivial, trivial⟩ ?_
  refine e3_br (M := tbM216) rfl rfl rfl Iff.rfl (fun hc => ?_) (fun hc => ?_)
  · replace h := h.1 hc
    refine e3_K [0, 2, 2, 2] 22 [(2, 40), (0, l1), (0, (-4))] [(1, 7), (1, 5), (1, (H 40 4))] (H) (G) (wZ L xs) (M := tbM216) rfl rfl ⟨trivial, trivial, trivial, trivial⟩ ?_
    refine e3_call (o := 0) (k := 198) (M2 := tbM198) (f1 := 0) (w1 := 0) (as := [(1, (H 40 4)), (1, 5), (1, 7)]) (rest := []) (M := tbM216) rfl rfl rfl trivial (Nat.le_of_ble_eq_true rfl) (Nat.le_of_ble_eq_true rfl) (Nat.le_of_ble_eq_true rfl) ?_
    refine e3_mono (sM_in L xs _ _ _ _ _ _ h) (fun r H1 G2 h => ?_)
    obtain ⟨x3, rfl, h⟩ := h
    change e3_Ev _ _ _ _ 25 [(2, 40), (0, l1), (0, (-4))] [(0, x3)] H1 G2 _
    refine e3_br (M := tbM216) rfl rfl rfl Iff.rfl (fun hc => ?_) (fun hc => ?_)
    · replace h := h.1 hc
      exact sM_readSort_39 L xs Q _ _ _ _ h
    · replace h := h.2 hc
      refine e3_K [0, 2, 0, 0, 0, 0, 0] 82 [(2, 40), (0, l1), (0, (e3_w32 ((e3_w32 (H1 40 4)) - 5)))] [] (H1) (G2) (wZ L xs) (M := tbM216) rfl rfl ⟨trivial, trivial⟩ ?_
      exact sM_readSort_82 L xs Q _ _ _ _ h
  · replace h := h.2 hc
    exact sM_readSort_39 L xs Q _ _ _ _ h
/-- LetterPostModel.must(I)V -/
def wM_must_20 (Q : e3_H → e3_G → Prop)  (H : e3_H) (G : e3_G) : Prop :=
  Q H G
def wM_must (Q : e3_H → e3_G → Prop) (l1 : Int) (H : e3_H) (G : e3_G) : Prop :=
  ((((H 40 7) : Int) = 0 → (wM_takes (fun x3 H1 G2 => (((x3 : Int) = 0 → (wM_stop (fun H4 G5 => (wM_must_20 Q H4 G5)) 2 H1 G2)) ∧ (¬ ((x3 : Int) = 0) → (wM_must_20 Q H1 G2)))) l1 H G)) ∧ (¬ (((H 40 7) : Int) = 0) → (wM_must_20 Q H G)))
set_option maxRecDepth 100000 in
set_option maxHeartbeats 4000000 in
theorem sM_must_20 (L : Nat) (xs : Nat → Int32) (Q : e3_H → e3_G → Prop)  (H : e3_H) (G : e3_G) (h : wM_must_20 Q  H G) : e3_Ev (wB L xs) 5 111 217 20 [(3, 0), (3, 0)] [] H G (e3_qv Q) := by
  unfold wM_must_20 at h
  exact e3_retv (M := tbM217) rfl rfl rfl ⟨rfl, h⟩
set_option maxRecDepth 100000 in
set_option maxHeartbeats 4000000 in
theorem sM_must (L : Nat) (xs : Nat → Int32) (Q : e3_H → e3_G → Prop) (l1 : Int) (H : e3_H) (G : e3_G) (h : wM_must Q l1 H G) : e3_Ev (wB L xs) 5 111 217 0 [(2, 40), (0, l1)] [] H G (e3_qv Q) := by
  unfold wM_must at h
  refine e3_K [0, 2] 4 [(2, 40), (0, l1)] [(0, (H 40 7))] (H) (G) (wZ L xs) (M := tbM217) rfl rfl ⟨trivial, trivial⟩ ?_
  refine e3_br (M := tbM217) rfl rfl rfl Iff.rfl (fun hc => ?_) (fun hc => ?_)
  · replace h := h.1 hc
    refine e3_K [0, 0] 9 [(2, 40), (0, l1)] [(0, l1), (2, 40)] (H) (G) (wZ L xs) (M := tbM217) rfl rfl trivial ?_
    refine e3_call (o := 0) (k := 214) (M2 := tbM214) (f1 := 4) (w1 := 89) (as := [(2, 40), (0, l1)]) (rest := []) (M := tbM217) rfl rfl rfl trivial (Nat.le_of_ble_eq_true rfl) (Nat.le_of_ble_eq_true rfl) (Nat.le_of_ble_eq_true rfl) ?_
    refine e3_mono (sM_takes L xs _ _ _ _ h) (fun r H1 G2 h => ?_)
    obtain ⟨x3, rfl, h⟩ := h
    change e3_Ev _ _ _ _ 12 [(2, 40), (0, l1)] [(0, x3)] H1 G2 _
    refine e3_br (M := tbM217) rfl rfl rfl Iff.rfl (fun hc => ?_) (fun hc => ?_)
    · replace h := h.1 hc
      refine e3_K [0, 0] 17 [(2, 40), (0, l1)] [(0, 2), (2, 40)] (H1) (G2) (wZ L xs) (M := tbM217) rfl rfl trivial ?_
      refine e3_call (o := 0) (k := 209) (M2 := tbM209) (f1 := 1) (w1 := 22) (as := [(2, 40), (0, 2)]) (rest := []) (M := tbM217) rfl rfl rfl trivial (Nat.le_of_ble_eq_true rfl) (Nat.le_of_ble_eq_true rfl) (Nat.le_of_ble_eq_true rfl) ?_
      refine e3_mono (sM_stop L xs _ _ _ _ h) (fun r H4 G5 h => ?_)
      obtain ⟨rfl, h⟩ := h
      change e3_Ev _ _ _ _ 20 [(2, 40), (0, l1)] [] H4 G5 _
      refine e3_fgt [false, false] ?_
      exact sM_must_20 L xs Q _ _ h
    · replace h := h.2 hc
      refine e3_fgt [false, false] ?_
      exact sM_must_20 L xs Q _ _ h
  · replace h := h.2 hc
    refine e3_fgt [false, false] ?_
    exact sM_must_20 L xs Q _ _ h
/-- LetterPostModel.readKind(Z)V -/
def wM_readKind_235 (Q : e3_H → e3_G → Prop)  (H : e3_H) (G : e3_G) : Prop :=
  (wM_must (fun H1 G2 => Q H1 G2) 59 H G)
def wM_readKind_229 (Q : e3_H → e3_G → Prop)  (H : e3_H) (G : e3_G) : Prop :=
  (wM_must (fun H1 G2 => (wM_readKind_235 Q H1 G2)) 41 H G)
def wM_readKind_219 (Q : e3_H → e3_G → Prop) (k153 : Int → Int → e3_H → e3_G → Prop) (l2 : Int) (H : e3_H) (G : e3_G) : Prop :=
  (wM_takes (fun x3 H1 G2 => (k153 l2 x3 H1 G2)) 44 H G)
def wM_readKind_180 (Q : e3_H → e3_G → Prop) (k153 : Int → Int → e3_H → e3_G → Prop) (l2 : Int) (s0 : Int) (H : e3_H) (G : e3_G) : Prop :=
  (wM_readSort (fun x3 H1 G2 => ((((H1 40 7) : Int) = 0 → ((0 : Int) ≤ l2 ∧ (l2 : Int) < 24) ∧ ((0 : Int) ≤ (e3_w32 ((e3_w32 (4 * l2)) + (H1 44 l2))) ∧ ((e3_w32 ((e3_w32 (4 * l2)) + (H1 44 l2))) : Int) < 96) ∧ ∀ H4 : e3_H, H4 = e3_up H1 45 (e3_w32 ((e3_w32 (4 * l2)) + (H1 44 l2))) x3 → ((0 : Int) ≤ l2 ∧ (l2 : Int) < 24) ∧ ((0 : Int) ≤ l2 ∧ (l2 : Int) < 24) ∧ ∀ H7 : e3_H, H7 = e3_up H4 44 l2 (e3_w32 ((H4 44 l2) + 1)) → (wM_readKind_219 Q k153 l2 H7 G2)) ∧ (¬ (((H1 40 7) : Int) = 0) → (wM_readKind_219 Q k153 l2 H1 G2)))) s0 H G)
def wM_readKind_153 (Q : e3_H → e3_G → Prop) : Nat → Int → Int → e3_H → e3_G → Prop
  | 0, _, _, _, _ => False
  | nn + 1, l2, l3, H, G => (((l3 : Int) = 0 → (wM_readKind_229 Q H G)) ∧ (¬ ((l3 : Int) = 0) → ((((H 40 7) : Int) = 0 → ((0 : Int) ≤ l2 ∧ (l2 : Int) < 24) ∧ ((((H 44 l2) : Int) = 4 → (wM_readKind_180 Q (fun l2 l3 H G => wM_readKind_153 Q nn l2 l3 H G) l2 1 H G)) ∧ (¬ (((H 44 l2) : Int) = 4) → (wM_readKind_180 Q (fun l2 l3 H G => wM_readKind_153 Q nn l2 l3 H G) l2 0 H G)))) ∧ (¬ (((H 40 7) : Int) = 0) → (wM_readKind_229 Q H G)))))
def wM_readKind_142 (Q : e3_H → e3_G → Prop) (l2 : Int) (H : e3_H) (G : e3_G) : Prop :=
  (wM_takes (fun x3 H1 G2 => (((x3 : Int) = 0 → (wM_readKind_235 Q H1 G2)) ∧ (¬ ((x3 : Int) = 0) → (∃ n, wM_readKind_153 Q n l2 1 H1 G2)))) 40 H G)
def wM_readKind_64 (Q : e3_H → e3_G → Prop) (l1 : Int) (H : e3_H) (G : e3_G) : Prop :=
  ((((H 40 7) : Int) = 0 → ∀ H1 : e3_H, H1 = e3_up H 40 10 (e3_w32 ((H 40 10) + 1)) → ((0 : Int) ≤ (H 40 10) ∧ ((H 40 10) : Int) < 24) ∧ ∀ H2 : e3_H, H2 = e3_up H1 42 (H 40 10) (H1 40 4) → ((0 : Int) ≤ (H 40 10) ∧ ((H 40 10) : Int) < 24) ∧ ∀ H4 : e3_H, H4 = e3_up H2 43 (H 40 10) (-4) → ((0 : Int) ≤ (H 40 10) ∧ ((H 40 10) : Int) < 24) ∧ ∀ H6 : e3_H, H6 = e3_up H4 44 (H 40 10) 0 → (wM_next (fun H8 G9 => (wM_isWord (fun x13 H11 G12 => (((x13 : Int) = 0 → (((l1 : Int) = 0 → (wM_readKind_142 Q (H 40 10) H11 G12)) ∧ (¬ ((l1 : Int) = 0) → (wM_stop (fun H14 G15 => (wM_readKind_142 Q (H 40 10) H14 G15)) 2 H11 G12)))) ∧ (¬ ((x13 : Int) = 0) → (wM_readUnder (fun H17 G18 => (wM_readKind_142 Q (H 40 10) H17 G18)) (H 40 10) l1 H11 G12)))) 1 H8 G9)) H6 G)) ∧ (¬ (((H 40 7) : Int) = 0) → Q H G))
def wM_readKind (Q : e3_H → e3_G → Prop) (l1 : Int) (H : e3_H) (G : e3_G) : Prop :=
  (wM_next (fun H1 G2 => ((((H1 40 3) : Int) = 2 → (wM_kindOf (fun x6 H4 G5 => (((x6 : Int) = (-4) → ((((H4 40 10) : Int) = 24 → (wM_fails (fun H7 G8 => (wM_readKind_64 Q l1 H7 G8)) 9 (H4 40 5) H4 G5)) ∧ (¬ (((H4 40 10) : Int) = 24) → (wM_readKind_64 Q l1 H4 G5)))) ∧ (¬ ((x6 : Int) = (-4)) → (wM_fails (fun H10 G11 => (wM_readKind_64 Q l1 H10 G11)) 3 (H4 40 5) H4 G5)))) (H1 40 4) H1 G2)) ∧ (¬ (((H1 40 3) : Int) = 2) → (wM_stop (fun H13 G14 => (wM_readKind_64 Q l1 H13 G14)) 2 H1 G2)))) H G)
set_option maxRecDepth 100000 in
set_option maxHeartbeats 4000000 in
theorem sM_readKind_235 (L : Nat) (xs : Nat → Int32) (Q : e3_H → e3_G → Prop)  (H : e3_H) (G : e3_G) (h : wM_readKind_235 Q  H G) : e3_Ev (wB L xs) 6 132 208 235 [(2, 40), (3, 0), (3, 0), (3, 0), (3, 0)] [] H G (e3_qv Q) := by
  unfold wM_readKind_235 at h
  refine e3_K [0, 0] 238 [(2, 40), (3, 0), (3, 0), (3, 0), (3, 0)] [(0, 59), (2, 40)] (H) (G) (wZ L xs) (M := tbM208) rfl rfl trivial ?_
  refine e3_call (o := 0) (k := 217) (M2 := tbM217) (f1 := 5) (w1 := 111) (as := [(2, 40), (0, 59)]) (rest := []) (M := tbM208) rfl rfl rfl trivial (Nat.le_of_ble_eq_true rfl) (Nat.le_of_ble_eq_true rfl) (Nat.le_of_ble_eq_true rfl) ?_
  refine e3_mono (sM_must L xs _ _ _ _ h) (fun r H1 G2 h => ?_)
  obtain ⟨rfl, h⟩ := h
  change e3_Ev _ _ _ _ 241 [(2, 40), (3, 0), (3, 0), (3, 0), (3, 0)] [] H1 G2 _
  exact e3_retv (M := tbM208) rfl rfl rfl ⟨rfl, h⟩
set_option maxRecDepth 100000 in
set_option maxHeartbeats 4000000 in
theorem sM_readKind_229 (L : Nat) (xs : Nat → Int32) (Q : e3_H → e3_G → Prop)  (H : e3_H) (G : e3_G) (h : wM_readKind_229 Q  H G) : e3_Ev (wB L xs) 6 132 208 229 [(2, 40), (3, 0), (3, 0), (3, 0), (3, 0)] [] H G (e3_qv Q) := by
  unfold wM_readKind_229 at h
  refine e3_K [0, 0] 232 [(2, 40), (3, 0), (3, 0), (3, 0), (3, 0)] [(0, 41), (2, 40)] (H) (G) (wZ L xs) (M := tbM208) rfl rfl trivial ?_
  refine e3_call (o := 0) (k := 217) (M2 := tbM217) (f1 := 5) (w1 := 111) (as := [(2, 40), (0, 41)]) (rest := []) (M := tbM208) rfl rfl rfl trivial (Nat.le_of_ble_eq_true rfl) (Nat.le_of_ble_eq_true rfl) (Nat.le_of_ble_eq_true rfl) ?_
  refine e3_mono (sM_must L xs _ _ _ _ h) (fun r H1 G2 h => ?_)
  obtain ⟨rfl, h⟩ := h
  change e3_Ev _ _ _ _ 235 [(2, 40), (3, 0), (3, 0), (3, 0), (3, 0)] [] H1 G2 _
  exact sM_readKind_235 L xs Q _ _ h
set_option maxRecDepth 100000 in
set_option maxHeartbeats 4000000 in
theorem sM_readKind_219 (L : Nat) (xs : Nat → Int32) (Q : e3_H → e3_G → Prop) (k153 : Int → Int → e3_H → e3_G → Prop) (hk153 : ∀ (l2 : Int) (l3 : Int) (H : e3_H) (G : e3_G), k153 l2 l3 H G → e3_Ev (wB L xs) 6 132 208 153 [(2, 40), (3, 0), (0, l2), (0, l3), (3, 0)] [] H G (e3_qv Q)) (l2 : Int) (H : e3_H) (G : e3_G) (h : wM_readKind_219 Q k153 l2 H G) : e3_Ev (wB L xs) 6 132 208 219 [(2, 40), (3, 0), (0, l2), (3, 0), (3, 0)] [] H G (e3_qv Q) := by
  unfold wM_readKind_219 at h
  refine e3_K [0, 0] 222 [(2, 40), (3, 0), (0, l2), (3, 0), (3, 0)] [(0, 44), (2, 40)] (H) (G) (wZ L xs) (M := tbM208) rfl rfl trivial ?_
  refine e3_call (o := 0) (k := 214) (M2 := tbM214) (f1 := 4) (w1 := 89) (as := [(2, 40), (0, 44)]) (rest := []) (M := tbM208) rfl rfl rfl trivial (Nat.le_of_ble_eq_true rfl) (Nat.le_of_ble_eq_true rfl) (Nat.le_of_ble_eq_true rfl) ?_
  refine e3_mono (sM_takes L xs _ _ _ _ h) (fun r H1 G2 h => ?_)
  obtain ⟨x3, rfl, h⟩ := h
  change e3_Ev _ _ _ _ 225 [(2, 40), (3, 0), (0, l2), (3, 0), (3, 0)] [(0, x3)] H1 G2 _
  refine e3_K [0, 0] 153 [(2, 40), (3, 0), (0, l2), (0, x3), (3, 0)] [] (H1) (G2) (wZ L xs) (M := tbM208) rfl rfl trivial ?_
  exact hk153 _ _ _ _ h
set_option maxRecDepth 100000 in
set_option maxHeartbeats 4000000 in
theorem sM_readKind_180 (L : Nat) (xs : Nat → Int32) (Q : e3_H → e3_G → Prop) (k153 : Int → Int → e3_H → e3_G → Prop) (hk153 : ∀ (l2 : Int) (l3 : Int) (H : e3_H) (G : e3_G), k153 l2 l3 H G → e3_Ev (wB L xs) 6 132 208 153 [(2, 40), (3, 0), (0, l2), (0, l3), (3, 0)] [] H G (e3_qv Q)) (l2 : Int) (s0 : Int) (H : e3_H) (G : e3_G) (h : wM_readKind_180 Q k153 l2 s0 H G) : e3_Ev (wB L xs) 6 132 208 180 [(2, 40), (3, 0), (0, l2), (3, 0), (3, 0)] [(0, s0), (2, 40)] H G (e3_qv Q) := by
  unfold wM_readKind_180 at h
  refine e3_call (o := 0) (k := 216) (M2 := tbM216) (f1 := 4) (w1 := 89) (as := [(2, 40), (0, s0)]) (rest := []) (M := tbM208) rfl rfl rfl trivial (Nat.le_of_ble_eq_true rfl) (Nat.le_of_ble_eq_true rfl) (Nat.le_of_ble_eq_true rfl) ?_
  refine e3_mono (sM_readSort L xs _ _ _ _ h) (fun r H1 G2 h => ?_)
  obtain ⟨x3, rfl, h⟩ := h
  change e3_Ev _ _ _ _ 183 [(2, 40), (3, 0), (0, l2), (3, 0), (3, 0)] [(0, x3)] H1 G2 _
  refine e3_K [0, 0, 2] 189 [(2, 40), (3, 0), (0, l2), (3, 0), (0, x3)] [(0, (H1 40 7))] (H1) (G2) (wZ L xs) (M := tbM208) rfl rfl ⟨trivial, trivial⟩ ?_
  refine e3_br (M := tbM208) rfl rfl rfl Iff.rfl (fun hc => ?_) (fun hc => ?_)
  · replace h := h.1 hc
    obtain ⟨o5, o6, h⟩ := h
    refine e3_K [0, 4, 0, 0, 0, 0, 4, 0, 2, 0, 0, 2] 209 [(2, 40), (3, 0), (0, l2), (3, 0), (0, x3)] [] (e3_up H1 45 (e3_w32 ((e3_w32 (4 * l2)) + (H1 44 l2))) x3) (G2) (wZ L xs) (M := tbM208) rfl rfl ⟨trivial, trivial, o5, o6, trivial⟩ ?_
    generalize hH4 : (e3_up H1 45 (e3_w32 ((e3_w32 (4 * l2)) + (H1 44 l2))) x3) = H4
    replace h := h H4 hH4.symm
    obtain ⟨o8, o9, h⟩ := h
    refine e3_K [0, 4, 0, 0, 2, 0, 0, 2] 219 [(2, 40), (3, 0), (0, l2), (3, 0), (0, x3)] [] (e3_up H4 44 l2 (e3_w32 ((H4 44 l2) + 1))) (G2) (wZ L xs) (M := tbM208) rfl rfl ⟨trivial, o8, o9, trivial⟩ ?_
    generalize hH7 : (e3_up H4 44 l2 (e3_w32 ((H4 44 l2) + 1))) = H7
    replace h := h H7 hH7.symm
    refine e3_fgt [true, false, true, false, false] ?_
    exact sM_readKind_219 L xs Q k153 hk153 _ _ _ h
  · replace h := h.2 hc
    refine e3_fgt [true, false, true, false, false] ?_
    exact sM_readKind_219 L xs Q k153 hk153 _ _ _ h
set_option maxRecDepth 100000 in
set_option maxHeartbeats 4000000 in
theorem sM_readKind_153 (L : Nat) (xs : Nat → Int32) (Q : e3_H → e3_G → Prop) : ∀ (nl : Nat) (l2 : Int) (l3 : Int) (H : e3_H) (G : e3_G), wM_readKind_153 Q nl l2 l3 H G → e3_Ev (wB L xs) 6 132 208 153 [(2, 40), (3, 0), (0, l2), (0, l3), (3, 0)] [] H G (e3_qv Q) := by
  intro nl
  induction nl with
  | zero => intro l2 l3 H G h; exact h.elim
  | succ nn ih =>
    intro l2 l3 H G h
    have h : (((l3 : Int) = 0 → (wM_readKind_229 Q H G)) ∧ (¬ ((l3 : Int) = 0) → ((((H 40 7) : Int) = 0 → ((0 : Int) ≤ l2 ∧ (l2 : Int) < 24) ∧ ((((H 44 l2) : Int) = 4 → (wM_readKind_180 Q (fun l2 l3 H G => wM_readKind_153 Q nn l2 l3 H G) l2 1 H G)) ∧ (¬ (((H 44 l2) : Int) = 4) → (wM_readKind_180 Q (fun l2 l3 H G => wM_readKind_153 Q nn l2 l3 H G) l2 0 H G)))) ∧ (¬ (((H 40 7) : Int) = 0) → (wM_readKind_229 Q H G))))) := h
    refine e3_K [0] 154 [(2, 40), (3, 0), (0, l2), (0, l3), (3, 0)] [(0, l3)] (H) (G) (wZ L xs) (M := tbM208) rfl rfl trivial ?_
    refine e3_br (M := tbM208) rfl rfl rfl Iff.rfl (fun hc => ?_) (fun hc => ?_)
    · replace h := h.1 hc
      refine e3_fgt [true, false, false, false, false] ?_
      exact sM_readKind_229 L xs Q _ _ h
    · replace h := h.2 hc
      refine e3_K [0, 2] 161 [(2, 40), (3, 0), (0, l2), (0, l3), (3, 0)] [(0, (H 40 7))] (H) (G) (wZ L xs) (M := tbM208) rfl rfl ⟨trivial, trivial⟩ ?_
      refine e3_br (M := tbM208) rfl rfl rfl Iff.rfl (fun hc => ?_) (fun hc => ?_)
      · replace h := h.1 hc
        obtain ⟨o1, h⟩ := h
        refine e3_K [0, 0, 4, 0, 2, 0] 172 [(2, 40), (3, 0), (0, l2), (0, l3), (3, 0)] [(0, 4), (0, (H 44 l2)), (2, 40)] (H) (G) (wZ L xs) (M := tbM208) rfl rfl ⟨trivial, o1, trivial⟩ ?_
        refine e3_br (M := tbM208) rfl rfl rfl Iff.rfl (fun hc => ?_) (fun hc => ?_)
        · replace h := h.1 hc
          refine e3_K [0, 0] 180 [(2, 40), (3, 0), (0, l2), (0, l3), (3, 0)] [(0, 1), (2, 40)] (H) (G) (wZ L xs) (M := tbM208) rfl rfl trivial ?_
          refine e3_fgt [true, false, true, false, false] ?_
          exact sM_readKind_180 L xs Q (fun l2 l3 H G => wM_readKind_153 Q nn l2 l3 H G) ih _ _ _ _ h
        · replace h := h.2 hc
          refine e3_K [0] 180 [(2, 40), (3, 0), (0, l2), (0, l3), (3, 0)] [(0, 0), (2, 40)] (H) (G) (wZ L xs) (M := tbM208) rfl rfl trivial ?_
          refine e3_fgt [true, false, true, false, false] ?_
          exact sM_readKind_180 L xs Q (fun l2 l3 H G => wM_readKind_153 Q nn l2 l3 H G) ih _ _ _ _ h
      · replace h := h.2 hc
        refine e3_fgt [true, false, false, false, false] ?_
        exact sM_readKind_229 L xs Q _ _ h
set_option maxRecDepth 100000 in
set_option maxHeartbeats 4000000 in
theorem sM_readKind_142 (L : Nat) (xs : Nat → Int32) (Q : e3_H → e3_G → Prop) (l2 : Int) (H : e3_H) (G : e3_G) (h : wM_readKind_142 Q l2 H G) : e3_Ev (wB L xs) 6 132 208 142 [(2, 40), (3, 0), (0, l2), (3, 0), (3, 0)] [] H G (e3_qv Q) := by
  unfold wM_readKind_142 at h
  refine e3_K [0, 0] 145 [(2, 40), (3, 0), (0, l2), (3, 0), (3, 0)] [(0, 40), (2, 40)] (H) (G) (wZ L xs) (M := tbM208) rfl rfl trivial ?_
  refine e3_call (o := 0) (k := 214) (M2 := tbM214) (f1 := 4) (w1 := 89) (as := [(2, 40), (0, 40)]) (rest := []) (M := tbM208) rfl rfl rfl trivial (Nat.le_of_ble_eq_true rfl) (Nat.le_of_ble_eq_true rfl) (Nat.le_of_ble_eq_true rfl) ?_
  refine e3_mono (sM_takes L xs _ _ _ _ h) (fun r H1 G2 h => ?_)
  obtain ⟨x3, rfl, h⟩ := h
  change e3_Ev _ _ _ _ 148 [(2, 40), (3, 0), (0, l2), (3, 0), (3, 0)] [(0, x3)] H1 G2 _
  refine e3_br (M := tbM208) rfl rfl rfl Iff.rfl (fun hc => ?_) (fun hc => ?_)
  · replace h := h.1 hc
    refine e3_fgt [true, false, false, false, false] ?_
    exact sM_readKind_235 L xs Q _ _ h
  · replace h := h.2 hc
    refine e3_K [0, 0] 153 [(2, 40), (3, 0), (0, l2), (0, 1), (3, 0)] [] (H1) (G2) (wZ L xs) (M := tbM208) rfl rfl trivial ?_
    obtain ⟨nl, h⟩ := h
    exact sM_readKind_153 L xs Q nl _ _ _ _ h
set_option maxRecDepth 100000 in
set_option maxHeartbeats 4000000 in
theorem sM_readKind_64 (L : Nat) (xs : Nat → Int32) (Q : e3_H → e3_G → Prop) (l1 : Int) (H : e3_H) (G : e3_G) (h : wM_readKind_64 Q l1 H G) : e3_Ev (wB L xs) 6 132 208 64 [(2, 40), (0, l1), (3, 0), (3, 0), (3, 0)] [] H G (e3_qv Q) := by
  unfold wM_readKind_64 at h
  refine e3_K [0, 2] 68 [(2, 40), (0, l1), (3, 0), (3, 0), (3, 0)] [(0, (H 40 7))] (H) (G) (wZ L xs) (M := tbM208) rfl rfl ⟨trivial, trivial⟩ ?_
  refine e3_br (M := tbM208) rfl rfl rfl Iff.rfl (fun hc => ?_) (fun hc => ?_)
  · replace h := h.1 hc
    refine e3_K [0, 2, 0, 0, 0, 2, 0, 0, 2] 87 [(2, 40), (0, l1), (0, (H 40 10)), (3, 0), (3, 0)] [] (e3_up H 40 10 (e3_w32 ((H 40 10) + 1))) (G) (wZ L xs) (M := tbM208) rfl rfl ⟨trivial, trivial, trivial, trivial⟩ ?_
    generalize hH1 : (e3_up H 40 10 (e3_w32 ((H 40 10) + 1))) = H1
    replace h := h H1 hH1.symm
    obtain ⟨o3, h⟩ := h
    refine e3_K [0, 4, 0, 0, 2, 2] 97 [(2, 40), (0, l1), (0, (H 40 10)), (3, 0), (3, 0)] [] (e3_up H1 42 (H 40 10) (H1 40 4)) (G) (wZ L xs) (M := tbM208) rfl rfl ⟨trivial, trivial, o3, trivial⟩ ?_
    generalize hH2 : (e3_up H1 42 (H 40 10) (H1 40 4)) = H2
    replace h := h H2 hH2.symm
    obtain ⟨o5, h⟩ := h
    refine e3_K [0, 4, 0, 0, 2] 105 [(2, 40), (0, l1), (0, (H 40 10)), (3, 0), (3, 0)] [] (e3_up H2 43 (H 40 10) (-4)) (G) (wZ L xs) (M := tbM208) rfl rfl ⟨trivial, o5, trivial⟩ ?_
    generalize hH4 : (e3_up H2 43 (H 40 10) (-4)) = H4
    replace h := h H4 hH4.symm
    obtain ⟨o7, h⟩ := h
    refine e3_K [0, 4, 0, 0, 2] 112 [(2, 40), (0, l1), (0, (H 40 10)), (3, 0), (3, 0)] [] (e3_up H4 44 (H 40 10) 0) (G) (wZ L xs) (M := tbM208) rfl rfl ⟨trivial, o7, trivial⟩ ?_
    generalize hH6 : (e3_up H4 44 (H 40 10) 0) = H6
    replace h := h H6 hH6.symm
    refine e3_K [0] 113 [(2, 40), (0, l1), (0, (H 40 10)), (3, 0), (3, 0)] [(2, 40)] (H6) (G) (wZ L xs) (M := tbM208) rfl rfl trivial ?_
    refine e3_call (o := 0) (k := 201) (M2 := tbM201) (f1 := 3) (w1 := 67) (as := [(2, 40)]) (rest := []) (M := tbM208) rfl rfl rfl trivial (Nat.le_of_ble_eq_true rfl) (Nat.le_of_ble_eq_true rfl) (Nat.le_of_ble_eq_true rfl) ?_
    refine e3_mono (sM_next L xs _ _ _ h) (fun r H8 G9 h => ?_)
    obtain ⟨rfl, h⟩ := h
    change e3_Ev _ _ _ _ 116 [(2, 40), (0, l1), (0, (H 40 10)), (3, 0), (3, 0)] [] H8 G9 _
    refine e3_K [0, 0] 118 [(2, 40), (0, l1), (0, (H 40 10)), (3, 0), (3, 0)] [(0, 1), (2, 40)] (H8) (G9) (wZ L xs) (M := tbM208) rfl rfl trivial ?_
    refine e3_call (o := 0) (k := 207) (M2 := tbM207) (f1 := 0) (w1 := 0) (as := [(2, 40), (0, 1)]) (rest := []) (M := tbM208) rfl rfl rfl trivial (Nat.le_of_ble_eq_true rfl) (Nat.le_of_ble_eq_true rfl) (Nat.le_of_ble_eq_true rfl) ?_
    refine e3_mono (sM_isWord L xs _ _ _ _ h) (fun r H11 G12 h => ?_)
    obtain ⟨x13, rfl, h⟩ := h
    change e3_Ev _ _ _ _ 121 [(2, 40), (0, l1), (0, (H 40 10)), (3, 0), (3, 0)] [(0, x13)] H11 G12 _
    refine e3_br (M := tbM208) rfl rfl rfl Iff.rfl (fun hc => ?_) (fun hc => ?_)
    · replace h := h.1 hc
      refine e3_K [0] 134 [(2, 40), (0, l1), (0, (H 40 10)), (3, 0), (3, 0)] [(0, l1)] (H11) (G12) (wZ L xs) (M := tbM208) rfl rfl trivial ?_
      refine e3_br (M := tbM208) rfl rfl rfl Iff.rfl (fun hc => ?_) (fun hc => ?_)
      · replace h := h.1 hc
        refine e3_fgt [true, false, true, false, false] ?_
        exact sM_readKind_142 L xs Q _ _ _ h
      · replace h := h.2 hc
        refine e3_K [0, 0] 139 [(2, 40), (0, l1), (0, (H 40 10)), (3, 0), (3, 0)] [(0, 2), (2, 40)] (H11) (G12) (wZ L xs) (M := tbM208) rfl rfl trivial ?_
        refine e3_call (o := 0) (k := 209) (M2 := tbM209) (f1 := 1) (w1 := 22) (as := [(2, 40), (0, 2)]) (rest := []) (M := tbM208) rfl rfl rfl trivial (Nat.le_of_ble_eq_true rfl) (Nat.le_of_ble_eq_true rfl) (Nat.le_of_ble_eq_true rfl) ?_
        refine e3_mono (sM_stop L xs _ _ _ _ h) (fun r H14 G15 h => ?_)
        obtain ⟨rfl, h⟩ := h
        change e3_Ev _ _ _ _ 142 [(2, 40), (0, l1), (0, (H 40 10)), (3, 0), (3, 0)] [] H14 G15 _
        refine e3_fgt [true, false, true, false, false] ?_
        exact sM_readKind_142 L xs Q _ _ _ h
    · replace h := h.2 hc
      refine e3_K [0, 0, 0] 127 [(2, 40), (0, l1), (0, (H 40 10)), (3, 0), (3, 0)] [(0, l1), (0, (H 40 10)), (2, 40)] (H11) (G12) (wZ L xs) (M := tbM208) rfl rfl trivial ?_
      refine e3_call (o := 0) (k := 212) (M2 := tbM212) (f1 := 4) (w1 := 89) (as := [(2, 40), (0, (H 40 10)), (0, l1)]) (rest := []) (M := tbM208) rfl rfl rfl trivial (Nat.le_of_ble_eq_true rfl) (Nat.le_of_ble_eq_true rfl) (Nat.le_of_ble_eq_true rfl) ?_
      refine e3_mono (sM_readUnder L xs _ _ _ _ _ h) (fun r H17 G18 h => ?_)
      obtain ⟨rfl, h⟩ := h
      change e3_Ev _ _ _ _ 130 [(2, 40), (0, l1), (0, (H 40 10)), (3, 0), (3, 0)] [] H17 G18 _
      refine e3_K [0] 142 [(2, 40), (0, l1), (0, (H 40 10)), (3, 0), (3, 0)] [] (H17) (G18) (wZ L xs) (M := tbM208) rfl rfl trivial ?_
      refine e3_fgt [true, false, true, false, false] ?_
      exact sM_readKind_142 L xs Q _ _ _ h
  · replace h := h.2 hc
    exact e3_retv (M := tbM208) rfl rfl rfl ⟨rfl, h⟩
set_option maxRecDepth 100000 in
set_option maxHeartbeats 4000000 in
theorem sM_readKind (L : Nat) (xs : Nat → Int32) (Q : e3_H → e3_G → Prop) (l1 : Int) (H : e3_H) (G : e3_G) (h : wM_readKind Q l1 H G) : e3_Ev (wB L xs) 6 132 208 0 [(2, 40), (0, l1), (3, 0), (3, 0), (3, 0)] [] H G (e3_qv Q) := by
  unfold wM_readKind at h
  refine e3_K [0] 1 [(2, 40), (0, l1), (3, 0), (3, 0), (3, 0)] [(2, 40)] (H) (G) (wZ L xs) (M := tbM208) rfl rfl trivial ?_
  refine e3_call (o := 0) (k := 201) (M2 := tbM201) (f1 := 3) (w1 := 67) (as := [(2, 40)]) (rest := []) (M := tbM208) rfl rfl rfl trivial (Nat.le_of_ble_eq_true rfl) (Nat.le_of_ble_eq_true rfl) (Nat.le_of_ble_eq_true rfl) ?_
  refine e3_mono (sM_next L xs _ _ _ h) (fun r H1 G2 h => ?_)
  obtain ⟨rfl, h⟩ := h
  change e3_Ev _ _ _ _ 4 [(2, 40), (0, l1), (3, 0), (3, 0), (3, 0)] [] H1 G2 _
  refine e3_K [0, 2, 0] 9 [(2, 40), (0, l1), (3, 0), (3, 0), (3, 0)] [(0, 2), (0, (H1 40 3))] (H1) (G2) (wZ L xs) (M := tbM208) rfl rfl ⟨trivial, trivial⟩ ?_
  refine e3_br (M := tbM208) rfl rfl rfl Iff.rfl (fun hc => ?_) (fun hc => ?_)
  · replace h := h.1 hc
    refine e3_K [0, 0, 2] 25 [(2, 40), (0, l1), (3, 0), (3, 0), (3, 0)] [(1, (H1 40 4)), (2, 40)] (H1) (G2) (wZ L xs) (M := tbM208) rfl rfl ⟨trivial, trivial⟩ ?_
    refine e3_call (o := 0) (k := 211) (M2 := tbM211) (f1 := 0) (w1 := 0) (as := [(2, 40), (1, (H1 40 4))]) (rest := []) (M := tbM208) rfl rfl rfl trivial (Nat.le_of_ble_eq_true rfl) (Nat.le_of_ble_eq_true rfl) (Nat.le_of_ble_eq_true rfl) ?_
    refine e3_mono (sM_kindOf L xs _ _ _ _ h) (fun r H4 G5 h => ?_)
    obtain ⟨x6, rfl, h⟩ := h
    change e3_Ev _ _ _ _ 28 [(2, 40), (0, l1), (3, 0), (3, 0), (3, 0)] [(0, x6)] H4 G5 _
    refine e3_K [0] 30 [(2, 40), (0, l1), (3, 0), (3, 0), (3, 0)] [(0, (-4)), (0, x6)] (H4) (G5) (wZ L xs) (M := tbM208) rfl rfl trivial ?_
    refine e3_br (M := tbM208) rfl rfl rfl Iff.rfl (fun hc => ?_) (fun hc => ?_)
    · replace h := h.1 hc
      refine e3_K [0, 2, 0] 51 [(2, 40), (0, l1), (3, 0), (3, 0), (3, 0)] [(0, 24), (0, (H4 40 10))] (H4) (G5) (wZ L xs) (M := tbM208) rfl rfl ⟨trivial, trivial⟩ ?_
      refine e3_br (M := tbM208) rfl rfl rfl Iff.rfl (fun hc => ?_) (fun hc => ?_)
      · replace h := h.1 hc
        refine e3_K [0, 0, 0, 2] 61 [(2, 40), (0, l1), (3, 0), (3, 0), (3, 0)] [(0, (H4 40 5)), (0, 9), (2, 40)] (H4) (G5) (wZ L xs) (M := tbM208) rfl rfl ⟨trivial, trivial⟩ ?_
        refine e3_call (o := 0) (k := 210) (M2 := tbM210) (f1 := 0) (w1 := 0) (as := [(2, 40), (0, 9), (0, (H4 40 5))]) (rest := []) (M := tbM208) rfl rfl rfl trivial (Nat.le_of_ble_eq_true rfl) (Nat.le_of_ble_eq_true rfl) (Nat.le_of_ble_eq_true rfl) ?_
        refine e3_mono (sM_fails L xs _ _ _ _ _ h) (fun r H7 G8 h => ?_)
        obtain ⟨rfl, h⟩ := h
        change e3_Ev _ _ _ _ 64 [(2, 40), (0, l1), (3, 0), (3, 0), (3, 0)] [] H7 G8 _
        exact sM_readKind_64 L xs Q _ _ _ h
      · replace h := h.2 hc
        exact sM_readKind_64 L xs Q _ _ _ h
    · replace h := h.2 hc
      refine e3_K [0, 0, 0, 2] 39 [(2, 40), (0, l1), (3, 0), (3, 0), (3, 0)] [(0, (H4 40 5)), (0, 3), (2, 40)] (H4) (G5) (wZ L xs) (M := tbM208) rfl rfl ⟨trivial, trivial⟩ ?_
      refine e3_call (o := 0) (k := 210) (M2 := tbM210) (f1 := 0) (w1 := 0) (as := [(2, 40), (0, 3), (0, (H4 40 5))]) (rest := []) (M := tbM208) rfl rfl rfl trivial (Nat.le_of_ble_eq_true rfl) (Nat.le_of_ble_eq_true rfl) (Nat.le_of_ble_eq_true rfl) ?_
      refine e3_mono (sM_fails L xs _ _ _ _ _ h) (fun r H10 G11 h => ?_)
      obtain ⟨rfl, h⟩ := h
      change e3_Ev _ _ _ _ 42 [(2, 40), (0, l1), (3, 0), (3, 0), (3, 0)] [] H10 G11 _
      refine e3_K [0] 64 [(2, 40), (0, l1), (3, 0), (3, 0), (3, 0)] [] (H10) (G11) (wZ L xs) (M := tbM208) rfl rfl trivial ?_
      exact sM_readKind_64 L xs Q _ _ _ h
  · replace h := h.2 hc
    refine e3_K [0, 0] 14 [(2, 40), (0, l1), (3, 0), (3, 0), (3, 0)] [(0, 2), (2, 40)] (H1) (G2) (wZ L xs) (M := tbM208) rfl rfl trivial ?_
    refine e3_call (o := 0) (k := 209) (M2 := tbM209) (f1 := 1) (w1 := 22) (as := [(2, 40), (0, 2)]) (rest := []) (M := tbM208) rfl rfl rfl trivial (Nat.le_of_ble_eq_true rfl) (Nat.le_of_ble_eq_true rfl) (Nat.le_of_ble_eq_true rfl) ?_
    refine e3_mono (sM_stop L xs _ _ _ _ h) (fun r H13 G14 h => ?_)
    obtain ⟨rfl, h⟩ := h
    change e3_Ev _ _ _ _ 17 [(2, 40), (0, l1), (3, 0), (3, 0), (3, 0)] [] H13 G14 _
    refine e3_K [0] 64 [(2, 40), (0, l1), (3, 0), (3, 0), (3, 0)] [] (H13) (G14) (wZ L xs) (M := tbM208) rfl rfl trivial ?_
    exact sM_readKind_64 L xs Q _ _ _ h
