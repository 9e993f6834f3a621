/-- LetterPostModel.functionOf(J)I -/
def wM_functionOf_33 (Q : Int → e3_H → e3_G → Prop) (k6 : Int → Int → Int → e3_H → e3_G → Prop) (l1 : Int) (l4 : Int) (s0 : Int) (H : e3_H) (G : e3_G) : Prop :=
  (k6 l1 s0 (e3_w32 (l4 + 1)) H G)
def wM_functionOf_6 (Q : Int → e3_H → e3_G → Prop) : Nat → Int → Int → Int → e3_H → e3_G → Prop
  | 0, _, _, _, _, _ => False
  | nn + 1, l1, l3, l4, H, G => (((l4 : Int) < (H 40 41) → ((0 : Int) ≤ l4 ∧ (l4 : Int) < 12) ∧ ((((H 67 l4) : Int) = l1 → (wM_functionOf_33 Q (fun l1 l3 l4 H G => wM_functionOf_6 Q nn l1 l3 l4 H G) l1 l4 l4 H G)) ∧ (¬ (((H 67 l4) : Int) = l1) → (wM_functionOf_33 Q (fun l1 l3 l4 H G => wM_functionOf_6 Q nn l1 l3 l4 H G) l1 l4 l3 H G)))) ∧ (¬ ((l4 : Int) < (H 40 41)) → Q l3 H G))
def wM_functionOf (Q : Int → e3_H → e3_G → Prop) (l1 : Int) (H : e3_H) (G : e3_G) : Prop :=
  (∃ n, wM_functionOf_6 Q n l1 (-4) 0 H G)
set_option maxRecDepth 100000 in
set_option maxHeartbeats 4000000 in
theorem sM_functionOf_33 (L : Nat) (xs : Nat → Int32) (Q : Int → e3_H → e3_G → Prop) (k6 : Int → Int → Int → e3_H → e3_G → Prop) (hk6 : ∀ (l1 : Int) (l3 : Int) (l4 : Int) (H : e3_H) (G : e3_G), k6 l1 l3 l4 H G → e3_Ev (wB L xs) 0 0 219 6 [(2, 40), (1, l1), (3, 0), (0, l3), (0, l4)] [] H G (e3_q0 Q)) (l1 : Int) (l4 : Int) (s0 : Int) (H : e3_H) (G : e3_G) (h : wM_functionOf_33 Q k6 l1 l4 s0 H G) : e3_Ev (wB L xs) 0 0 219 33 [(2, 40), (1, l1), (3, 0), (3, 0), (0, l4)] [(0, s0)] H G (e3_q0 Q) := by
  unfold wM_functionOf_33 at h
  refine e3_K [0, 0, 0] 6 [(2, 40), (1, l1), (3, 0), (0, s0), (0, (e3_w32 (l4 + 1)))] [] (H) (G) (wZ L xs) (M := tbM219) rfl rfl trivial ?_
  exact hk6 _ _ _ _ _ h
set_option maxRecDepth 100000 in
set_option maxHeartbeats 4000000 in
theorem sM_functionOf_6 (L : Nat) (xs : Nat → Int32) (Q : Int → e3_H → e3_G → Prop) : ∀ (nl : Nat) (l1 : Int) (l3 : Int) (l4 : Int) (H : e3_H) (G : e3_G), wM_functionOf_6 Q nl l1 l3 l4 H G → e3_Ev (wB L xs) 0 0 219 6 [(2, 40), (1, l1), (3, 0), (0, l3), (0, l4)] [] H G (e3_q0 Q) := by
  intro nl
  induction nl with
  | zero => intro l1 l3 l4 H G h; exact h.elim
  | succ nn ih =>
    intro l1 l3 l4 H G h
    have h : (((l4 : Int) < (H 40 41) → ((0 : Int) ≤ l4 ∧ (l4 : Int) < 12) ∧ ((((H 67 l4) : Int) = l1 → (wM_functionOf_33 Q (fun l1 l3 l4 H G => wM_functionOf_6 Q nn l1 l3 l4 H G) l1 l4 l4 H G)) ∧ (¬ (((H 67 l4) : Int) = l1) → (wM_functionOf_33 Q (fun l1 l3 l4 H G => wM_functionOf_6 Q nn l1 l3 l4 H G) l1 l4 l3 H G)))) ∧ (¬ ((l4 : Int) < (H 40 41)) → Q l3 H G)) := h
    refine e3_K [0, 0, 2] 12 [(2, 40), (1, l1), (3, 0), (0, l3), (0, l4)] [(0, (H 40 41)), (0, l4)] (H) (G) (wZ L xs) (M := tbM219) rfl rfl ⟨trivial, trivial⟩ ?_
    refine e3_br (M := tbM219) rfl rfl rfl Iff.rfl (fun hc => ?_) (fun hc => ?_)
    · replace h := h.1 hc
      obtain ⟨o1, h⟩ := h
      refine e3_K [0, 4, 0, 2, 0, 0] 24 [(2, 40), (1, l1), (3, 0), (0, l3), (0, l4)] [(0, (e3_cmp (H 67 l4) l1))] (H) (G) (wZ L xs) (M := tbM219) rfl rfl ⟨trivial, o1, trivial⟩ ?_
      refine e3_br (M := tbM219) rfl rfl rfl e3_cmp_eq (fun hc => ?_) (fun hc => ?_)
      · replace h := h.1 hc
        refine e3_K [0, 0] 33 [(2, 40), (1, l1), (3, 0), (0, l3), (0, l4)] [(0, l4)] (H) (G) (wZ L xs) (M := tbM219) rfl rfl trivial ?_
        refine e3_fgt [true, true, false, false, true] ?_
        exact sM_functionOf_33 L xs Q (fun l1 l3 l4 H G => wM_functionOf_6 Q nn l1 l3 l4 H G) ih _ _ _ _ _ h
      · replace h := h.2 hc
        refine e3_K [0] 33 [(2, 40), (1, l1), (3, 0), (0, l3), (0, l4)] [(0, l3)] (H) (G) (wZ L xs) (M := tbM219) rfl rfl trivial ?_
        refine e3_fgt [true, true, false, false, true] ?_
        exact sM_functionOf_33 L xs Q (fun l1 l3 l4 H G => wM_functionOf_6 Q nn l1 l3 l4 H G) ih _ _ _ _ _ h
    · replace h := h.2 hc
      refine e3_K [0] 41 [(2, 40), (1, l1), (3, 0), (0, l3), (0, l4)] [(0, l3)] (H) (G) (wZ L xs) (M := tbM219) rfl rfl trivial ?_
      exact e3_reti (M := tbM219) rfl rfl rfl ⟨_, rfl, h⟩
set_option maxRecDepth 100000 in
set_option maxHeartbeats 4000000 in
theorem sM_functionOf (L : Nat) (xs : Nat → Int32) (Q : Int → e3_H → e3_G → Prop) (l1 : Int) (H : e3_H) (G : e3_G) (h : wM_functionOf Q l1 H G) : e3_Ev (wB L xs) 0 0 219 0 [(2, 40), (1, l1), (3, 0), (3, 0), (3, 0)] [] H G (e3_q0 Q) := by
  unfold wM_functionOf at h
  refine e3_K [0, 0, 0, 0] 6 [(2, 40), (1, l1), (3, 0), (0, (-4)), (0, 0)] [] (H) (G) (wZ L xs) (M := tbM219) rfl rfl trivial ?_
  obtain ⟨nl, h⟩ := h
  exact sM_functionOf_6 L xs Q nl _ _ _ _ _ h
/-- LetterPostModel.isOf(II)Z -/
def wM_isOf_31 (Q : Int → e3_H → e3_G → Prop) (s0 : Int) (H : e3_H) (G : e3_G) : Prop :=
  ((s0 : Int) = 0 ∨ s0 = 1) ∧ Q s0 H G
def wM_isOf_21 (Q : Int → e3_H → e3_G → Prop) (l2 : Int) (l3 : Int) (H : e3_H) (G : e3_G) : Prop :=
  (((l3 : Int) = l2 → (wM_isOf_31 Q 1 H G)) ∧ (¬ ((l3 : Int) = l2) → (wM_isOf_31 Q 0 H G)))
def wM_isOf_2 (Q : Int → e3_H → e3_G → Prop) : Nat → Int → Int → e3_H → e3_G → Prop
  | 0, _, _, _, _ => False
  | nn + 1, l2, l3, H, G => (((l3 : Int) < 0 → (wM_isOf_21 Q l2 l3 H G)) ∧ (¬ ((l3 : Int) < 0) → (((l3 : Int) = l2 → (wM_isOf_21 Q l2 l3 H G)) ∧ (¬ ((l3 : Int) = l2) → ((0 : Int) ≤ l3 ∧ (l3 : Int) < 24) ∧ (wM_isOf_2 Q nn l2 (H 43 l3) H G)))))
def wM_isOf (Q : Int → e3_H → e3_G → Prop) (l1 : Int) (l2 : Int) (H : e3_H) (G : e3_G) : Prop :=
  (∃ n, wM_isOf_2 Q n l2 l1 H G)
set_option maxRecDepth 100000 in
set_option maxHeartbeats 4000000 in
theorem sM_isOf_31 (L : Nat) (xs : Nat → Int32) (Q : Int → e3_H → e3_G → Prop) (s0 : Int) (H : e3_H) (G : e3_G) (h : wM_isOf_31 Q s0 H G) : e3_Ev (wB L xs) 0 0 223 31 [(3, 0), (3, 0), (3, 0), (3, 0)] [(0, s0)] H G (e3_q0 Q) := by
  unfold wM_isOf_31 at h
  exact e3_retb (M := tbM223) rfl rfl rfl h.1 ⟨_, rfl, h.2⟩
set_option maxRecDepth 100000 in
set_option maxHeartbeats 4000000 in
theorem sM_isOf_21 (L : Nat) (xs : Nat → Int32) (Q : Int → e3_H → e3_G → Prop) (l2 : Int) (l3 : Int) (H : e3_H) (G : e3_G) (h : wM_isOf_21 Q l2 l3 H G) : e3_Ev (wB L xs) 0 0 223 21 [(3, 0), (3, 0), (0, l2), (0, l3)] [] H G (e3_q0 Q) := by
  unfold wM_isOf_21 at h
  refine e3_K [0, 0] 23 [(3, 0), (3, 0), (0, l2), (0, l3)] [(0, l2), (0, l3)] (H) (G) (wZ L xs) (M := tbM223) rfl rfl trivial ?_
  refine e3_br (M := tbM223) rfl rfl rfl Iff.rfl (fun hc => ?_) (fun hc => ?_)
  · replace h := h.1 hc
    refine e3_K [0, 0] 31 [(3, 0), (3, 0), (0, l2), (0, l3)] [(0, 1)] (H) (G) (wZ L xs) (M := tbM223) rfl rfl trivial ?_
    refine e3_fgt [false, false, false, false] ?_
    exact sM_isOf_31 L xs Q _ _ _ h
  · replace h := h.2 hc
    refine e3_K [0] 31 [(3, 0), (3, 0), (0, l2), (0, l3)] [(0, 0)] (H) (G) (wZ L xs) (M := tbM223) rfl rfl trivial ?_
    refine e3_fgt [false, false, false, false] ?_
    exact sM_isOf_31 L xs Q _ _ _ h
set_option maxRecDepth 100000 in
set_option maxHeartbeats 4000000 in
theorem sM_isOf_2 (L : Nat) (xs : Nat → Int32) (Q : Int → e3_H → e3_G → Prop) : ∀ (nl : Nat) (l2 : Int) (l3 : Int) (H : e3_H) (G : e3_G), wM_isOf_2 Q nl l2 l3 H G → e3_Ev (wB L xs) 0 0 223 2 [(2, 40), (3, 0), (0, l2), (0, l3)] [] H G (e3_q0 Q) := by
  intro nl
  induction nl with
  | zero => intro l2 l3 H G h; exact h.elim
  | succ nn ih =>
    intro l2 l3 H G h
    have h : (((l3 : Int) < 0 → (wM_isOf_21 Q l2 l3 H G)) ∧ (¬ ((l3 : Int) < 0) → (((l3 : Int) = l2 → (wM_isOf_21 Q l2 l3 H G)) ∧ (¬ ((l3 : Int) = l2) → ((0 : Int) ≤ l3 ∧ (l3 : Int) < 24) ∧ (wM_isOf_2 Q nn l2 (H 43 l3) H G))))) := h
    refine e3_K [0] 3 [(2, 40), (3, 0), (0, l2), (0, l3)] [(0, l3)] (H) (G) (wZ L xs) (M := tbM223) rfl rfl trivial ?_
    refine e3_br (M := tbM223) rfl rfl rfl Iff.rfl (fun hc => ?_) (fun hc => ?_)
    · replace h := h.1 hc
      refine e3_fgt [false, false, true, true] ?_
      exact sM_isOf_21 L xs Q _ _ _ _ h
    · replace h := h.2 hc
      refine e3_K [0, 0] 8 [(2, 40), (3, 0), (0, l2), (0, l3)] [(0, l2), (0, l3)] (H) (G) (wZ L xs) (M := tbM223) rfl rfl trivial ?_
      refine e3_br (M := tbM223) rfl rfl rfl Iff.rfl (fun hc => ?_) (fun hc => ?_)
      · replace h := h.1 hc
        refine e3_fgt [false, false, true, true] ?_
        exact sM_isOf_21 L xs Q _ _ _ _ h
      · replace h := h.2 hc
        obtain ⟨o1, h⟩ := h
        refine e3_K [0, 4, 0, 2, 0, 0] 2 [(2, 40), (3, 0), (0, l2), (0, (H 43 l3))] [] (H) (G) (wZ L xs) (M := tbM223) rfl rfl ⟨trivial, o1, trivial⟩ ?_
        exact ih _ _ _ _ h
set_option maxRecDepth 100000 in
set_option maxHeartbeats 4000000 in
theorem sM_isOf (L : Nat) (xs : Nat → Int32) (Q : Int → e3_H → e3_G → Prop) (l1 : Int) (l2 : Int) (H : e3_H) (G : e3_G) (h : wM_isOf Q l1 l2 H G) : e3_Ev (wB L xs) 0 0 223 0 [(2, 40), (0, l1), (0, l2), (3, 0)] [] H G (e3_q0 Q) := by
  unfold wM_isOf at h
  refine e3_K [0, 0] 2 [(2, 40), (0, l1), (0, l2), (0, l1)] [] (H) (G) (wZ L xs) (M := tbM223) rfl rfl trivial ?_
  refine e3_fgt [true, false, true, true] ?_
  obtain ⟨nl, h⟩ := h
  exact sM_isOf_2 L xs Q nl _ _ _ _ h
/-- LetterPostModel.newPattern(II)I -/
def wM_newPattern (Q : Int → e3_H → e3_G → Prop) (l1 : Int) (l2 : Int) (H : e3_H) (G : e3_G) : Prop :=
  ∀ H1 : e3_H, H1 = e3_up H 40 16 (e3_w32 ((H 40 16) + 1)) → ((0 : Int) ≤ (H 40 16) ∧ ((H 40 16) : Int) < 1700) ∧ ∀ H2 : e3_H, H2 = e3_up H1 46 (H 40 16) l1 → ((0 : Int) ≤ (H 40 16) ∧ ((H 40 16) : Int) < 1700) ∧ ∀ H4 : e3_H, H4 = e3_up H2 47 (H 40 16) l2 → ((0 : Int) ≤ (H 40 16) ∧ ((H 40 16) : Int) < 1700) ∧ ∀ H6 : e3_H, H6 = e3_up H4 48 (H 40 16) 0 → ((0 : Int) ≤ (H 40 16) ∧ ((H 40 16) : Int) < 1700) ∧ ∀ H8 : e3_H, H8 = e3_up H6 49 (H 40 16) 0 → ((0 : Int) ≤ (H 40 16) ∧ ((H 40 16) : Int) < 1700) ∧ ∀ H10 : e3_H, H10 = e3_up H8 50 (H 40 16) 0 → ((0 : Int) ≤ (H 40 16) ∧ ((H 40 16) : Int) < 1700) ∧ ∀ H12 : e3_H, H12 = e3_up H10 51 (H 40 16) (-4) → ((0 : Int) ≤ (H 40 16) ∧ ((H 40 16) : Int) < 1700) ∧ ∀ H14 : e3_H, H14 = e3_up H12 52 (H 40 16) (-4) → ((0 : Int) ≤ (H 40 16) ∧ ((H 40 16) : Int) < 1700) ∧ ∀ H16 : e3_H, H16 = e3_up H14 53 (H 40 16) (-4) → ((0 : Int) ≤ (H 40 16) ∧ ((H 40 16) : Int) < 1700) ∧ ∀ H18 : e3_H, H18 = e3_up H16 54 (H 40 16) (-4) → ((0 : Int) ≤ (H 40 16) ∧ ((H 40 16) : Int) < 1700) ∧ ∀ H20 : e3_H, H20 = e3_up H18 55 (H 40 16) 1 → Q (H 40 16) H20 G
set_option maxRecDepth 100000 in
set_option maxHeartbeats 4000000 in
theorem sM_newPattern (L : Nat) (xs : Nat → Int32) (Q : Int → e3_H → e3_G → Prop) (l1 : Int) (l2 : Int) (H : e3_H) (G : e3_G) (h : wM_newPattern Q l1 l2 H G) : e3_Ev (wB L xs) 0 0 224 0 [(2, 40), (0, l1), (0, l2), (3, 0)] [] H G (e3_q0 Q) := by
  unfold wM_newPattern at h
  refine e3_K [0, 2, 0, 0, 0, 2, 0, 0, 2] 15 [(2, 40), (0, l1), (0, l2), (0, (H 40 16))] [] (e3_up H 40 16 (e3_w32 ((H 40 16) + 1))) (G) (wZ L xs) (M := tbM224) rfl rfl ⟨trivial, trivial, trivial, trivial⟩ ?_
  generalize hH1 : (e3_up H 40 16 (e3_w32 ((H 40 16) + 1))) = H1
  replace h := h H1 hH1.symm
  obtain ⟨o3, h⟩ := h
  refine e3_K [0, 4, 0, 0, 2] 22 [(2, 40), (0, l1), (0, l2), (0, (H 40 16))] [] (e3_up H1 46 (H 40 16) l1) (G) (wZ L xs) (M := tbM224) rfl rfl ⟨trivial, o3, trivial⟩ ?_
  generalize hH2 : (e3_up H1 46 (H 40 16) l1) = H2
  replace h := h H2 hH2.symm
  obtain ⟨o5, h⟩ := h
  refine e3_K [0, 4, 0, 0, 2] 29 [(2, 40), (0, l1), (0, l2), (0, (H 40 16))] [] (e3_up H2 47 (H 40 16) l2) (G) (wZ L xs) (M := tbM224) rfl rfl ⟨trivial, o5, trivial⟩ ?_
  generalize hH4 : (e3_up H2 47 (H 40 16) l2) = H4
  replace h := h H4 hH4.symm
  obtain ⟨o7, h⟩ := h
  refine e3_K [0, 4, 0, 0, 2] 36 [(2, 40), (0, l1), (0, l2), (0, (H 40 16))] [] (e3_up H4 48 (H 40 16) 0) (G) (wZ L xs) (M := tbM224) rfl rfl ⟨trivial, o7, trivial⟩ ?_
  generalize hH6 : (e3_up H4 48 (H 40 16) 0) = H6
  replace h := h H6 hH6.symm
  obtain ⟨o9, h⟩ := h
  refine e3_K [0, 4, 0, 0, 2] 43 [(2, 40), (0, l1), (0, l2), (0, (H 40 16))] [] (e3_up H6 49 (H 40 16) 0) (G) (wZ L xs) (M := tbM224) rfl rfl ⟨trivial, o9, trivial⟩ ?_
  generalize hH8 : (e3_up H6 49 (H 40 16) 0) = H8
  replace h := h H8 hH8.symm
  obtain ⟨o11, h⟩ := h
  refine e3_K [0, 4, 0, 0, 2] 50 [(2, 40), (0, l1), (0, l2), (0, (H 40 16))] [] (e3_up H8 50 (H 40 16) 0) (G) (wZ L xs) (M := tbM224) rfl rfl ⟨trivial, o11, trivial⟩ ?_
  generalize hH10 : (e3_up H8 50 (H 40 16) 0) = H10
  replace h := h H10 hH10.symm
  obtain ⟨o13, h⟩ := h
  refine e3_K [0, 4, 0, 0, 2] 58 [(2, 40), (0, l1), (0, l2), (0, (H 40 16))] [] (e3_up H10 51 (H 40 16) (-4)) (G) (wZ L xs) (M := tbM224) rfl rfl ⟨trivial, o13, trivial⟩ ?_
  generalize hH12 : (e3_up H10 51 (H 40 16) (-4)) = H12
  replace h := h H12 hH12.symm
  obtain ⟨o15, h⟩ := h
  refine e3_K [0, 4, 0, 0, 2] 66 [(2, 40), (0, l1), (0, l2), (0, (H 40 16))] [] (e3_up H12 52 (H 40 16) (-4)) (G) (wZ L xs) (M := tbM224) rfl rfl ⟨trivial, o15, trivial⟩ ?_
  generalize hH14 : (e3_up H12 52 (H 40 16) (-4)) = H14
  replace h := h H14 hH14.symm
  obtain ⟨o17, h⟩ := h
  refine e3_K [0, 4, 0, 0, 2] 74 [(2, 40), (0, l1), (0, l2), (0, (H 40 16))] [] (e3_up H14 53 (H 40 16) (-4)) (G) (wZ L xs) (M := tbM224) rfl rfl ⟨trivial, o17, trivial⟩ ?_
  generalize hH16 : (e3_up H14 53 (H 40 16) (-4)) = H16
  replace h := h H16 hH16.symm
  obtain ⟨o19, h⟩ := h
  refine e3_K [0, 4, 0, 0, 2] 82 [(2, 40), (0, l1), (0, l2), (0, (H 40 16))] [] (e3_up H16 54 (H 40 16) (-4)) (G) (wZ L xs) (M := tbM224) rfl rfl ⟨trivial, o19, trivial⟩ ?_
  generalize hH18 : (e3_up H16 54 (H 40 16) (-4)) = H18
  replace h := h H18 hH18.symm
  obtain ⟨o21, h⟩ := h
  refine e3_K [0, 4, 0, 0, 2] 89 [(2, 40), (0, l1), (0, l2), (0, (H 40 16))] [] (e3_up H18 55 (H 40 16) 1) (G) (wZ L xs) (M := tbM224) rfl rfl ⟨trivial, o21, trivial⟩ ?_
  generalize hH20 : (e3_up H18 55 (H 40 16) 1) = H20
  replace h := h H20 hH20.symm
  refine e3_K [0] 90 [(2, 40), (0, l1), (0, l2), (0, (H 40 16))] [(0, (H 40 16))] (H20) (G) (wZ L xs) (M := tbM224) rfl rfl trivial ?_
  exact e3_reti (M := tbM224) rfl rfl rfl ⟨_, rfl, h⟩
/-- LetterPostModel.nameOf(J)I -/
def wM_nameOf_46 (Q : Int → e3_H → e3_G → Prop) (k6 : Int → Int → Int → e3_H → e3_G → Prop) (l1 : Int) (l4 : Int) (s0 : Int) (H : e3_H) (G : e3_G) : Prop :=
  (k6 l1 s0 (e3_w32 (l4 + 1)) H G)
def wM_nameOf_6 (Q : Int → e3_H → e3_G → Prop) : Nat → Int → Int → Int → e3_H → e3_G → Prop
  | 0, _, _, _, _, _ => False
  | nn + 1, l1, l3, l4, H, G => ((0 : Int) ≤ (H 40 27) ∧ ((H 40 27) : Int) < 192) ∧ (((l4 : Int) < (H 56 (H 40 27)) → ((0 : Int) ≤ (e3_w32 ((e3_w32 (8 * (H 40 27))) + l4)) ∧ ((e3_w32 ((e3_w32 (8 * (H 40 27))) + l4)) : Int) < 1536) ∧ ((((H 57 (e3_w32 ((e3_w32 (8 * (H 40 27))) + l4))) : Int) = l1 → (wM_nameOf_46 Q (fun l1 l3 l4 H G => wM_nameOf_6 Q nn l1 l3 l4 H G) l1 l4 l4 H G)) ∧ (¬ (((H 57 (e3_w32 ((e3_w32 (8 * (H 40 27))) + l4))) : Int) = l1) → (wM_nameOf_46 Q (fun l1 l3 l4 H G => wM_nameOf_6 Q nn l1 l3 l4 H G) l1 l4 l3 H G)))) ∧ (¬ ((l4 : Int) < (H 56 (H 40 27))) → Q l3 H G))
def wM_nameOf (Q : Int → e3_H → e3_G → Prop) (l1 : Int) (H : e3_H) (G : e3_G) : Prop :=
  (∃ n, wM_nameOf_6 Q n l1 (-4) 0 H G)
set_option maxRecDepth 100000 in
set_option maxHeartbeats 4000000 in
theorem sM_nameOf_46 (L : Nat) (xs : Nat → Int32) (Q : Int → e3_H → e3_G → Prop) (k6 : Int → Int → Int → e3_H → e3_G → Prop) (hk6 : ∀ (l1 : Int) (l3 : Int) (l4 : Int) (H : e3_H) (G : e3_G), k6 l1 l3 l4 H G → e3_Ev (wB L xs) 0 0 225 6 [(2, 40), (1, l1), (3, 0), (0, l3), (0, l4)] [] H G (e3_q0 Q)) (l1 : Int) (l4 : Int) (s0 : Int) (H : e3_H) (G : e3_G) (h : wM_nameOf_46 Q k6 l1 l4 s0 H G) : e3_Ev (wB L xs) 0 0 225 46 [(2, 40), (1, l1), (3, 0), (3, 0), (0, l4)] [(0, s0)] H G (e3_q0 Q) := by
  unfold wM_nameOf_46 at h
  refine e3_K [0, 0, 0] 6 [(2, 40), (1, l1), (3, 0), (0, s0), (0, (e3_w32 (l4 + 1)))] [] (H) (G) (wZ L xs) (M := tbM225) rfl rfl trivial ?_
  exact hk6 _ _ _ _ _ h
set_option maxRecDepth 100000 in
set_option maxHeartbeats 4000000 in
theorem sM_nameOf_6 (L : Nat) (xs : Nat → Int32) (Q : Int → e3_H → e3_G → Prop) : ∀ (nl : Nat) (l1 : Int) (l3 : Int) (l4 : Int) (H : e3_H) (G : e3_G), wM_nameOf_6 Q nl l1 l3 l4 H G → e3_Ev (wB L xs) 0 0 225 6 [(2, 40), (1, l1), (3, 0), (0, l3), (0, l4)] [] H G (e3_q0 Q) := by
  intro nl
  induction nl with
  | zero => intro l1 l3 l4 H G h; exact h.elim
  | succ nn ih =>
    intro l1 l3 l4 H G h
    have h : ((0 : Int) ≤ (H 40 27) ∧ ((H 40 27) : Int) < 192) ∧ (((l4 : Int) < (H 56 (H 40 27)) → ((0 : Int) ≤ (e3_w32 ((e3_w32 (8 * (H 40 27))) + l4)) ∧ ((e3_w32 ((e3_w32 (8 * (H 40 27))) + l4)) : Int) < 1536) ∧ ((((H 57 (e3_w32 ((e3_w32 (8 * (H 40 27))) + l4))) : Int) = l1 → (wM_nameOf_46 Q (fun l1 l3 l4 H G => wM_nameOf_6 Q nn l1 l3 l4 H G) l1 l4 l4 H G)) ∧ (¬ (((H 57 (e3_w32 ((e3_w32 (8 * (H 40 27))) + l4))) : Int) = l1) → (wM_nameOf_46 Q (fun l1 l3 l4 H G => wM_nameOf_6 Q nn l1 l3 l4 H G) l1 l4 l3 H G)))) ∧ (¬ ((l4 : Int) < (H 56 (H 40 27))) → Q l3 H G)) := h
    obtain ⟨o1, h⟩ := h
    refine e3_K [0, 0, 4, 0, 2, 2] 17 [(2, 40), (1, l1), (3, 0), (0, l3), (0, l4)] [(0, (H 56 (H 40 27))), (0, l4)] (H) (G) (wZ L xs) (M := tbM225) rfl rfl ⟨trivial, trivial, o1, trivial⟩ ?_
    refine e3_br (M := tbM225) rfl rfl rfl Iff.rfl (fun hc => ?_) (fun hc => ?_)
    · replace h := h.1 hc
      obtain ⟨o2, h⟩ := h
      refine e3_K [0, 4, 0, 0, 2, 0, 0, 0, 2, 0, 0] 37 [(2, 40), (1, l1), (3, 0), (0, l3), (0, l4)] [(0, (e3_cmp (H 57 (e3_w32 ((e3_w32 (8 * (H 40 27))) + l4))) l1))] (H) (G) (wZ L xs) (M := tbM225) rfl rfl ⟨trivial, trivial, o2, trivial⟩ ?_
      refine e3_br (M := tbM225) rfl rfl rfl e3_cmp_eq (fun hc => ?_) (fun hc => ?_)
      · replace h := h.1 hc
        refine e3_K [0, 0] 46 [(2, 40), (1, l1), (3, 0), (0, l3), (0, l4)] [(0, l4)] (H) (G) (wZ L xs) (M := tbM225) rfl rfl trivial ?_
        refine e3_fgt [true, true, false, false, true] ?_
        exact sM_nameOf_46 L xs Q (fun l1 l3 l4 H G => wM_nameOf_6 Q nn l1 l3 l4 H G) ih _ _ _ _ _ h
      · replace h := h.2 hc
        refine e3_K [0] 46 [(2, 40), (1, l1), (3, 0), (0, l3), (0, l4)] [(0, l3)] (H) (G) (wZ L xs) (M := tbM225) rfl rfl trivial ?_
        refine e3_fgt [true, true, false, false, true] ?_
        exact sM_nameOf_46 L xs Q (fun l1 l3 l4 H G => wM_nameOf_6 Q nn l1 l3 l4 H G) ih _ _ _ _ _ h
    · replace h := h.2 hc
      refine e3_K [0] 54 [(2, 40), (1, l1), (3, 0), (0, l3), (0, l4)] [(0, l3)] (H) (G) (wZ L xs) (M := tbM225) rfl rfl trivial ?_
      exact e3_reti (M := tbM225) rfl rfl rfl ⟨_, rfl, h⟩
set_option maxRecDepth 100000 in
set_option maxHeartbeats 4000000 in
theorem sM_nameOf (L : Nat) (xs : Nat → Int32) (Q : Int → e3_H → e3_G → Prop) (l1 : Int) (H : e3_H) (G : e3_G) (h : wM_nameOf Q l1 H G) : e3_Ev (wB L xs) 0 0 225 0 [(2, 40), (1, l1), (3, 0), (3, 0), (3, 0)] [] H G (e3_q0 Q) := by
  unfold wM_nameOf at h
  refine e3_K [0, 0, 0, 0] 6 [(2, 40), (1, l1), (3, 0), (0, (-4)), (0, 0)] [] (H) (G) (wZ L xs) (M := tbM225) rfl rfl trivial ?_
  obtain ⟨nl, h⟩ := h
  exact sM_nameOf_6 L xs Q nl _ _ _ _ _ h
/-- LetterPostModel.binds(I)I -/
def wM_binds_120 (Q : Int → e3_H → e3_G → Prop) (l1 : Int) (l2 : Int) (H : e3_H) (G : e3_G) : Prop :=
  ((0 : Int) ≤ (e3_w32 ((e3_w32 (8 * (H 40 27))) + l2)) ∧ ((e3_w32 ((e3_w32 (8 * (H 40 27))) + l2)) : Int) < 1536) ∧ ∀ H1 : e3_H, H1 = e3_up H 58 (e3_w32 ((e3_w32 (8 * (H 40 27))) + l2)) l1 → ∀ H3 : e3_H, H3 = e3_up H1 40 31 (e3_or (H1 40 31) (e3_shl 1 l2)) → Q l2 H3 G
def wM_binds_65 (Q : Int → e3_H → e3_G → Prop) (l1 : Int) (l2 : Int) (H : e3_H) (G : e3_G) : Prop :=
  ((((H 40 7) : Int) = 0 → (((l2 : Int) < 0 → ((0 : Int) ≤ (H 40 27) ∧ ((H 40 27) : Int) < 192) ∧ ((0 : Int) ≤ (H 40 27) ∧ ((H 40 27) : Int) < 192) ∧ ((0 : Int) ≤ (H 40 27) ∧ ((H 40 27) : Int) < 192) ∧ ∀ H1 : e3_H, H1 = e3_up H 56 (H 40 27) (e3_w32 ((H 56 (H 40 27)) + 1)) → ((0 : Int) ≤ (e3_w32 ((e3_w32 (8 * (H1 40 27))) + (H 56 (H 40 27)))) ∧ ((e3_w32 ((e3_w32 (8 * (H1 40 27))) + (H 56 (H 40 27)))) : Int) < 1536) ∧ ∀ H5 : e3_H, H5 = e3_up H1 57 (e3_w32 ((e3_w32 (8 * (H1 40 27))) + (H 56 (H 40 27)))) (H1 40 4) → (wM_binds_120 Q l1 (H 56 (H 40 27)) H5 G)) ∧ (¬ ((l2 : Int) < 0) → (wM_binds_120 Q l1 l2 H G)))) ∧ (¬ (((H 40 7) : Int) = 0) → Q (-4) H G))
def wM_binds_37 (Q : Int → e3_H → e3_G → Prop) (l1 : Int) (l2 : Int) (H : e3_H) (G : e3_G) : Prop :=
  (((l2 : Int) < 0 → ((0 : Int) ≤ (H 40 27) ∧ ((H 40 27) : Int) < 192) ∧ ((((H 56 (H 40 27)) : Int) = 8 → (wM_fails (fun H2 G3 => (wM_binds_65 Q l1 l2 H2 G3)) 9 (H 40 5) H G)) ∧ (¬ (((H 56 (H 40 27)) : Int) = 8) → (wM_binds_65 Q l1 l2 H G)))) ∧ (¬ ((l2 : Int) < 0) → (wM_binds_65 Q l1 l2 H G)))
def wM_binds (Q : Int → e3_H → e3_G → Prop) (l1 : Int) (H : e3_H) (G : e3_G) : Prop :=
  (wM_nameOf (fun x3 H1 G2 => (((x3 : Int) < 0 → (wM_binds_37 Q l1 x3 H1 G2)) ∧ (¬ ((x3 : Int) < 0) → ((((e3_and (e3_shr (H1 40 31) x3) 1) : Int) = 1 → (wM_fails (fun H4 G5 => (wM_binds_65 Q l1 x3 H4 G5)) 3 (H1 40 5) H1 G2)) ∧ (¬ (((e3_and (e3_shr (H1 40 31) x3) 1) : Int) = 1) → (wM_binds_37 Q l1 x3 H1 G2)))))) (H 40 4) H G)
set_option maxRecDepth 100000 in
set_option maxHeartbeats 4000000 in
theorem sM_binds_120 (L : Nat) (xs : Nat → Int32) (Q : Int → e3_H → e3_G → Prop) (l1 : Int) (l2 : Int) (H : e3_H) (G : e3_G) (h : wM_binds_120 Q l1 l2 H G) : e3_Ev (wB L xs) 1 24 226 120 [(2, 40), (0, l1), (0, l2)] [] H G (e3_q0 Q) := by
  unfold wM_binds_120 at h
  obtain ⟨o2, h⟩ := h
  refine e3_K [0, 4, 0, 0, 2, 0, 0, 0, 0, 2] 135 [(2, 40), (0, l1), (0, l2)] [] (e3_up H 58 (e3_w32 ((e3_w32 (8 * (H 40 27))) + l2)) l1) (G) (wZ L xs) (M := tbM226) rfl rfl ⟨trivial, trivial, o2, trivial⟩ ?_
  generalize hH1 : (e3_up H 58 (e3_w32 ((e3_w32 (8 * (H 40 27))) + l2)) l1) = H1
  replace h := h H1 hH1.symm
  refine e3_K [0, 0, 2, 0, 0, 0, 0, 2] 147 [(2, 40), (0, l1), (0, l2)] [] (e3_up H1 40 31 (e3_or (H1 40 31) (e3_shl 1 l2))) (G) (wZ L xs) (M := tbM226) rfl rfl ⟨trivial, trivial, trivial⟩ ?_
  generalize hH3 : (e3_up H1 40 31 (e3_or (H1 40 31) (e3_shl 1 l2))) = H3
  replace h := h H3 hH3.symm
  refine e3_K [0] 148 [(2, 40), (0, l1), (0, l2)] [(0, l2)] (H3) (G) (wZ L xs) (M := tbM226) rfl rfl trivial ?_
  exact e3_reti (M := tbM226) rfl rfl rfl ⟨_, rfl, h⟩
set_option maxRecDepth 100000 in
set_option maxHeartbeats 4000000 in
theorem sM_binds_65 (L : Nat) (xs : Nat → Int32) (Q : Int → e3_H → e3_G → Prop) (l1 : Int) (l2 : Int) (H : e3_H) (G : e3_G) (h : wM_binds_65 Q l1 l2 H G) : e3_Ev (wB L xs) 1 24 226 65 [(2, 40), (0, l1), (0, l2)] [] H G (e3_q0 Q) := by
  unfold wM_binds_65 at h
  refine e3_K [0, 2] 69 [(2, 40), (0, l1), (0, l2)] [(0, (H 40 7))] (H) (G) (wZ L xs) (M := tbM226) rfl rfl ⟨trivial, trivial⟩ ?_
  refine e3_br (M := tbM226) rfl rfl rfl Iff.rfl (fun hc => ?_) (fun hc => ?_)
  · replace h := h.1 hc
    refine e3_K [0] 76 [(2, 40), (0, l1), (0, l2)] [(0, l2)] (H) (G) (wZ L xs) (M := tbM226) rfl rfl trivial ?_
    refine e3_br (M := tbM226) rfl rfl rfl Iff.rfl (fun hc => ?_) (fun hc => ?_)
    · replace h := h.1 hc
      obtain ⟨o2, o3, o4, h⟩ := h
      refine e3_K [0, 4, 0, 2, 2, 0, 0, 4, 0, 2, 0, 2, 0, 0, 2] 102 [(2, 40), (0, l1), (0, (H 56 (H 40 27)))] [] (e3_up H 56 (H 40 27) (e3_w32 ((H 56 (H 40 27)) + 1))) (G) (wZ L xs) (M := tbM226) rfl rfl ⟨trivial, trivial, o2, trivial, trivial, o3, o4, trivial⟩ ?_
      generalize hH1 : (e3_up H 56 (H 40 27) (e3_w32 ((H 56 (H 40 27)) + 1))) = H1
      replace h := h H1 hH1.symm
      obtain ⟨o6, h⟩ := h
      refine e3_K [0, 4, 0, 0, 2, 0, 0, 0, 0, 2, 2] 120 [(2, 40), (0, l1), (0, (H 56 (H 40 27)))] [] (e3_up H1 57 (e3_w32 ((e3_w32 (8 * (H1 40 27))) + (H 56 (H 40 27)))) (H1 40 4)) (G) (wZ L xs) (M := tbM226) rfl rfl ⟨trivial, trivial, trivial, o6, trivial⟩ ?_
      generalize hH5 : (e3_up H1 57 (e3_w32 ((e3_w32 (8 * (H1 40 27))) + (H 56 (H 40 27)))) (H1 40 4)) = H5
      replace h := h H5 hH5.symm
      exact sM_binds_120 L xs Q _ _ _ _ h
    · replace h := h.2 hc
      exact sM_binds_120 L xs Q _ _ _ _ h
  · replace h := h.2 hc
    refine e3_K [0] 74 [(2, 40), (0, l1), (0, l2)] [(0, (-4))] (H) (G) (wZ L xs) (M := tbM226) rfl rfl trivial ?_
    exact e3_reti (M := tbM226) rfl rfl rfl ⟨_, rfl, h⟩
set_option maxRecDepth 100000 in
set_option maxHeartbeats 4000000 in
theorem sM_binds_37 (L : Nat) (xs : Nat → Int32) (Q : Int → e3_H → e3_G → Prop) (l1 : Int) (l2 : Int) (H : e3_H) (G : e3_G) (h : wM_binds_37 Q l1 l2 H G) : e3_Ev (wB L xs) 1 24 226 37 [(2, 40), (0, l1), (0, l2)] [] H G (e3_q0 Q) := by
  unfold wM_binds_37 at h
  refine e3_K [0] 38 [(2, 40), (0, l1), (0, l2)] [(0, l2)] (H) (G) (wZ L xs) (M := tbM226) rfl rfl trivial ?_
  refine e3_br (M := tbM226) rfl rfl rfl Iff.rfl (fun hc => ?_) (fun hc => ?_)
  · replace h := h.1 hc
    obtain ⟨o1, h⟩ := h
    refine e3_K [0, 4, 0, 2, 2, 0] 52 [(2, 40), (0, l1), (0, l2)] [(0, 8), (0, (H 56 (H 40 27)))] (H) (G) (wZ L xs) (M := tbM226) rfl rfl ⟨trivial, trivial, o1, trivial⟩ ?_
    refine e3_br (M := tbM226) rfl rfl rfl Iff.rfl (fun hc => ?_) (fun hc => ?_)
    · replace h := h.1 hc
      refine e3_K [0, 0, 0, 2] 62 [(2, 40), (0, l1), (0, l2)] [(0, (H 40 5)), (0, 9), (2, 40)] (H) (G) (wZ L xs) (M := tbM226) rfl rfl ⟨trivial, trivial⟩ ?_
      refine e3_call (o := 0) (k := 210) (M2 := tbM210) (f1 := 0) (w1 := 0) (as := [(2, 40), (0, 9), (0, (H 40 5))]) (rest := []) (M := tbM226) rfl rfl rfl trivial (Nat.le_of_ble_eq_true rfl) (Nat.le_of_ble_eq_true rfl) (Nat.le_of_ble_eq_true rfl) ?_
      refine e3_mono (sM_fails L xs _ _ _ _ _ h) (fun r H2 G3 h => ?_)
      obtain ⟨rfl, h⟩ := h
      change e3_Ev _ _ _ _ 65 [(2, 40), (0, l1), (0, l2)] [] H2 G3 _
      exact sM_binds_65 L xs Q _ _ _ _ h
    · replace h := h.2 hc
      exact sM_binds_65 L xs Q _ _ _ _ h
  · replace h := h.2 hc
    exact sM_binds_65 L xs Q _ _ _ _ h
set_option maxRecDepth 100000 in
set_option maxHeartbeats 4000000 in
theorem sM_binds (L : Nat) (xs : Nat → Int32) (Q : Int → e3_H → e3_G → Prop) (l1 : Int) (H : e3_H) (G : e3_G) (h : wM_binds Q l1 H G) : e3_Ev (wB L xs) 1 24 226 0 [(2, 40), (0, l1), (3, 0)] [] H G (e3_q0 Q) := by
  unfold wM_binds at h
  refine e3_K [0, 0, 2] 5 [(2, 40), (0, l1), (3, 0)] [(1, (H 40 4)), (2, 40)] (H) (G) (wZ L xs) (M := tbM226) rfl rfl ⟨trivial, trivial⟩ ?_
  refine e3_call (o := 0) (k := 225) (M2 := tbM225) (f1 := 0) (w1 := 0) (as := [(2, 40), (1, (H 40 4))]) (rest := []) (M := tbM226) rfl rfl rfl trivial (Nat.le_of_ble_eq_true rfl) (Nat.le_of_ble_eq_true rfl) (Nat.le_of_ble_eq_true rfl) ?_
  refine e3_mono (sM_nameOf L xs _ _ _ _ h) (fun r H1 G2 h => ?_)
  obtain ⟨x3, rfl, h⟩ := h
  change e3_Ev _ _ _ _ 8 [(2, 40), (0, l1), (3, 0)] [(0, x3)] H1 G2 _
  refine e3_K [0, 0] 10 [(2, 40), (0, l1), (0, x3)] [(0, x3)] (H1) (G2) (wZ L xs) (M := tbM226) rfl rfl trivial ?_
  refine e3_br (M := tbM226) rfl rfl rfl Iff.rfl (fun hc => ?_) (fun hc => ?_)
  · replace h := h.1 hc
    exact sM_binds_37 L xs Q _ _ _ _ h
  · replace h := h.2 hc
    refine e3_K [0, 2, 0, 0, 0, 0, 0] 22 [(2, 40), (0, l1), (0, x3)] [(0, 1), (0, (e3_and (e3_shr (H1 40 31) x3) 1))] (H1) (G2) (wZ L xs) (M := tbM226) rfl rfl ⟨trivial, trivial⟩ ?_
    refine e3_br (M := tbM226) rfl rfl rfl Iff.rfl (fun hc => ?_) (fun hc => ?_)
    · replace h := h.1 hc
      refine e3_K [0, 0, 0, 2] 31 [(2, 40), (0, l1), (0, x3)] [(0, (H1 40 5)), (0, 3), (2, 40)] (H1) (G2) (wZ L xs) (M := tbM226) rfl rfl ⟨trivial, trivial⟩ ?_
      refine e3_call (o := 0) (k := 210) (M2 := tbM210) (f1 := 0) (w1 := 0) (as := [(2, 40), (0, 3), (0, (H1 40 5))]) (rest := []) (M := tbM226) rfl rfl rfl trivial (Nat.le_of_ble_eq_true rfl) (Nat.le_of_ble_eq_true rfl) (Nat.le_of_ble_eq_true rfl) ?_
      refine e3_mono (sM_fails L xs _ _ _ _ _ h) (fun r H4 G5 h => ?_)
      obtain ⟨rfl, h⟩ := h
      change e3_Ev _ _ _ _ 34 [(2, 40), (0, l1), (0, x3)] [] H4 G5 _
      refine e3_K [0] 65 [(2, 40), (0, l1), (0, x3)] [] (H4) (G5) (wZ L xs) (M := tbM226) rfl rfl trivial ?_
      exact sM_binds_65 L xs Q _ _ _ _ h
    · replace h := h.2 hc
      exact sM_binds_37 L xs Q _ _ _ _ h
/-- LetterPostModel.number()I -/
def wM_number_54 (Q : Int → e3_H → e3_G → Prop) (s0 : Int) (H : e3_H) (G : e3_G) : Prop :=
  Q s0 H G
def wM_number_44 (Q : Int → e3_H → e3_G → Prop) (l1 : Int) (l2 : Int) (H : e3_H) (G : e3_G) : Prop :=
  (((l1 : Int) = 0 → (wM_number_54 Q l2 H G)) ∧ (¬ ((l1 : Int) = 0) → (wM_number_54 Q (e3_w32 (-l2)) H G)))
def wM_number_27 (Q : Int → e3_H → e3_G → Prop) (l1 : Int) (H : e3_H) (G : e3_G) : Prop :=
  ((((H 40 7) : Int) = 0 → (wM_next (fun H1 G2 => (wM_number_44 Q l1 (e3_w32 (H 40 4)) H1 G2)) H G)) ∧ (¬ (((H 40 7) : Int) = 0) → (wM_number_44 Q l1 (e3_w32 (H 40 4)) H G)))
def wM_number (Q : Int → e3_H → e3_G → Prop)  (H : e3_H) (G : e3_G) : Prop :=
  (wM_takes (fun x3 H1 G2 => ((((H1 40 7) : Int) = 0 → ((((H1 40 3) : Int) = 3 → (wM_number_27 Q x3 H1 G2)) ∧ (¬ (((H1 40 3) : Int) = 3) → (wM_stop (fun H4 G5 => (wM_number_27 Q x3 H4 G5)) 2 H1 G2)))) ∧ (¬ (((H1 40 7) : Int) = 0) → (wM_number_27 Q x3 H1 G2)))) 45 H G)
set_option maxRecDepth 100000 in
set_option maxHeartbeats 4000000 in
theorem sM_number_54 (L : Nat) (xs : Nat → Int32) (Q : Int → e3_H → e3_G → Prop) (s0 : Int) (H : e3_H) (G : e3_G) (h : wM_number_54 Q s0 H G) : e3_Ev (wB L xs) 5 111 228 54 [(3, 0), (3, 0), (3, 0)] [(0, s0)] H G (e3_q0 Q) := by
  unfold wM_number_54 at h
  exact e3_reti (M := tbM228) rfl rfl rfl ⟨_, rfl, h⟩
set_option maxRecDepth 100000 in
set_option maxHeartbeats 4000000 in
theorem sM_number_44 (L : Nat) (xs : Nat → Int32) (Q : Int → e3_H → e3_G → Prop) (l1 : Int) (l2 : Int) (H : e3_H) (G : e3_G) (h : wM_number_44 Q l1 l2 H G) : e3_Ev (wB L xs) 5 111 228 44 [(3, 0), (0, l1), (0, l2)] [] H G (e3_q0 Q) := by
  unfold wM_number_44 at h
  refine e3_K [0] 45 [(3, 0), (0, l1), (0, l2)] [(0, l1)] (H) (G) (wZ L xs) (M := tbM228) rfl rfl trivial ?_
  refine e3_br (M := tbM228) rfl rfl rfl Iff.rfl (fun hc => ?_) (fun hc => ?_)
  · replace h := h.1 hc
    refine e3_K [0] 54 [(3, 0), (0, l1), (0, l2)] [(0, l2)] (H) (G) (wZ L xs) (M := tbM228) rfl rfl trivial ?_
    refine e3_fgt [false, false, false] ?_
    exact sM_number_54 L xs Q _ _ _ h
  · replace h := h.2 hc
    refine e3_K [0, 0, 0] 54 [(3, 0), (0, l1), (0, l2)] [(0, (e3_w32 (-l2)))] (H) (G) (wZ L xs) (M := tbM228) rfl rfl trivial ?_
    refine e3_fgt [false, false, false] ?_
    exact sM_number_54 L xs Q _ _ _ h
set_option maxRecDepth 100000 in
set_option maxHeartbeats 4000000 in
theorem sM_number_27 (L : Nat) (xs : Nat → Int32) (Q : Int → e3_H → e3_G → Prop) (l1 : Int) (H : e3_H) (G : e3_G) (h : wM_number_27 Q l1 H G) : e3_Ev (wB L xs) 5 111 228 27 [(2, 40), (0, l1), (3, 0)] [] H G (e3_q0 Q) := by
  unfold wM_number_27 at h
  refine e3_K [0, 2, 0, 0, 0, 2] 37 [(2, 40), (0, l1), (0, (e3_w32 (H 40 4)))] [(0, (H 40 7))] (H) (G) (wZ L xs) (M := tbM228) rfl rfl ⟨trivial, trivial, trivial⟩ ?_
  refine e3_br (M := tbM228) rfl rfl rfl Iff.rfl (fun hc => ?_) (fun hc => ?_)
  · replace h := h.1 hc
    refine e3_K [0] 41 [(2, 40), (0, l1), (0, (e3_w32 (H 40 4)))] [(2, 40)] (H) (G) (wZ L xs) (M := tbM228) rfl rfl trivial ?_
    refine e3_call (o := 0) (k := 201) (M2 := tbM201) (f1 := 3) (w1 := 67) (as := [(2, 40)]) (rest := []) (M := tbM228) rfl rfl rfl trivial (Nat.le_of_ble_eq_true rfl) (Nat.le_of_ble_eq_true rfl) (Nat.le_of_ble_eq_true rfl) ?_
    refine e3_mono (sM_next L xs _ _ _ h) (fun r H1 G2 h => ?_)
    obtain ⟨rfl, h⟩ := h
    change e3_Ev _ _ _ _ 44 [(2, 40), (0, l1), (0, (e3_w32 (H 40 4)))] [] H1 G2 _
    refine e3_fgt [false, true, true] ?_
    exact sM_number_44 L xs Q _ _ _ _ h
  · replace h := h.2 hc
    refine e3_fgt [false, true, true] ?_
    exact sM_number_44 L xs Q _ _ _ _ h
set_option maxRecDepth 100000 in
set_option maxHeartbeats 4000000 in
theorem sM_number (L : Nat) (xs : Nat → Int32) (Q : Int → e3_H → e3_G → Prop)  (H : e3_H) (G : e3_G) (h : wM_number Q  H G) : e3_Ev (wB L xs) 5 111 228 0 [(2, 40), (3, 0), (3, 0)] [] H G (e3_q0 Q) := by
  unfold wM_number at h
  refine e3_K [0, 0] 3 [(2, 40), (3, 0), (3, 0)] [(0, 45), (2, 40)] (H) (G) (wZ L xs) (M := tbM228) rfl rfl trivial ?_
  refine e3_call (o := 0) (k := 214) (M2 := tbM214) (f1 := 4) (w1 := 89) (as := [(2, 40), (0, 45)]) (rest := []) (M := tbM228) rfl rfl rfl trivial (Nat.le_of_ble_eq_true rfl) (Nat.le_of_ble_eq_true rfl) (Nat.le_of_ble_eq_true rfl) ?_
  refine e3_mono (sM_takes L xs _ _ _ _ h) (fun r H1 G2 h => ?_)
  obtain ⟨x3, rfl, h⟩ := h
  change e3_Ev _ _ _ _ 6 [(2, 40), (3, 0), (3, 0)] [(0, x3)] H1 G2 _
  refine e3_K [0, 0, 2] 11 [(2, 40), (0, x3), (3, 0)] [(0, (H1 40 7))] (H1) (G2) (wZ L xs) (M := tbM228) rfl rfl ⟨trivial, trivial⟩ ?_
  refine e3_br (M := tbM228) rfl rfl rfl Iff.rfl (fun hc => ?_) (fun hc => ?_)
  · replace h := h.1 hc
    refine e3_K [0, 2, 0] 19 [(2, 40), (0, x3), (3, 0)] [(0, 3), (0, (H1 40 3))] (H1) (G2) (wZ L xs) (M := tbM228) rfl rfl ⟨trivial, trivial⟩ ?_
    refine e3_br (M := tbM228) rfl rfl rfl Iff.rfl (fun hc => ?_) (fun hc => ?_)
    · replace h := h.1 hc
      exact sM_number_27 L xs Q _ _ _ h
    · replace h := h.2 hc
      refine e3_K [0, 0] 24 [(2, 40), (0, x3), (3, 0)] [(0, 2), (2, 40)] (H1) (G2) (wZ L xs) (M := tbM228) rfl rfl trivial ?_
      refine e3_call (o := 0) (k := 209) (M2 := tbM209) (f1 := 1) (w1 := 22) (as := [(2, 40), (0, 2)]) (rest := []) (M := tbM228) rfl rfl rfl trivial (Nat.le_of_ble_eq_true rfl) (Nat.le_of_ble_eq_true rfl) (Nat.le_of_ble_eq_true rfl) ?_
      refine e3_mono (sM_stop L xs _ _ _ _ h) (fun r H4 G5 h => ?_)
      obtain ⟨rfl, h⟩ := h
      change e3_Ev _ _ _ _ 27 [(2, 40), (0, x3), (3, 0)] [] H4 G5 _
      exact sM_number_27 L xs Q _ _ _ h
  · replace h := h.2 hc
    exact sM_number_27 L xs Q _ _ _ h
/-- LetterPostModel.range(II)V -/
def wM_range_75 (Q : e3_H → e3_G → Prop)  (H : e3_H) (G : e3_G) : Prop :=
  Q H G
def wM_range (Q : e3_H → e3_G → Prop) (l1 : Int) (l2 : Int) (H : e3_H) (G : e3_G) : Prop :=
  (wM_number (fun x3 H1 G2 => ((0 : Int) ≤ l1 ∧ (l1 : Int) < 1700) ∧ ∀ H4 : e3_H, H4 = e3_up H1 48 l1 x3 → ((0 : Int) ≤ l1 ∧ (l1 : Int) < 1700) ∧ ((0 : Int) ≤ l1 ∧ (l1 : Int) < 1700) ∧ ∀ H6 : e3_H, H6 = e3_up H4 49 l1 (H4 48 l1) → ((((H6 40 7) : Int) = 0 → (wM_isSign (fun x11 H9 G10 => (((x11 : Int) = 0 → (wM_range_75 Q H9 G10)) ∧ (¬ ((x11 : Int) = 0) → (wM_next (fun H12 G13 => (wM_number (fun x17 H15 G16 => ((0 : Int) ≤ l1 ∧ (l1 : Int) < 1700) ∧ ∀ H18 : e3_H, H18 = e3_up H15 49 l1 x17 → ((0 : Int) ≤ l1 ∧ (l1 : Int) < 1700) ∧ ((0 : Int) ≤ l1 ∧ (l1 : Int) < 1700) ∧ ((((H18 49 l1) : Int) < (H18 48 l1) → (wM_fails (fun H22 G23 => (wM_range_75 Q H22 G23)) 7 l2 H18 G16)) ∧ (¬ (((H18 49 l1) : Int) < (H18 48 l1)) → (wM_range_75 Q H18 G16)))) H12 G13)) H9 G10)))) 256 H6 G2)) ∧ (¬ (((H6 40 7) : Int) = 0) → (wM_range_75 Q H6 G2)))) H G)
set_option maxRecDepth 100000 in
set_option maxHeartbeats 4000000 in
theorem sM_range_75 (L : Nat) (xs : Nat → Int32) (Q : e3_H → e3_G → Prop)  (H : e3_H) (G : e3_G) (h : wM_range_75 Q  H G) : e3_Ev (wB L xs) 6 133 227 75 [(3, 0), (3, 0), (3, 0)] [] H G (e3_qv Q) := by
  unfold wM_range_75 at h
  exact e3_retv (M := tbM227) rfl rfl rfl ⟨rfl, h⟩
set_option maxRecDepth 100000 in
set_option maxHeartbeats 4000000 in
theorem sM_range (L : Nat) (xs : Nat → Int32) (Q : e3_H → e3_G → Prop) (l1 : Int) (l2 : Int) (H : e3_H) (G : e3_G) (h : wM_range Q l1 l2 H G) : e3_Ev (wB L xs) 6 133 227 0 [(2, 40), (0, l1), (0, l2)] [] H G (e3_qv Q) := by
  unfold wM_range at h
  refine e3_K [0, 4, 0, 0] 6 [(2, 40), (0, l1), (0, l2)] [(2, 40), (0, l1), (2, 48)] (H) (G) (wZ L xs) (M := tbM227) rfl rfl ⟨trivial, trivial⟩ ?_
  refine e3_call (o := 0) (k := 228) (M2 := tbM228) (f1 := 5) (w1 := 111) (as := [(2, 40)]) (rest := [(0, l1), (2, 48)]) (M := tbM227) rfl rfl rfl trivial (Nat.le_of_ble_eq_true rfl) (Nat.le_of_ble_eq_true rfl) (Nat.le_of_ble_eq_true rfl) ?_
  refine e3_mono (sM_number L xs _ _ _ h) (fun r H1 G2 h => ?_)
  obtain ⟨x3, rfl, h⟩ := h
  change e3_Ev _ _ _ _ 9 [(2, 40), (0, l1), (0, l2)] [(0, x3), (0, l1), (2, 48)] H1 G2 _
  obtain ⟨o5, h⟩ := h
  refine e3_K [2] 10 [(2, 40), (0, l1), (0, l2)] [] (e3_up H1 48 l1 x3) (G2) (wZ L xs) (M := tbM227) rfl rfl ⟨o5, trivial⟩ ?_
  generalize hH4 : (e3_up H1 48 l1 x3) = H4
  replace h := h H4 hH4.symm
  obtain ⟨o7, o8, h⟩ := h
  refine e3_K [0, 4, 0, 0, 4, 0, 2, 2] 22 [(2, 40), (0, l1), (0, l2)] [] (e3_up H4 49 l1 (H4 48 l1)) (G2) (wZ L xs) (M := tbM227) rfl rfl ⟨trivial, trivial, o7, o8, trivial⟩ ?_
  generalize hH6 : (e3_up H4 49 l1 (H4 48 l1)) = H6
  replace h := h H6 hH6.symm
  refine e3_K [0, 2] 26 [(2, 40), (0, l1), (0, l2)] [(0, (H6 40 7))] (H6) (G2) (wZ L xs) (M := tbM227) rfl rfl ⟨trivial, trivial⟩ ?_
  refine e3_br (M := tbM227) rfl rfl rfl Iff.rfl (fun hc => ?_) (fun hc => ?_)
  · replace h := h.1 hc
    refine e3_K [0, 0] 33 [(2, 40), (0, l1), (0, l2)] [(0, 256), (2, 40)] (H6) (G2) (wZ L xs) (M := tbM227) rfl rfl trivial ?_
    refine e3_call (o := 0) (k := 215) (M2 := tbM215) (f1 := 0) (w1 := 0) (as := [(2, 40), (0, 256)]) (rest := []) (M := tbM227) rfl rfl rfl trivial (Nat.le_of_ble_eq_true rfl) (Nat.le_of_ble_eq_true rfl) (Nat.le_of_ble_eq_true rfl) ?_
    refine e3_mono (sM_isSign L xs _ _ _ _ h) (fun r H9 G10 h => ?_)
    obtain ⟨x11, rfl, h⟩ := h
    change e3_Ev _ _ _ _ 36 [(2, 40), (0, l1), (0, l2)] [(0, x11)] H9 G10 _
    refine e3_br (M := tbM227) rfl rfl rfl Iff.rfl (fun hc => ?_) (fun hc => ?_)
    · replace h := h.1 hc
      refine e3_fgt [false, false, false] ?_
      exact sM_range_75 L xs Q _ _ h
    · replace h := h.2 hc
      refine e3_K [0] 40 [(2, 40), (0, l1), (0, l2)] [(2, 40)] (H9) (G10) (wZ L xs) (M := tbM227) rfl rfl trivial ?_
      refine e3_call (o := 0) (k := 201) (M2 := tbM201) (f1 := 3) (w1 := 67) (as := [(2, 40)]) (rest := []) (M := tbM227) rfl rfl rfl trivial (Nat.le_of_ble_eq_true rfl) (Nat.le_of_ble_eq_true rfl) (Nat.le_of_ble_eq_true rfl) ?_
      refine e3_mono (sM_next L xs _ _ _ h) (fun r H12 G13 h => ?_)
      obtain ⟨rfl, h⟩ := h
      change e3_Ev _ _ _ _ 43 [(2, 40), (0, l1), (0, l2)] [] H12 G13 _
      refine e3_K [0, 4, 0, 0] 49 [(2, 40), (0, l1), (0, l2)] [(2, 40), (0, l1), (2, 49)] (H12) (G13) (wZ L xs) (M := tbM227) rfl rfl ⟨trivial, trivial⟩ ?_
      refine e3_call (o := 0) (k := 228) (M2 := tbM228) (f1 := 5) (w1 := 111) (as := [(2, 40)]) (rest := [(0, l1), (2, 49)]) (M := tbM227) rfl rfl rfl trivial (Nat.le_of_ble_eq_true rfl) (Nat.le_of_ble_eq_true rfl) (Nat.le_of_ble_eq_true rfl) ?_
      refine e3_mono (sM_number L xs _ _ _ h) (fun r H15 G16 h => ?_)
      obtain ⟨x17, rfl, h⟩ := h
      change e3_Ev _ _ _ _ 52 [(2, 40), (0, l1), (0, l2)] [(0, x17), (0, l1), (2, 49)] H15 G16 _
      obtain ⟨o19, h⟩ := h
      refine e3_K [2] 53 [(2, 40), (0, l1), (0, l2)] [] (e3_up H15 49 l1 x17) (G16) (wZ L xs) (M := tbM227) rfl rfl ⟨o19, trivial⟩ ?_
      generalize hH18 : (e3_up H15 49 l1 x17) = H18
      replace h := h H18 hH18.symm
      obtain ⟨o20, o21, h⟩ := h
      refine e3_K [0, 4, 0, 2, 0, 4, 0, 2] 65 [(2, 40), (0, l1), (0, l2)] [(0, (H18 48 l1)), (0, (H18 49 l1))] (H18) (G16) (wZ L xs) (M := tbM227) rfl rfl ⟨trivial, o20, trivial, o21, trivial⟩ ?_
      refine e3_br (M := tbM227) rfl rfl rfl Iff.rfl (fun hc => ?_) (fun hc => ?_)
      · replace h := h.1 hc
        refine e3_K [0, 0, 0] 72 [(2, 40), (0, l1), (0, l2)] [(0, l2), (0, 7), (2, 40)] (H18) (G16) (wZ L xs) (M := tbM227) rfl rfl trivial ?_
        refine e3_call (o := 0) (k := 210) (M2 := tbM210) (f1 := 0) (w1 := 0) (as := [(2, 40), (0, 7), (0, l2)]) (rest := []) (M := tbM227) rfl rfl rfl trivial (Nat.le_of_ble_eq_true rfl) (Nat.le_of_ble_eq_true rfl) (Nat.le_of_ble_eq_true rfl) ?_
        refine e3_mono (sM_fails L xs _ _ _ _ _ h) (fun r H22 G23 h => ?_)
        obtain ⟨rfl, h⟩ := h
        change e3_Ev _ _ _ _ 75 [(2, 40), (0, l1), (0, l2)] [] H22 G23 _
        refine e3_fgt [false, false, false] ?_
        exact sM_range_75 L xs Q _ _ h
      · replace h := h.2 hc
        refine e3_fgt [false, false, false] ?_
        exact sM_range_75 L xs Q _ _ h
  · replace h := h.2 hc
    refine e3_fgt [false, false, false] ?_
    exact sM_range_75 L xs Q _ _ h
/-- LetterPostModel.opens(II)V -/
def wM_opens (Q : e3_H → e3_G → Prop) (l1 : Int) (l2 : Int) (H : e3_H) (G : e3_G) : Prop :=
  ((0 : Int) ≤ (H 40 32) ∧ ((H 40 32) : Int) < 8) ∧ ∀ H1 : e3_H, H1 = e3_up H 59 (H 40 32) l1 → ((0 : Int) ≤ (H1 40 32) ∧ ((H1 40 32) : Int) < 8) ∧ ∀ H3 : e3_H, H3 = e3_up H1 60 (H1 40 32) 0 → ((0 : Int) ≤ (H3 40 32) ∧ ((H3 40 32) : Int) < 8) ∧ ∀ H5 : e3_H, H5 = e3_up H3 61 (H3 40 32) (-4) → ((0 : Int) ≤ (H5 40 32) ∧ ((H5 40 32) : Int) < 8) ∧ ∀ H7 : e3_H, H7 = e3_up H5 62 (H5 40 32) l2 → ((0 : Int) ≤ (H7 40 32) ∧ ((H7 40 32) : Int) < 8) ∧ ∀ H9 : e3_H, H9 = e3_up H7 63 (H7 40 32) (H7 40 31) → ((0 : Int) ≤ (H9 40 32) ∧ ((H9 40 32) : Int) < 8) ∧ ∀ H11 : e3_H, H11 = e3_up H9 64 (H9 40 32) 0 → ((0 : Int) ≤ (H11 40 32) ∧ ((H11 40 32) : Int) < 8) ∧ ∀ H13 : e3_H, H13 = e3_up H11 65 (H11 40 32) (e3_and 0 1) → ∀ H15 : e3_H, H15 = e3_up H13 40 32 (e3_w32 ((H13 40 32) + 1)) → Q H15 G
set_option maxRecDepth 100000 in
set_option maxHeartbeats 4000000 in
theorem sM_opens (L : Nat) (xs : Nat → Int32) (Q : e3_H → e3_G → Prop) (l1 : Int) (l2 : Int) (H : e3_H) (G : e3_G) (h : wM_opens Q l1 l2 H G) : e3_Ev (wB L xs) 0 0 229 0 [(2, 40), (0, l1), (0, l2)] [] H G (e3_qv Q) := by
  unfold wM_opens at h
  obtain ⟨o2, h⟩ := h
  refine e3_K [0, 4, 0, 2, 0, 2] 10 [(2, 40), (0, l1), (0, l2)] [] (e3_up H 59 (H 40 32) l1) (G) (wZ L xs) (M := tbM229) rfl rfl ⟨trivial, trivial, o2, trivial⟩ ?_
  generalize hH1 : (e3_up H 59 (H 40 32) l1) = H1
  replace h := h H1 hH1.symm
  obtain ⟨o4, h⟩ := h
  refine e3_K [0, 4, 0, 2, 0, 2] 20 [(2, 40), (0, l1), (0, l2)] [] (e3_up H1 60 (H1 40 32) 0) (G) (wZ L xs) (M := tbM229) rfl rfl ⟨trivial, trivial, o4, trivial⟩ ?_
  generalize hH3 : (e3_up H1 60 (H1 40 32) 0) = H3
  replace h := h H3 hH3.symm
  obtain ⟨o6, h⟩ := h
  refine e3_K [0, 4, 0, 2, 0, 2] 31 [(2, 40), (0, l1), (0, l2)] [] (e3_up H3 61 (H3 40 32) (-4)) (G) (wZ L xs) (M := tbM229) rfl rfl ⟨trivial, trivial, o6, trivial⟩ ?_
  generalize hH5 : (e3_up H3 61 (H3 40 32) (-4)) = H5
  replace h := h H5 hH5.symm
  obtain ⟨o8, h⟩ := h
  refine e3_K [0, 4, 0, 2, 0, 2] 41 [(2, 40), (0, l1), (0, l2)] [] (e3_up H5 62 (H5 40 32) l2) (G) (wZ L xs) (M := tbM229) rfl rfl ⟨trivial, trivial, o8, trivial⟩ ?_
  generalize hH7 : (e3_up H5 62 (H5 40 32) l2) = H7
  replace h := h H7 hH7.symm
  obtain ⟨o10, h⟩ := h
  refine e3_K [0, 4, 0, 2, 0, 2, 2] 54 [(2, 40), (0, l1), (0, l2)] [] (e3_up H7 63 (H7 40 32) (H7 40 31)) (G) (wZ L xs) (M := tbM229) rfl rfl ⟨trivial, trivial, trivial, o10, trivial⟩ ?_
  generalize hH9 : (e3_up H7 63 (H7 40 32) (H7 40 31)) = H9
  replace h := h H9 hH9.symm
  obtain ⟨o12, h⟩ := h
  refine e3_K [0, 4, 0, 2, 0, 2] 64 [(2, 40), (0, l1), (0, l2)] [] (e3_up H9 64 (H9 40 32) 0) (G) (wZ L xs) (M := tbM229) rfl rfl ⟨trivial, trivial, o12, trivial⟩ ?_
  generalize hH11 : (e3_up H9 64 (H9 40 32) 0) = H11
  replace h := h H11 hH11.symm
  obtain ⟨o14, h⟩ := h
  refine e3_K [0, 4, 0, 2, 0, 2] 74 [(2, 40), (0, l1), (0, l2)] [] (e3_up H11 65 (H11 40 32) (e3_and 0 1)) (G) (wZ L xs) (M := tbM229) rfl rfl ⟨trivial, trivial, o14, trivial⟩ ?_
  generalize hH13 : (e3_up H11 65 (H11 40 32) (e3_and 0 1)) = H13
  replace h := h H13 hH13.symm
  refine e3_K [0, 0, 2, 0, 0, 2] 84 [(2, 40), (0, l1), (0, l2)] [] (e3_up H13 40 32 (e3_w32 ((H13 40 32) + 1))) (G) (wZ L xs) (M := tbM229) rfl rfl ⟨trivial, trivial, trivial⟩ ?_
  generalize hH15 : (e3_up H13 40 32 (e3_w32 ((H13 40 32) + 1))) = H15
  replace h := h H15 hH15.symm
  exact e3_retv (M := tbM229) rfl rfl rfl ⟨rfl, h⟩
/-- LetterPostModel.begins(IZ)I -/
def wM_begins_619 (Q : Int → e3_H → e3_G → Prop) (l9 : Int) (H : e3_H) (G : e3_G) : Prop :=
  Q l9 H G
def wM_begins_600 (Q : Int → e3_H → e3_G → Prop) (l3 : Int) (l9 : Int) (H : e3_H) (G : e3_G) : Prop :=
  ((0 : Int) ≤ l9 ∧ (l9 : Int) < 1700) ∧ ((((H 46 l9) : Int) = 6 → (wM_opens (fun H2 G3 => (wM_begins_619 Q l9 H2 G3)) l9 l3 H G)) ∧ (¬ (((H 46 l9) : Int) = 6) → (wM_begins_619 Q l9 H G)))
def wM_begins_506 (Q : Int → e3_H → e3_G → Prop) (l3 : Int) (l4 : Int) (l8 : Int) (l9 : Int) (s0 : Int) (s1 : Int) (H : e3_H) (G : e3_G) : Prop :=
  ((0 : Int) ≤ s1 ∧ (s1 : Int) < 1700) ∧ ∀ H1 : e3_H, H1 = e3_up H 50 s1 s0 → ((((H1 40 7) : Int) = 0 → (((l4 : Int) = 0 → (wM_next (fun H3 G4 => ((0 : Int) ≤ l9 ∧ (l9 : Int) < 1700) ∧ ((((H3 46 l9) : Int) = 5 → ((((H3 40 7) : Int) = 0 → (wM_isSign (fun x9 H7 G8 => (((x9 : Int) = 0 → (wM_begins_600 Q l3 l9 H7 G8)) ∧ (¬ ((x9 : Int) = 0) → ((0 : Int) ≤ l8 ∧ (l8 : Int) < 24) ∧ ((((H7 44 l8) : Int) = 0 → (wM_fails (fun H11 G12 => (wM_begins_619 Q l9 H11 G12)) 6 (H7 40 5) H7 G8)) ∧ (¬ (((H7 44 l8) : Int) = 0) → (wM_next (fun H14 G15 => (wM_opens (fun H17 G18 => (wM_begins_619 Q l9 H17 G18)) l9 l3 H14 G15)) H7 G8)))))) 40 H3 G4)) ∧ (¬ (((H3 40 7) : Int) = 0) → (wM_begins_600 Q l3 l9 H3 G4)))) ∧ (¬ (((H3 46 l9) : Int) = 5) → (wM_begins_600 Q l3 l9 H3 G4)))) H1 G)) ∧ (¬ ((l4 : Int) = 0) → (wM_range (fun H20 G21 => Q l9 H20 G21) l9 l3 H1 G)))) ∧ (¬ (((H1 40 7) : Int) = 0) → Q (-4) H1 G))
def wM_begins_483 (Q : Int → e3_H → e3_G → Prop) (l3 : Int) (l4 : Int) (l8 : Int) (l9 : Int) (s0 : Int) (s1 : Int) (H : e3_H) (G : e3_G) : Prop :=
  ((0 : Int) ≤ s1 ∧ (s1 : Int) < 1700) ∧ ∀ H1 : e3_H, H1 = e3_up H 48 s1 s0 → ((((H1 40 3) : Int) = 4 → (wM_begins_506 Q l3 l4 l8 l9 (H1 40 4) l9 H1 G)) ∧ (¬ (((H1 40 3) : Int) = 4) → (wM_begins_506 Q l3 l4 l8 l9 0 l9 H1 G)))
def wM_begins_450 (Q : Int → e3_H → e3_G → Prop) (l3 : Int) (l4 : Int) (l8 : Int) (l9 : Int) (H : e3_H) (G : e3_G) : Prop :=
  ((((H 40 3) : Int) = 2 → (wM_begins_483 Q l3 l4 l8 l9 l8 l9 H G)) ∧ (¬ (((H 40 3) : Int) = 2) → (wM_isWord (fun x3 H1 G2 => (((x3 : Int) = 0 → (wM_begins_483 Q l3 l4 l8 l9 0 l9 H1 G2)) ∧ (¬ ((x3 : Int) = 0) → (wM_begins_483 Q l3 l4 l8 l9 1 l9 H1 G2)))) 8 H G)))
def wM_begins_420 (Q : Int → e3_H → e3_G → Prop) (l1 : Int) (l3 : Int) (l4 : Int) (l8 : Int) (l9 : Int) (H : e3_H) (G : e3_G) : Prop :=
  ((((H 40 7) : Int) = 0 → ((((H 40 3) : Int) = 1 → (wM_binds (fun x3 H1 G2 => ((0 : Int) ≤ l9 ∧ (l9 : Int) < 1700) ∧ ∀ H4 : e3_H, H4 = e3_up H1 53 l9 x3 → (wM_begins_450 Q l3 l4 l8 l9 H4 G2)) l1 H G)) ∧ (¬ (((H 40 3) : Int) = 1) → (wM_begins_450 Q l3 l4 l8 l9 H G)))) ∧ (¬ (((H 40 7) : Int) = 0) → Q (-4) H G))
def wM_begins_409 (Q : Int → e3_H → e3_G → Prop) (l1 : Int) (l2 : Int) (l3 : Int) (l4 : Int) (l8 : Int) (l9 : Int) (H : e3_H) (G : e3_G) : Prop :=
  (((l2 : Int) = 0 → (wM_begins_420 Q l1 l3 l4 l8 l9 H G)) ∧ (¬ ((l2 : Int) = 0) → (wM_fails (fun H1 G2 => (wM_begins_420 Q l1 l3 l4 l8 l9 H1 G2)) 9 l3 H G)))
def wM_begins_354 (Q : Int → e3_H → e3_G → Prop) (l1 : Int) (l2 : Int) (l3 : Int) (l4 : Int) (l8 : Int) (s0 : Int) (H : e3_H) (G : e3_G) : Prop :=
  (wM_newPattern (fun x3 H1 G2 => ((((H1 40 3) : Int) = 1 → ((((H1 40 7) : Int) = 0 → (wM_nameOf (fun x6 H4 G5 => (((x6 : Int) < 0 → (wM_begins_409 Q l1 l2 l3 l4 l8 x3 H4 G5)) ∧ (¬ ((x6 : Int) < 0) → ((((e3_and (e3_shr (H4 40 31) x6) 1) : Int) = 1 → (wM_fails (fun H7 G8 => (wM_begins_409 Q l1 l2 l3 l4 l8 x3 H7 G8)) 3 l3 H4 G5)) ∧ (¬ (((e3_and (e3_shr (H4 40 31) x6) 1) : Int) = 1) → (wM_begins_409 Q l1 l2 l3 l4 l8 x3 H4 G5)))))) (H1 40 4) H1 G2)) ∧ (¬ (((H1 40 7) : Int) = 0) → (wM_begins_409 Q l1 l2 l3 l4 l8 x3 H1 G2)))) ∧ (¬ (((H1 40 3) : Int) = 1) → (wM_begins_409 Q l1 l2 l3 l4 l8 x3 H1 G2)))) s0 l1 H G)
def wM_begins_283 (Q : Int → e3_H → e3_G → Prop) (l1 : Int) (l2 : Int) (l3 : Int) (l4 : Int) (l5 : Int) (l8 : Int) (H : e3_H) (G : e3_G) : Prop :=
  (((l4 : Int) = 0 → (((l5 : Int) = 0 → ((((H 40 3) : Int) = 4 → (wM_begins_354 Q l1 l2 l3 l4 l8 3 H G)) ∧ (¬ (((H 40 3) : Int) = 4) → ((((H 40 3) : Int) = 2 → (wM_begins_354 Q l1 l2 l3 l4 l8 5 H G)) ∧ (¬ (((H 40 3) : Int) = 2) → (wM_isSign (fun x3 H1 G2 => (((x3 : Int) = 0 → (wM_isWord (fun x6 H4 G5 => (((x6 : Int) = 0 → (wM_begins_354 Q l1 l2 l3 l4 l8 0 H4 G5)) ∧ (¬ ((x6 : Int) = 0) → (wM_begins_354 Q l1 l2 l3 l4 l8 4 H4 G5)))) 10 H1 G2)) ∧ (¬ ((x3 : Int) = 0) → (wM_begins_354 Q l1 l2 l3 l4 l8 6 H1 G2)))) 40 H G)))))) ∧ (¬ ((l5 : Int) = 0) → (wM_begins_354 Q l1 l2 l3 l4 l8 2 H G)))) ∧ (¬ ((l4 : Int) = 0) → (wM_begins_354 Q l1 l2 l3 l4 l8 1 H G)))
def wM_begins_277 (Q : Int → e3_H → e3_G → Prop) (l1 : Int) (l2 : Int) (l3 : Int) (l4 : Int) (l5 : Int) (l8 : Int) (H : e3_H) (G : e3_G) : Prop :=
  (wM_fails (fun H1 G2 => (wM_begins_283 Q l1 l2 l3 l4 l5 l8 H1 G2)) 5 l3 H G)
def wM_begins_235 (Q : Int → e3_H → e3_G → Prop) (l1 : Int) (l2 : Int) (l3 : Int) (l4 : Int) (l5 : Int) (l7 : Int) (l8 : Int) (H : e3_H) (G : e3_G) : Prop :=
  (((l7 : Int) = 0 → ((((H 40 3) : Int) = 2 → (((l1 : Int) < 3 → (wM_begins_277 Q l1 l2 l3 l4 l5 l8 H G)) ∧ (¬ ((l1 : Int) < 3) → (wM_isOf (fun x3 H1 G2 => (((x3 : Int) = 0 → (wM_isOf (fun x6 H4 G5 => (((x6 : Int) = 0 → (wM_begins_277 Q l1 l2 l3 l4 l5 l8 H4 G5)) ∧ (¬ ((x6 : Int) = 0) → (wM_begins_283 Q l1 l2 l3 l4 l5 l8 H4 G5)))) (e3_w32 (l1 - 3)) l8 H1 G2)) ∧ (¬ ((x3 : Int) = 0) → (wM_begins_283 Q l1 l2 l3 l4 l5 l8 H1 G2)))) l8 (e3_w32 (l1 - 3)) H G)))) ∧ (¬ (((H 40 3) : Int) = 2) → (wM_begins_283 Q l1 l2 l3 l4 l5 l8 H G)))) ∧ (¬ ((l7 : Int) = 0) → (wM_begins_277 Q l1 l2 l3 l4 l5 l8 H G)))
def wM_begins_209 (Q : Int → e3_H → e3_G → Prop) (l1 : Int) (l2 : Int) (l3 : Int) (l4 : Int) (l5 : Int) (l7 : Int) (s0 : Int) (H : e3_H) (G : e3_G) : Prop :=
  ((((H 40 3) : Int) = 2 → (((s0 : Int) = (-4) → (wM_fails (fun H1 G2 => (wM_begins_283 Q l1 l2 l3 l4 l5 s0 H1 G2)) 4 l3 H G)) ∧ (¬ ((s0 : Int) = (-4)) → (wM_begins_235 Q l1 l2 l3 l4 l5 l7 s0 H G)))) ∧ (¬ (((H 40 3) : Int) = 2) → (wM_begins_235 Q l1 l2 l3 l4 l5 l7 s0 H G)))
def wM_begins_186 (Q : Int → e3_H → e3_G → Prop) (l1 : Int) (l2 : Int) (l3 : Int) (l4 : Int) (l5 : Int) (s0 : Int) (H : e3_H) (G : e3_G) : Prop :=
  ((((H 40 3) : Int) = 2 → (wM_kindOf (fun x3 H1 G2 => (wM_begins_209 Q l1 l2 l3 l4 l5 s0 x3 H1 G2)) (H 40 4) H G)) ∧ (¬ (((H 40 3) : Int) = 2) → (wM_begins_209 Q l1 l2 l3 l4 l5 s0 (-4) H G)))
def wM_begins_185 (Q : Int → e3_H → e3_G → Prop) (l1 : Int) (l2 : Int) (l3 : Int) (l4 : Int) (l5 : Int) (H : e3_H) (G : e3_G) : Prop :=
  (wM_begins_186 Q l1 l2 l3 l4 l5 0 H G)
def wM_begins_181 (Q : Int → e3_H → e3_G → Prop) (l1 : Int) (l2 : Int) (l3 : Int) (l4 : Int) (l5 : Int) (H : e3_H) (G : e3_G) : Prop :=
  (wM_begins_186 Q l1 l2 l3 l4 l5 1 H G)
def wM_begins_167 (Q : Int → e3_H → e3_G → Prop) (l1 : Int) (l2 : Int) (l3 : Int) (l4 : Int) (l5 : Int) (H : e3_H) (G : e3_G) : Prop :=
  (wM_isWord (fun x3 H1 G2 => (((x3 : Int) = 0 → (wM_begins_185 Q l1 l2 l3 l4 l5 H1 G2)) ∧ (¬ ((x3 : Int) = 0) → (((l1 : Int) < 3 → (wM_begins_181 Q l1 l2 l3 l4 l5 H1 G2)) ∧ (¬ ((l1 : Int) < 3) → (wM_begins_185 Q l1 l2 l3 l4 l5 H1 G2)))))) 10 H G)
def wM_begins_154 (Q : Int → e3_H → e3_G → Prop) (l1 : Int) (l2 : Int) (l3 : Int) (l4 : Int) (l5 : Int) (H : e3_H) (G : e3_G) : Prop :=
  ((((H 40 3) : Int) = 4 → (((l1 : Int) = 2 → (wM_begins_167 Q l1 l2 l3 l4 l5 H G)) ∧ (¬ ((l1 : Int) = 2) → (wM_begins_181 Q l1 l2 l3 l4 l5 H G)))) ∧ (¬ (((H 40 3) : Int) = 4) → (wM_begins_167 Q l1 l2 l3 l4 l5 H G)))
def wM_begins_144 (Q : Int → e3_H → e3_G → Prop) (l1 : Int) (l2 : Int) (l3 : Int) (l4 : Int) (l5 : Int) (H : e3_H) (G : e3_G) : Prop :=
  (((l5 : Int) = 0 → (wM_begins_154 Q l1 l2 l3 l4 l5 H G)) ∧ (¬ ((l5 : Int) = 0) → (((l1 : Int) = 1 → (wM_begins_154 Q l1 l2 l3 l4 l5 H G)) ∧ (¬ ((l1 : Int) = 1) → (wM_begins_181 Q l1 l2 l3 l4 l5 H G)))))
def wM_begins_120 (Q : Int → e3_H → e3_G → Prop) (l1 : Int) (l2 : Int) (l3 : Int) (l4 : Int) (l5 : Int) (s0 : Int) (H : e3_H) (G : e3_G) : Prop :=
  (((s0 : Int) = 0 → (wM_stop (fun H1 G2 => Q (-4) H1 G2) 2 H G)) ∧ (¬ ((s0 : Int) = 0) → (((l4 : Int) = 0 → (wM_begins_144 Q l1 l2 l3 l4 l5 H G)) ∧ (¬ ((l4 : Int) = 0) → (((l1 : Int) = 0 → (wM_begins_144 Q l1 l2 l3 l4 l5 H G)) ∧ (¬ ((l1 : Int) = 0) → (wM_begins_181 Q l1 l2 l3 l4 l5 H G)))))))
def wM_begins_115 (Q : Int → e3_H → e3_G → Prop) (l1 : Int) (l2 : Int) (l3 : Int) (l4 : Int) (l5 : Int) (H : e3_H) (G : e3_G) : Prop :=
  (wM_begins_120 Q l1 l2 l3 l4 l5 1 H G)
def wM_begins_52 (Q : Int → e3_H → e3_G → Prop) (l1 : Int) (l2 : Int) (l3 : Int) (l4 : Int) (s0 : Int) (H : e3_H) (G : e3_G) : Prop :=
  (((l4 : Int) = 0 → (((s0 : Int) = 0 → ((((H 40 3) : Int) = 4 → (wM_begins_115 Q l1 l2 l3 l4 s0 H G)) ∧ (¬ (((H 40 3) : Int) = 4) → ((((H 40 3) : Int) = 1 → (wM_begins_115 Q l1 l2 l3 l4 s0 H G)) ∧ (¬ (((H 40 3) : Int) = 1) → ((((H 40 3) : Int) = 2 → (wM_begins_115 Q l1 l2 l3 l4 s0 H G)) ∧ (¬ (((H 40 3) : Int) = 2) → (wM_isSign (fun x3 H1 G2 => (((x3 : Int) = 0 → (wM_isSign (fun x6 H4 G5 => (((x6 : Int) = 0 → (wM_isWord (fun x9 H7 G8 => (((x9 : Int) = 0 → (wM_begins_120 Q l1 l2 l3 l4 s0 0 H7 G8)) ∧ (¬ ((x9 : Int) = 0) → (wM_begins_115 Q l1 l2 l3 l4 s0 H7 G8)))) 10 H4 G5)) ∧ (¬ ((x6 : Int) = 0) → (wM_begins_115 Q l1 l2 l3 l4 s0 H4 G5)))) 40 H1 G2)) ∧ (¬ ((x3 : Int) = 0) → (wM_begins_115 Q l1 l2 l3 l4 s0 H1 G2)))) 95 H G)))))))) ∧ (¬ ((s0 : Int) = 0) → (wM_begins_115 Q l1 l2 l3 l4 s0 H G)))) ∧ (¬ ((l4 : Int) = 0) → (wM_begins_115 Q l1 l2 l3 l4 s0 H G)))
def wM_begins_47 (Q : Int → e3_H → e3_G → Prop) (l1 : Int) (l2 : Int) (l3 : Int) (l4 : Int) (H : e3_H) (G : e3_G) : Prop :=
  (wM_begins_52 Q l1 l2 l3 l4 1 H G)
def wM_begins_27 (Q : Int → e3_H → e3_G → Prop) (l1 : Int) (l2 : Int) (l3 : Int) (s0 : Int) (H : e3_H) (G : e3_G) : Prop :=
  (wM_isWord (fun x3 H1 G2 => (((x3 : Int) = 0 → (wM_isWord (fun x6 H4 G5 => (((x6 : Int) = 0 → (wM_begins_52 Q l1 l2 l3 s0 0 H4 G5)) ∧ (¬ ((x6 : Int) = 0) → (wM_begins_47 Q l1 l2 l3 s0 H4 G5)))) 9 H1 G2)) ∧ (¬ ((x3 : Int) = 0) → (wM_begins_47 Q l1 l2 l3 s0 H1 G2)))) 8 H G)
def wM_begins_22 (Q : Int → e3_H → e3_G → Prop) (l1 : Int) (l2 : Int) (l3 : Int) (H : e3_H) (G : e3_G) : Prop :=
  (wM_begins_27 Q l1 l2 l3 1 H G)
def wM_begins (Q : Int → e3_H → e3_G → Prop) (l1 : Int) (l2 : Int) (H : e3_H) (G : e3_G) : Prop :=
  ((((H 40 3) : Int) = 3 → (wM_begins_22 Q l1 l2 (H 40 5) H G)) ∧ (¬ (((H 40 3) : Int) = 3) → (wM_isSign (fun x3 H1 G2 => (((x3 : Int) = 0 → (wM_begins_27 Q l1 l2 (H 40 5) 0 H1 G2)) ∧ (¬ ((x3 : Int) = 0) → (wM_begins_22 Q l1 l2 (H 40 5) H1 G2)))) 45 H G)))
set_option maxRecDepth 100000 in
set_option maxHeartbeats 4000000 in
theorem sM_begins_619 (L : Nat) (xs : Nat → Int32) (Q : Int → e3_H → e3_G → Prop) (l9 : Int) (H : e3_H) (G : e3_G) (h : wM_begins_619 Q l9 H G) : e3_Ev (wB L xs) 7 155 222 619 [(3, 0), (3, 0), (3, 0), (3, 0), (3, 0), (3, 0), (3, 0), (3, 0), (3, 0), (0, l9), (3, 0)] [] H G (e3_q0 Q) := by
  unfold wM_begins_619 at h
  refine e3_K [0] 621 [(3, 0), (3, 0), (3, 0), (3, 0), (3, 0), (3, 0), (3, 0), (3, 0), (3, 0), (0, l9), (3, 0)] [(0, l9)] (H) (G) (wZ L xs) (M := tbM222) rfl rfl trivial ?_
  exact e3_reti (M := tbM222) rfl rfl rfl ⟨_, rfl, h⟩
set_option maxRecDepth 100000 in
set_option maxHeartbeats 4000000 in
theorem sM_begins_600 (L : Nat) (xs : Nat → Int32) (Q : Int → e3_H → e3_G → Prop) (l3 : Int) (l9 : Int) (H : e3_H) (G : e3_G) (h : wM_begins_600 Q l3 l9 H G) : e3_Ev (wB L xs) 7 155 222 600 [(2, 40), (3, 0), (3, 0), (0, l3), (3, 0), (3, 0), (3, 0), (3, 0), (3, 0), (0, l9), (3, 0)] [] H G (e3_q0 Q) := by
  unfold wM_begins_600 at h
  obtain ⟨o1, h⟩ := h
  refine e3_K [0, 4, 0, 2, 0] 609 [(2, 40), (3, 0), (3, 0), (0, l3), (3, 0), (3, 0), (3, 0), (3, 0), (3, 0), (0, l9), (3, 0)] [(0, 6), (0, (H 46 l9))] (H) (G) (wZ L xs) (M := tbM222) rfl rfl ⟨trivial, o1, trivial⟩ ?_
  refine e3_br (M := tbM222) rfl rfl rfl Iff.rfl (fun hc => ?_) (fun hc => ?_)
  · replace h := h.1 hc
    refine e3_K [0, 0, 0] 616 [(2, 40), (3, 0), (3, 0), (0, l3), (3, 0), (3, 0), (3, 0), (3, 0), (3, 0), (0, l9), (3, 0)] [(0, l3), (0, l9), (2, 40)] (H) (G) (wZ L xs) (M := tbM222) rfl rfl trivial ?_
    refine e3_call (o := 0) (k := 229) (M2 := tbM229) (f1 := 0) (w1 := 0) (as := [(2, 40), (0, l9), (0, l3)]) (rest := []) (M := tbM222) rfl rfl rfl trivial (Nat.le_of_ble_eq_true rfl) (Nat.le_of_ble_eq_true rfl) (Nat.le_of_ble_eq_true rfl) ?_
    refine e3_mono (sM_opens L xs _ _ _ _ _ h) (fun r H2 G3 h => ?_)
    obtain ⟨rfl, h⟩ := h
    change e3_Ev _ _ _ _ 619 [(2, 40), (3, 0), (3, 0), (0, l3), (3, 0), (3, 0), (3, 0), (3, 0), (3, 0), (0, l9), (3, 0)] [] H2 G3 _
    refine e3_fgt [false, false, false, false, false, false, false, false, false, true, false] ?_
    exact sM_begins_619 L xs Q _ _ _ h
  · replace h := h.2 hc
    refine e3_fgt [false, false, false, false, false, false, false, false, false, true, false] ?_
    exact sM_begins_619 L xs Q _ _ _ h
set_option maxRecDepth 100000 in
set_option maxHeartbeats 4000000 in
theorem sM_begins_506 (L : Nat) (xs : Nat → Int32) (Q : Int → e3_H → e3_G → Prop) (l3 : Int) (l4 : Int) (l8 : Int) (l9 : Int) (s0 : Int) (s1 : Int) (H : e3_H) (G : e3_G) (h : wM_begins_506 Q l3 l4 l8 l9 s0 s1 H G) : e3_Ev (wB L xs) 7 155 222 506 [(2, 40), (3, 0), (3, 0), (0, l3), (0, l4), (3, 0), (3, 0), (3, 0), (0, l8), (0, l9), (3, 0)] [(1, s0), (0, s1), (2, 50)] H G (e3_q0 Q) := by
  unfold wM_begins_506 at h
  obtain ⟨o2, h⟩ := h
  refine e3_K [2] 507 [(2, 40), (3, 0), (3, 0), (0, l3), (0, l4), (3, 0), (3, 0), (3, 0), (0, l8), (0, l9), (3, 0)] [] (e3_up H 50 s1 s0) (G) (wZ L xs) (M := tbM222) rfl rfl ⟨o2, trivial⟩ ?_
  generalize hH1 : (e3_up H 50 s1 s0) = H1
  replace h := h H1 hH1.symm
  refine e3_K [0, 2] 511 [(2, 40), (3, 0), (3, 0), (0, l3), (0, l4), (3, 0), (3, 0), (3, 0), (0, l8), (0, l9), (3, 0)] [(0, (H1 40 7))] (H1) (G) (wZ L xs) (M := tbM222) rfl rfl ⟨trivial, trivial⟩ ?_
  refine e3_br (M := tbM222) rfl rfl rfl Iff.rfl (fun hc => ?_) (fun hc => ?_)
  · replace h := h.1 hc
    refine e3_K [0] 519 [(2, 40), (3, 0), (3, 0), (0, l3), (0, l4), (3, 0), (3, 0), (3, 0), (0, l8), (0, l9), (3, 0)] [(0, l4)] (H1) (G) (wZ L xs) (M := tbM222) rfl rfl trivial ?_
    refine e3_br (M := tbM222) rfl rfl rfl Iff.rfl (fun hc => ?_) (fun hc => ?_)
    · replace h := h.1 hc
      refine e3_K [0] 533 [(2, 40), (3, 0), (3, 0), (0, l3), (0, l4), (3, 0), (3, 0), (3, 0), (0, l8), (0, l9), (3, 0)] [(2, 40)] (H1) (G) (wZ L xs) (M := tbM222) rfl rfl trivial ?_
      refine e3_call (o := 0) (k := 201) (M2 := tbM201) (f1 := 3) (w1 := 67) (as := [(2, 40)]) (rest := []) (M := tbM222) rfl rfl rfl trivial (Nat.le_of_ble_eq_true rfl) (Nat.le_of_ble_eq_true rfl) (Nat.le_of_ble_eq_true rfl) ?_
      refine e3_mono (sM_next L xs _ _ _ h) (fun r H3 G4 h => ?_)
      obtain ⟨rfl, h⟩ := h
      change e3_Ev _ _ _ _ 536 [(2, 40), (3, 0), (3, 0), (0, l3), (0, l4), (3, 0), (3, 0), (3, 0), (0, l8), (0, l9), (3, 0)] [] H3 G4 _
      obtain ⟨o6, h⟩ := h
      refine e3_K [0, 4, 0, 2, 0] 544 [(2, 40), (3, 0), (3, 0), (0, l3), (0, l4), (3, 0), (3, 0), (3, 0), (0, l8), (0, l9), (3, 0)] [(0, 5), (0, (H3 46 l9))] (H3) (G4) (wZ L xs) (M := tbM222) rfl rfl ⟨trivial, o6, trivial⟩ ?_
      refine e3_br (M := tbM222) rfl rfl rfl Iff.rfl (fun hc => ?_) (fun hc => ?_)
      · replace h := h.1 hc
        refine e3_K [0, 2] 551 [(2, 40), (3, 0), (3, 0), (0, l3), (0, l4), (3, 0), (3, 0), (3, 0), (0, l8), (0, l9), (3, 0)] [(0, (H3 40 7))] (H3) (G4) (wZ L xs) (M := tbM222) rfl rfl ⟨trivial, trivial⟩ ?_
        refine e3_br (M := tbM222) rfl rfl rfl Iff.rfl (fun hc => ?_) (fun hc => ?_)
        · replace h := h.1 hc
          refine e3_K [0, 0] 557 [(2, 40), (3, 0), (3, 0), (0, l3), (0, l4), (3, 0), (3, 0), (3, 0), (0, l8), (0, l9), (3, 0)] [(0, 40), (2, 40)] (H3) (G4) (wZ L xs) (M := tbM222) rfl rfl trivial ?_
          refine e3_call (o := 0) (k := 215) (M2 := tbM215) (f1 := 0) (w1 := 0) (as := [(2, 40), (0, 40)]) (rest := []) (M := tbM222) rfl rfl rfl trivial (Nat.le_of_ble_eq_true rfl) (Nat.le_of_ble_eq_true rfl) (Nat.le_of_ble_eq_true rfl) ?_
          refine e3_mono (sM_isSign L xs _ _ _ _ h) (fun r H7 G8 h => ?_)
          obtain ⟨x9, rfl, h⟩ := h
          change e3_Ev _ _ _ _ 560 [(2, 40), (3, 0), (3, 0), (0, l3), (0, l4), (3, 0), (3, 0), (3, 0), (0, l8), (0, l9), (3, 0)] [(0, x9)] H7 G8 _
          refine e3_br (M := tbM222) rfl rfl rfl Iff.rfl (fun hc => ?_) (fun hc => ?_)
          · replace h := h.1 hc
            refine e3_fgt [true, false, false, true, false, false, false, false, false, true, false] ?_
            exact sM_begins_600 L xs Q _ _ _ _ h
          · replace h := h.2 hc
            obtain ⟨o10, h⟩ := h
            refine e3_K [0, 4, 0, 2] 570 [(2, 40), (3, 0), (3, 0), (0, l3), (0, l4), (3, 0), (3, 0), (3, 0), (0, l8), (0, l9), (3, 0)] [(0, (H7 44 l8))] (H7) (G8) (wZ L xs) (M := tbM222) rfl rfl ⟨trivial, o10, trivial⟩ ?_
            refine e3_br (M := tbM222) rfl rfl rfl Iff.rfl (fun hc => ?_) (fun hc => ?_)
            · replace h := h.1 hc
              refine e3_K [0, 0, 0, 2] 580 [(2, 40), (3, 0), (3, 0), (0, l3), (0, l4), (3, 0), (3, 0), (3, 0), (0, l8), (0, l9), (3, 0)] [(0, (H7 40 5)), (0, 6), (2, 40)] (H7) (G8) (wZ L xs) (M := tbM222) rfl rfl ⟨trivial, trivial⟩ ?_
              refine e3_call (o := 0) (k := 210) (M2 := tbM210) (f1 := 0) (w1 := 0) (as := [(2, 40), (0, 6), (0, (H7 40 5))]) (rest := []) (M := tbM222) rfl rfl rfl trivial (Nat.le_of_ble_eq_true rfl) (Nat.le_of_ble_eq_true rfl) (Nat.le_of_ble_eq_true rfl) ?_
              refine e3_mono (sM_fails L xs _ _ _ _ _ h) (fun r H11 G12 h => ?_)
              obtain ⟨rfl, h⟩ := h
              change e3_Ev _ _ _ _ 583 [(2, 40), (3, 0), (3, 0), (0, l3), (0, l4), (3, 0), (3, 0), (3, 0), (0, l8), (0, l9), (3, 0)] [] H11 G12 _
              refine e3_K [0] 619 [(2, 40), (3, 0), (3, 0), (0, l3), (0, l4), (3, 0), (3, 0), (3, 0), (0, l8), (0, l9), (3, 0)] [] (H11) (G12) (wZ L xs) (M := tbM222) rfl rfl trivial ?_
              refine e3_fgt [false, false, false, false, false, false, false, false, false, true, false] ?_
              exact sM_begins_619 L xs Q _ _ _ h
            · replace h := h.2 hc
              refine e3_K [0] 587 [(2, 40), (3, 0), (3, 0), (0, l3), (0, l4), (3, 0), (3, 0), (3, 0), (0, l8), (0, l9), (3, 0)] [(2, 40)] (H7) (G8) (wZ L xs) (M := tbM222) rfl rfl trivial ?_
              refine e3_call (o := 0) (k := 201) (M2 := tbM201) (f1 := 3) (w1 := 67) (as := [(2, 40)]) (rest := []) (M := tbM222) rfl rfl rfl trivial (Nat.le_of_ble_eq_true rfl) (Nat.le_of_ble_eq_true rfl) (Nat.le_of_ble_eq_true rfl) ?_
              refine e3_mono (sM_next L xs _ _ _ h) (fun r H14 G15 h => ?_)
              obtain ⟨rfl, h⟩ := h
              change e3_Ev _ _ _ _ 590 [(2, 40), (3, 0), (3, 0), (0, l3), (0, l4), (3, 0), (3, 0), (3, 0), (0, l8), (0, l9), (3, 0)] [] H14 G15 _
              refine e3_K [0, 0, 0] 594 [(2, 40), (3, 0), (3, 0), (0, l3), (0, l4), (3, 0), (3, 0), (3, 0), (0, l8), (0, l9), (3, 0)] [(0, l3), (0, l9), (2, 40)] (H14) (G15) (wZ L xs) (M := tbM222) rfl rfl trivial ?_
              refine e3_call (o := 0) (k := 229) (M2 := tbM229) (f1 := 0) (w1 := 0) (as := [(2, 40), (0, l9), (0, l3)]) (rest := []) (M := tbM222) rfl rfl rfl trivial (Nat.le_of_ble_eq_true rfl) (Nat.le_of_ble_eq_true rfl) (Nat.le_of_ble_eq_true rfl) ?_
              refine e3_mono (sM_opens L xs _ _ _ _ _ h) (fun r H17 G18 h => ?_)
              obtain ⟨rfl, h⟩ := h
              change e3_Ev _ _ _ _ 597 [(2, 40), (3, 0), (3, 0), (0, l3), (0, l4), (3, 0), (3, 0), (3, 0), (0, l8), (0, l9), (3, 0)] [] H17 G18 _
              refine e3_K [0] 619 [(2, 40), (3, 0), (3, 0), (0, l3), (0, l4), (3, 0), (3, 0), (3, 0), (0, l8), (0, l9), (3, 0)] [] (H17) (G18) (wZ L xs) (M := tbM222) rfl rfl trivial ?_
              refine e3_fgt [false, false, false, false, false, false, false, false, false, true, false] ?_
              exact sM_begins_619 L xs Q _ _ _ h
        · replace h := h.2 hc
          refine e3_fgt [true, false, false, true, false, false, false, false, false, true, false] ?_
          exact sM_begins_600 L xs Q _ _ _ _ h
      · replace h := h.2 hc
        refine e3_fgt [true, false, false, true, false, false, false, false, false, true, false] ?_
        exact sM_begins_600 L xs Q _ _ _ _ h
    · replace h := h.2 hc
      refine e3_K [0, 0, 0] 526 [(2, 40), (3, 0), (3, 0), (0, l3), (0, l4), (3, 0), (3, 0), (3, 0), (0, l8), (0, l9), (3, 0)] [(0, l3), (0, l9), (2, 40)] (H1) (G) (wZ L xs) (M := tbM222) rfl rfl trivial ?_
      refine e3_call (o := 0) (k := 227) (M2 := tbM227) (f1 := 6) (w1 := 133) (as := [(2, 40), (0, l9), (0, l3)]) (rest := []) (M := tbM222) rfl rfl rfl trivial (Nat.le_of_ble_eq_true rfl) (Nat.le_of_ble_eq_true rfl) (Nat.le_of_ble_eq_true rfl) ?_
      refine e3_mono (sM_range L xs _ _ _ _ _ h) (fun r H20 G21 h => ?_)
      obtain ⟨rfl, h⟩ := h
      change e3_Ev _ _ _ _ 529 [(2, 40), (3, 0), (3, 0), (0, l3), (0, l4), (3, 0), (3, 0), (3, 0), (0, l8), (0, l9), (3, 0)] [] H20 G21 _
      refine e3_K [0] 531 [(2, 40), (3, 0), (3, 0), (0, l3), (0, l4), (3, 0), (3, 0), (3, 0), (0, l8), (0, l9), (3, 0)] [(0, l9)] (H20) (G21) (wZ L xs) (M := tbM222) rfl rfl trivial ?_
      exact e3_reti (M := tbM222) rfl rfl rfl ⟨_, rfl, h⟩
  · replace h := h.2 hc
    refine e3_K [0] 516 [(2, 40), (3, 0), (3, 0), (0, l3), (0, l4), (3, 0), (3, 0), (3, 0), (0, l8), (0, l9), (3, 0)] [(0, (-4))] (H1) (G) (wZ L xs) (M := tbM222) rfl rfl trivial ?_
    exact e3_reti (M := tbM222) rfl rfl rfl ⟨_, rfl, h⟩
set_option maxRecDepth 100000 in
set_option maxHeartbeats 4000000 in
theorem sM_begins_483 (L : Nat) (xs : Nat → Int32) (Q : Int → e3_H → e3_G → Prop) (l3 : Int) (l4 : Int) (l8 : Int) (l9 : Int) (s0 : Int) (s1 : Int) (H : e3_H) (G : e3_G) (h : wM_begins_483 Q l3 l4 l8 l9 s0 s1 H G) : e3_Ev (wB L xs) 7 155 222 483 [(2, 40), (3, 0), (3, 0), (0, l3), (0, l4), (3, 0), (3, 0), (3, 0), (0, l8), (0, l9), (3, 0)] [(0, s0), (0, s1), (2, 48)] H G (e3_q0 Q) := by
  unfold wM_begins_483 at h
  obtain ⟨o2, h⟩ := h
  refine e3_K [2] 484 [(2, 40), (3, 0), (3, 0), (0, l3), (0, l4), (3, 0), (3, 0), (3, 0), (0, l8), (0, l9), (3, 0)] [] (e3_up H 48 s1 s0) (G) (wZ L xs) (M := tbM222) rfl rfl ⟨o2, trivial⟩ ?_
  generalize hH1 : (e3_up H 48 s1 s0) = H1
  replace h := h H1 hH1.symm
  refine e3_K [0, 4, 0, 0, 2, 0] 495 [(2, 40), (3, 0), (3, 0), (0, l3), (0, l4), (3, 0), (3, 0), (3, 0), (0, l8), (0, l9), (3, 0)] [(0, 4), (0, (H1 40 3)), (0, l9), (2, 50)] (H1) (G) (wZ L xs) (M := tbM222) rfl rfl ⟨trivial, trivial, trivial⟩ ?_
  refine e3_br (M := tbM222) rfl rfl rfl Iff.rfl (fun hc => ?_) (fun hc => ?_)
  · replace h := h.1 hc
    refine e3_K [0, 2, 0] 506 [(2, 40), (3, 0), (3, 0), (0, l3), (0, l4), (3, 0), (3, 0), (3, 0), (0, l8), (0, l9), (3, 0)] [(1, (H1 40 4)), (0, l9), (2, 50)] (H1) (G) (wZ L xs) (M := tbM222) rfl rfl ⟨trivial, trivial⟩ ?_
    exact sM_begins_506 L xs Q _ _ _ _ _ _ _ _ h
  · replace h := h.2 hc
    refine e3_K [0] 506 [(2, 40), (3, 0), (3, 0), (0, l3), (0, l4), (3, 0), (3, 0), (3, 0), (0, l8), (0, l9), (3, 0)] [(1, 0), (0, l9), (2, 50)] (H1) (G) (wZ L xs) (M := tbM222) rfl rfl trivial ?_
    exact sM_begins_506 L xs Q _ _ _ _ _ _ _ _ h
set_option maxRecDepth 100000 in
set_option maxHeartbeats 4000000 in
theorem sM_begins_450 (L : Nat) (xs : Nat → Int32) (Q : Int → e3_H → e3_G → Prop) (l3 : Int) (l4 : Int) (l8 : Int) (l9 : Int) (H : e3_H) (G : e3_G) (h : wM_begins_450 Q l3 l4 l8 l9 H G) : e3_Ev (wB L xs) 7 155 222 450 [(2, 40), (3, 0), (3, 0), (0, l3), (0, l4), (3, 0), (3, 0), (3, 0), (0, l8), (0, l9), (3, 0)] [] H G (e3_q0 Q) := by
  unfold wM_begins_450 at h
  refine e3_K [0, 4, 0, 0, 2, 0] 461 [(2, 40), (3, 0), (3, 0), (0, l3), (0, l4), (3, 0), (3, 0), (3, 0), (0, l8), (0, l9), (3, 0)] [(0, 2), (0, (H 40 3)), (0, l9), (2, 48)] (H) (G) (wZ L xs) (M := tbM222) rfl rfl ⟨trivial, trivial, trivial⟩ ?_
  refine e3_br (M := tbM222) rfl rfl rfl Iff.rfl (fun hc => ?_) (fun hc => ?_)
  · replace h := h.1 hc
    refine e3_K [0, 0] 483 [(2, 40), (3, 0), (3, 0), (0, l3), (0, l4), (3, 0), (3, 0), (3, 0), (0, l8), (0, l9), (3, 0)] [(0, l8), (0, l9), (2, 48)] (H) (G) (wZ L xs) (M := tbM222) rfl rfl trivial ?_
    exact sM_begins_483 L xs Q _ _ _ _ _ _ _ _ h
  · replace h := h.2 hc
    refine e3_K [0, 0] 472 [(2, 40), (3, 0), (3, 0), (0, l3), (0, l4), (3, 0), (3, 0), (3, 0), (0, l8), (0, l9), (3, 0)] [(0, 8), (2, 40), (0, l9), (2, 48)] (H) (G) (wZ L xs) (M := tbM222) rfl rfl trivial ?_
    refine e3_call (o := 0) (k := 207) (M2 := tbM207) (f1 := 0) (w1 := 0) (as := [(2, 40), (0, 8)]) (rest := [(0, l9), (2, 48)]) (M := tbM222) rfl rfl rfl trivial (Nat.le_of_ble_eq_true rfl) (Nat.le_of_ble_eq_true rfl) (Nat.le_of_ble_eq_true rfl) ?_
    refine e3_mono (sM_isWord L xs _ _ _ _ h) (fun r H1 G2 h => ?_)
    obtain ⟨x3, rfl, h⟩ := h
    change e3_Ev _ _ _ _ 475 [(2, 40), (3, 0), (3, 0), (0, l3), (0, l4), (3, 0), (3, 0), (3, 0), (0, l8), (0, l9), (3, 0)] [(0, x3), (0, l9), (2, 48)] H1 G2 _
    refine e3_br (M := tbM222) rfl rfl rfl Iff.rfl (fun hc => ?_) (fun hc => ?_)
    · replace h := h.1 hc
      refine e3_K [0] 483 [(2, 40), (3, 0), (3, 0), (0, l3), (0, l4), (3, 0), (3, 0), (3, 0), (0, l8), (0, l9), (3, 0)] [(0, 0), (0, l9), (2, 48)] (H1) (G2) (wZ L xs) (M := tbM222) rfl rfl trivial ?_
      exact sM_begins_483 L xs Q _ _ _ _ _ _ _ _ h
    · replace h := h.2 hc
      refine e3_K [0, 0] 483 [(2, 40), (3, 0), (3, 0), (0, l3), (0, l4), (3, 0), (3, 0), (3, 0), (0, l8), (0, l9), (3, 0)] [(0, 1), (0, l9), (2, 48)] (H1) (G2) (wZ L xs) (M := tbM222) rfl rfl trivial ?_
      exact sM_begins_483 L xs Q _ _ _ _ _ _ _ _ h
set_option maxRecDepth 100000 in
set_option maxHeartbeats 4000000 in
theorem sM_begins_420 (L : Nat) (xs : Nat → Int32) (Q : Int → e3_H → e3_G → Prop) (l1 : Int) (l3 : Int) (l4 : Int) (l8 : Int) (l9 : Int) (H : e3_H) (G : e3_G) (h : wM_begins_420 Q l1 l3 l4 l8 l9 H G) : e3_Ev (wB L xs) 7 155 222 420 [(2, 40), (0, l1), (3, 0), (0, l3), (0, l4), (3, 0), (3, 0), (3, 0), (0, l8), (0, l9), (3, 0)] [] H G (e3_q0 Q) := by
  unfold wM_begins_420 at h
  refine e3_K [0, 2] 424 [(2, 40), (0, l1), (3, 0), (0, l3), (0, l4), (3, 0), (3, 0), (3, 0), (0, l8), (0, l9), (3, 0)] [(0, (H 40 7))] (H) (G) (wZ L xs) (M := tbM222) rfl rfl ⟨trivial, trivial⟩ ?_
  refine e3_br (M := tbM222) rfl rfl rfl Iff.rfl (fun hc => ?_) (fun hc => ?_)
  · replace h := h.1 hc
    refine e3_K [0, 2, 0] 435 [(2, 40), (0, l1), (3, 0), (0, l3), (0, l4), (3, 0), (3, 0), (3, 0), (0, l8), (0, l9), (3, 0)] [(0, 1), (0, (H 40 3))] (H) (G) (wZ L xs) (M := tbM222) rfl rfl ⟨trivial, trivial⟩ ?_
    refine e3_br (M := tbM222) rfl rfl rfl Iff.rfl (fun hc => ?_) (fun hc => ?_)
    · replace h := h.1 hc
      refine e3_K [0, 4, 0, 0, 0] 446 [(2, 40), (0, l1), (3, 0), (0, l3), (0, l4), (3, 0), (3, 0), (3, 0), (0, l8), (0, l9), (3, 0)] [(0, l1), (2, 40), (0, l9), (2, 53)] (H) (G) (wZ L xs) (M := tbM222) rfl rfl ⟨trivial, trivial⟩ ?_
      refine e3_call (o := 0) (k := 226) (M2 := tbM226) (f1 := 1) (w1 := 24) (as := [(2, 40), (0, l1)]) (rest := [(0, l9), (2, 53)]) (M := tbM222) rfl rfl rfl trivial (Nat.le_of_ble_eq_true rfl) (Nat.le_of_ble_eq_true rfl) (Nat.le_of_ble_eq_true rfl) ?_
      refine e3_mono (sM_binds L xs _ _ _ _ h) (fun r H1 G2 h => ?_)
      obtain ⟨x3, rfl, h⟩ := h
      change e3_Ev _ _ _ _ 449 [(2, 40), (0, l1), (3, 0), (0, l3), (0, l4), (3, 0), (3, 0), (3, 0), (0, l8), (0, l9), (3, 0)] [(0, x3), (0, l9), (2, 53)] H1 G2 _
      obtain ⟨o5, h⟩ := h
      refine e3_K [2] 450 [(2, 40), (0, l1), (3, 0), (0, l3), (0, l4), (3, 0), (3, 0), (3, 0), (0, l8), (0, l9), (3, 0)] [] (e3_up H1 53 l9 x3) (G2) (wZ L xs) (M := tbM222) rfl rfl ⟨o5, trivial⟩ ?_
      generalize hH4 : (e3_up H1 53 l9 x3) = H4
      replace h := h H4 hH4.symm
      refine e3_fgt [true, false, false, true, true, false, false, false, true, true, false] ?_
      exact sM_begins_450 L xs Q _ _ _ _ _ _ h
    · replace h := h.2 hc
      refine e3_fgt [true, false, false, true, true, false, false, false, true, true, false] ?_
      exact sM_begins_450 L xs Q _ _ _ _ _ _ h
  · replace h := h.2 hc
    refine e3_K [0] 429 [(2, 40), (0, l1), (3, 0), (0, l3), (0, l4), (3, 0), (3, 0), (3, 0), (0, l8), (0, l9), (3, 0)] [(0, (-4))] (H) (G) (wZ L xs) (M := tbM222) rfl rfl trivial ?_
    exact e3_reti (M := tbM222) rfl rfl rfl ⟨_, rfl, h⟩
set_option maxRecDepth 100000 in
set_option maxHeartbeats 4000000 in
theorem sM_begins_409 (L : Nat) (xs : Nat → Int32) (Q : Int → e3_H → e3_G → Prop) (l1 : Int) (l2 : Int) (l3 : Int) (l4 : Int) (l8 : Int) (l9 : Int) (H : e3_H) (G : e3_G) (h : wM_begins_409 Q l1 l2 l3 l4 l8 l9 H G) : e3_Ev (wB L xs) 7 155 222 409 [(2, 40), (0, l1), (0, l2), (0, l3), (0, l4), (3, 0), (3, 0), (3, 0), (0, l8), (0, l9), (3, 0)] [] H G (e3_q0 Q) := by
  unfold wM_begins_409 at h
  refine e3_K [0] 410 [(2, 40), (0, l1), (0, l2), (0, l3), (0, l4), (3, 0), (3, 0), (3, 0), (0, l8), (0, l9), (3, 0)] [(0, l2)] (H) (G) (wZ L xs) (M := tbM222) rfl rfl trivial ?_
  refine e3_br (M := tbM222) rfl rfl rfl Iff.rfl (fun hc => ?_) (fun hc => ?_)
  · replace h := h.1 hc
    refine e3_fgt [true, true, false, true, true, false, false, false, true, true, false] ?_
    exact sM_begins_420 L xs Q _ _ _ _ _ _ _ h
  · replace h := h.2 hc
    refine e3_K [0, 0, 0] 417 [(2, 40), (0, l1), (0, l2), (0, l3), (0, l4), (3, 0), (3, 0), (3, 0), (0, l8), (0, l9), (3, 0)] [(0, l3), (0, 9), (2, 40)] (H) (G) (wZ L xs) (M := tbM222) rfl rfl trivial ?_
    refine e3_call (o := 0) (k := 210) (M2 := tbM210) (f1 := 0) (w1 := 0) (as := [(2, 40), (0, 9), (0, l3)]) (rest := []) (M := tbM222) rfl rfl rfl trivial (Nat.le_of_ble_eq_true rfl) (Nat.le_of_ble_eq_true rfl) (Nat.le_of_ble_eq_true rfl) ?_
    refine e3_mono (sM_fails L xs _ _ _ _ _ h) (fun r H1 G2 h => ?_)
    obtain ⟨rfl, h⟩ := h
    change e3_Ev _ _ _ _ 420 [(2, 40), (0, l1), (0, l2), (0, l3), (0, l4), (3, 0), (3, 0), (3, 0), (0, l8), (0, l9), (3, 0)] [] H1 G2 _
    refine e3_fgt [true, true, false, true, true, false, false, false, true, true, false] ?_
    exact sM_begins_420 L xs Q _ _ _ _ _ _ _ h
set_option maxRecDepth 100000 in
set_option maxHeartbeats 4000000 in
theorem sM_begins_354 (L : Nat) (xs : Nat → Int32) (Q : Int → e3_H → e3_G → Prop) (l1 : Int) (l2 : Int) (l3 : Int) (l4 : Int) (l8 : Int) (s0 : Int) (H : e3_H) (G : e3_G) (h : wM_begins_354 Q l1 l2 l3 l4 l8 s0 H G) : e3_Ev (wB L xs) 7 155 222 354 [(2, 40), (0, l1), (0, l2), (0, l3), (0, l4), (3, 0), (3, 0), (3, 0), (0, l8), (3, 0), (3, 0)] [(0, s0), (2, 40)] H G (e3_q0 Q) := by
  unfold wM_begins_354 at h
  refine e3_K [0] 355 [(2, 40), (0, l1), (0, l2), (0, l3), (0, l4), (3, 0), (3, 0), (3, 0), (0, l8), (3, 0), (3, 0)] [(0, l1), (0, s0), (2, 40)] (H) (G) (wZ L xs) (M := tbM222) rfl rfl trivial ?_
  refine e3_call (o := 0) (k := 224) (M2 := tbM224) (f1 := 0) (w1 := 0) (as := [(2, 40), (0, s0), (0, l1)]) (rest := []) (M := tbM222) rfl rfl rfl trivial (Nat.le_of_ble_eq_true rfl) (Nat.le_of_ble_eq_true rfl) (Nat.le_of_ble_eq_true rfl) ?_
  refine e3_mono (sM_newPattern L xs _ _ _ _ _ h) (fun r H1 G2 h => ?_)
  obtain ⟨x3, rfl, h⟩ := h
  change e3_Ev _ _ _ _ 358 [(2, 40), (0, l1), (0, l2), (0, l3), (0, l4), (3, 0), (3, 0), (3, 0), (0, l8), (3, 0), (3, 0)] [(0, x3)] H1 G2 _
  refine e3_K [0, 0, 2, 0] 365 [(2, 40), (0, l1), (0, l2), (0, l3), (0, l4), (3, 0), (3, 0), (3, 0), (0, l8), (0, x3), (3, 0)] [(0, 1), (0, (H1 40 3))] (H1) (G2) (wZ L xs) (M := tbM222) rfl rfl ⟨trivial, trivial⟩ ?_
  refine e3_br (M := tbM222) rfl rfl rfl Iff.rfl (fun hc => ?_) (fun hc => ?_)
  · replace h := h.1 hc
    refine e3_K [0, 2] 372 [(2, 40), (0, l1), (0, l2), (0, l3), (0, l4), (3, 0), (3, 0), (3, 0), (0, l8), (0, x3), (3, 0)] [(0, (H1 40 7))] (H1) (G2) (wZ L xs) (M := tbM222) rfl rfl ⟨trivial, trivial⟩ ?_
    refine e3_br (M := tbM222) rfl rfl rfl Iff.rfl (fun hc => ?_) (fun hc => ?_)
    · replace h := h.1 hc
      refine e3_K [0, 0, 2] 380 [(2, 40), (0, l1), (0, l2), (0, l3), (0, l4), (3, 0), (3, 0), (3, 0), (0, l8), (0, x3), (3, 0)] [(1, (H1 40 4)), (2, 40)] (H1) (G2) (wZ L xs) (M := tbM222) rfl rfl ⟨trivial, trivial⟩ ?_
      refine e3_call (o := 0) (k := 225) (M2 := tbM225) (f1 := 0) (w1 := 0) (as := [(2, 40), (1, (H1 40 4))]) (rest := []) (M := tbM222) rfl rfl rfl trivial (Nat.le_of_ble_eq_true rfl) (Nat.le_of_ble_eq_true rfl) (Nat.le_of_ble_eq_true rfl) ?_
      refine e3_mono (sM_nameOf L xs _ _ _ _ h) (fun r H4 G5 h => ?_)
      obtain ⟨x6, rfl, h⟩ := h
      change e3_Ev _ _ _ _ 383 [(2, 40), (0, l1), (0, l2), (0, l3), (0, l4), (3, 0), (3, 0), (3, 0), (0, l8), (0, x3), (3, 0)] [(0, x6)] H4 G5 _
      refine e3_K [0, 0] 387 [(2, 40), (0, l1), (0, l2), (0, l3), (0, l4), (3, 0), (3, 0), (3, 0), (0, l8), (0, x3), (0, x6)] [(0, x6)] (H4) (G5) (wZ L xs) (M := tbM222) rfl rfl trivial ?_
      refine e3_br (M := tbM222) rfl rfl rfl Iff.rfl (fun hc => ?_) (fun hc => ?_)
      · replace h := h.1 hc
        refine e3_fgt [true, true, true, true, true, false, false, false, true, true, false] ?_
        exact sM_begins_409 L xs Q _ _ _ _ _ _ _ _ h
      · replace h := h.2 hc
        refine e3_K [0, 2, 0, 0, 0, 0, 0] 400 [(2, 40), (0, l1), (0, l2), (0, l3), (0, l4), (3, 0), (3, 0), (3, 0), (0, l8), (0, x3), (0, x6)] [(0, 1), (0, (e3_and (e3_shr (H4 40 31) x6) 1))] (H4) (G5) (wZ L xs) (M := tbM222) rfl rfl ⟨trivial, trivial⟩ ?_
        refine e3_br (M := tbM222) rfl rfl rfl Iff.rfl (fun hc => ?_) (fun hc => ?_)
        · replace h := h.1 hc
          refine e3_K [0, 0, 0] 406 [(2, 40), (0, l1), (0, l2), (0, l3), (0, l4), (3, 0), (3, 0), (3, 0), (0, l8), (0, x3), (0, x6)] [(0, l3), (0, 3), (2, 40)] (H4) (G5) (wZ L xs) (M := tbM222) rfl rfl trivial ?_
          refine e3_call (o := 0) (k := 210) (M2 := tbM210) (f1 := 0) (w1 := 0) (as := [(2, 40), (0, 3), (0, l3)]) (rest := []) (M := tbM222) rfl rfl rfl trivial (Nat.le_of_ble_eq_true rfl) (Nat.le_of_ble_eq_true rfl) (Nat.le_of_ble_eq_true rfl) ?_
          refine e3_mono (sM_fails L xs _ _ _ _ _ h) (fun r H7 G8 h => ?_)
          obtain ⟨rfl, h⟩ := h
          change e3_Ev _ _ _ _ 409 [(2, 40), (0, l1), (0, l2), (0, l3), (0, l4), (3, 0), (3, 0), (3, 0), (0, l8), (0, x3), (0, x6)] [] H7 G8 _
          refine e3_fgt [true, true, true, true, true, false, false, false, true, true, false] ?_
          exact sM_begins_409 L xs Q _ _ _ _ _ _ _ _ h
        · replace h := h.2 hc
          refine e3_fgt [true, true, true, true, true, false, false, false, true, true, false] ?_
          exact sM_begins_409 L xs Q _ _ _ _ _ _ _ _ h
    · replace h := h.2 hc
      exact sM_begins_409 L xs Q _ _ _ _ _ _ _ _ h
  · replace h := h.2 hc
    exact sM_begins_409 L xs Q _ _ _ _ _ _ _ _ h
set_option maxRecDepth 100000 in
set_option maxHeartbeats 4000000 in
theorem sM_begins_283 (L : Nat) (xs : Nat → Int32) (Q : Int → e3_H → e3_G → Prop) (l1 : Int) (l2 : Int) (l3 : Int) (l4 : Int) (l5 : Int) (l8 : Int) (H : e3_H) (G : e3_G) (h : wM_begins_283 Q l1 l2 l3 l4 l5 l8 H G) : e3_Ev (wB L xs) 7 155 222 283 [(2, 40), (0, l1), (0, l2), (0, l3), (0, l4), (0, l5), (3, 0), (3, 0), (0, l8), (3, 0), (3, 0)] [] H G (e3_q0 Q) := by
  unfold wM_begins_283 at h
  refine e3_K [0, 0] 286 [(2, 40), (0, l1), (0, l2), (0, l3), (0, l4), (0, l5), (3, 0), (3, 0), (0, l8), (3, 0), (3, 0)] [(0, l4), (2, 40)] (H) (G) (wZ L xs) (M := tbM222) rfl rfl trivial ?_
  refine e3_br (M := tbM222) rfl rfl rfl Iff.rfl (fun hc => ?_) (fun hc => ?_)
  · replace h := h.1 hc
    refine e3_K [0] 295 [(2, 40), (0, l1), (0, l2), (0, l3), (0, l4), (0, l5), (3, 0), (3, 0), (0, l8), (3, 0), (3, 0)] [(0, l5), (2, 40)] (H) (G) (wZ L xs) (M := tbM222) rfl rfl trivial ?_
    refine e3_br (M := tbM222) rfl rfl rfl Iff.rfl (fun hc => ?_) (fun hc => ?_)
    · replace h := h.1 hc
      refine e3_K [0, 2, 0] 307 [(2, 40), (0, l1), (0, l2), (0, l3), (0, l4), (0, l5), (3, 0), (3, 0), (0, l8), (3, 0), (3, 0)] [(0, 4), (0, (H 40 3)), (2, 40)] (H) (G) (wZ L xs) (M := tbM222) rfl rfl ⟨trivial, trivial⟩ ?_
      refine e3_br (M := tbM222) rfl rfl rfl Iff.rfl (fun hc => ?_) (fun hc => ?_)
      · replace h := h.1 hc
        refine e3_K [0, 0] 354 [(2, 40), (0, l1), (0, l2), (0, l3), (0, l4), (0, l5), (3, 0), (3, 0), (0, l8), (3, 0), (3, 0)] [(0, 3), (2, 40)] (H) (G) (wZ L xs) (M := tbM222) rfl rfl trivial ?_
        refine e3_fgt [true, true, true, true, true, false, false, false, true, false, false] ?_
        exact sM_begins_354 L xs Q _ _ _ _ _ _ _ _ h
      · replace h := h.2 hc
        refine e3_K [0, 2, 0] 319 [(2, 40), (0, l1), (0, l2), (0, l3), (0, l4), (0, l5), (3, 0), (3, 0), (0, l8), (3, 0), (3, 0)] [(0, 2), (0, (H 40 3)), (2, 40)] (H) (G) (wZ L xs) (M := tbM222) rfl rfl ⟨trivial, trivial⟩ ?_
        refine e3_br (M := tbM222) rfl rfl rfl Iff.rfl (fun hc => ?_) (fun hc => ?_)
        · replace h := h.1 hc
          refine e3_K [0, 0] 354 [(2, 40), (0, l1), (0, l2), (0, l3), (0, l4), (0, l5), (3, 0), (3, 0), (0, l8), (3, 0), (3, 0)] [(0, 5), (2, 40)] (H) (G) (wZ L xs) (M := tbM222) rfl rfl trivial ?_
          refine e3_fgt [true, true, true, true, true, false, false, false, true, false, false] ?_
          exact sM_begins_354 L xs Q _ _ _ _ _ _ _ _ h
        · replace h := h.2 hc
          refine e3_K [0, 0] 329 [(2, 40), (0, l1), (0, l2), (0, l3), (0, l4), (0, l5), (3, 0), (3, 0), (0, l8), (3, 0), (3, 0)] [(0, 40), (2, 40), (2, 40)] (H) (G) (wZ L xs) (M := tbM222) rfl rfl trivial ?_
          refine e3_call (o := 0) (k := 215) (M2 := tbM215) (f1 := 0) (w1 := 0) (as := [(2, 40), (0, 40)]) (rest := [(2, 40)]) (M := tbM222) rfl rfl rfl trivial (Nat.le_of_ble_eq_true rfl) (Nat.le_of_ble_eq_true rfl) (Nat.le_of_ble_eq_true rfl) ?_
          refine e3_mono (sM_isSign L xs _ _ _ _ h) (fun r H1 G2 h => ?_)
          obtain ⟨x3, rfl, h⟩ := h
          change e3_Ev _ _ _ _ 332 [(2, 40), (0, l1), (0, l2), (0, l3), (0, l4), (0, l5), (3, 0), (3, 0), (0, l8), (3, 0), (3, 0)] [(0, x3), (2, 40)] H1 G2 _
          refine e3_br (M := tbM222) rfl rfl rfl Iff.rfl (fun hc => ?_) (fun hc => ?_)
          · replace h := h.1 hc
            refine e3_K [0, 0] 343 [(2, 40), (0, l1), (0, l2), (0, l3), (0, l4), (0, l5), (3, 0), (3, 0), (0, l8), (3, 0), (3, 0)] [(0, 10), (2, 40), (2, 40)] (H1) (G2) (wZ L xs) (M := tbM222) rfl rfl trivial ?_
            refine e3_call (o := 0) (k := 207) (M2 := tbM207) (f1 := 0) (w1 := 0) (as := [(2, 40), (0, 10)]) (rest := [(2, 40)]) (M := tbM222) rfl rfl rfl trivial (Nat.le_of_ble_eq_true rfl) (Nat.le_of_ble_eq_true rfl) (Nat.le_of_ble_eq_true rfl) ?_
            refine e3_mono (sM_isWord L xs _ _ _ _ h) (fun r H4 G5 h => ?_)
            obtain ⟨x6, rfl, h⟩ := h
            change e3_Ev _ _ _ _ 346 [(2, 40), (0, l1), (0, l2), (0, l3), (0, l4), (0, l5), (3, 0), (3, 0), (0, l8), (3, 0), (3, 0)] [(0, x6), (2, 40)] H4 G5 _
            refine e3_br (M := tbM222) rfl rfl rfl Iff.rfl (fun hc => ?_) (fun hc => ?_)
            · replace h := h.1 hc
              refine e3_K [0] 354 [(2, 40), (0, l1), (0, l2), (0, l3), (0, l4), (0, l5), (3, 0), (3, 0), (0, l8), (3, 0), (3, 0)] [(0, 0), (2, 40)] (H4) (G5) (wZ L xs) (M := tbM222) rfl rfl trivial ?_
              refine e3_fgt [true, true, true, true, true, false, false, false, true, false, false] ?_
              exact sM_begins_354 L xs Q _ _ _ _ _ _ _ _ h
            · replace h := h.2 hc
              refine e3_K [0, 0] 354 [(2, 40), (0, l1), (0, l2), (0, l3), (0, l4), (0, l5), (3, 0), (3, 0), (0, l8), (3, 0), (3, 0)] [(0, 4), (2, 40)] (H4) (G5) (wZ L xs) (M := tbM222) rfl rfl trivial ?_
              refine e3_fgt [true, true, true, true, true, false, false, false, true, false, false] ?_
              exact sM_begins_354 L xs Q _ _ _ _ _ _ _ _ h
          · replace h := h.2 hc
            refine e3_K [0, 0] 354 [(2, 40), (0, l1), (0, l2), (0, l3), (0, l4), (0, l5), (3, 0), (3, 0), (0, l8), (3, 0), (3, 0)] [(0, 6), (2, 40)] (H1) (G2) (wZ L xs) (M := tbM222) rfl rfl trivial ?_
            refine e3_fgt [true, true, true, true, true, false, false, false, true, false, false] ?_
            exact sM_begins_354 L xs Q _ _ _ _ _ _ _ _ h
    · replace h := h.2 hc
      refine e3_K [0, 0] 354 [(2, 40), (0, l1), (0, l2), (0, l3), (0, l4), (0, l5), (3, 0), (3, 0), (0, l8), (3, 0), (3, 0)] [(0, 2), (2, 40)] (H) (G) (wZ L xs) (M := tbM222) rfl rfl trivial ?_
      refine e3_fgt [true, true, true, true, true, false, false, false, true, false, false] ?_
      exact sM_begins_354 L xs Q _ _ _ _ _ _ _ _ h
  · replace h := h.2 hc
    refine e3_K [0, 0] 354 [(2, 40), (0, l1), (0, l2), (0, l3), (0, l4), (0, l5), (3, 0), (3, 0), (0, l8), (3, 0), (3, 0)] [(0, 1), (2, 40)] (H) (G) (wZ L xs) (M := tbM222) rfl rfl trivial ?_
    refine e3_fgt [true, true, true, true, true, false, false, false, true, false, false] ?_
    exact sM_begins_354 L xs Q _ _ _ _ _ _ _ _ h
set_option maxRecDepth 100000 in
set_option maxHeartbeats 4000000 in
theorem sM_begins_277 (L : Nat) (xs : Nat → Int32) (Q : Int → e3_H → e3_G → Prop) (l1 : Int) (l2 : Int) (l3 : Int) (l4 : Int) (l5 : Int) (l8 : Int) (H : e3_H) (G : e3_G) (h : wM_begins_277 Q l1 l2 l3 l4 l5 l8 H G) : e3_Ev (wB L xs) 7 155 222 277 [(2, 40), (0, l1), (0, l2), (0, l3), (0, l4), (0, l5), (3, 0), (3, 0), (0, l8), (3, 0), (3, 0)] [] H G (e3_q0 Q) := by
  unfold wM_begins_277 at h
  refine e3_K [0, 0, 0] 280 [(2, 40), (0, l1), (0, l2), (0, l3), (0, l4), (0, l5), (3, 0), (3, 0), (0, l8), (3, 0), (3, 0)] [(0, l3), (0, 5), (2, 40)] (H) (G) (wZ L xs) (M := tbM222) rfl rfl trivial ?_
  refine e3_call (o := 0) (k := 210) (M2 := tbM210) (f1 := 0) (w1 := 0) (as := [(2, 40), (0, 5), (0, l3)]) (rest := []) (M := tbM222) rfl rfl rfl trivial (Nat.le_of_ble_eq_true rfl) (Nat.le_of_ble_eq_true rfl) (Nat.le_of_ble_eq_true rfl) ?_
  refine e3_mono (sM_fails L xs _ _ _ _ _ h) (fun r H1 G2 h => ?_)
  obtain ⟨rfl, h⟩ := h
  change e3_Ev _ _ _ _ 283 [(2, 40), (0, l1), (0, l2), (0, l3), (0, l4), (0, l5), (3, 0), (3, 0), (0, l8), (3, 0), (3, 0)] [] H1 G2 _
  exact sM_begins_283 L xs Q _ _ _ _ _ _ _ _ h
set_option maxRecDepth 100000 in
set_option maxHeartbeats 4000000 in
theorem sM_begins_235 (L : Nat) (xs : Nat → Int32) (Q : Int → e3_H → e3_G → Prop) (l1 : Int) (l2 : Int) (l3 : Int) (l4 : Int) (l5 : Int) (l7 : Int) (l8 : Int) (H : e3_H) (G : e3_G) (h : wM_begins_235 Q l1 l2 l3 l4 l5 l7 l8 H G) : e3_Ev (wB L xs) 7 155 222 235 [(2, 40), (0, l1), (0, l2), (0, l3), (0, l4), (0, l5), (3, 0), (0, l7), (0, l8), (3, 0), (3, 0)] [] H G (e3_q0 Q) := by
  unfold wM_begins_235 at h
  refine e3_K [0] 237 [(2, 40), (0, l1), (0, l2), (0, l3), (0, l4), (0, l5), (3, 0), (0, l7), (0, l8), (3, 0), (3, 0)] [(0, l7)] (H) (G) (wZ L xs) (M := tbM222) rfl rfl trivial ?_
  refine e3_br (M := tbM222) rfl rfl rfl Iff.rfl (fun hc => ?_) (fun hc => ?_)
  · replace h := h.1 hc
    refine e3_K [0, 2, 0] 245 [(2, 40), (0, l1), (0, l2), (0, l3), (0, l4), (0, l5), (3, 0), (0, l7), (0, l8), (3, 0), (3, 0)] [(0, 2), (0, (H 40 3))] (H) (G) (wZ L xs) (M := tbM222) rfl rfl ⟨trivial, trivial⟩ ?_
    refine e3_br (M := tbM222) rfl rfl rfl Iff.rfl (fun hc => ?_) (fun hc => ?_)
    · replace h := h.1 hc
      refine e3_K [0, 0] 250 [(2, 40), (0, l1), (0, l2), (0, l3), (0, l4), (0, l5), (3, 0), (0, l7), (0, l8), (3, 0), (3, 0)] [(0, 3), (0, l1)] (H) (G) (wZ L xs) (M := tbM222) rfl rfl trivial ?_
      refine e3_br (M := tbM222) rfl rfl rfl Iff.rfl (fun hc => ?_) (fun hc => ?_)
      · replace h := h.1 hc
        refine e3_fgt [true, true, true, true, true, true, false, false, true, false, false] ?_
        exact sM_begins_277 L xs Q _ _ _ _ _ _ _ _ h
      · replace h := h.2 hc
        refine e3_K [0, 0, 0, 0, 0] 259 [(2, 40), (0, l1), (0, l2), (0, l3), (0, l4), (0, l5), (3, 0), (0, l7), (0, l8), (3, 0), (3, 0)] [(0, (e3_w32 (l1 - 3))), (0, l8), (2, 40)] (H) (G) (wZ L xs) (M := tbM222) rfl rfl trivial ?_
        refine e3_call (o := 0) (k := 223) (M2 := tbM223) (f1 := 0) (w1 := 0) (as := [(2, 40), (0, l8), (0, (e3_w32 (l1 - 3)))]) (rest := []) (M := tbM222) rfl rfl rfl trivial (Nat.le_of_ble_eq_true rfl) (Nat.le_of_ble_eq_true rfl) (Nat.le_of_ble_eq_true rfl) ?_
        refine e3_mono (sM_isOf L xs _ _ _ _ _ h) (fun r H1 G2 h => ?_)
        obtain ⟨x3, rfl, h⟩ := h
        change e3_Ev _ _ _ _ 262 [(2, 40), (0, l1), (0, l2), (0, l3), (0, l4), (0, l5), (3, 0), (0, l7), (0, l8), (3, 0), (3, 0)] [(0, x3)] H1 G2 _
        refine e3_br (M := tbM222) rfl rfl rfl Iff.rfl (fun hc => ?_) (fun hc => ?_)
        · replace h := h.1 hc
          refine e3_K [0, 0, 0, 0, 0] 271 [(2, 40), (0, l1), (0, l2), (0, l3), (0, l4), (0, l5), (3, 0), (0, l7), (0, l8), (3, 0), (3, 0)] [(0, l8), (0, (e3_w32 (l1 - 3))), (2, 40)] (H1) (G2) (wZ L xs) (M := tbM222) rfl rfl trivial ?_
          refine e3_call (o := 0) (k := 223) (M2 := tbM223) (f1 := 0) (w1 := 0) (as := [(2, 40), (0, (e3_w32 (l1 - 3))), (0, l8)]) (rest := []) (M := tbM222) rfl rfl rfl trivial (Nat.le_of_ble_eq_true rfl) (Nat.le_of_ble_eq_true rfl) (Nat.le_of_ble_eq_true rfl) ?_
          refine e3_mono (sM_isOf L xs _ _ _ _ _ h) (fun r H4 G5 h => ?_)
          obtain ⟨x6, rfl, h⟩ := h
          change e3_Ev _ _ _ _ 274 [(2, 40), (0, l1), (0, l2), (0, l3), (0, l4), (0, l5), (3, 0), (0, l7), (0, l8), (3, 0), (3, 0)] [(0, x6)] H4 G5 _
          refine e3_br (M := tbM222) rfl rfl rfl Iff.rfl (fun hc => ?_) (fun hc => ?_)
          · replace h := h.1 hc
            refine e3_fgt [true, true, true, true, true, true, false, false, true, false, false] ?_
            exact sM_begins_277 L xs Q _ _ _ _ _ _ _ _ h
          · replace h := h.2 hc
            refine e3_fgt [true, true, true, true, true, true, false, false, true, false, false] ?_
            exact sM_begins_283 L xs Q _ _ _ _ _ _ _ _ h
        · replace h := h.2 hc
          refine e3_fgt [true, true, true, true, true, true, false, false, true, false, false] ?_
          exact sM_begins_283 L xs Q _ _ _ _ _ _ _ _ h
    · replace h := h.2 hc
      refine e3_fgt [true, true, true, true, true, true, false, false, true, false, false] ?_
      exact sM_begins_283 L xs Q _ _ _ _ _ _ _ _ h
  · replace h := h.2 hc
    refine e3_fgt [true, true, true, true, true, true, false, false, true, false, false] ?_
    exact sM_begins_277 L xs Q _ _ _ _ _ _ _ _ h
set_option maxRecDepth 100000 in
set_option maxHeartbeats 4000000 in
theorem sM_begins_209 (L : Nat) (xs : Nat → Int32) (Q : Int → e3_H → e3_G → Prop) (l1 : Int) (l2 : Int) (l3 : Int) (l4 : Int) (l5 : Int) (l7 : Int) (s0 : Int) (H : e3_H) (G : e3_G) (h : wM_begins_209 Q l1 l2 l3 l4 l5 l7 s0 H G) : e3_Ev (wB L xs) 7 155 222 209 [(2, 40), (0, l1), (0, l2), (0, l3), (0, l4), (0, l5), (3, 0), (0, l7), (3, 0), (3, 0), (3, 0)] [(0, s0)] H G (e3_q0 Q) := by
  unfold wM_begins_209 at h
  refine e3_K [0, 0, 2, 0] 216 [(2, 40), (0, l1), (0, l2), (0, l3), (0, l4), (0, l5), (3, 0), (0, l7), (0, s0), (3, 0), (3, 0)] [(0, 2), (0, (H 40 3))] (H) (G) (wZ L xs) (M := tbM222) rfl rfl ⟨trivial, trivial⟩ ?_
  refine e3_br (M := tbM222) rfl rfl rfl Iff.rfl (fun hc => ?_) (fun hc => ?_)
  · replace h := h.1 hc
    refine e3_K [0, 0] 223 [(2, 40), (0, l1), (0, l2), (0, l3), (0, l4), (0, l5), (3, 0), (0, l7), (0, s0), (3, 0), (3, 0)] [(0, (-4)), (0, s0)] (H) (G) (wZ L xs) (M := tbM222) rfl rfl trivial ?_
    refine e3_br (M := tbM222) rfl rfl rfl Iff.rfl (fun hc => ?_) (fun hc => ?_)
    · replace h := h.1 hc
      refine e3_K [0, 0, 0] 229 [(2, 40), (0, l1), (0, l2), (0, l3), (0, l4), (0, l5), (3, 0), (0, l7), (0, s0), (3, 0), (3, 0)] [(0, l3), (0, 4), (2, 40)] (H) (G) (wZ L xs) (M := tbM222) rfl rfl trivial ?_
      refine e3_call (o := 0) (k := 210) (M2 := tbM210) (f1 := 0) (w1 := 0) (as := [(2, 40), (0, 4), (0, l3)]) (rest := []) (M := tbM222) rfl rfl rfl trivial (Nat.le_of_ble_eq_true rfl) (Nat.le_of_ble_eq_true rfl) (Nat.le_of_ble_eq_true rfl) ?_
      refine e3_mono (sM_fails L xs _ _ _ _ _ h) (fun r H1 G2 h => ?_)
      obtain ⟨rfl, h⟩ := h
      change e3_Ev _ _ _ _ 232 [(2, 40), (0, l1), (0, l2), (0, l3), (0, l4), (0, l5), (3, 0), (0, l7), (0, s0), (3, 0), (3, 0)] [] H1 G2 _
      refine e3_K [0] 283 [(2, 40), (0, l1), (0, l2), (0, l3), (0, l4), (0, l5), (3, 0), (0, l7), (0, s0), (3, 0), (3, 0)] [] (H1) (G2) (wZ L xs) (M := tbM222) rfl rfl trivial ?_
      refine e3_fgt [true, true, true, true, true, true, false, false, true, false, false] ?_
      exact sM_begins_283 L xs Q _ _ _ _ _ _ _ _ h
    · replace h := h.2 hc
      exact sM_begins_235 L xs Q _ _ _ _ _ _ _ _ _ h
  · replace h := h.2 hc
    exact sM_begins_235 L xs Q _ _ _ _ _ _ _ _ _ h
set_option maxRecDepth 100000 in
set_option maxHeartbeats 4000000 in
theorem sM_begins_186 (L : Nat) (xs : Nat → Int32) (Q : Int → e3_H → e3_G → Prop) (l1 : Int) (l2 : Int) (l3 : Int) (l4 : Int) (l5 : Int) (s0 : Int) (H : e3_H) (G : e3_G) (h : wM_begins_186 Q l1 l2 l3 l4 l5 s0 H G) : e3_Ev (wB L xs) 7 155 222 186 [(2, 40), (0, l1), (0, l2), (0, l3), (0, l4), (0, l5), (3, 0), (3, 0), (3, 0), (3, 0), (3, 0)] [(0, s0)] H G (e3_q0 Q) := by
  unfold wM_begins_186 at h
  refine e3_K [0, 0, 2, 0] 193 [(2, 40), (0, l1), (0, l2), (0, l3), (0, l4), (0, l5), (3, 0), (0, s0), (3, 0), (3, 0), (3, 0)] [(0, 2), (0, (H 40 3))] (H) (G) (wZ L xs) (M := tbM222) rfl rfl ⟨trivial, trivial⟩ ?_
  refine e3_br (M := tbM222) rfl rfl rfl Iff.rfl (fun hc => ?_) (fun hc => ?_)
  · replace h := h.1 hc
    refine e3_K [0, 0, 2] 201 [(2, 40), (0, l1), (0, l2), (0, l3), (0, l4), (0, l5), (3, 0), (0, s0), (3, 0), (3, 0), (3, 0)] [(1, (H 40 4)), (2, 40)] (H) (G) (wZ L xs) (M := tbM222) rfl rfl ⟨trivial, trivial⟩ ?_
    refine e3_call (o := 0) (k := 211) (M2 := tbM211) (f1 := 0) (w1 := 0) (as := [(2, 40), (1, (H 40 4))]) (rest := []) (M := tbM222) rfl rfl rfl trivial (Nat.le_of_ble_eq_true rfl) (Nat.le_of_ble_eq_true rfl) (Nat.le_of_ble_eq_true rfl) ?_
    refine e3_mono (sM_kindOf L xs _ _ _ _ h) (fun r H1 G2 h => ?_)
    obtain ⟨x3, rfl, h⟩ := h
    change e3_Ev _ _ _ _ 204 [(2, 40), (0, l1), (0, l2), (0, l3), (0, l4), (0, l5), (3, 0), (0, s0), (3, 0), (3, 0), (3, 0)] [(0, x3)] H1 G2 _
    refine e3_K [0] 209 [(2, 40), (0, l1), (0, l2), (0, l3), (0, l4), (0, l5), (3, 0), (0, s0), (3, 0), (3, 0), (3, 0)] [(0, x3)] (H1) (G2) (wZ L xs) (M := tbM222) rfl rfl trivial ?_
    exact sM_begins_209 L xs Q _ _ _ _ _ _ _ _ _ h
  · replace h := h.2 hc
    refine e3_K [0] 209 [(2, 40), (0, l1), (0, l2), (0, l3), (0, l4), (0, l5), (3, 0), (0, s0), (3, 0), (3, 0), (3, 0)] [(0, (-4))] (H) (G) (wZ L xs) (M := tbM222) rfl rfl trivial ?_
    exact sM_begins_209 L xs Q _ _ _ _ _ _ _ _ _ h
set_option maxRecDepth 100000 in
set_option maxHeartbeats 4000000 in
theorem sM_begins_185 (L : Nat) (xs : Nat → Int32) (Q : Int → e3_H → e3_G → Prop) (l1 : Int) (l2 : Int) (l3 : Int) (l4 : Int) (l5 : Int) (H : e3_H) (G : e3_G) (h : wM_begins_185 Q l1 l2 l3 l4 l5 H G) : e3_Ev (wB L xs) 7 155 222 185 [(2, 40), (0, l1), (0, l2), (0, l3), (0, l4), (0, l5), (3, 0), (3, 0), (3, 0), (3, 0), (3, 0)] [] H G (e3_q0 Q) := by
  unfold wM_begins_185 at h
  refine e3_K [0] 186 [(2, 40), (0, l1), (0, l2), (0, l3), (0, l4), (0, l5), (3, 0), (3, 0), (3, 0), (3, 0), (3, 0)] [(0, 0)] (H) (G) (wZ L xs) (M := tbM222) rfl rfl trivial ?_
  exact sM_begins_186 L xs Q _ _ _ _ _ _ _ _ h
set_option maxRecDepth 100000 in
set_option maxHeartbeats 4000000 in
theorem sM_begins_181 (L : Nat) (xs : Nat → Int32) (Q : Int → e3_H → e3_G → Prop) (l1 : Int) (l2 : Int) (l3 : Int) (l4 : Int) (l5 : Int) (H : e3_H) (G : e3_G) (h : wM_begins_181 Q l1 l2 l3 l4 l5 H G) : e3_Ev (wB L xs) 7 155 222 181 [(2, 40), (0, l1), (0, l2), (0, l3), (0, l4), (0, l5), (3, 0), (3, 0), (3, 0), (3, 0), (3, 0)] [] H G (e3_q0 Q) := by
  unfold wM_begins_181 at h
  refine e3_K [0, 0] 186 [(2, 40), (0, l1), (0, l2), (0, l3), (0, l4), (0, l5), (3, 0), (3, 0), (3, 0), (3, 0), (3, 0)] [(0, 1)] (H) (G) (wZ L xs) (M := tbM222) rfl rfl trivial ?_
  exact sM_begins_186 L xs Q _ _ _ _ _ _ _ _ h
set_option maxRecDepth 100000 in
set_option maxHeartbeats 4000000 in
theorem sM_begins_167 (L : Nat) (xs : Nat → Int32) (Q : Int → e3_H → e3_G → Prop) (l1 : Int) (l2 : Int) (l3 : Int) (l4 : Int) (l5 : Int) (H : e3_H) (G : e3_G) (h : wM_begins_167 Q l1 l2 l3 l4 l5 H G) : e3_Ev (wB L xs) 7 155 222 167 [(2, 40), (0, l1), (0, l2), (0, l3), (0, l4), (0, l5), (3, 0), (3, 0), (3, 0), (3, 0), (3, 0)] [] H G (e3_q0 Q) := by
  unfold wM_begins_167 at h
  refine e3_K [0, 0] 170 [(2, 40), (0, l1), (0, l2), (0, l3), (0, l4), (0, l5), (3, 0), (3, 0), (3, 0), (3, 0), (3, 0)] [(0, 10), (2, 40)] (H) (G) (wZ L xs) (M := tbM222) rfl rfl trivial ?_
  refine e3_call (o := 0) (k := 207) (M2 := tbM207) (f1 := 0) (w1 := 0) (as := [(2, 40), (0, 10)]) (rest := []) (M := tbM222) rfl rfl rfl trivial (Nat.le_of_ble_eq_true rfl) (Nat.le_of_ble_eq_true rfl) (Nat.le_of_ble_eq_true rfl) ?_
  refine e3_mono (sM_isWord L xs _ _ _ _ h) (fun r H1 G2 h => ?_)
  obtain ⟨x3, rfl, h⟩ := h
  change e3_Ev _ _ _ _ 173 [(2, 40), (0, l1), (0, l2), (0, l3), (0, l4), (0, l5), (3, 0), (3, 0), (3, 0), (3, 0), (3, 0)] [(0, x3)] H1 G2 _
  refine e3_br (M := tbM222) rfl rfl rfl Iff.rfl (fun hc => ?_) (fun hc => ?_)
  · replace h := h.1 hc
    exact sM_begins_185 L xs Q _ _ _ _ _ _ _ h
  · replace h := h.2 hc
    refine e3_K [0, 0] 178 [(2, 40), (0, l1), (0, l2), (0, l3), (0, l4), (0, l5), (3, 0), (3, 0), (3, 0), (3, 0), (3, 0)] [(0, 3), (0, l1)] (H1) (G2) (wZ L xs) (M := tbM222) rfl rfl trivial ?_
    refine e3_br (M := tbM222) rfl rfl rfl Iff.rfl (fun hc => ?_) (fun hc => ?_)
    · replace h := h.1 hc
      exact sM_begins_181 L xs Q _ _ _ _ _ _ _ h
    · replace h := h.2 hc
      exact sM_begins_185 L xs Q _ _ _ _ _ _ _ h
set_option maxRecDepth 100000 in
set_option maxHeartbeats 4000000 in
theorem sM_begins_154 (L : Nat) (xs : Nat → Int32) (Q : Int → e3_H → e3_G → Prop) (l1 : Int) (l2 : Int) (l3 : Int) (l4 : Int) (l5 : Int) (H : e3_H) (G : e3_G) (h : wM_begins_154 Q l1 l2 l3 l4 l5 H G) : e3_Ev (wB L xs) 7 155 222 154 [(2, 40), (0, l1), (0, l2), (0, l3), (0, l4), (0, l5), (3, 0), (3, 0), (3, 0), (3, 0), (3, 0)] [] H G (e3_q0 Q) := by
  unfold wM_begins_154 at h
  refine e3_K [0, 2, 0] 159 [(2, 40), (0, l1), (0, l2), (0, l3), (0, l4), (0, l5), (3, 0), (3, 0), (3, 0), (3, 0), (3, 0)] [(0, 4), (0, (H 40 3))] (H) (G) (wZ L xs) (M := tbM222) rfl rfl ⟨trivial, trivial⟩ ?_
  refine e3_br (M := tbM222) rfl rfl rfl Iff.rfl (fun hc => ?_) (fun hc => ?_)
  · replace h := h.1 hc
    refine e3_K [0, 0] 164 [(2, 40), (0, l1), (0, l2), (0, l3), (0, l4), (0, l5), (3, 0), (3, 0), (3, 0), (3, 0), (3, 0)] [(0, 2), (0, l1)] (H) (G) (wZ L xs) (M := tbM222) rfl rfl trivial ?_
    refine e3_br (M := tbM222) rfl rfl rfl Iff.rfl (fun hc => ?_) (fun hc => ?_)
    · replace h := h.1 hc
      exact sM_begins_167 L xs Q _ _ _ _ _ _ _ h
    · replace h := h.2 hc
      exact sM_begins_181 L xs Q _ _ _ _ _ _ _ h
  · replace h := h.2 hc
    exact sM_begins_167 L xs Q _ _ _ _ _ _ _ h
set_option maxRecDepth 100000 in
set_option maxHeartbeats 4000000 in
theorem sM_begins_144 (L : Nat) (xs : Nat → Int32) (Q : Int → e3_H → e3_G → Prop) (l1 : Int) (l2 : Int) (l3 : Int) (l4 : Int) (l5 : Int) (H : e3_H) (G : e3_G) (h : wM_begins_144 Q l1 l2 l3 l4 l5 H G) : e3_Ev (wB L xs) 7 155 222 144 [(2, 40), (0, l1), (0, l2), (0, l3), (0, l4), (0, l5), (3, 0), (3, 0), (3, 0), (3, 0), (3, 0)] [] H G (e3_q0 Q) := by
  unfold wM_begins_144 at h
  refine e3_K [0] 146 [(2, 40), (0, l1), (0, l2), (0, l3), (0, l4), (0, l5), (3, 0), (3, 0), (3, 0), (3, 0), (3, 0)] [(0, l5)] (H) (G) (wZ L xs) (M := tbM222) rfl rfl trivial ?_
  refine e3_br (M := tbM222) rfl rfl rfl Iff.rfl (fun hc => ?_) (fun hc => ?_)
  · replace h := h.1 hc
    exact sM_begins_154 L xs Q _ _ _ _ _ _ _ h
  · replace h := h.2 hc
    refine e3_K [0, 0] 151 [(2, 40), (0, l1), (0, l2), (0, l3), (0, l4), (0, l5), (3, 0), (3, 0), (3, 0), (3, 0), (3, 0)] [(0, 1), (0, l1)] (H) (G) (wZ L xs) (M := tbM222) rfl rfl trivial ?_
    refine e3_br (M := tbM222) rfl rfl rfl Iff.rfl (fun hc => ?_) (fun hc => ?_)
    · replace h := h.1 hc
      exact sM_begins_154 L xs Q _ _ _ _ _ _ _ h
    · replace h := h.2 hc
      exact sM_begins_181 L xs Q _ _ _ _ _ _ _ h
set_option maxRecDepth 100000 in
set_option maxHeartbeats 4000000 in
theorem sM_begins_120 (L : Nat) (xs : Nat → Int32) (Q : Int → e3_H → e3_G → Prop) (l1 : Int) (l2 : Int) (l3 : Int) (l4 : Int) (l5 : Int) (s0 : Int) (H : e3_H) (G : e3_G) (h : wM_begins_120 Q l1 l2 l3 l4 l5 s0 H G) : e3_Ev (wB L xs) 7 155 222 120 [(2, 40), (0, l1), (0, l2), (0, l3), (0, l4), (0, l5), (3, 0), (3, 0), (3, 0), (3, 0), (3, 0)] [(0, s0)] H G (e3_q0 Q) := by
  unfold wM_begins_120 at h
  refine e3_K [0, 0] 124 [(2, 40), (0, l1), (0, l2), (0, l3), (0, l4), (0, l5), (0, s0), (3, 0), (3, 0), (3, 0), (3, 0)] [(0, s0)] (H) (G) (wZ L xs) (M := tbM222) rfl rfl trivial ?_
  refine e3_br (M := tbM222) rfl rfl rfl Iff.rfl (fun hc => ?_) (fun hc => ?_)
  · replace h := h.1 hc
    refine e3_K [0, 0] 129 [(2, 40), (0, l1), (0, l2), (0, l3), (0, l4), (0, l5), (0, s0), (3, 0), (3, 0), (3, 0), (3, 0)] [(0, 2), (2, 40)] (H) (G) (wZ L xs) (M := tbM222) rfl rfl trivial ?_
    refine e3_call (o := 0) (k := 209) (M2 := tbM209) (f1 := 1) (w1 := 22) (as := [(2, 40), (0, 2)]) (rest := []) (M := tbM222) rfl rfl rfl trivial (Nat.le_of_ble_eq_true rfl) (Nat.le_of_ble_eq_true rfl) (Nat.le_of_ble_eq_true rfl) ?_
    refine e3_mono (sM_stop L xs _ _ _ _ h) (fun r H1 G2 h => ?_)
    obtain ⟨rfl, h⟩ := h
    change e3_Ev _ _ _ _ 132 [(2, 40), (0, l1), (0, l2), (0, l3), (0, l4), (0, l5), (0, s0), (3, 0), (3, 0), (3, 0), (3, 0)] [] H1 G2 _
    refine e3_K [0] 134 [(2, 40), (0, l1), (0, l2), (0, l3), (0, l4), (0, l5), (0, s0), (3, 0), (3, 0), (3, 0), (3, 0)] [(0, (-4))] (H1) (G2) (wZ L xs) (M := tbM222) rfl rfl trivial ?_
    exact e3_reti (M := tbM222) rfl rfl rfl ⟨_, rfl, h⟩
  · replace h := h.2 hc
    refine e3_K [0] 137 [(2, 40), (0, l1), (0, l2), (0, l3), (0, l4), (0, l5), (0, s0), (3, 0), (3, 0), (3, 0), (3, 0)] [(0, l4)] (H) (G) (wZ L xs) (M := tbM222) rfl rfl trivial ?_
    refine e3_br (M := tbM222) rfl rfl rfl Iff.rfl (fun hc => ?_) (fun hc => ?_)
    · replace h := h.1 hc
      refine e3_fgt [true, true, true, true, true, true, false, false, false, false, false] ?_
      exact sM_begins_144 L xs Q _ _ _ _ _ _ _ h
    · replace h := h.2 hc
      refine e3_K [0] 141 [(2, 40), (0, l1), (0, l2), (0, l3), (0, l4), (0, l5), (0, s0), (3, 0), (3, 0), (3, 0), (3, 0)] [(0, l1)] (H) (G) (wZ L xs) (M := tbM222) rfl rfl trivial ?_
      refine e3_br (M := tbM222) rfl rfl rfl Iff.rfl (fun hc => ?_) (fun hc => ?_)
      · replace h := h.1 hc
        refine e3_fgt [true, true, true, true, true, true, false, false, false, false, false] ?_
        exact sM_begins_144 L xs Q _ _ _ _ _ _ _ h
      · replace h := h.2 hc
        refine e3_fgt [true, true, true, true, true, true, false, false, false, false, false] ?_
        exact sM_begins_181 L xs Q _ _ _ _ _ _ _ h
set_option maxRecDepth 100000 in
set_option maxHeartbeats 4000000 in
theorem sM_begins_115 (L : Nat) (xs : Nat → Int32) (Q : Int → e3_H → e3_G → Prop) (l1 : Int) (l2 : Int) (l3 : Int) (l4 : Int) (l5 : Int) (H : e3_H) (G : e3_G) (h : wM_begins_115 Q l1 l2 l3 l4 l5 H G) : e3_Ev (wB L xs) 7 155 222 115 [(2, 40), (0, l1), (0, l2), (0, l3), (0, l4), (0, l5), (3, 0), (3, 0), (3, 0), (3, 0), (3, 0)] [] H G (e3_q0 Q) := by
  unfold wM_begins_115 at h
  refine e3_K [0, 0] 120 [(2, 40), (0, l1), (0, l2), (0, l3), (0, l4), (0, l5), (3, 0), (3, 0), (3, 0), (3, 0), (3, 0)] [(0, 1)] (H) (G) (wZ L xs) (M := tbM222) rfl rfl trivial ?_
  exact sM_begins_120 L xs Q _ _ _ _ _ _ _ _ h
set_option maxRecDepth 100000 in
set_option maxHeartbeats 4000000 in
theorem sM_begins_52 (L : Nat) (xs : Nat → Int32) (Q : Int → e3_H → e3_G → Prop) (l1 : Int) (l2 : Int) (l3 : Int) (l4 : Int) (s0 : Int) (H : e3_H) (G : e3_G) (h : wM_begins_52 Q l1 l2 l3 l4 s0 H G) : e3_Ev (wB L xs) 7 155 222 52 [(2, 40), (0, l1), (0, l2), (0, l3), (0, l4), (3, 0), (3, 0), (3, 0), (3, 0), (3, 0), (3, 0)] [(0, s0)] H G (e3_q0 Q) := by
  unfold wM_begins_52 at h
  refine e3_K [0, 0] 56 [(2, 40), (0, l1), (0, l2), (0, l3), (0, l4), (0, s0), (3, 0), (3, 0), (3, 0), (3, 0), (3, 0)] [(0, l4)] (H) (G) (wZ L xs) (M := tbM222) rfl rfl trivial ?_
  refine e3_br (M := tbM222) rfl rfl rfl Iff.rfl (fun hc => ?_) (fun hc => ?_)
  · replace h := h.1 hc
    refine e3_K [0] 61 [(2, 40), (0, l1), (0, l2), (0, l3), (0, l4), (0, s0), (3, 0), (3, 0), (3, 0), (3, 0), (3, 0)] [(0, s0)] (H) (G) (wZ L xs) (M := tbM222) rfl rfl trivial ?_
    refine e3_br (M := tbM222) rfl rfl rfl Iff.rfl (fun hc => ?_) (fun hc => ?_)
    · replace h := h.1 hc
      refine e3_K [0, 2, 0] 69 [(2, 40), (0, l1), (0, l2), (0, l3), (0, l4), (0, s0), (3, 0), (3, 0), (3, 0), (3, 0), (3, 0)] [(0, 4), (0, (H 40 3))] (H) (G) (wZ L xs) (M := tbM222) rfl rfl ⟨trivial, trivial⟩ ?_
      refine e3_br (M := tbM222) rfl rfl rfl Iff.rfl (fun hc => ?_) (fun hc => ?_)
      · replace h := h.1 hc
        exact sM_begins_115 L xs Q _ _ _ _ _ _ _ h
      · replace h := h.2 hc
        refine e3_K [0, 2, 0] 77 [(2, 40), (0, l1), (0, l2), (0, l3), (0, l4), (0, s0), (3, 0), (3, 0), (3, 0), (3, 0), (3, 0)] [(0, 1), (0, (H 40 3))] (H) (G) (wZ L xs) (M := tbM222) rfl rfl ⟨trivial, trivial⟩ ?_
        refine e3_br (M := tbM222) rfl rfl rfl Iff.rfl (fun hc => ?_) (fun hc => ?_)
        · replace h := h.1 hc
          exact sM_begins_115 L xs Q _ _ _ _ _ _ _ h
        · replace h := h.2 hc
          refine e3_K [0, 2, 0] 85 [(2, 40), (0, l1), (0, l2), (0, l3), (0, l4), (0, s0), (3, 0), (3, 0), (3, 0), (3, 0), (3, 0)] [(0, 2), (0, (H 40 3))] (H) (G) (wZ L xs) (M := tbM222) rfl rfl ⟨trivial, trivial⟩ ?_
          refine e3_br (M := tbM222) rfl rfl rfl Iff.rfl (fun hc => ?_) (fun hc => ?_)
          · replace h := h.1 hc
            exact sM_begins_115 L xs Q _ _ _ _ _ _ _ h
          · replace h := h.2 hc
            refine e3_K [0, 0] 91 [(2, 40), (0, l1), (0, l2), (0, l3), (0, l4), (0, s0), (3, 0), (3, 0), (3, 0), (3, 0), (3, 0)] [(0, 95), (2, 40)] (H) (G) (wZ L xs) (M := tbM222) rfl rfl trivial ?_
            refine e3_call (o := 0) (k := 215) (M2 := tbM215) (f1 := 0) (w1 := 0) (as := [(2, 40), (0, 95)]) (rest := []) (M := tbM222) rfl rfl rfl trivial (Nat.le_of_ble_eq_true rfl) (Nat.le_of_ble_eq_true rfl) (Nat.le_of_ble_eq_true rfl) ?_
            refine e3_mono (sM_isSign L xs _ _ _ _ h) (fun r H1 G2 h => ?_)
            obtain ⟨x3, rfl, h⟩ := h
            change e3_Ev _ _ _ _ 94 [(2, 40), (0, l1), (0, l2), (0, l3), (0, l4), (0, s0), (3, 0), (3, 0), (3, 0), (3, 0), (3, 0)] [(0, x3)] H1 G2 _
            refine e3_br (M := tbM222) rfl rfl rfl Iff.rfl (fun hc => ?_) (fun hc => ?_)
            · replace h := h.1 hc
              refine e3_K [0, 0] 100 [(2, 40), (0, l1), (0, l2), (0, l3), (0, l4), (0, s0), (3, 0), (3, 0), (3, 0), (3, 0), (3, 0)] [(0, 40), (2, 40)] (H1) (G2) (wZ L xs) (M := tbM222) rfl rfl trivial ?_
              refine e3_call (o := 0) (k := 215) (M2 := tbM215) (f1 := 0) (w1 := 0) (as := [(2, 40), (0, 40)]) (rest := []) (M := tbM222) rfl rfl rfl trivial (Nat.le_of_ble_eq_true rfl) (Nat.le_of_ble_eq_true rfl) (Nat.le_of_ble_eq_true rfl) ?_
              refine e3_mono (sM_isSign L xs _ _ _ _ h) (fun r H4 G5 h => ?_)
              obtain ⟨x6, rfl, h⟩ := h
              change e3_Ev _ _ _ _ 103 [(2, 40), (0, l1), (0, l2), (0, l3), (0, l4), (0, s0), (3, 0), (3, 0), (3, 0), (3, 0), (3, 0)] [(0, x6)] H4 G5 _
              refine e3_br (M := tbM222) rfl rfl rfl Iff.rfl (fun hc => ?_) (fun hc => ?_)
              · replace h := h.1 hc
                refine e3_K [0, 0] 109 [(2, 40), (0, l1), (0, l2), (0, l3), (0, l4), (0, s0), (3, 0), (3, 0), (3, 0), (3, 0), (3, 0)] [(0, 10), (2, 40)] (H4) (G5) (wZ L xs) (M := tbM222) rfl rfl trivial ?_
                refine e3_call (o := 0) (k := 207) (M2 := tbM207) (f1 := 0) (w1 := 0) (as := [(2, 40), (0, 10)]) (rest := []) (M := tbM222) rfl rfl rfl trivial (Nat.le_of_ble_eq_true rfl) (Nat.le_of_ble_eq_true rfl) (Nat.le_of_ble_eq_true rfl) ?_
                refine e3_mono (sM_isWord L xs _ _ _ _ h) (fun r H7 G8 h => ?_)
                obtain ⟨x9, rfl, h⟩ := h
                change e3_Ev _ _ _ _ 112 [(2, 40), (0, l1), (0, l2), (0, l3), (0, l4), (0, s0), (3, 0), (3, 0), (3, 0), (3, 0), (3, 0)] [(0, x9)] H7 G8 _
                refine e3_br (M := tbM222) rfl rfl rfl Iff.rfl (fun hc => ?_) (fun hc => ?_)
                · replace h := h.1 hc
                  refine e3_K [0] 120 [(2, 40), (0, l1), (0, l2), (0, l3), (0, l4), (0, s0), (3, 0), (3, 0), (3, 0), (3, 0), (3, 0)] [(0, 0)] (H7) (G8) (wZ L xs) (M := tbM222) rfl rfl trivial ?_
                  exact sM_begins_120 L xs Q _ _ _ _ _ _ _ _ h
                · replace h := h.2 hc
                  exact sM_begins_115 L xs Q _ _ _ _ _ _ _ h
              · replace h := h.2 hc
                exact sM_begins_115 L xs Q _ _ _ _ _ _ _ h
            · replace h := h.2 hc
              exact sM_begins_115 L xs Q _ _ _ _ _ _ _ h
    · replace h := h.2 hc
      exact sM_begins_115 L xs Q _ _ _ _ _ _ _ h
  · replace h := h.2 hc
    exact sM_begins_115 L xs Q _ _ _ _ _ _ _ h
set_option maxRecDepth 100000 in
set_option maxHeartbeats 4000000 in
theorem sM_begins_47 (L : Nat) (xs : Nat → Int32) (Q : Int → e3_H → e3_G → Prop) (l1 : Int) (l2 : Int) (l3 : Int) (l4 : Int) (H : e3_H) (G : e3_G) (h : wM_begins_47 Q l1 l2 l3 l4 H G) : e3_Ev (wB L xs) 7 155 222 47 [(2, 40), (0, l1), (0, l2), (0, l3), (0, l4), (3, 0), (3, 0), (3, 0), (3, 0), (3, 0), (3, 0)] [] H G (e3_q0 Q) := by
  unfold wM_begins_47 at h
  refine e3_K [0, 0] 52 [(2, 40), (0, l1), (0, l2), (0, l3), (0, l4), (3, 0), (3, 0), (3, 0), (3, 0), (3, 0), (3, 0)] [(0, 1)] (H) (G) (wZ L xs) (M := tbM222) rfl rfl trivial ?_
  exact sM_begins_52 L xs Q _ _ _ _ _ _ _ h
set_option maxRecDepth 100000 in
set_option maxHeartbeats 4000000 in
theorem sM_begins_27 (L : Nat) (xs : Nat → Int32) (Q : Int → e3_H → e3_G → Prop) (l1 : Int) (l2 : Int) (l3 : Int) (s0 : Int) (H : e3_H) (G : e3_G) (h : wM_begins_27 Q l1 l2 l3 s0 H G) : e3_Ev (wB L xs) 7 155 222 27 [(2, 40), (0, l1), (0, l2), (0, l3), (3, 0), (3, 0), (3, 0), (3, 0), (3, 0), (3, 0), (3, 0)] [(0, s0)] H G (e3_q0 Q) := by
  unfold wM_begins_27 at h
  refine e3_K [0, 0, 0] 32 [(2, 40), (0, l1), (0, l2), (0, l3), (0, s0), (3, 0), (3, 0), (3, 0), (3, 0), (3, 0), (3, 0)] [(0, 8), (2, 40)] (H) (G) (wZ L xs) (M := tbM222) rfl rfl trivial ?_
  refine e3_call (o := 0) (k := 207) (M2 := tbM207) (f1 := 0) (w1 := 0) (as := [(2, 40), (0, 8)]) (rest := []) (M := tbM222) rfl rfl rfl trivial (Nat.le_of_ble_eq_true rfl) (Nat.le_of_ble_eq_true rfl) (Nat.le_of_ble_eq_true rfl) ?_
  refine e3_mono (sM_isWord L xs _ _ _ _ h) (fun r H1 G2 h => ?_)
  obtain ⟨x3, rfl, h⟩ := h
  change e3_Ev _ _ _ _ 35 [(2, 40), (0, l1), (0, l2), (0, l3), (0, s0), (3, 0), (3, 0), (3, 0), (3, 0), (3, 0), (3, 0)] [(0, x3)] H1 G2 _
  refine e3_br (M := tbM222) rfl rfl rfl Iff.rfl (fun hc => ?_) (fun hc => ?_)
  · replace h := h.1 hc
    refine e3_K [0, 0] 41 [(2, 40), (0, l1), (0, l2), (0, l3), (0, s0), (3, 0), (3, 0), (3, 0), (3, 0), (3, 0), (3, 0)] [(0, 9), (2, 40)] (H1) (G2) (wZ L xs) (M := tbM222) rfl rfl trivial ?_
    refine e3_call (o := 0) (k := 207) (M2 := tbM207) (f1 := 0) (w1 := 0) (as := [(2, 40), (0, 9)]) (rest := []) (M := tbM222) rfl rfl rfl trivial (Nat.le_of_ble_eq_true rfl) (Nat.le_of_ble_eq_true rfl) (Nat.le_of_ble_eq_true rfl) ?_
    refine e3_mono (sM_isWord L xs _ _ _ _ h) (fun r H4 G5 h => ?_)
    obtain ⟨x6, rfl, h⟩ := h
    change e3_Ev _ _ _ _ 44 [(2, 40), (0, l1), (0, l2), (0, l3), (0, s0), (3, 0), (3, 0), (3, 0), (3, 0), (3, 0), (3, 0)] [(0, x6)] H4 G5 _
    refine e3_br (M := tbM222) rfl rfl rfl Iff.rfl (fun hc => ?_) (fun hc => ?_)
    · replace h := h.1 hc
      refine e3_K [0] 52 [(2, 40), (0, l1), (0, l2), (0, l3), (0, s0), (3, 0), (3, 0), (3, 0), (3, 0), (3, 0), (3, 0)] [(0, 0)] (H4) (G5) (wZ L xs) (M := tbM222) rfl rfl trivial ?_
      exact sM_begins_52 L xs Q _ _ _ _ _ _ _ h
    · replace h := h.2 hc
      exact sM_begins_47 L xs Q _ _ _ _ _ _ h
  · replace h := h.2 hc
    exact sM_begins_47 L xs Q _ _ _ _ _ _ h
set_option maxRecDepth 100000 in
set_option maxHeartbeats 4000000 in
theorem sM_begins_22 (L : Nat) (xs : Nat → Int32) (Q : Int → e3_H → e3_G → Prop) (l1 : Int) (l2 : Int) (l3 : Int) (H : e3_H) (G : e3_G) (h : wM_begins_22 Q l1 l2 l3 H G) : e3_Ev (wB L xs) 7 155 222 22 [(2, 40), (0, l1), (0, l2), (0, l3), (3, 0), (3, 0), (3, 0), (3, 0), (3, 0), (3, 0), (3, 0)] [] H G (e3_q0 Q) := by
  unfold wM_begins_22 at h
  refine e3_K [0, 0] 27 [(2, 40), (0, l1), (0, l2), (0, l3), (3, 0), (3, 0), (3, 0), (3, 0), (3, 0), (3, 0), (3, 0)] [(0, 1)] (H) (G) (wZ L xs) (M := tbM222) rfl rfl trivial ?_
  exact sM_begins_27 L xs Q _ _ _ _ _ _ h
set_option maxRecDepth 100000 in
set_option maxHeartbeats 4000000 in
theorem sM_begins (L : Nat) (xs : Nat → Int32) (Q : Int → e3_H → e3_G → Prop) (l1 : Int) (l2 : Int) (H : e3_H) (G : e3_G) (h : wM_begins Q l1 l2 H G) : e3_Ev (wB L xs) 7 155 222 0 [(2, 40), (0, l1), (0, l2), (3, 0), (3, 0), (3, 0), (3, 0), (3, 0), (3, 0), (3, 0), (3, 0)] [] H G (e3_q0 Q) := by
  unfold wM_begins at h
  refine e3_K [0, 2, 0, 0, 2, 0] 10 [(2, 40), (0, l1), (0, l2), (0, (H 40 5)), (3, 0), (3, 0), (3, 0), (3, 0), (3, 0), (3, 0), (3, 0)] [(0, 3), (0, (H 40 3))] (H) (G) (wZ L xs) (M := tbM222) rfl rfl ⟨trivial, trivial, trivial⟩ ?_
  refine e3_br (M := tbM222) rfl rfl rfl Iff.rfl (fun hc => ?_) (fun hc => ?_)
  · replace h := h.1 hc
    exact sM_begins_22 L xs Q _ _ _ _ _ h
  · replace h := h.2 hc
    refine e3_K [0, 0] 16 [(2, 40), (0, l1), (0, l2), (0, (H 40 5)), (3, 0), (3, 0), (3, 0), (3, 0), (3, 0), (3, 0), (3, 0)] [(0, 45), (2, 40)] (H) (G) (wZ L xs) (M := tbM222) rfl rfl trivial ?_
    refine e3_call (o := 0) (k := 215) (M2 := tbM215) (f1 := 0) (w1 := 0) (as := [(2, 40), (0, 45)]) (rest := []) (M := tbM222) rfl rfl rfl trivial (Nat.le_of_ble_eq_true rfl) (Nat.le_of_ble_eq_true rfl) (Nat.le_of_ble_eq_true rfl) ?_
    refine e3_mono (sM_isSign L xs _ _ _ _ h) (fun r H1 G2 h => ?_)
    obtain ⟨x3, rfl, h⟩ := h
    change e3_Ev _ _ _ _ 19 [(2, 40), (0, l1), (0, l2), (0, (H 40 5)), (3, 0), (3, 0), (3, 0), (3, 0), (3, 0), (3, 0), (3, 0)] [(0, x3)] H1 G2 _
    refine e3_br (M := tbM222) rfl rfl rfl Iff.rfl (fun hc => ?_) (fun hc => ?_)
    · replace h := h.1 hc
      refine e3_K [0] 27 [(2, 40), (0, l1), (0, l2), (0, (H 40 5)), (3, 0), (3, 0), (3, 0), (3, 0), (3, 0), (3, 0), (3, 0)] [(0, 0)] (H1) (G2) (wZ L xs) (M := tbM222) rfl rfl trivial ?_
      exact sM_begins_27 L xs Q _ _ _ _ _ _ h
    · replace h := h.2 hc
      exact sM_begins_22 L xs Q _ _ _ _ _ h
