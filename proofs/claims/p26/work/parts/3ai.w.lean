/-- LetterPost$Reader.forgetText()V -/
def wR_forgetText (Q : e3_H → e3_G → Prop)  (H : e3_H) (G : e3_G) : Prop :=
  ∀ H1 : e3_H, H1 = e3_up H 14 3 0 → ∀ H2 : e3_H, H2 = e3_up H1 8 0 0 → Q H2 G
set_option maxRecDepth 100000 in
set_option maxHeartbeats 4000000 in
theorem sR_forgetText (L : Nat) (xs : Nat → Int32) (Q : e3_H → e3_G → Prop)  (H : e3_H) (G : e3_G) (h : wR_forgetText Q  H G) : e3_Ev (wB L xs) 0 0 94 0 [(2, 14)] [] H G (e3_qv Q) := by
  unfold wR_forgetText at h
  refine e3_K [0, 0, 2] 5 [(2, 14)] [] (e3_up H 14 3 0) (G) (wZ L xs) (M := tbM94) rfl rfl ⟨trivial, trivial⟩ ?_
  generalize hH1 : (e3_up H 14 3 0) = H1
  replace h := h H1 hH1.symm
  refine e3_K [0, 4, 0, 2] 13 [(2, 14)] [] (e3_up H1 8 0 0) (G) (wZ L xs) (M := tbM94) rfl rfl ⟨trivial, trivial, trivial⟩ ?_
  generalize hH2 : (e3_up H1 8 0 0) = H2
  replace h := h H2 hH2.symm
  exact e3_retv (M := tbM94) rfl rfl rfl ⟨rfl, h⟩
/-- LetterPost$Function.allRows()J -/
def wF_allRows (Q : Int → e3_H → e3_G → Prop) (l0 : Int) (H : e3_H) (G : e3_G) : Prop :=
  (e3_ob G 8 l0) ∧ Q (e3_w64 ((e3_lshl 1 (H l0 5)) - 1)) H G
set_option maxRecDepth 100000 in
set_option maxHeartbeats 4000000 in
theorem sF_allRows (L : Nat) (xs : Nat → Int32) (Q : Int → e3_H → e3_G → Prop) (l0 : Int) (H : e3_H) (G : e3_G) (h : wF_allRows Q l0 H G) : e3_Ev (wB L xs) 0 0 95 0 [(2, l0)] [] H G (e3_q1 Q) := by
  unfold wF_allRows at h
  obtain ⟨o1, h⟩ := h
  refine e3_K [0, 0, 3, 0, 0, 0] 8 [(2, l0)] [(1, (e3_w64 ((e3_lshl 1 (H l0 5)) - 1)))] (H) (G) (wZ L xs) (M := tbM95) rfl rfl ⟨o1, trivial⟩ ?_
  exact e3_retl (M := tbM95) rfl rfl rfl ⟨_, rfl, h⟩
/-- java/util/Arrays.fill([JJ)V -/
def wJ_fill_AJJ_6 (Q : e3_H → e3_G → Prop) : Nat → Int → Int → Int → Int → e3_H → e3_G → Prop
  | 0, _, _, _, _, _, _ => False
  | nn + 1, l0, l1, l3, l4, H, G => (((l3 : Int) < l4 → (e3_oa G 1 l0 l3) ∧ ∀ H1 : e3_H, H1 = e3_up H l0 l3 l1 → (wJ_fill_AJJ_6 Q nn l0 l1 (e3_w32 (l3 + 1)) l4 H1 G)) ∧ (¬ ((l3 : Int) < l4) → Q H G))
def wJ_fill_AJJ (Q : e3_H → e3_G → Prop) (l0 : Int) (l1 : Int) (H : e3_H) (G : e3_G) : Prop :=
  ((2 : Int) ≤ l0 ∧ e3_ln G l0 ≤ 2147483647 ∧ ∃ n, G[(l0 : Int).toNat]? = some (1, n)) ∧ (∃ n, wJ_fill_AJJ_6 Q n l0 l1 0 (e3_ln G l0) H G)
set_option maxRecDepth 100000 in
set_option maxHeartbeats 4000000 in
theorem sJ_fill_AJJ_6 (L : Nat) (xs : Nat → Int32) (Q : e3_H → e3_G → Prop) : ∀ (nl : Nat) (l0 : Int) (l1 : Int) (l3 : Int) (l4 : Int) (H : e3_H) (G : e3_G), wJ_fill_AJJ_6 Q nl l0 l1 l3 l4 H G → e3_Ev (wB L xs) 0 0 305 6 [(2, l0), (1, l1), (3, 0), (0, l3), (0, l4)] [] H G (e3_qv Q) := by
  intro nl
  induction nl with
  | zero => intro l0 l1 l3 l4 H G h; exact h.elim
  | succ nn ih =>
    intro l0 l1 l3 l4 H G h
    have h : (((l3 : Int) < l4 → (e3_oa G 1 l0 l3) ∧ ∀ H1 : e3_H, H1 = e3_up H l0 l3 l1 → (wJ_fill_AJJ_6 Q nn l0 l1 (e3_w32 (l3 + 1)) l4 H1 G)) ∧ (¬ ((l3 : Int) < l4) → Q H G)) := h
    refine e3_K [0, 0] 9 [(2, l0), (1, l1), (3, 0), (0, l3), (0, l4)] [(0, l4), (0, l3)] (H) (G) (wZ L xs) (M := tbM305) rfl rfl trivial ?_
    refine e3_br (M := tbM305) rfl rfl rfl Iff.rfl (fun hc => ?_) (fun hc => ?_)
    · replace h := h.1 hc
      obtain ⟨o2, h⟩ := h
      refine e3_K [0, 0, 0, 4] 16 [(2, l0), (1, l1), (3, 0), (0, l3), (0, l4)] [] (e3_up H l0 l3 l1) (G) (wZ L xs) (M := tbM305) rfl rfl ⟨o2, trivial⟩ ?_
      generalize hH1 : (e3_up H l0 l3 l1) = H1
      replace h := h H1 hH1.symm
      refine e3_K [0, 0] 6 [(2, l0), (1, l1), (3, 0), (0, (e3_w32 (l3 + 1))), (0, l4)] [] (H1) (G) (wZ L xs) (M := tbM305) rfl rfl trivial ?_
      exact ih _ _ _ _ _ _ h
    · replace h := h.2 hc
      exact e3_retv (M := tbM305) rfl rfl rfl ⟨rfl, h⟩
set_option maxRecDepth 100000 in
set_option maxHeartbeats 4000000 in
theorem sJ_fill_AJJ (L : Nat) (xs : Nat → Int32) (Q : e3_H → e3_G → Prop) (l0 : Int) (l1 : Int) (H : e3_H) (G : e3_G) (h : wJ_fill_AJJ Q l0 l1 H G) : e3_Ev (wB L xs) 0 0 305 0 [(2, l0), (1, l1), (3, 0), (3, 0), (3, 0)] [] H G (e3_qv Q) := by
  unfold wJ_fill_AJJ at h
  obtain ⟨o1, h⟩ := h
  refine e3_K [0, 0, 0, 4, 0] 6 [(2, l0), (1, l1), (3, 0), (0, 0), (0, (e3_ln G l0))] [] (H) (G) (wZ L xs) (M := tbM305) rfl rfl ⟨o1, trivial⟩ ?_
  obtain ⟨nl, h⟩ := h
  exact sJ_fill_AJJ_6 L xs Q nl _ _ _ _ _ _ h
/-- LetterPost$Tree.clear(II)V -/
def wE_clear (Q : e3_H → e3_G → Prop) (l0 : Int) (l1 : Int) (l2 : Int) (H : e3_H) (G : e3_G) : Prop :=
  (e3_ob G 5 l0) ∧ ∀ H1 : e3_H, H1 = e3_up H l0 0 0 → (e3_ob G 5 l0) ∧ ∀ H3 : e3_H, H3 = e3_up H1 l0 1 0 → (e3_ob G 5 l0) ∧ ∀ H5 : e3_H, H5 = e3_up H3 l0 2 l1 → (e3_ob G 5 l0) ∧ ∀ H7 : e3_H, H7 = e3_up H5 l0 3 l2 → Q H7 G
set_option maxRecDepth 100000 in
set_option maxHeartbeats 4000000 in
theorem sE_clear (L : Nat) (xs : Nat → Int32) (Q : e3_H → e3_G → Prop) (l0 : Int) (l1 : Int) (l2 : Int) (H : e3_H) (G : e3_G) (h : wE_clear Q l0 l1 l2 H G) : e3_Ev (wB L xs) 0 0 97 0 [(2, l0), (0, l1), (0, l2)] [] H G (e3_qv Q) := by
  unfold wE_clear at h
  obtain ⟨o2, h⟩ := h
  refine e3_K [0, 0, 3] 5 [(2, l0), (0, l1), (0, l2)] [] (e3_up H l0 0 0) (G) (wZ L xs) (M := tbM97) rfl rfl ⟨⟨o2, trivial⟩, trivial⟩ ?_
  generalize hH1 : (e3_up H l0 0 0) = H1
  replace h := h H1 hH1.symm
  obtain ⟨o4, h⟩ := h
  refine e3_K [0, 0, 3] 10 [(2, l0), (0, l1), (0, l2)] [] (e3_up H1 l0 1 0) (G) (wZ L xs) (M := tbM97) rfl rfl ⟨⟨o4, trivial⟩, trivial⟩ ?_
  generalize hH3 : (e3_up H1 l0 1 0) = H3
  replace h := h H3 hH3.symm
  obtain ⟨o6, h⟩ := h
  refine e3_K [0, 0, 3] 15 [(2, l0), (0, l1), (0, l2)] [] (e3_up H3 l0 2 l1) (G) (wZ L xs) (M := tbM97) rfl rfl ⟨⟨o6, trivial⟩, trivial⟩ ?_
  generalize hH5 : (e3_up H3 l0 2 l1) = H5
  replace h := h H5 hH5.symm
  obtain ⟨o8, h⟩ := h
  refine e3_K [0, 0, 3] 20 [(2, l0), (0, l1), (0, l2)] [] (e3_up H5 l0 3 l2) (G) (wZ L xs) (M := tbM97) rfl rfl ⟨⟨o8, trivial⟩, trivial⟩ ?_
  generalize hH7 : (e3_up H5 l0 3 l2) = H7
  replace h := h H7 hH7.symm
  exact e3_retv (M := tbM97) rfl rfl rfl ⟨rfl, h⟩
/-- java/lang/Math.max(II)I -/
def wJ_max_II_10 (Q : Int → e3_H → e3_G → Prop) (s0 : Int) (H : e3_H) (G : e3_G) : Prop :=
  Q s0 H G
def wJ_max_II (Q : Int → e3_H → e3_G → Prop) (l0 : Int) (l1 : Int) (H : e3_H) (G : e3_G) : Prop :=
  (((l0 : Int) < l1 → (wJ_max_II_10 Q l1 H G)) ∧ (¬ ((l0 : Int) < l1) → (wJ_max_II_10 Q l0 H G)))
set_option maxRecDepth 100000 in
set_option maxHeartbeats 4000000 in
theorem sJ_max_II_10 (L : Nat) (xs : Nat → Int32) (Q : Int → e3_H → e3_G → Prop) (s0 : Int) (H : e3_H) (G : e3_G) (h : wJ_max_II_10 Q s0 H G) : e3_Ev (wB L xs) 0 0 302 10 [(3, 0), (3, 0)] [(0, s0)] H G (e3_q0 Q) := by
  unfold wJ_max_II_10 at h
  exact e3_reti (M := tbM302) rfl rfl rfl ⟨_, rfl, h⟩
set_option maxRecDepth 100000 in
set_option maxHeartbeats 4000000 in
theorem sJ_max_II (L : Nat) (xs : Nat → Int32) (Q : Int → e3_H → e3_G → Prop) (l0 : Int) (l1 : Int) (H : e3_H) (G : e3_G) (h : wJ_max_II Q l0 l1 H G) : e3_Ev (wB L xs) 0 0 302 0 [(0, l0), (0, l1)] [] H G (e3_q0 Q) := by
  unfold wJ_max_II at h
  refine e3_K [0, 0] 2 [(0, l0), (0, l1)] [(0, l1), (0, l0)] (H) (G) (wZ L xs) (M := tbM302) rfl rfl trivial ?_
  refine e3_br (M := tbM302) rfl rfl rfl Iff.rfl (fun hc => ?_) (fun hc => ?_)
  · replace h := h.1 hc
    refine e3_K [0] 10 [(0, l0), (0, l1)] [(0, l1)] (H) (G) (wZ L xs) (M := tbM302) rfl rfl trivial ?_
    refine e3_fgt [false, false] ?_
    exact sJ_max_II_10 L xs Q _ _ _ h
  · replace h := h.2 hc
    refine e3_K [0, 0] 10 [(0, l0), (0, l1)] [(0, l0)] (H) (G) (wZ L xs) (M := tbM302) rfl rfl trivial ?_
    refine e3_fgt [false, false] ?_
    exact sJ_max_II_10 L xs Q _ _ _ h
/-- LetterPost$Tree.begin(JI)I -/
def wE_begin (Q : Int → e3_H → e3_G → Prop) (l0 : Int) (l1 : Int) (l3 : Int) (H : e3_H) (G : e3_G) : Prop :=
  (e3_ob G 5 l0) ∧ ((((H l0 0) : Int) < 120 → (e3_ob G 5 l0) ∧ (e3_ob G 5 l0) ∧ (e3_oa G 0 (H l0 4) (H l0 0)) ∧ ∀ H2 : e3_H, H2 = e3_up H (H l0 4) (H l0 0) 0 → (e3_ob G 5 l0) ∧ (e3_oa G 0 (H2 l0 5) (H l0 0)) ∧ ∀ H6 : e3_H, H6 = e3_up H2 (H2 l0 5) (H l0 0) (-1) → (e3_ob G 5 l0) ∧ (e3_oa G 0 (H6 l0 6) (H l0 0)) ∧ ∀ H9 : e3_H, H9 = e3_up H6 (H6 l0 6) (H l0 0) (-1) → (e3_ob G 5 l0) ∧ (e3_oa G 0 (H9 l0 7) (H l0 0)) ∧ ∀ H12 : e3_H, H12 = e3_up H9 (H9 l0 7) (H l0 0) 0 → (e3_ob G 5 l0) ∧ (e3_oa G 1 (H12 l0 9) (H l0 0)) ∧ ∀ H15 : e3_H, H15 = e3_up H12 (H12 l0 9) (H l0 0) l1 → (e3_ob G 5 l0) ∧ (e3_ob G 5 l0) ∧ ∀ H18 : e3_H, H18 = e3_up H15 l0 0 (e3_w32 ((H15 l0 0) + 1)) → (e3_ob G 5 l0) ∧ (wJ_max_II (fun x24 H22 G23 => (e3_ob G23 5 l0) ∧ ∀ H25 : e3_H, H25 = e3_up H22 l0 1 x24 → Q (H l0 0) H25 G23) (H18 l0 1) l3 H18 G)) ∧ (¬ (((H l0 0) : Int) < 120) → Q (-1) H G))
set_option maxRecDepth 100000 in
set_option maxHeartbeats 4000000 in
theorem sE_begin (L : Nat) (xs : Nat → Int32) (Q : Int → e3_H → e3_G → Prop) (l0 : Int) (l1 : Int) (l3 : Int) (H : e3_H) (G : e3_G) (h : wE_begin Q l0 l1 l3 H G) : e3_Ev (wB L xs) 1 21 99 0 [(2, l0), (1, l1), (3, 0), (0, l3), (3, 0)] [] H G (e3_q0 Q) := by
  unfold wE_begin at h
  obtain ⟨o1, h⟩ := h
  refine e3_K [0, 3, 0] 6 [(2, l0), (1, l1), (3, 0), (0, l3), (3, 0)] [(0, 120), (0, (H l0 0))] (H) (G) (wZ L xs) (M := tbM99) rfl rfl ⟨o1, trivial⟩ ?_
  refine e3_br (M := tbM99) rfl rfl rfl Iff.rfl (fun hc => ?_) (fun hc => ?_)
  · replace h := h.1 hc
    obtain ⟨o3, o4, o5, h⟩ := h
    refine e3_K [0, 3, 0, 0, 3, 0, 0, 3] 25 [(2, l0), (1, l1), (3, 0), (0, l3), (0, (H l0 0))] [] (e3_up H (H l0 4) (H l0 0) 0) (G) (wZ L xs) (M := tbM99) rfl rfl ⟨o3, o4, o5, trivial⟩ ?_
    generalize hH2 : (e3_up H (H l0 4) (H l0 0) 0) = H2
    replace h := h H2 hH2.symm
    obtain ⟨o7, o8, h⟩ := h
    refine e3_K [0, 3, 0, 0, 3] 33 [(2, l0), (1, l1), (3, 0), (0, l3), (0, (H l0 0))] [] (e3_up H2 (H2 l0 5) (H l0 0) (-1)) (G) (wZ L xs) (M := tbM99) rfl rfl ⟨o7, o8, trivial⟩ ?_
    generalize hH6 : (e3_up H2 (H2 l0 5) (H l0 0) (-1)) = H6
    replace h := h H6 hH6.symm
    obtain ⟨o10, o11, h⟩ := h
    refine e3_K [0, 3, 0, 0, 3] 41 [(2, l0), (1, l1), (3, 0), (0, l3), (0, (H l0 0))] [] (e3_up H6 (H6 l0 6) (H l0 0) (-1)) (G) (wZ L xs) (M := tbM99) rfl rfl ⟨o10, o11, trivial⟩ ?_
    generalize hH9 : (e3_up H6 (H6 l0 6) (H l0 0) (-1)) = H9
    replace h := h H9 hH9.symm
    obtain ⟨o13, o14, h⟩ := h
    refine e3_K [0, 3, 0, 0, 3] 49 [(2, l0), (1, l1), (3, 0), (0, l3), (0, (H l0 0))] [] (e3_up H9 (H9 l0 7) (H l0 0) 0) (G) (wZ L xs) (M := tbM99) rfl rfl ⟨o13, o14, trivial⟩ ?_
    generalize hH12 : (e3_up H9 (H9 l0 7) (H l0 0) 0) = H12
    replace h := h H12 hH12.symm
    obtain ⟨o16, o17, h⟩ := h
    refine e3_K [0, 3, 0, 0, 4] 57 [(2, l0), (1, l1), (3, 0), (0, l3), (0, (H l0 0))] [] (e3_up H12 (H12 l0 9) (H l0 0) l1) (G) (wZ L xs) (M := tbM99) rfl rfl ⟨o16, o17, trivial⟩ ?_
    generalize hH15 : (e3_up H12 (H12 l0 9) (H l0 0) l1) = H15
    replace h := h H15 hH15.symm
    obtain ⟨o19, o20, h⟩ := h
    refine e3_K [0, 0, 3, 0, 0, 3] 67 [(2, l0), (1, l1), (3, 0), (0, l3), (0, (H l0 0))] [] (e3_up H15 l0 0 (e3_w32 ((H15 l0 0) + 1))) (G) (wZ L xs) (M := tbM99) rfl rfl ⟨o19, ⟨o20, trivial⟩, trivial⟩ ?_
    generalize hH18 : (e3_up H15 l0 0 (e3_w32 ((H15 l0 0) + 1))) = H18
    replace h := h H18 hH18.symm
    obtain ⟨o21, h⟩ := h
    refine e3_K [0, 0, 3, 0] 73 [(2, l0), (1, l1), (3, 0), (0, l3), (0, (H l0 0))] [(0, l3), (0, (H18 l0 1)), (2, l0)] (H18) (G) (wZ L xs) (M := tbM99) rfl rfl ⟨o21, trivial⟩ ?_
    refine e3_call (o := 0) (k := 302) (M2 := tbM302) (f1 := 0) (w1 := 0) (as := [(0, (H18 l0 1)), (0, l3)]) (rest := [(2, l0)]) (M := tbM99) rfl rfl rfl trivial (Nat.le_of_ble_eq_true rfl) (Nat.le_of_ble_eq_true rfl) (Nat.le_of_ble_eq_true rfl) ?_
    refine e3_mono (sJ_max_II L xs _ _ _ _ _ h) (fun r H22 G23 h => ?_)
    obtain ⟨x24, rfl, h⟩ := h
    change e3_Ev _ _ _ _ 76 [(2, l0), (1, l1), (3, 0), (0, l3), (0, (H l0 0))] [(0, x24), (2, l0)] H22 G23 _
    obtain ⟨o26, h⟩ := h
    refine e3_K [3] 79 [(2, l0), (1, l1), (3, 0), (0, l3), (0, (H l0 0))] [] (e3_up H22 l0 1 x24) (G23) (wZ L xs) (M := tbM99) rfl rfl ⟨⟨o26, trivial⟩, trivial⟩ ?_
    generalize hH25 : (e3_up H22 l0 1 x24) = H25
    replace h := h H25 hH25.symm
    refine e3_K [0] 81 [(2, l0), (1, l1), (3, 0), (0, l3), (0, (H l0 0))] [(0, (H l0 0))] (H25) (G23) (wZ L xs) (M := tbM99) rfl rfl trivial ?_
    exact e3_reti (M := tbM99) rfl rfl rfl ⟨_, rfl, h⟩
  · replace h := h.2 hc
    refine e3_K [0] 10 [(2, l0), (1, l1), (3, 0), (0, l3), (3, 0)] [(0, (-1))] (H) (G) (wZ L xs) (M := tbM99) rfl rfl trivial ?_
    exact e3_reti (M := tbM99) rfl rfl rfl ⟨_, rfl, h⟩
/-- LetterPost$TreeMaker.isKnown(I)Z -/
def wD_isKnown_31 (Q : Int → e3_H → e3_G → Prop) (s0 : Int) (H : e3_H) (G : e3_G) : Prop :=
  ((s0 : Int) = 0 ∨ s0 = 1) ∧ Q s0 H G
def wD_isKnown_30 (Q : Int → e3_H → e3_G → Prop)  (H : e3_H) (G : e3_G) : Prop :=
  (wD_isKnown_31 Q 0 H G)
def wD_isKnown (Q : Int → e3_H → e3_G → Prop) (l1 : Int) (H : e3_H) (G : e3_G) : Prop :=
  (((l1 : Int) < 0 → (wD_isKnown_30 Q H G)) ∧ (¬ ((l1 : Int) < 0) → ((2 : Int) ≤ (H 16 4) ∧ e3_ln G (H 16 4) ≤ 2147483647 ∧ ∃ n, G[((H 16 4) : Int).toNat]? = some (1, n)) ∧ (((l1 : Int) < (e3_ln G (H 16 4)) → (e3_oa G 1 (H 16 4) l1) ∧ ((((H (H 16 4) l1) : Int) = ((-9223372036854775808 : Int64).toInt) → (wD_isKnown_30 Q H G)) ∧ (¬ (((H (H 16 4) l1) : Int) = ((-9223372036854775808 : Int64).toInt)) → (wD_isKnown_31 Q 1 H G)))) ∧ (¬ ((l1 : Int) < (e3_ln G (H 16 4))) → (wD_isKnown_30 Q H G)))))
set_option maxRecDepth 100000 in
set_option maxHeartbeats 4000000 in
theorem sD_isKnown_31 (L : Nat) (xs : Nat → Int32) (Q : Int → e3_H → e3_G → Prop) (s0 : Int) (H : e3_H) (G : e3_G) (h : wD_isKnown_31 Q s0 H G) : e3_Ev (wB L xs) 0 0 102 31 [(3, 0), (3, 0)] [(0, s0)] H G (e3_q0 Q) := by
  unfold wD_isKnown_31 at h
  exact e3_retb (M := tbM102) rfl rfl rfl h.1 ⟨_, rfl, h.2⟩
set_option maxRecDepth 100000 in
set_option maxHeartbeats 4000000 in
theorem sD_isKnown_30 (L : Nat) (xs : Nat → Int32) (Q : Int → e3_H → e3_G → Prop)  (H : e3_H) (G : e3_G) (h : wD_isKnown_30 Q  H G) : e3_Ev (wB L xs) 0 0 102 30 [(3, 0), (3, 0)] [] H G (e3_q0 Q) := by
  unfold wD_isKnown_30 at h
  refine e3_K [0] 31 [(3, 0), (3, 0)] [(0, 0)] (H) (G) (wZ L xs) (M := tbM102) rfl rfl trivial ?_
  exact sD_isKnown_31 L xs Q _ _ _ h
set_option maxRecDepth 100000 in
set_option maxHeartbeats 4000000 in
theorem sD_isKnown (L : Nat) (xs : Nat → Int32) (Q : Int → e3_H → e3_G → Prop) (l1 : Int) (H : e3_H) (G : e3_G) (h : wD_isKnown Q l1 H G) : e3_Ev (wB L xs) 0 0 102 0 [(2, 16), (0, l1)] [] H G (e3_q0 Q) := by
  unfold wD_isKnown at h
  refine e3_K [0] 1 [(2, 16), (0, l1)] [(0, l1)] (H) (G) (wZ L xs) (M := tbM102) rfl rfl trivial ?_
  refine e3_br (M := tbM102) rfl rfl rfl Iff.rfl (fun hc => ?_) (fun hc => ?_)
  · replace h := h.1 hc
    refine e3_fgt [false, false] ?_
    exact sD_isKnown_30 L xs Q _ _ h
  · replace h := h.2 hc
    obtain ⟨o1, h⟩ := h
    refine e3_K [0, 0, 2, 4] 10 [(2, 16), (0, l1)] [(0, (e3_ln G (H 16 4))), (0, l1)] (H) (G) (wZ L xs) (M := tbM102) rfl rfl ⟨trivial, o1, trivial⟩ ?_
    refine e3_br (M := tbM102) rfl rfl rfl Iff.rfl (fun hc => ?_) (fun hc => ?_)
    · replace h := h.1 hc
      obtain ⟨o2, h⟩ := h
      refine e3_K [0, 2, 0, 4, 2, 0] 23 [(2, 16), (0, l1)] [(0, (e3_cmp (H (H 16 4) l1) ((-9223372036854775808 : Int64).toInt)))] (H) (G) (wZ L xs) (M := tbM102) rfl rfl ⟨trivial, o2, trivial, trivial⟩ ?_
      refine e3_br (M := tbM102) rfl rfl rfl e3_cmp_eq (fun hc => ?_) (fun hc => ?_)
      · replace h := h.1 hc
        refine e3_fgt [false, false] ?_
        exact sD_isKnown_30 L xs Q _ _ h
      · replace h := h.2 hc
        refine e3_K [0, 0] 31 [(2, 16), (0, l1)] [(0, 1)] (H) (G) (wZ L xs) (M := tbM102) rfl rfl trivial ?_
        refine e3_fgt [false, false] ?_
        exact sD_isKnown_31 L xs Q _ _ _ h
    · replace h := h.2 hc
      refine e3_fgt [false, false] ?_
      exact sD_isKnown_30 L xs Q _ _ h
/-- LetterPost$Kinds.holds(LLetterPost$Pattern;J)Z -/
def wK_holds_57 (Q : Int → e3_H → e3_G → Prop) (s0 : Int) (H : e3_H) (G : e3_G) : Prop :=
  ((s0 : Int) = 0 ∨ s0 = 1) ∧ Q s0 H G
def wK_holds_56 (Q : Int → e3_H → e3_G → Prop)  (H : e3_H) (G : e3_G) : Prop :=
  (wK_holds_57 Q 0 H G)
def wK_holds_33 (Q : Int → e3_H → e3_G → Prop) (s0 : Int) (H : e3_H) (G : e3_G) : Prop :=
  ((s0 : Int) = 0 ∨ s0 = 1) ∧ Q s0 H G
def wK_holds_32 (Q : Int → e3_H → e3_G → Prop)  (H : e3_H) (G : e3_G) : Prop :=
  (wK_holds_33 Q 0 H G)
def wK_holds (Q : Int → e3_H → e3_G → Prop) (l1 : Int) (l2 : Int) (H : e3_H) (G : e3_G) : Prop :=
  (e3_ob G 10 l1) ∧ ((((H l1 0) : Int) = 2 → (((l2 : Int) < 0 → (wK_holds_32 Q H G)) ∧ (¬ ((l2 : Int) < 0) → (e3_ob G 10 l1) ∧ (wK_isOrUnder (fun x5 H3 G4 => (((x5 : Int) = 0 → (wK_holds_32 Q H3 G4)) ∧ (¬ ((x5 : Int) = 0) → (wK_holds_33 Q 1 H3 G4)))) (e3_w32 l2) (e3_w32 (H l1 3)) H G)))) ∧ (¬ (((H l1 0) : Int) = 2) → (e3_ob G 10 l1) ∧ (((l2 : Int) < (H l1 3) → (wK_holds_56 Q H G)) ∧ (¬ ((l2 : Int) < (H l1 3)) → (e3_ob G 10 l1) ∧ ((((H l1 4) : Int) < l2 → (wK_holds_56 Q H G)) ∧ (¬ (((H l1 4) : Int) < l2) → (wK_holds_57 Q 1 H G)))))))
set_option maxRecDepth 100000 in
set_option maxHeartbeats 4000000 in
theorem sK_holds_57 (L : Nat) (xs : Nat → Int32) (Q : Int → e3_H → e3_G → Prop) (s0 : Int) (H : e3_H) (G : e3_G) (h : wK_holds_57 Q s0 H G) : e3_Ev (wB L xs) 1 24 103 57 [(3, 0), (3, 0), (3, 0), (3, 0)] [(0, s0)] H G (e3_q0 Q) := by
  unfold wK_holds_57 at h
  exact e3_retb (M := tbM103) rfl rfl rfl h.1 ⟨_, rfl, h.2⟩
set_option maxRecDepth 100000 in
set_option maxHeartbeats 4000000 in
theorem sK_holds_56 (L : Nat) (xs : Nat → Int32) (Q : Int → e3_H → e3_G → Prop)  (H : e3_H) (G : e3_G) (h : wK_holds_56 Q  H G) : e3_Ev (wB L xs) 1 24 103 56 [(3, 0), (3, 0), (3, 0), (3, 0)] [] H G (e3_q0 Q) := by
  unfold wK_holds_56 at h
  refine e3_K [0] 57 [(3, 0), (3, 0), (3, 0), (3, 0)] [(0, 0)] (H) (G) (wZ L xs) (M := tbM103) rfl rfl trivial ?_
  exact sK_holds_57 L xs Q _ _ _ h
set_option maxRecDepth 100000 in
set_option maxHeartbeats 4000000 in
theorem sK_holds_33 (L : Nat) (xs : Nat → Int32) (Q : Int → e3_H → e3_G → Prop) (s0 : Int) (H : e3_H) (G : e3_G) (h : wK_holds_33 Q s0 H G) : e3_Ev (wB L xs) 1 24 103 33 [(3, 0), (3, 0), (3, 0), (3, 0)] [(0, s0)] H G (e3_q0 Q) := by
  unfold wK_holds_33 at h
  exact e3_retb (M := tbM103) rfl rfl rfl h.1 ⟨_, rfl, h.2⟩
set_option maxRecDepth 100000 in
set_option maxHeartbeats 4000000 in
theorem sK_holds_32 (L : Nat) (xs : Nat → Int32) (Q : Int → e3_H → e3_G → Prop)  (H : e3_H) (G : e3_G) (h : wK_holds_32 Q  H G) : e3_Ev (wB L xs) 1 24 103 32 [(3, 0), (3, 0), (3, 0), (3, 0)] [] H G (e3_q0 Q) := by
  unfold wK_holds_32 at h
  refine e3_K [0] 33 [(3, 0), (3, 0), (3, 0), (3, 0)] [(0, 0)] (H) (G) (wZ L xs) (M := tbM103) rfl rfl trivial ?_
  exact sK_holds_33 L xs Q _ _ _ h
set_option maxRecDepth 100000 in
set_option maxHeartbeats 4000000 in
theorem sK_holds (L : Nat) (xs : Nat → Int32) (Q : Int → e3_H → e3_G → Prop) (l1 : Int) (l2 : Int) (H : e3_H) (G : e3_G) (h : wK_holds Q l1 l2 H G) : e3_Ev (wB L xs) 1 24 103 0 [(2, 8), (2, l1), (1, l2), (3, 0)] [] H G (e3_q0 Q) := by
  unfold wK_holds at h
  obtain ⟨o1, h⟩ := h
  refine e3_K [0, 3, 0] 5 [(2, 8), (2, l1), (1, l2), (3, 0)] [(0, 2), (0, (H l1 0))] (H) (G) (wZ L xs) (M := tbM103) rfl rfl ⟨o1, trivial⟩ ?_
  refine e3_br (M := tbM103) rfl rfl rfl Iff.rfl (fun hc => ?_) (fun hc => ?_)
  · replace h := h.1 hc
    refine e3_K [0, 0, 0] 11 [(2, 8), (2, l1), (1, l2), (3, 0)] [(0, (e3_cmp l2 0))] (H) (G) (wZ L xs) (M := tbM103) rfl rfl trivial ?_
    refine e3_br (M := tbM103) rfl rfl rfl e3_cmp_lt (fun hc => ?_) (fun hc => ?_)
    · replace h := h.1 hc
      refine e3_fgt [false, false, false, false] ?_
      exact sK_holds_32 L xs Q _ _ h
    · replace h := h.2 hc
      obtain ⟨o2, h⟩ := h
      refine e3_K [0, 0, 0, 0, 3, 0] 22 [(2, 8), (2, l1), (1, l2), (3, 0)] [(0, (e3_w32 (H l1 3))), (0, (e3_w32 l2)), (2, 8)] (H) (G) (wZ L xs) (M := tbM103) rfl rfl ⟨o2, trivial⟩ ?_
      refine e3_call (o := 0) (k := 55) (M2 := tbM55) (f1 := 0) (w1 := 0) (as := [(2, 8), (0, (e3_w32 l2)), (0, (e3_w32 (H l1 3)))]) (rest := []) (M := tbM103) rfl rfl rfl trivial (Nat.le_of_ble_eq_true rfl) (Nat.le_of_ble_eq_true rfl) (Nat.le_of_ble_eq_true rfl) ?_
      refine e3_mono (sK_isOrUnder L xs _ _ _ _ _ h) (fun r H3 G4 h => ?_)
      obtain ⟨x5, rfl, h⟩ := h
      change e3_Ev _ _ _ _ 25 [(2, 8), (2, l1), (1, l2), (3, 0)] [(0, x5)] H3 G4 _
      refine e3_br (M := tbM103) rfl rfl rfl Iff.rfl (fun hc => ?_) (fun hc => ?_)
      · replace h := h.1 hc
        refine e3_fgt [false, false, false, false] ?_
        exact sK_holds_32 L xs Q _ _ h
      · replace h := h.2 hc
        refine e3_K [0, 0] 33 [(2, 8), (2, l1), (1, l2), (3, 0)] [(0, 1)] (H3) (G4) (wZ L xs) (M := tbM103) rfl rfl trivial ?_
        refine e3_fgt [false, false, false, false] ?_
        exact sK_holds_33 L xs Q _ _ _ h
  · replace h := h.2 hc
    obtain ⟨o6, h⟩ := h
    refine e3_K [0, 3, 0, 0] 40 [(2, 8), (2, l1), (1, l2), (3, 0)] [(0, (e3_cmp (H l1 3) l2))] (H) (G) (wZ L xs) (M := tbM103) rfl rfl ⟨o6, trivial⟩ ?_
    refine e3_br (M := tbM103) rfl rfl rfl e3_cmp_gt (fun hc => ?_) (fun hc => ?_)
    · replace h := h.1 hc
      refine e3_fgt [false, false, false, false] ?_
      exact sK_holds_56 L xs Q _ _ h
    · replace h := h.2 hc
      obtain ⟨o7, h⟩ := h
      refine e3_K [0, 0, 3, 0] 49 [(2, 8), (2, l1), (1, l2), (3, 0)] [(0, (e3_cmp l2 (H l1 4)))] (H) (G) (wZ L xs) (M := tbM103) rfl rfl ⟨o7, trivial⟩ ?_
      refine e3_br (M := tbM103) rfl rfl rfl e3_cmp_gt (fun hc => ?_) (fun hc => ?_)
      · replace h := h.1 hc
        refine e3_fgt [false, false, false, false] ?_
        exact sK_holds_56 L xs Q _ _ h
      · replace h := h.2 hc
        refine e3_K [0, 0] 57 [(2, 8), (2, l1), (1, l2), (3, 0)] [(0, 1)] (H) (G) (wZ L xs) (M := tbM103) rfl rfl trivial ?_
        refine e3_fgt [false, false, false, false] ?_
        exact sK_holds_57 L xs Q _ _ _ h
/-- LetterPost$TreeMaker.isPossible(LLetterPost$Row;)Z -/
def wD_isPossible_50 (Q : Int → e3_H → e3_G → Prop) (k2 : Int → Int → e3_H → e3_G → Prop) (l1 : Int) (l2 : Int) (H : e3_H) (G : e3_G) : Prop :=
  (k2 l1 (e3_w32 (l2 + 1)) H G)
def wD_isPossible_2 (Q : Int → e3_H → e3_G → Prop) : Nat → Int → Int → e3_H → e3_G → Prop
  | 0, _, _, _, _ => False
  | nn + 1, l1, l2, H, G => (e3_ob G 11 l1) ∧ (((l2 : Int) < (H l1 1) → (e3_ob G 11 l1) ∧ (e3_oa G 7 (H l1 2) l2) ∧ (e3_ob G 10 (H (H l1 2) l2)) ∧ (wD_isKnown (fun x7 H5 G6 => (((x7 : Int) = 0 → (wD_isPossible_50 Q (fun l1 l2 H G => wD_isPossible_2 Q nn l1 l2 H G) l1 l2 H5 G6)) ∧ (¬ ((x7 : Int) = 0) → (e3_ob G6 10 (H (H l1 2) l2)) ∧ (e3_oa G6 1 (H5 16 4) (H5 (H (H l1 2) l2) 2)) ∧ (wK_holds (fun x12 H10 G11 => (((x12 : Int) = 0 → Q 0 H10 G11) ∧ (¬ ((x12 : Int) = 0) → (wD_isPossible_50 Q (fun l1 l2 H G => wD_isPossible_2 Q nn l1 l2 H G) l1 l2 H10 G11)))) (H (H l1 2) l2) (H5 (H5 16 4) (H5 (H (H l1 2) l2) 2)) H5 G6)))) (H (H (H l1 2) l2) 2) H G)) ∧ (¬ ((l2 : Int) < (H l1 1)) → Q 1 H G))
def wD_isPossible (Q : Int → e3_H → e3_G → Prop) (l1 : Int) (H : e3_H) (G : e3_G) : Prop :=
  (∃ n, wD_isPossible_2 Q n l1 0 H G)
set_option maxRecDepth 100000 in
set_option maxHeartbeats 4000000 in
theorem sD_isPossible_50 (L : Nat) (xs : Nat → Int32) (Q : Int → e3_H → e3_G → Prop) (k2 : Int → Int → e3_H → e3_G → Prop) (hk2 : ∀ (l1 : Int) (l2 : Int) (H : e3_H) (G : e3_G), k2 l1 l2 H G → e3_Ev (wB L xs) 2 47 101 2 [(2, 16), (2, l1), (0, l2), (3, 0)] [] H G (e3_q0 Q)) (l1 : Int) (l2 : Int) (H : e3_H) (G : e3_G) (h : wD_isPossible_50 Q k2 l1 l2 H G) : e3_Ev (wB L xs) 2 47 101 50 [(2, 16), (2, l1), (0, l2), (3, 0)] [] H G (e3_q0 Q) := by
  unfold wD_isPossible_50 at h
  refine e3_K [0, 0] 2 [(2, 16), (2, l1), (0, (e3_w32 (l2 + 1))), (3, 0)] [] (H) (G) (wZ L xs) (M := tbM101) rfl rfl trivial ?_
  exact hk2 _ _ _ _ h
set_option maxRecDepth 100000 in
set_option maxHeartbeats 4000000 in
theorem sD_isPossible_2 (L : Nat) (xs : Nat → Int32) (Q : Int → e3_H → e3_G → Prop) : ∀ (nl : Nat) (l1 : Int) (l2 : Int) (H : e3_H) (G : e3_G), wD_isPossible_2 Q nl l1 l2 H G → e3_Ev (wB L xs) 2 47 101 2 [(2, 16), (2, l1), (0, l2), (3, 0)] [] H G (e3_q0 Q) := by
  intro nl
  induction nl with
  | zero => intro l1 l2 H G h; exact h.elim
  | succ nn ih =>
    intro l1 l2 H G h
    have h : (e3_ob G 11 l1) ∧ (((l2 : Int) < (H l1 1) → (e3_ob G 11 l1) ∧ (e3_oa G 7 (H l1 2) l2) ∧ (e3_ob G 10 (H (H l1 2) l2)) ∧ (wD_isKnown (fun x7 H5 G6 => (((x7 : Int) = 0 → (wD_isPossible_50 Q (fun l1 l2 H G => wD_isPossible_2 Q nn l1 l2 H G) l1 l2 H5 G6)) ∧ (¬ ((x7 : Int) = 0) → (e3_ob G6 10 (H (H l1 2) l2)) ∧ (e3_oa G6 1 (H5 16 4) (H5 (H (H l1 2) l2) 2)) ∧ (wK_holds (fun x12 H10 G11 => (((x12 : Int) = 0 → Q 0 H10 G11) ∧ (¬ ((x12 : Int) = 0) → (wD_isPossible_50 Q (fun l1 l2 H G => wD_isPossible_2 Q nn l1 l2 H G) l1 l2 H10 G11)))) (H (H l1 2) l2) (H5 (H5 16 4) (H5 (H (H l1 2) l2) 2)) H5 G6)))) (H (H (H l1 2) l2) 2) H G)) ∧ (¬ ((l2 : Int) < (H l1 1)) → Q 1 H G)) := h
    obtain ⟨o1, h⟩ := h
    refine e3_K [0, 0, 3] 7 [(2, 16), (2, l1), (0, l2), (3, 0)] [(0, (H l1 1)), (0, l2)] (H) (G) (wZ L xs) (M := tbM101) rfl rfl ⟨o1, trivial⟩ ?_
    refine e3_br (M := tbM101) rfl rfl rfl Iff.rfl (fun hc => ?_) (fun hc => ?_)
    · replace h := h.1 hc
      obtain ⟨o2, o3, o4, h⟩ := h
      refine e3_K [0, 3, 0, 10, 0, 0, 0, 3] 22 [(2, 16), (2, l1), (0, l2), (2, (H (H l1 2) l2))] [(0, (H (H (H l1 2) l2) 2)), (2, 16)] (H) (G) (wZ L xs) (M := tbM101) rfl rfl ⟨o2, o3, o4, trivial⟩ ?_
      refine e3_call (o := 0) (k := 102) (M2 := tbM102) (f1 := 0) (w1 := 0) (as := [(2, 16), (0, (H (H (H l1 2) l2) 2))]) (rest := []) (M := tbM101) rfl rfl rfl trivial (Nat.le_of_ble_eq_true rfl) (Nat.le_of_ble_eq_true rfl) (Nat.le_of_ble_eq_true rfl) ?_
      refine e3_mono (sD_isKnown L xs _ _ _ _ h) (fun r H5 G6 h => ?_)
      obtain ⟨x7, rfl, h⟩ := h
      change e3_Ev _ _ _ _ 25 [(2, 16), (2, l1), (0, l2), (2, (H (H l1 2) l2))] [(0, x7)] H5 G6 _
      refine e3_br (M := tbM101) rfl rfl rfl Iff.rfl (fun hc => ?_) (fun hc => ?_)
      · replace h := h.1 hc
        refine e3_fgt [true, true, true, false] ?_
        exact sD_isPossible_50 L xs Q (fun l1 l2 H G => wD_isPossible_2 Q nn l1 l2 H G) ih _ _ _ _ h
      · replace h := h.2 hc
        obtain ⟨o8, o9, h⟩ := h
        refine e3_K [0, 4, 0, 0, 2, 0, 3, 4] 42 [(2, 16), (2, l1), (0, l2), (2, (H (H l1 2) l2))] [(1, (H5 (H5 16 4) (H5 (H (H l1 2) l2) 2))), (2, (H (H l1 2) l2)), (2, 8)] (H5) (G6) (wZ L xs) (M := tbM101) rfl rfl ⟨trivial, trivial, o8, o9, trivial⟩ ?_
        refine e3_call (o := 0) (k := 103) (M2 := tbM103) (f1 := 1) (w1 := 24) (as := [(2, 8), (2, (H (H l1 2) l2)), (1, (H5 (H5 16 4) (H5 (H (H l1 2) l2) 2)))]) (rest := []) (M := tbM101) rfl rfl rfl trivial (Nat.le_of_ble_eq_true rfl) (Nat.le_of_ble_eq_true rfl) (Nat.le_of_ble_eq_true rfl) ?_
        refine e3_mono (sK_holds L xs _ _ _ _ _ h) (fun r H10 G11 h => ?_)
        obtain ⟨x12, rfl, h⟩ := h
        change e3_Ev _ _ _ _ 45 [(2, 16), (2, l1), (0, l2), (2, (H (H l1 2) l2))] [(0, x12)] H10 G11 _
        refine e3_br (M := tbM101) rfl rfl rfl Iff.rfl (fun hc => ?_) (fun hc => ?_)
        · replace h := h.1 hc
          refine e3_K [0] 49 [(2, 16), (2, l1), (0, l2), (2, (H (H l1 2) l2))] [(0, 0)] (H10) (G11) (wZ L xs) (M := tbM101) rfl rfl trivial ?_
          exact e3_retb (M := tbM101) rfl rfl rfl (Or.inl rfl) ⟨_, rfl, h⟩
        · replace h := h.2 hc
          refine e3_fgt [true, true, true, false] ?_
          exact sD_isPossible_50 L xs Q (fun l1 l2 H G => wD_isPossible_2 Q nn l1 l2 H G) ih _ _ _ _ h
    · replace h := h.2 hc
      refine e3_K [0] 57 [(2, 16), (2, l1), (0, l2), (3, 0)] [(0, 1)] (H) (G) (wZ L xs) (M := tbM101) rfl rfl trivial ?_
      exact e3_retb (M := tbM101) rfl rfl rfl (Or.inr rfl) ⟨_, rfl, h⟩
set_option maxRecDepth 100000 in
set_option maxHeartbeats 4000000 in
theorem sD_isPossible (L : Nat) (xs : Nat → Int32) (Q : Int → e3_H → e3_G → Prop) (l1 : Int) (H : e3_H) (G : e3_G) (h : wD_isPossible Q l1 H G) : e3_Ev (wB L xs) 2 47 101 0 [(2, 16), (2, l1), (3, 0), (3, 0)] [] H G (e3_q0 Q) := by
  unfold wD_isPossible at h
  refine e3_K [0, 0] 2 [(2, 16), (2, l1), (0, 0), (3, 0)] [] (H) (G) (wZ L xs) (M := tbM101) rfl rfl trivial ?_
  obtain ⟨nl, h⟩ := h
  exact sD_isPossible_2 L xs Q nl _ _ _ _ h
/-- LetterPost$TreeMaker.stillPossible(J)J -/
def wD_stillPossible_52 (Q : Int → e3_H → e3_G → Prop) (k5 : Int → Int → Int → e3_H → e3_G → Prop) (l1 : Int) (l3 : Int) (l5 : Int) (H : e3_H) (G : e3_G) : Prop :=
  (k5 l1 l3 (e3_w32 (l5 + 1)) H G)
def wD_stillPossible_5 (Q : Int → e3_H → e3_G → Prop) : Nat → Int → Int → Int → e3_H → e3_G → Prop
  | 0, _, _, _, _, _ => False
  | nn + 1, l1, l3, l5, H, G => (e3_ob G 8 (H 16 2)) ∧ (((l5 : Int) < (H (H 16 2) 5) → ((((e3_land (e3_lshr l1 l5) 1) : Int) = 1 → (e3_ob G 8 (H 16 2)) ∧ (e3_oa G 6 (H (H 16 2) 6) l5) ∧ (wD_isPossible (fun x6 H4 G5 => (((x6 : Int) = 0 → (wD_stillPossible_52 Q (fun l1 l3 l5 H G => wD_stillPossible_5 Q nn l1 l3 l5 H G) l1 l3 l5 H4 G5)) ∧ (¬ ((x6 : Int) = 0) → (wD_stillPossible_52 Q (fun l1 l3 l5 H G => wD_stillPossible_5 Q nn l1 l3 l5 H G) l1 (e3_lor l3 (e3_lshl 1 l5)) l5 H4 G5)))) (H (H (H 16 2) 6) l5) H G)) ∧ (¬ (((e3_land (e3_lshr l1 l5) 1) : Int) = 1) → (wD_stillPossible_52 Q (fun l1 l3 l5 H G => wD_stillPossible_5 Q nn l1 l3 l5 H G) l1 l3 l5 H G)))) ∧ (¬ ((l5 : Int) < (H (H 16 2) 5)) → Q l3 H G))
def wD_stillPossible (Q : Int → e3_H → e3_G → Prop) (l1 : Int) (H : e3_H) (G : e3_G) : Prop :=
  (∃ n, wD_stillPossible_5 Q n l1 0 0 H G)
set_option maxRecDepth 100000 in
set_option maxHeartbeats 4000000 in
theorem sD_stillPossible_52 (L : Nat) (xs : Nat → Int32) (Q : Int → e3_H → e3_G → Prop) (k5 : Int → Int → Int → e3_H → e3_G → Prop) (hk5 : ∀ (l1 : Int) (l3 : Int) (l5 : Int) (H : e3_H) (G : e3_G), k5 l1 l3 l5 H G → e3_Ev (wB L xs) 3 70 100 5 [(2, 16), (1, l1), (3, 0), (1, l3), (3, 0), (0, l5)] [] H G (e3_q1 Q)) (l1 : Int) (l3 : Int) (l5 : Int) (H : e3_H) (G : e3_G) (h : wD_stillPossible_52 Q k5 l1 l3 l5 H G) : e3_Ev (wB L xs) 3 70 100 52 [(2, 16), (1, l1), (3, 0), (1, l3), (3, 0), (0, l5)] [] H G (e3_q1 Q) := by
  unfold wD_stillPossible_52 at h
  refine e3_K [0, 0] 5 [(2, 16), (1, l1), (3, 0), (1, l3), (3, 0), (0, (e3_w32 (l5 + 1)))] [] (H) (G) (wZ L xs) (M := tbM100) rfl rfl trivial ?_
  exact hk5 _ _ _ _ _ h
set_option maxRecDepth 100000 in
set_option maxHeartbeats 4000000 in
theorem sD_stillPossible_5 (L : Nat) (xs : Nat → Int32) (Q : Int → e3_H → e3_G → Prop) : ∀ (nl : Nat) (l1 : Int) (l3 : Int) (l5 : Int) (H : e3_H) (G : e3_G), wD_stillPossible_5 Q nl l1 l3 l5 H G → e3_Ev (wB L xs) 3 70 100 5 [(2, 16), (1, l1), (3, 0), (1, l3), (3, 0), (0, l5)] [] H G (e3_q1 Q) := by
  intro nl
  induction nl with
  | zero => intro l1 l3 l5 H G h; exact h.elim
  | succ nn ih =>
    intro l1 l3 l5 H G h
    have h : (e3_ob G 8 (H 16 2)) ∧ (((l5 : Int) < (H (H 16 2) 5) → ((((e3_land (e3_lshr l1 l5) 1) : Int) = 1 → (e3_ob G 8 (H 16 2)) ∧ (e3_oa G 6 (H (H 16 2) 6) l5) ∧ (wD_isPossible (fun x6 H4 G5 => (((x6 : Int) = 0 → (wD_stillPossible_52 Q (fun l1 l3 l5 H G => wD_stillPossible_5 Q nn l1 l3 l5 H G) l1 l3 l5 H4 G5)) ∧ (¬ ((x6 : Int) = 0) → (wD_stillPossible_52 Q (fun l1 l3 l5 H G => wD_stillPossible_5 Q nn l1 l3 l5 H G) l1 (e3_lor l3 (e3_lshl 1 l5)) l5 H4 G5)))) (H (H (H 16 2) 6) l5) H G)) ∧ (¬ (((e3_land (e3_lshr l1 l5) 1) : Int) = 1) → (wD_stillPossible_52 Q (fun l1 l3 l5 H G => wD_stillPossible_5 Q nn l1 l3 l5 H G) l1 l3 l5 H G)))) ∧ (¬ ((l5 : Int) < (H (H 16 2) 5)) → Q l3 H G)) := h
    obtain ⟨o1, h⟩ := h
    refine e3_K [0, 0, 2, 3] 14 [(2, 16), (1, l1), (3, 0), (1, l3), (3, 0), (0, l5)] [(0, (H (H 16 2) 5)), (0, l5)] (H) (G) (wZ L xs) (M := tbM100) rfl rfl ⟨trivial, o1, trivial⟩ ?_
    refine e3_br (M := tbM100) rfl rfl rfl Iff.rfl (fun hc => ?_) (fun hc => ?_)
    · replace h := h.1 hc
      refine e3_K [0, 0, 0, 0, 0, 0, 0] 25 [(2, 16), (1, l1), (3, 0), (1, l3), (3, 0), (0, l5)] [(0, (e3_cmp (e3_land (e3_lshr l1 l5) 1) 1))] (H) (G) (wZ L xs) (M := tbM100) rfl rfl trivial ?_
      refine e3_br (M := tbM100) rfl rfl rfl e3_cmp_eq (fun hc => ?_) (fun hc => ?_)
      · replace h := h.1 hc
        obtain ⟨o2, o3, h⟩ := h
        refine e3_K [0, 0, 2, 3, 0, 9] 39 [(2, 16), (1, l1), (3, 0), (1, l3), (3, 0), (0, l5)] [(2, (H (H (H 16 2) 6) l5)), (2, 16)] (H) (G) (wZ L xs) (M := tbM100) rfl rfl ⟨trivial, o2, o3, trivial⟩ ?_
        refine e3_call (o := 0) (k := 101) (M2 := tbM101) (f1 := 2) (w1 := 47) (as := [(2, 16), (2, (H (H (H 16 2) 6) l5))]) (rest := []) (M := tbM100) rfl rfl rfl trivial (Nat.le_of_ble_eq_true rfl) (Nat.le_of_ble_eq_true rfl) (Nat.le_of_ble_eq_true rfl) ?_
        refine e3_mono (sD_isPossible L xs _ _ _ _ h) (fun r H4 G5 h => ?_)
        obtain ⟨x6, rfl, h⟩ := h
        change e3_Ev _ _ _ _ 42 [(2, 16), (1, l1), (3, 0), (1, l3), (3, 0), (0, l5)] [(0, x6)] H4 G5 _
        refine e3_br (M := tbM100) rfl rfl rfl Iff.rfl (fun hc => ?_) (fun hc => ?_)
        · replace h := h.1 hc
          exact sD_stillPossible_52 L xs Q (fun l1 l3 l5 H G => wD_stillPossible_5 Q nn l1 l3 l5 H G) ih _ _ _ _ _ h
        · replace h := h.2 hc
          refine e3_K [0, 0, 0, 0, 0, 0] 52 [(2, 16), (1, l1), (3, 0), (1, (e3_lor l3 (e3_lshl 1 l5))), (3, 0), (0, l5)] [] (H4) (G5) (wZ L xs) (M := tbM100) rfl rfl trivial ?_
          exact sD_stillPossible_52 L xs Q (fun l1 l3 l5 H G => wD_stillPossible_5 Q nn l1 l3 l5 H G) ih _ _ _ _ _ h
      · replace h := h.2 hc
        exact sD_stillPossible_52 L xs Q (fun l1 l3 l5 H G => wD_stillPossible_5 Q nn l1 l3 l5 H G) ih _ _ _ _ _ h
    · replace h := h.2 hc
      refine e3_K [0] 59 [(2, 16), (1, l1), (3, 0), (1, l3), (3, 0), (0, l5)] [(1, l3)] (H) (G) (wZ L xs) (M := tbM100) rfl rfl trivial ?_
      exact e3_retl (M := tbM100) rfl rfl rfl ⟨_, rfl, h⟩
set_option maxRecDepth 100000 in
set_option maxHeartbeats 4000000 in
theorem sD_stillPossible (L : Nat) (xs : Nat → Int32) (Q : Int → e3_H → e3_G → Prop) (l1 : Int) (H : e3_H) (G : e3_G) (h : wD_stillPossible Q l1 H G) : e3_Ev (wB L xs) 3 70 100 0 [(2, 16), (1, l1), (3, 0), (3, 0), (3, 0), (3, 0)] [] H G (e3_q1 Q) := by
  unfold wD_stillPossible at h
  refine e3_K [0, 0, 0, 0] 5 [(2, 16), (1, l1), (3, 0), (1, 0), (3, 0), (0, 0)] [] (H) (G) (wZ L xs) (M := tbM100) rfl rfl trivial ?_
  obtain ⟨nl, h⟩ := h
  exact sD_stillPossible_5 L xs Q nl _ _ _ _ _ h
/-- java/lang/Integer.numberOfTrailingZeros(I)I -/
def wJ_numberOfTrailingZeros1_74 (Q : Int → e3_H → e3_G → Prop) (l0 : Int) (l1 : Int) (H : e3_H) (G : e3_G) : Prop :=
  Q (e3_w32 (l1 + (e3_ushr l0 1))) H G
def wJ_numberOfTrailingZeros1_62 (Q : Int → e3_H → e3_G → Prop) (l0 : Int) (l1 : Int) (H : e3_H) (G : e3_G) : Prop :=
  (((4 : Int) < l0 → (wJ_numberOfTrailingZeros1_74 Q (e3_ushr l0 2) (e3_w32 (l1 + 2)) H G)) ∧ (¬ ((4 : Int) < l0) → (wJ_numberOfTrailingZeros1_74 Q l0 l1 H G)))
def wJ_numberOfTrailingZeros1_49 (Q : Int → e3_H → e3_G → Prop) (l0 : Int) (l1 : Int) (H : e3_H) (G : e3_G) : Prop :=
  (((16 : Int) < l0 → (wJ_numberOfTrailingZeros1_62 Q (e3_ushr l0 4) (e3_w32 (l1 + 4)) H G)) ∧ (¬ ((16 : Int) < l0) → (wJ_numberOfTrailingZeros1_62 Q l0 l1 H G)))
def wJ_numberOfTrailingZeros1_34 (Q : Int → e3_H → e3_G → Prop) (l0 : Int) (l1 : Int) (H : e3_H) (G : e3_G) : Prop :=
  (((256 : Int) < l0 → (wJ_numberOfTrailingZeros1_49 Q (e3_ushr l0 8) (e3_w32 (l1 + 8)) H G)) ∧ (¬ ((256 : Int) < l0) → (wJ_numberOfTrailingZeros1_49 Q l0 l1 H G)))
def wJ_numberOfTrailingZeros1 (Q : Int → e3_H → e3_G → Prop) (l0 : Int) (H : e3_H) (G : e3_G) : Prop :=
  (((0 : Int) < (e3_and (e3_xor l0 (-1)) (e3_w32 (l0 - 1))) → (((65536 : Int) < (e3_and (e3_xor l0 (-1)) (e3_w32 (l0 - 1))) → (wJ_numberOfTrailingZeros1_34 Q (e3_ushr (e3_and (e3_xor l0 (-1)) (e3_w32 (l0 - 1))) 16) (e3_w32 (1 + 16)) H G)) ∧ (¬ ((65536 : Int) < (e3_and (e3_xor l0 (-1)) (e3_w32 (l0 - 1)))) → (wJ_numberOfTrailingZeros1_34 Q (e3_and (e3_xor l0 (-1)) (e3_w32 (l0 - 1))) 1 H G)))) ∧ (¬ ((0 : Int) < (e3_and (e3_xor l0 (-1)) (e3_w32 (l0 - 1)))) → Q (e3_and (e3_and (e3_xor l0 (-1)) (e3_w32 (l0 - 1))) 32) H G))
set_option maxRecDepth 100000 in
set_option maxHeartbeats 4000000 in
theorem sJ_numberOfTrailingZeros1_74 (L : Nat) (xs : Nat → Int32) (Q : Int → e3_H → e3_G → Prop) (l0 : Int) (l1 : Int) (H : e3_H) (G : e3_G) (h : wJ_numberOfTrailingZeros1_74 Q l0 l1 H G) : e3_Ev (wB L xs) 0 0 307 74 [(0, l0), (0, l1)] [] H G (e3_q0 Q) := by
  unfold wJ_numberOfTrailingZeros1_74 at h
  refine e3_K [0, 0, 0, 0, 0] 79 [(0, l0), (0, l1)] [(0, (e3_w32 (l1 + (e3_ushr l0 1))))] (H) (G) (wZ L xs) (M := tbM307) rfl rfl trivial ?_
  exact e3_reti (M := tbM307) rfl rfl rfl ⟨_, rfl, h⟩
set_option maxRecDepth 100000 in
set_option maxHeartbeats 4000000 in
theorem sJ_numberOfTrailingZeros1_62 (L : Nat) (xs : Nat → Int32) (Q : Int → e3_H → e3_G → Prop) (l0 : Int) (l1 : Int) (H : e3_H) (G : e3_G) (h : wJ_numberOfTrailingZeros1_62 Q l0 l1 H G) : e3_Ev (wB L xs) 0 0 307 62 [(0, l0), (0, l1)] [] H G (e3_q0 Q) := by
  unfold wJ_numberOfTrailingZeros1_62 at h
  refine e3_K [0, 0] 64 [(0, l0), (0, l1)] [(0, 4), (0, l0)] (H) (G) (wZ L xs) (M := tbM307) rfl rfl trivial ?_
  refine e3_br (M := tbM307) rfl rfl rfl Iff.rfl (fun hc => ?_) (fun hc => ?_)
  · replace h := h.1 hc
    refine e3_K [0, 0, 0, 0, 0] 74 [(0, (e3_ushr l0 2)), (0, (e3_w32 (l1 + 2)))] [] (H) (G) (wZ L xs) (M := tbM307) rfl rfl trivial ?_
    exact sJ_numberOfTrailingZeros1_74 L xs Q _ _ _ _ h
  · replace h := h.2 hc
    exact sJ_numberOfTrailingZeros1_74 L xs Q _ _ _ _ h
set_option maxRecDepth 100000 in
set_option maxHeartbeats 4000000 in
theorem sJ_numberOfTrailingZeros1_49 (L : Nat) (xs : Nat → Int32) (Q : Int → e3_H → e3_G → Prop) (l0 : Int) (l1 : Int) (H : e3_H) (G : e3_G) (h : wJ_numberOfTrailingZeros1_49 Q l0 l1 H G) : e3_Ev (wB L xs) 0 0 307 49 [(0, l0), (0, l1)] [] H G (e3_q0 Q) := by
  unfold wJ_numberOfTrailingZeros1_49 at h
  refine e3_K [0, 0] 52 [(0, l0), (0, l1)] [(0, 16), (0, l0)] (H) (G) (wZ L xs) (M := tbM307) rfl rfl trivial ?_
  refine e3_br (M := tbM307) rfl rfl rfl Iff.rfl (fun hc => ?_) (fun hc => ?_)
  · replace h := h.1 hc
    refine e3_K [0, 0, 0, 0, 0] 62 [(0, (e3_ushr l0 4)), (0, (e3_w32 (l1 + 4)))] [] (H) (G) (wZ L xs) (M := tbM307) rfl rfl trivial ?_
    exact sJ_numberOfTrailingZeros1_62 L xs Q _ _ _ _ h
  · replace h := h.2 hc
    exact sJ_numberOfTrailingZeros1_62 L xs Q _ _ _ _ h
set_option maxRecDepth 100000 in
set_option maxHeartbeats 4000000 in
theorem sJ_numberOfTrailingZeros1_34 (L : Nat) (xs : Nat → Int32) (Q : Int → e3_H → e3_G → Prop) (l0 : Int) (l1 : Int) (H : e3_H) (G : e3_G) (h : wJ_numberOfTrailingZeros1_34 Q l0 l1 H G) : e3_Ev (wB L xs) 0 0 307 34 [(0, l0), (0, l1)] [] H G (e3_q0 Q) := by
  unfold wJ_numberOfTrailingZeros1_34 at h
  refine e3_K [0, 0] 38 [(0, l0), (0, l1)] [(0, 256), (0, l0)] (H) (G) (wZ L xs) (M := tbM307) rfl rfl trivial ?_
  refine e3_br (M := tbM307) rfl rfl rfl Iff.rfl (fun hc => ?_) (fun hc => ?_)
  · replace h := h.1 hc
    refine e3_K [0, 0, 0, 0, 0] 49 [(0, (e3_ushr l0 8)), (0, (e3_w32 (l1 + 8)))] [] (H) (G) (wZ L xs) (M := tbM307) rfl rfl trivial ?_
    exact sJ_numberOfTrailingZeros1_49 L xs Q _ _ _ _ h
  · replace h := h.2 hc
    exact sJ_numberOfTrailingZeros1_49 L xs Q _ _ _ _ h
set_option maxRecDepth 100000 in
set_option maxHeartbeats 4000000 in
theorem sJ_numberOfTrailingZeros1 (L : Nat) (xs : Nat → Int32) (Q : Int → e3_H → e3_G → Prop) (l0 : Int) (H : e3_H) (G : e3_G) (h : wJ_numberOfTrailingZeros1 Q l0 H G) : e3_Ev (wB L xs) 0 0 307 0 [(0, l0), (3, 0)] [] H G (e3_q0 Q) := by
  unfold wJ_numberOfTrailingZeros1 at h
  refine e3_K [0, 0, 0, 0, 0, 0, 0, 0, 0] 9 [(0, (e3_and (e3_xor l0 (-1)) (e3_w32 (l0 - 1)))), (3, 0)] [(0, (e3_and (e3_xor l0 (-1)) (e3_w32 (l0 - 1))))] (H) (G) (wZ L xs) (M := tbM307) rfl rfl trivial ?_
  refine e3_br (M := tbM307) rfl rfl rfl Iff.rfl (fun hc => ?_) (fun hc => ?_)
  · replace h := h.1 hc
    refine e3_K [0, 0, 0, 2] 23 [(0, (e3_and (e3_xor l0 (-1)) (e3_w32 (l0 - 1)))), (0, 1)] [(0, 65536), (0, (e3_and (e3_xor l0 (-1)) (e3_w32 (l0 - 1))))] (H) (G) (wZ L xs) (M := tbM307) rfl rfl ⟨trivial, trivial⟩ ?_
    refine e3_br (M := tbM307) rfl rfl rfl Iff.rfl (fun hc => ?_) (fun hc => ?_)
    · replace h := h.1 hc
      refine e3_K [0, 0, 0, 0, 0] 34 [(0, (e3_ushr (e3_and (e3_xor l0 (-1)) (e3_w32 (l0 - 1))) 16)), (0, (e3_w32 (1 + 16)))] [] (H) (G) (wZ L xs) (M := tbM307) rfl rfl trivial ?_
      exact sJ_numberOfTrailingZeros1_34 L xs Q _ _ _ _ h
    · replace h := h.2 hc
      exact sJ_numberOfTrailingZeros1_34 L xs Q _ _ _ _ h
  · replace h := h.2 hc
    refine e3_K [0, 0, 0] 16 [(0, (e3_and (e3_xor l0 (-1)) (e3_w32 (l0 - 1)))), (3, 0)] [(0, (e3_and (e3_and (e3_xor l0 (-1)) (e3_w32 (l0 - 1))) 32))] (H) (G) (wZ L xs) (M := tbM307) rfl rfl trivial ?_
    exact e3_reti (M := tbM307) rfl rfl rfl ⟨_, rfl, h⟩
/-- java/lang/Long.numberOfTrailingZeros(J)I -/
def wJ_numberOfTrailingZeros_25 (Q : Int → e3_H → e3_G → Prop) (s0 : Int) (H : e3_H) (G : e3_G) : Prop :=
  Q s0 H G
def wJ_numberOfTrailingZeros (Q : Int → e3_H → e3_G → Prop) (l0 : Int) (H : e3_H) (G : e3_G) : Prop :=
  ((((e3_w32 l0) : Int) = 0 → (wJ_numberOfTrailingZeros1 (fun x3 H1 G2 => (wJ_numberOfTrailingZeros_25 Q (e3_w32 (32 + x3)) H1 G2)) (e3_w32 (e3_lushr l0 32)) H G)) ∧ (¬ (((e3_w32 l0) : Int) = 0) → (wJ_numberOfTrailingZeros1 (fun x6 H4 G5 => (wJ_numberOfTrailingZeros_25 Q x6 H4 G5)) (e3_w32 l0) H G)))
set_option maxRecDepth 100000 in
set_option maxHeartbeats 4000000 in
theorem sJ_numberOfTrailingZeros_25 (L : Nat) (xs : Nat → Int32) (Q : Int → e3_H → e3_G → Prop) (s0 : Int) (H : e3_H) (G : e3_G) (h : wJ_numberOfTrailingZeros_25 Q s0 H G) : e3_Ev (wB L xs) 1 21 306 25 [(3, 0), (3, 0), (3, 0)] [(0, s0)] H G (e3_q0 Q) := by
  unfold wJ_numberOfTrailingZeros_25 at h
  exact e3_reti (M := tbM306) rfl rfl rfl ⟨_, rfl, h⟩
set_option maxRecDepth 100000 in
set_option maxHeartbeats 4000000 in
theorem sJ_numberOfTrailingZeros (L : Nat) (xs : Nat → Int32) (Q : Int → e3_H → e3_G → Prop) (l0 : Int) (H : e3_H) (G : e3_G) (h : wJ_numberOfTrailingZeros Q l0 H G) : e3_Ev (wB L xs) 1 21 306 0 [(1, l0), (3, 0), (3, 0)] [] H G (e3_q0 Q) := by
  unfold wJ_numberOfTrailingZeros at h
  refine e3_K [0, 0, 0, 0] 4 [(1, l0), (3, 0), (0, (e3_w32 l0))] [(0, (e3_w32 l0))] (H) (G) (wZ L xs) (M := tbM306) rfl rfl trivial ?_
  refine e3_br (M := tbM306) rfl rfl rfl Iff.rfl (fun hc => ?_) (fun hc => ?_)
  · replace h := h.1 hc
    refine e3_K [0, 0, 0, 0, 0] 14 [(1, l0), (3, 0), (0, (e3_w32 l0))] [(0, (e3_w32 (e3_lushr l0 32))), (0, 32)] (H) (G) (wZ L xs) (M := tbM306) rfl rfl trivial ?_
    refine e3_call (o := 0) (k := 307) (M2 := tbM307) (f1 := 0) (w1 := 0) (as := [(0, (e3_w32 (e3_lushr l0 32)))]) (rest := [(0, 32)]) (M := tbM306) rfl rfl rfl trivial (Nat.le_of_ble_eq_true rfl) (Nat.le_of_ble_eq_true rfl) (Nat.le_of_ble_eq_true rfl) ?_
    refine e3_mono (sJ_numberOfTrailingZeros1 L xs _ _ _ _ h) (fun r H1 G2 h => ?_)
    obtain ⟨x3, rfl, h⟩ := h
    change e3_Ev _ _ _ _ 17 [(1, l0), (3, 0), (0, (e3_w32 l0))] [(0, x3), (0, 32)] H1 G2 _
    refine e3_K [0, 0] 25 [(1, l0), (3, 0), (0, (e3_w32 l0))] [(0, (e3_w32 (32 + x3)))] (H1) (G2) (wZ L xs) (M := tbM306) rfl rfl trivial ?_
    refine e3_fgt [false, false, false] ?_
    exact sJ_numberOfTrailingZeros_25 L xs Q _ _ _ h
  · replace h := h.2 hc
    refine e3_K [0] 22 [(1, l0), (3, 0), (0, (e3_w32 l0))] [(0, (e3_w32 l0))] (H) (G) (wZ L xs) (M := tbM306) rfl rfl trivial ?_
    refine e3_call (o := 0) (k := 307) (M2 := tbM307) (f1 := 0) (w1 := 0) (as := [(0, (e3_w32 l0))]) (rest := []) (M := tbM306) rfl rfl rfl trivial (Nat.le_of_ble_eq_true rfl) (Nat.le_of_ble_eq_true rfl) (Nat.le_of_ble_eq_true rfl) ?_
    refine e3_mono (sJ_numberOfTrailingZeros1 L xs _ _ _ _ h) (fun r H4 G5 h => ?_)
    obtain ⟨x6, rfl, h⟩ := h
    change e3_Ev _ _ _ _ 25 [(1, l0), (3, 0), (0, (e3_w32 l0))] [(0, x6)] H4 G5 _
    refine e3_fgt [false, false, false] ?_
    exact sJ_numberOfTrailingZeros_25 L xs Q _ _ _ h
/-- LetterPost$Function.rowAt(I)LLetterPost$Row; -/
def wF_rowAt_22 (Q : Int → e3_H → e3_G → Prop) (s0 : Int) (H : e3_H) (G : e3_G) : Prop :=
  Q s0 H G
def wF_rowAt_21 (Q : Int → e3_H → e3_G → Prop)  (H : e3_H) (G : e3_G) : Prop :=
  (wF_rowAt_22 Q (-1) H G)
def wF_rowAt (Q : Int → e3_H → e3_G → Prop) (l0 : Int) (l1 : Int) (H : e3_H) (G : e3_G) : Prop :=
  (((l1 : Int) < 0 → (wF_rowAt_21 Q H G)) ∧ (¬ ((l1 : Int) < 0) → (e3_ob G 8 l0) ∧ (((l1 : Int) < (H l0 5) → (e3_ob G 8 l0) ∧ (e3_oa G 6 (H l0 6) l1) ∧ (wF_rowAt_22 Q (H (H l0 6) l1) H G)) ∧ (¬ ((l1 : Int) < (H l0 5)) → (wF_rowAt_21 Q H G)))))
set_option maxRecDepth 100000 in
set_option maxHeartbeats 4000000 in
theorem sF_rowAt_22 (L : Nat) (xs : Nat → Int32) (Q : Int → e3_H → e3_G → Prop) (s0 : Int) (H : e3_H) (G : e3_G) (h : wF_rowAt_22 Q s0 H G) : e3_Ev (wB L xs) 0 0 104 22 [(3, 0), (3, 0)] [(2, s0)] H G (e3_q2 Q) := by
  unfold wF_rowAt_22 at h
  exact e3_reta (M := tbM104) rfl rfl rfl ⟨_, rfl, h⟩
set_option maxRecDepth 100000 in
set_option maxHeartbeats 4000000 in
theorem sF_rowAt_21 (L : Nat) (xs : Nat → Int32) (Q : Int → e3_H → e3_G → Prop)  (H : e3_H) (G : e3_G) (h : wF_rowAt_21 Q  H G) : e3_Ev (wB L xs) 0 0 104 21 [(3, 0), (3, 0)] [] H G (e3_q2 Q) := by
  unfold wF_rowAt_21 at h
  refine e3_K [0] 22 [(3, 0), (3, 0)] [(2, (-1))] (H) (G) (wZ L xs) (M := tbM104) rfl rfl trivial ?_
  exact sF_rowAt_22 L xs Q _ _ _ h
set_option maxRecDepth 100000 in
set_option maxHeartbeats 4000000 in
theorem sF_rowAt (L : Nat) (xs : Nat → Int32) (Q : Int → e3_H → e3_G → Prop) (l0 : Int) (l1 : Int) (H : e3_H) (G : e3_G) (h : wF_rowAt Q l0 l1 H G) : e3_Ev (wB L xs) 0 0 104 0 [(2, l0), (0, l1)] [] H G (e3_q2 Q) := by
  unfold wF_rowAt at h
  refine e3_K [0] 1 [(2, l0), (0, l1)] [(0, l1)] (H) (G) (wZ L xs) (M := tbM104) rfl rfl trivial ?_
  refine e3_br (M := tbM104) rfl rfl rfl Iff.rfl (fun hc => ?_) (fun hc => ?_)
  · replace h := h.1 hc
    refine e3_fgt [false, false] ?_
    exact sF_rowAt_21 L xs Q _ _ h
  · replace h := h.2 hc
    obtain ⟨o1, h⟩ := h
    refine e3_K [0, 0, 3] 9 [(2, l0), (0, l1)] [(0, (H l0 5)), (0, l1)] (H) (G) (wZ L xs) (M := tbM104) rfl rfl ⟨o1, trivial⟩ ?_
    refine e3_br (M := tbM104) rfl rfl rfl Iff.rfl (fun hc => ?_) (fun hc => ?_)
    · replace h := h.1 hc
      obtain ⟨o2, o3, h⟩ := h
      refine e3_K [0, 3, 0, 9, 0] 22 [(2, l0), (0, l1)] [(2, (H (H l0 6) l1))] (H) (G) (wZ L xs) (M := tbM104) rfl rfl ⟨o2, o3, trivial⟩ ?_
      refine e3_fgt [false, false] ?_
      exact sF_rowAt_22 L xs Q _ _ _ h
    · replace h := h.2 hc
      refine e3_fgt [false, false] ?_
      exact sF_rowAt_21 L xs Q _ _ h
/-- LetterPost$Function.placeUp(I)I -/
def wF_placeUp_22 (Q : Int → e3_H → e3_G → Prop) (s0 : Int) (H : e3_H) (G : e3_G) : Prop :=
  Q s0 H G
def wF_placeUp_21 (Q : Int → e3_H → e3_G → Prop)  (H : e3_H) (G : e3_G) : Prop :=
  (wF_placeUp_22 Q (-1) H G)
def wF_placeUp (Q : Int → e3_H → e3_G → Prop) (l0 : Int) (l1 : Int) (H : e3_H) (G : e3_G) : Prop :=
  (((l1 : Int) < 0 → (wF_placeUp_21 Q H G)) ∧ (¬ ((l1 : Int) < 0) → (e3_ob G 8 l0) ∧ (((l1 : Int) < (H l0 7) → (e3_ob G 8 l0) ∧ (e3_oa G 0 (H l0 8) l1) ∧ (wF_placeUp_22 Q (H (H l0 8) l1) H G)) ∧ (¬ ((l1 : Int) < (H l0 7)) → (wF_placeUp_21 Q H G)))))
set_option maxRecDepth 100000 in
set_option maxHeartbeats 4000000 in
theorem sF_placeUp_22 (L : Nat) (xs : Nat → Int32) (Q : Int → e3_H → e3_G → Prop) (s0 : Int) (H : e3_H) (G : e3_G) (h : wF_placeUp_22 Q s0 H G) : e3_Ev (wB L xs) 0 0 107 22 [(3, 0), (3, 0)] [(0, s0)] H G (e3_q0 Q) := by
  unfold wF_placeUp_22 at h
  exact e3_reti (M := tbM107) rfl rfl rfl ⟨_, rfl, h⟩
set_option maxRecDepth 100000 in
set_option maxHeartbeats 4000000 in
theorem sF_placeUp_21 (L : Nat) (xs : Nat → Int32) (Q : Int → e3_H → e3_G → Prop)  (H : e3_H) (G : e3_G) (h : wF_placeUp_21 Q  H G) : e3_Ev (wB L xs) 0 0 107 21 [(3, 0), (3, 0)] [] H G (e3_q0 Q) := by
  unfold wF_placeUp_21 at h
  refine e3_K [0] 22 [(3, 0), (3, 0)] [(0, (-1))] (H) (G) (wZ L xs) (M := tbM107) rfl rfl trivial ?_
  exact sF_placeUp_22 L xs Q _ _ _ h
set_option maxRecDepth 100000 in
set_option maxHeartbeats 4000000 in
theorem sF_placeUp (L : Nat) (xs : Nat → Int32) (Q : Int → e3_H → e3_G → Prop) (l0 : Int) (l1 : Int) (H : e3_H) (G : e3_G) (h : wF_placeUp Q l0 l1 H G) : e3_Ev (wB L xs) 0 0 107 0 [(2, l0), (0, l1)] [] H G (e3_q0 Q) := by
  unfold wF_placeUp at h
  refine e3_K [0] 1 [(2, l0), (0, l1)] [(0, l1)] (H) (G) (wZ L xs) (M := tbM107) rfl rfl trivial ?_
  refine e3_br (M := tbM107) rfl rfl rfl Iff.rfl (fun hc => ?_) (fun hc => ?_)
  · replace h := h.1 hc
    refine e3_fgt [false, false] ?_
    exact sF_placeUp_21 L xs Q _ _ h
  · replace h := h.2 hc
    obtain ⟨o1, h⟩ := h
    refine e3_K [0, 0, 3] 9 [(2, l0), (0, l1)] [(0, (H l0 7)), (0, l1)] (H) (G) (wZ L xs) (M := tbM107) rfl rfl ⟨o1, trivial⟩ ?_
    refine e3_br (M := tbM107) rfl rfl rfl Iff.rfl (fun hc => ?_) (fun hc => ?_)
    · replace h := h.1 hc
      obtain ⟨o2, o3, h⟩ := h
      refine e3_K [0, 3, 0, 3, 0] 22 [(2, l0), (0, l1)] [(0, (H (H l0 8) l1))] (H) (G) (wZ L xs) (M := tbM107) rfl rfl ⟨o2, o3, trivial⟩ ?_
      refine e3_fgt [false, false] ?_
      exact sF_placeUp_22 L xs Q _ _ _ h
    · replace h := h.2 hc
      refine e3_fgt [false, false] ?_
      exact sF_placeUp_21 L xs Q _ _ h
/-- LetterPost$TreeMaker.canBeAsked(I)Z -/
def wD_canBeAsked_34 (Q : Int → e3_H → e3_G → Prop) (s0 : Int) (H : e3_H) (G : e3_G) : Prop :=
  ((s0 : Int) = 0 ∨ s0 = 1) ∧ Q s0 H G
def wD_canBeAsked_33 (Q : Int → e3_H → e3_G → Prop)  (H : e3_H) (G : e3_G) : Prop :=
  (wD_canBeAsked_34 Q 0 H G)
def wD_canBeAsked_29 (Q : Int → e3_H → e3_G → Prop)  (H : e3_H) (G : e3_G) : Prop :=
  (wD_canBeAsked_34 Q 1 H G)
def wD_canBeAsked (Q : Int → e3_H → e3_G → Prop) (l1 : Int) (H : e3_H) (G : e3_G) : Prop :=
  (e3_ob G 8 (H 16 2)) ∧ (wF_placeUp (fun x3 H1 G2 => (wD_isKnown (fun x6 H4 G5 => (((x6 : Int) = 0 → (((x3 : Int) < 0 → (wD_canBeAsked_29 Q H4 G5)) ∧ (¬ ((x3 : Int) < 0) → (wD_isKnown (fun x9 H7 G8 => (((x9 : Int) = 0 → (wD_canBeAsked_33 Q H7 G8)) ∧ (¬ ((x9 : Int) = 0) → (wD_canBeAsked_29 Q H7 G8)))) x3 H4 G5)))) ∧ (¬ ((x6 : Int) = 0) → (wD_canBeAsked_33 Q H4 G5)))) l1 H1 G2)) (H 16 2) l1 H G)
set_option maxRecDepth 100000 in
set_option maxHeartbeats 4000000 in
theorem sD_canBeAsked_34 (L : Nat) (xs : Nat → Int32) (Q : Int → e3_H → e3_G → Prop) (s0 : Int) (H : e3_H) (G : e3_G) (h : wD_canBeAsked_34 Q s0 H G) : e3_Ev (wB L xs) 1 21 106 34 [(3, 0), (3, 0), (3, 0)] [(0, s0)] H G (e3_q0 Q) := by
  unfold wD_canBeAsked_34 at h
  exact e3_retb (M := tbM106) rfl rfl rfl h.1 ⟨_, rfl, h.2⟩
set_option maxRecDepth 100000 in
set_option maxHeartbeats 4000000 in
theorem sD_canBeAsked_33 (L : Nat) (xs : Nat → Int32) (Q : Int → e3_H → e3_G → Prop)  (H : e3_H) (G : e3_G) (h : wD_canBeAsked_33 Q  H G) : e3_Ev (wB L xs) 1 21 106 33 [(3, 0), (3, 0), (3, 0)] [] H G (e3_q0 Q) := by
  unfold wD_canBeAsked_33 at h
  refine e3_K [0] 34 [(3, 0), (3, 0), (3, 0)] [(0, 0)] (H) (G) (wZ L xs) (M := tbM106) rfl rfl trivial ?_
  exact sD_canBeAsked_34 L xs Q _ _ _ h
set_option maxRecDepth 100000 in
set_option maxHeartbeats 4000000 in
theorem sD_canBeAsked_29 (L : Nat) (xs : Nat → Int32) (Q : Int → e3_H → e3_G → Prop)  (H : e3_H) (G : e3_G) (h : wD_canBeAsked_29 Q  H G) : e3_Ev (wB L xs) 1 21 106 29 [(3, 0), (3, 0), (3, 0)] [] H G (e3_q0 Q) := by
  unfold wD_canBeAsked_29 at h
  refine e3_K [0, 0] 34 [(3, 0), (3, 0), (3, 0)] [(0, 1)] (H) (G) (wZ L xs) (M := tbM106) rfl rfl trivial ?_
  exact sD_canBeAsked_34 L xs Q _ _ _ h
set_option maxRecDepth 100000 in
set_option maxHeartbeats 4000000 in
theorem sD_canBeAsked (L : Nat) (xs : Nat → Int32) (Q : Int → e3_H → e3_G → Prop) (l1 : Int) (H : e3_H) (G : e3_G) (h : wD_canBeAsked Q l1 H G) : e3_Ev (wB L xs) 1 21 106 0 [(2, 16), (0, l1), (3, 0)] [] H G (e3_q0 Q) := by
  unfold wD_canBeAsked at h
  refine e3_K [0, 2, 0] 5 [(2, 16), (0, l1), (3, 0)] [(0, l1), (2, (H 16 2))] (H) (G) (wZ L xs) (M := tbM106) rfl rfl ⟨trivial, trivial⟩ ?_
  obtain ⟨oz, h⟩ := h
  refine e3_call (o := 1) (k := 107) (M2 := tbM107) (f1 := 0) (w1 := 0) (as := [(2, (H 16 2)), (0, l1)]) (rest := []) (M := tbM106) rfl rfl rfl oz (Nat.le_of_ble_eq_true rfl) (Nat.le_of_ble_eq_true rfl) (Nat.le_of_ble_eq_true rfl) ?_
  refine e3_mono (sF_placeUp L xs _ _ _ _ _ h) (fun r H1 G2 h => ?_)
  obtain ⟨x3, rfl, h⟩ := h
  change e3_Ev _ _ _ _ 8 [(2, 16), (0, l1), (3, 0)] [(0, x3)] H1 G2 _
  refine e3_K [0, 0, 0] 11 [(2, 16), (0, l1), (0, x3)] [(0, l1), (2, 16)] (H1) (G2) (wZ L xs) (M := tbM106) rfl rfl trivial ?_
  refine e3_call (o := 0) (k := 102) (M2 := tbM102) (f1 := 0) (w1 := 0) (as := [(2, 16), (0, l1)]) (rest := []) (M := tbM106) rfl rfl rfl trivial (Nat.le_of_ble_eq_true rfl) (Nat.le_of_ble_eq_true rfl) (Nat.le_of_ble_eq_true rfl) ?_
  refine e3_mono (sD_isKnown L xs _ _ _ _ h) (fun r H4 G5 h => ?_)
  obtain ⟨x6, rfl, h⟩ := h
  change e3_Ev _ _ _ _ 14 [(2, 16), (0, l1), (0, x3)] [(0, x6)] H4 G5 _
  refine e3_br (M := tbM106) rfl rfl rfl Iff.rfl (fun hc => ?_) (fun hc => ?_)
  · replace h := h.1 hc
    refine e3_K [0] 18 [(2, 16), (0, l1), (0, x3)] [(0, x3)] (H4) (G5) (wZ L xs) (M := tbM106) rfl rfl trivial ?_
    refine e3_br (M := tbM106) rfl rfl rfl Iff.rfl (fun hc => ?_) (fun hc => ?_)
    · replace h := h.1 hc
      refine e3_fgt [false, false, false] ?_
      exact sD_canBeAsked_29 L xs Q _ _ h
    · replace h := h.2 hc
      refine e3_K [0, 0] 23 [(2, 16), (0, l1), (0, x3)] [(0, x3), (2, 16)] (H4) (G5) (wZ L xs) (M := tbM106) rfl rfl trivial ?_
      refine e3_call (o := 0) (k := 102) (M2 := tbM102) (f1 := 0) (w1 := 0) (as := [(2, 16), (0, x3)]) (rest := []) (M := tbM106) rfl rfl rfl trivial (Nat.le_of_ble_eq_true rfl) (Nat.le_of_ble_eq_true rfl) (Nat.le_of_ble_eq_true rfl) ?_
      refine e3_mono (sD_isKnown L xs _ _ _ _ h) (fun r H7 G8 h => ?_)
      obtain ⟨x9, rfl, h⟩ := h
      change e3_Ev _ _ _ _ 26 [(2, 16), (0, l1), (0, x3)] [(0, x9)] H7 G8 _
      refine e3_br (M := tbM106) rfl rfl rfl Iff.rfl (fun hc => ?_) (fun hc => ?_)
      · replace h := h.1 hc
        refine e3_fgt [false, false, false] ?_
        exact sD_canBeAsked_33 L xs Q _ _ h
      · replace h := h.2 hc
        refine e3_fgt [false, false, false] ?_
        exact sD_canBeAsked_29 L xs Q _ _ h
  · replace h := h.2 hc
    refine e3_fgt [false, false, false] ?_
    exact sD_canBeAsked_33 L xs Q _ _ h
/-- LetterPost$Row.at(I)LLetterPost$Pattern; -/
def wO_at_23 (Q : Int → e3_H → e3_G → Prop) (s0 : Int) (H : e3_H) (G : e3_G) : Prop :=
  Q s0 H G
def wO_at_22 (Q : Int → e3_H → e3_G → Prop)  (H : e3_H) (G : e3_G) : Prop :=
  (wO_at_23 Q (-1) H G)
def wO_at (Q : Int → e3_H → e3_G → Prop) (l0 : Int) (l1 : Int) (H : e3_H) (G : e3_G) : Prop :=
  (((l1 : Int) < 0 → (wO_at_22 Q H G)) ∧ (¬ ((l1 : Int) < 0) → (e3_ob G 11 l0) ∧ ((2 : Int) ≤ (H l0 3) ∧ e3_ln G (H l0 3) ≤ 2147483647 ∧ ∃ n, G[((H l0 3) : Int).toNat]? = some (7, n)) ∧ (((l1 : Int) < (e3_ln G (H l0 3)) → (e3_ob G 11 l0) ∧ (e3_oa G 7 (H l0 3) l1) ∧ (wO_at_23 Q (H (H l0 3) l1) H G)) ∧ (¬ ((l1 : Int) < (e3_ln G (H l0 3))) → (wO_at_22 Q H G)))))
set_option maxRecDepth 100000 in
set_option maxHeartbeats 4000000 in
theorem sO_at_23 (L : Nat) (xs : Nat → Int32) (Q : Int → e3_H → e3_G → Prop) (s0 : Int) (H : e3_H) (G : e3_G) (h : wO_at_23 Q s0 H G) : e3_Ev (wB L xs) 0 0 111 23 [(3, 0), (3, 0)] [(2, s0)] H G (e3_q2 Q) := by
  unfold wO_at_23 at h
  exact e3_reta (M := tbM111) rfl rfl rfl ⟨_, rfl, h⟩
set_option maxRecDepth 100000 in
set_option maxHeartbeats 4000000 in
theorem sO_at_22 (L : Nat) (xs : Nat → Int32) (Q : Int → e3_H → e3_G → Prop)  (H : e3_H) (G : e3_G) (h : wO_at_22 Q  H G) : e3_Ev (wB L xs) 0 0 111 22 [(3, 0), (3, 0)] [] H G (e3_q2 Q) := by
  unfold wO_at_22 at h
  refine e3_K [0] 23 [(3, 0), (3, 0)] [(2, (-1))] (H) (G) (wZ L xs) (M := tbM111) rfl rfl trivial ?_
  exact sO_at_23 L xs Q _ _ _ h
set_option maxRecDepth 100000 in
set_option maxHeartbeats 4000000 in
theorem sO_at (L : Nat) (xs : Nat → Int32) (Q : Int → e3_H → e3_G → Prop) (l0 : Int) (l1 : Int) (H : e3_H) (G : e3_G) (h : wO_at Q l0 l1 H G) : e3_Ev (wB L xs) 0 0 111 0 [(2, l0), (0, l1)] [] H G (e3_q2 Q) := by
  unfold wO_at at h
  refine e3_K [0] 1 [(2, l0), (0, l1)] [(0, l1)] (H) (G) (wZ L xs) (M := tbM111) rfl rfl trivial ?_
  refine e3_br (M := tbM111) rfl rfl rfl Iff.rfl (fun hc => ?_) (fun hc => ?_)
  · replace h := h.1 hc
    refine e3_fgt [false, false] ?_
    exact sO_at_22 L xs Q _ _ h
  · replace h := h.2 hc
    obtain ⟨o1, o2, h⟩ := h
    refine e3_K [0, 0, 3, 10] 10 [(2, l0), (0, l1)] [(0, (e3_ln G (H l0 3))), (0, l1)] (H) (G) (wZ L xs) (M := tbM111) rfl rfl ⟨o1, o2, trivial⟩ ?_
    refine e3_br (M := tbM111) rfl rfl rfl Iff.rfl (fun hc => ?_) (fun hc => ?_)
    · replace h := h.1 hc
      obtain ⟨o3, o4, h⟩ := h
      refine e3_K [0, 3, 0, 10, 0] 23 [(2, l0), (0, l1)] [(2, (H (H l0 3) l1))] (H) (G) (wZ L xs) (M := tbM111) rfl rfl ⟨o3, o4, trivial⟩ ?_
      refine e3_fgt [false, false] ?_
      exact sO_at_23 L xs Q _ _ _ h
    · replace h := h.2 hc
      refine e3_fgt [false, false] ?_
      exact sO_at_22 L xs Q _ _ h
/-- LetterPost$TreeMaker.testAt(IIJ)LLetterPost$Pattern; -/
def wD_testAt_27 (Q : Int → e3_H → e3_G → Prop) (s0 : Int) (H : e3_H) (G : e3_G) : Prop :=
  Q s0 H G
def wD_testAt (Q : Int → e3_H → e3_G → Prop) (l1 : Int) (l2 : Int) (l3 : Int) (H : e3_H) (G : e3_G) : Prop :=
  ((((e3_land (e3_lshr l3 l2) 1) : Int) = 1 → (e3_ob G 8 (H 16 2)) ∧ (e3_oa G 6 (H (H 16 2) 6) l2) ∧ (e3_ob G 11 (H (H (H 16 2) 6) l2)) ∧ (wO_at (fun x5 H3 G4 => (wD_testAt_27 Q x5 H3 G4)) (H (H (H 16 2) 6) l2) l1 H G)) ∧ (¬ (((e3_land (e3_lshr l3 l2) 1) : Int) = 1) → (wD_testAt_27 Q (-1) H G)))
set_option maxRecDepth 100000 in
set_option maxHeartbeats 4000000 in
theorem sD_testAt_27 (L : Nat) (xs : Nat → Int32) (Q : Int → e3_H → e3_G → Prop) (s0 : Int) (H : e3_H) (G : e3_G) (h : wD_testAt_27 Q s0 H G) : e3_Ev (wB L xs) 1 21 110 27 [(3, 0), (3, 0), (3, 0), (3, 0), (3, 0)] [(2, s0)] H G (e3_q2 Q) := by
  unfold wD_testAt_27 at h
  exact e3_reta (M := tbM110) rfl rfl rfl ⟨_, rfl, h⟩
set_option maxRecDepth 100000 in
set_option maxHeartbeats 4000000 in
theorem sD_testAt (L : Nat) (xs : Nat → Int32) (Q : Int → e3_H → e3_G → Prop) (l1 : Int) (l2 : Int) (l3 : Int) (H : e3_H) (G : e3_G) (h : wD_testAt Q l1 l2 l3 H G) : e3_Ev (wB L xs) 1 21 110 0 [(2, 16), (0, l1), (0, l2), (1, l3), (3, 0)] [] H G (e3_q2 Q) := by
  unfold wD_testAt at h
  refine e3_K [0, 0, 0, 0, 0, 0, 0] 7 [(2, 16), (0, l1), (0, l2), (1, l3), (3, 0)] [(0, (e3_cmp (e3_land (e3_lshr l3 l2) 1) 1))] (H) (G) (wZ L xs) (M := tbM110) rfl rfl trivial ?_
  refine e3_br (M := tbM110) rfl rfl rfl e3_cmp_eq (fun hc => ?_) (fun hc => ?_)
  · replace h := h.1 hc
    obtain ⟨o1, o2, h⟩ := h
    refine e3_K [0, 2, 3, 0, 9, 0] 20 [(2, 16), (0, l1), (0, l2), (1, l3), (3, 0)] [(0, l1), (2, (H (H (H 16 2) 6) l2))] (H) (G) (wZ L xs) (M := tbM110) rfl rfl ⟨trivial, o1, o2, trivial⟩ ?_
    obtain ⟨oz, h⟩ := h
    refine e3_call (o := 1) (k := 111) (M2 := tbM111) (f1 := 0) (w1 := 0) (as := [(2, (H (H (H 16 2) 6) l2)), (0, l1)]) (rest := []) (M := tbM110) rfl rfl rfl oz (Nat.le_of_ble_eq_true rfl) (Nat.le_of_ble_eq_true rfl) (Nat.le_of_ble_eq_true rfl) ?_
    refine e3_mono (sO_at L xs _ _ _ _ _ h) (fun r H3 G4 h => ?_)
    obtain ⟨x5, rfl, h⟩ := h
    change e3_Ev _ _ _ _ 23 [(2, 16), (0, l1), (0, l2), (1, l3), (3, 0)] [(2, x5)] H3 G4 _
    refine e3_K [0] 27 [(2, 16), (0, l1), (0, l2), (1, l3), (3, 0)] [(2, x5)] (H3) (G4) (wZ L xs) (M := tbM110) rfl rfl trivial ?_
    refine e3_fgt [false, false, false, false, false] ?_
    exact sD_testAt_27 L xs Q _ _ _ h
  · replace h := h.2 hc
    refine e3_K [0] 27 [(2, 16), (0, l1), (0, l2), (1, l3), (3, 0)] [(2, (-1))] (H) (G) (wZ L xs) (M := tbM110) rfl rfl trivial ?_
    refine e3_fgt [false, false, false, false, false] ?_
    exact sD_testAt_27 L xs Q _ _ _ h
/-- LetterPost$TreeMaker.rowsAt(IJ)I -/
def wD_rowsAt_32 (Q : Int → e3_H → e3_G → Prop) (k6 : Int → Int → Int → Int → e3_H → e3_G → Prop) (l1 : Int) (l2 : Int) (l4 : Int) (l5 : Int) (H : e3_H) (G : e3_G) : Prop :=
  (k6 l1 l2 l4 (e3_w32 (l5 + 1)) H G)
def wD_rowsAt_6 (Q : Int → e3_H → e3_G → Prop) : Nat → Int → Int → Int → Int → e3_H → e3_G → Prop
  | 0, _, _, _, _, _, _ => False
  | nn + 1, l1, l2, l4, l5, H, G => (e3_ob G 8 (H 16 2)) ∧ (((l5 : Int) < (H (H 16 2) 5) → (wD_testAt (fun x4 H2 G3 => (((x4 : Int) < 0 → (wD_rowsAt_32 Q (fun l1 l2 l4 l5 H G => wD_rowsAt_6 Q nn l1 l2 l4 l5 H G) l1 l2 l4 l5 H2 G3)) ∧ (¬ ((x4 : Int) < 0) → (wD_rowsAt_32 Q (fun l1 l2 l4 l5 H G => wD_rowsAt_6 Q nn l1 l2 l4 l5 H G) l1 l2 (e3_w32 (l4 + 1)) l5 H2 G3)))) l1 l5 l2 H G)) ∧ (¬ ((l5 : Int) < (H (H 16 2) 5)) → Q l4 H G))
def wD_rowsAt (Q : Int → e3_H → e3_G → Prop) (l1 : Int) (l2 : Int) (H : e3_H) (G : e3_G) : Prop :=
  (∃ n, wD_rowsAt_6 Q n l1 l2 0 0 H G)
set_option maxRecDepth 100000 in
set_option maxHeartbeats 4000000 in
theorem sD_rowsAt_32 (L : Nat) (xs : Nat → Int32) (Q : Int → e3_H → e3_G → Prop) (k6 : Int → Int → Int → Int → e3_H → e3_G → Prop) (hk6 : ∀ (l1 : Int) (l2 : Int) (l4 : Int) (l5 : Int) (H : e3_H) (G : e3_G), k6 l1 l2 l4 l5 H G → e3_Ev (wB L xs) 2 45 109 6 [(2, 16), (0, l1), (1, l2), (3, 0), (0, l4), (0, l5)] [] H G (e3_q0 Q)) (l1 : Int) (l2 : Int) (l4 : Int) (l5 : Int) (H : e3_H) (G : e3_G) (h : wD_rowsAt_32 Q k6 l1 l2 l4 l5 H G) : e3_Ev (wB L xs) 2 45 109 32 [(2, 16), (0, l1), (1, l2), (3, 0), (0, l4), (0, l5)] [] H G (e3_q0 Q) := by
  unfold wD_rowsAt_32 at h
  refine e3_K [0, 0] 6 [(2, 16), (0, l1), (1, l2), (3, 0), (0, l4), (0, (e3_w32 (l5 + 1)))] [] (H) (G) (wZ L xs) (M := tbM109) rfl rfl trivial ?_
  exact hk6 _ _ _ _ _ _ h
set_option maxRecDepth 100000 in
set_option maxHeartbeats 4000000 in
theorem sD_rowsAt_6 (L : Nat) (xs : Nat → Int32) (Q : Int → e3_H → e3_G → Prop) : ∀ (nl : Nat) (l1 : Int) (l2 : Int) (l4 : Int) (l5 : Int) (H : e3_H) (G : e3_G), wD_rowsAt_6 Q nl l1 l2 l4 l5 H G → e3_Ev (wB L xs) 2 45 109 6 [(2, 16), (0, l1), (1, l2), (3, 0), (0, l4), (0, l5)] [] H G (e3_q0 Q) := by
  intro nl
  induction nl with
  | zero => intro l1 l2 l4 l5 H G h; exact h.elim
  | succ nn ih =>
    intro l1 l2 l4 l5 H G h
    have h : (e3_ob G 8 (H 16 2)) ∧ (((l5 : Int) < (H (H 16 2) 5) → (wD_testAt (fun x4 H2 G3 => (((x4 : Int) < 0 → (wD_rowsAt_32 Q (fun l1 l2 l4 l5 H G => wD_rowsAt_6 Q nn l1 l2 l4 l5 H G) l1 l2 l4 l5 H2 G3)) ∧ (¬ ((x4 : Int) < 0) → (wD_rowsAt_32 Q (fun l1 l2 l4 l5 H G => wD_rowsAt_6 Q nn l1 l2 l4 l5 H G) l1 l2 (e3_w32 (l4 + 1)) l5 H2 G3)))) l1 l5 l2 H G)) ∧ (¬ ((l5 : Int) < (H (H 16 2) 5)) → Q l4 H G)) := h
    obtain ⟨o1, h⟩ := h
    refine e3_K [0, 0, 2, 3] 15 [(2, 16), (0, l1), (1, l2), (3, 0), (0, l4), (0, l5)] [(0, (H (H 16 2) 5)), (0, l5)] (H) (G) (wZ L xs) (M := tbM109) rfl rfl ⟨trivial, o1, trivial⟩ ?_
    refine e3_br (M := tbM109) rfl rfl rfl Iff.rfl (fun hc => ?_) (fun hc => ?_)
    · replace h := h.1 hc
      refine e3_K [0, 0, 0, 0] 23 [(2, 16), (0, l1), (1, l2), (3, 0), (0, l4), (0, l5)] [(1, l2), (0, l5), (0, l1), (2, 16)] (H) (G) (wZ L xs) (M := tbM109) rfl rfl trivial ?_
      refine e3_call (o := 0) (k := 110) (M2 := tbM110) (f1 := 1) (w1 := 21) (as := [(2, 16), (0, l1), (0, l5), (1, l2)]) (rest := []) (M := tbM109) rfl rfl rfl trivial (Nat.le_of_ble_eq_true rfl) (Nat.le_of_ble_eq_true rfl) (Nat.le_of_ble_eq_true rfl) ?_
      refine e3_mono (sD_testAt L xs _ _ _ _ _ _ h) (fun r H2 G3 h => ?_)
      obtain ⟨x4, rfl, h⟩ := h
      change e3_Ev _ _ _ _ 26 [(2, 16), (0, l1), (1, l2), (3, 0), (0, l4), (0, l5)] [(2, x4)] H2 G3 _
      refine e3_br (M := tbM109) rfl rfl rfl Iff.rfl (fun hc => ?_) (fun hc => ?_)
      · replace h := h.1 hc
        exact sD_rowsAt_32 L xs Q (fun l1 l2 l4 l5 H G => wD_rowsAt_6 Q nn l1 l2 l4 l5 H G) ih _ _ _ _ _ _ h
      · replace h := h.2 hc
        refine e3_K [0] 32 [(2, 16), (0, l1), (1, l2), (3, 0), (0, (e3_w32 (l4 + 1))), (0, l5)] [] (H2) (G3) (wZ L xs) (M := tbM109) rfl rfl trivial ?_
        exact sD_rowsAt_32 L xs Q (fun l1 l2 l4 l5 H G => wD_rowsAt_6 Q nn l1 l2 l4 l5 H G) ih _ _ _ _ _ _ h
    · replace h := h.2 hc
      refine e3_K [0] 40 [(2, 16), (0, l1), (1, l2), (3, 0), (0, l4), (0, l5)] [(0, l4)] (H) (G) (wZ L xs) (M := tbM109) rfl rfl trivial ?_
      exact e3_reti (M := tbM109) rfl rfl rfl ⟨_, rfl, h⟩
set_option maxRecDepth 100000 in
set_option maxHeartbeats 4000000 in
theorem sD_rowsAt (L : Nat) (xs : Nat → Int32) (Q : Int → e3_H → e3_G → Prop) (l1 : Int) (l2 : Int) (H : e3_H) (G : e3_G) (h : wD_rowsAt Q l1 l2 H G) : e3_Ev (wB L xs) 2 45 109 0 [(2, 16), (0, l1), (1, l2), (3, 0), (3, 0), (3, 0)] [] H G (e3_q0 Q) := by
  unfold wD_rowsAt at h
  refine e3_K [0, 0, 0, 0] 6 [(2, 16), (0, l1), (1, l2), (3, 0), (0, 0), (0, 0)] [] (H) (G) (wZ L xs) (M := tbM109) rfl rfl trivial ?_
  obtain ⟨nl, h⟩ := h
  exact sD_rowsAt_6 L xs Q nl _ _ _ _ _ _ h
