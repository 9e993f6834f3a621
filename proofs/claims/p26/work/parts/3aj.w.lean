/-- LetterPost$TreeMaker.isPushed(JI)Z -/
def wD_isPushed_3 (Q : Int → e3_H → e3_G → Prop) : Nat → Int → Int → e3_H → e3_G → Prop
  | 0, _, _, _, _ => False
  | nn + 1, l1, l4, H, G => (((l4 : Int) < (H 16 6) → ((0 : Int) ≤ l4 ∧ (l4 : Int) < 201) ∧ ((((H 25 l4) : Int) = l1 → Q 1 H G) ∧ (¬ (((H 25 l4) : Int) = l1) → (wD_isPushed_3 Q nn l1 (e3_w32 (l4 + 1)) H G)))) ∧ (¬ ((l4 : Int) < (H 16 6)) → Q 0 H G))
def wD_isPushed (Q : Int → e3_H → e3_G → Prop) (l1 : Int) (l3 : Int) (H : e3_H) (G : e3_G) : Prop :=
  (∃ n, wD_isPushed_3 Q n l1 l3 H G)
set_option maxRecDepth 100000 in
set_option maxHeartbeats 4000000 in
theorem sD_isPushed_3 (L : Nat) (xs : Nat → Int32) (Q : Int → e3_H → e3_G → Prop) : ∀ (nl : Nat) (l1 : Int) (l4 : Int) (H : e3_H) (G : e3_G), wD_isPushed_3 Q nl l1 l4 H G → e3_Ev (wB L xs) 0 0 114 3 [(2, 16), (1, l1), (3, 0), (3, 0), (0, l4)] [] H G (e3_q0 Q) := by
  intro nl
  induction nl with
  | zero => intro l1 l4 H G h; exact h.elim
  | succ nn ih =>
    intro l1 l4 H G h
    have h : (((l4 : Int) < (H 16 6) → ((0 : Int) ≤ l4 ∧ (l4 : Int) < 201) ∧ ((((H 25 l4) : Int) = l1 → Q 1 H G) ∧ (¬ (((H 25 l4) : Int) = l1) → (wD_isPushed_3 Q nn l1 (e3_w32 (l4 + 1)) H G)))) ∧ (¬ ((l4 : Int) < (H 16 6)) → Q 0 H G)) := h
    refine e3_K [0, 0, 2] 9 [(2, 16), (1, l1), (3, 0), (3, 0), (0, l4)] [(0, (H 16 6)), (0, l4)] (H) (G) (wZ L xs) (M := tbM114) rfl rfl ⟨trivial, trivial⟩ ?_
    refine e3_br (M := tbM114) rfl rfl rfl Iff.rfl (fun hc => ?_) (fun hc => ?_)
    · replace h := h.1 hc
      obtain ⟨o1, h⟩ := h
      refine e3_K [0, 4, 0, 2, 0, 0] 21 [(2, 16), (1, l1), (3, 0), (3, 0), (0, l4)] [(0, (e3_cmp (H 25 l4) l1))] (H) (G) (wZ L xs) (M := tbM114) rfl rfl ⟨trivial, o1, trivial⟩ ?_
      refine e3_br (M := tbM114) rfl rfl rfl e3_cmp_eq (fun hc => ?_) (fun hc => ?_)
      · replace h := h.1 hc
        refine e3_K [0] 25 [(2, 16), (1, l1), (3, 0), (3, 0), (0, l4)] [(0, 1)] (H) (G) (wZ L xs) (M := tbM114) rfl rfl trivial ?_
        exact e3_retb (M := tbM114) rfl rfl rfl (Or.inr rfl) ⟨_, rfl, h⟩
      · replace h := h.2 hc
        refine e3_K [0, 0] 3 [(2, 16), (1, l1), (3, 0), (3, 0), (0, (e3_w32 (l4 + 1)))] [] (H) (G) (wZ L xs) (M := tbM114) rfl rfl trivial ?_
        exact ih _ _ _ _ h
    · replace h := h.2 hc
      refine e3_K [0] 33 [(2, 16), (1, l1), (3, 0), (3, 0), (0, l4)] [(0, 0)] (H) (G) (wZ L xs) (M := tbM114) rfl rfl trivial ?_
      exact e3_retb (M := tbM114) rfl rfl rfl (Or.inl rfl) ⟨_, rfl, h⟩
set_option maxRecDepth 100000 in
set_option maxHeartbeats 4000000 in
theorem sD_isPushed (L : Nat) (xs : Nat → Int32) (Q : Int → e3_H → e3_G → Prop) (l1 : Int) (l3 : Int) (H : e3_H) (G : e3_G) (h : wD_isPushed Q l1 l3 H G) : e3_Ev (wB L xs) 0 0 114 0 [(2, 16), (1, l1), (3, 0), (0, l3), (3, 0)] [] H G (e3_q0 Q) := by
  unfold wD_isPushed at h
  refine e3_K [0, 0] 3 [(2, 16), (1, l1), (3, 0), (0, l3), (0, l3)] [] (H) (G) (wZ L xs) (M := tbM114) rfl rfl trivial ?_
  refine e3_fgt [true, true, false, false, true] ?_
  obtain ⟨nl, h⟩ := h
  exact sD_isPushed_3 L xs Q nl _ _ _ _ h
/-- LetterPost$TreeMaker.pushUpward(JI)V -/
def wD_pushUpward_19 (Q : e3_H → e3_G → Prop)  (H : e3_H) (G : e3_G) : Prop :=
  Q H G
def wD_pushUpward_68 (Q : e3_H → e3_G → Prop) (l1 : Int) (l4 : Int) (H : e3_H) (G : e3_G) : Prop :=
  ((0 : Int) ≤ l4 ∧ (l4 : Int) < 201) ∧ ∀ H1 : e3_H, H1 = e3_up H 25 l4 l1 → ∀ H3 : e3_H, H3 = e3_up H1 16 6 (e3_w32 ((H1 16 6) + 1)) → Q H3 G
def wD_pushUpward_26 (Q : e3_H → e3_G → Prop) : Nat → Int → Int → Int → e3_H → e3_G → Prop
  | 0, _, _, _, _, _ => False
  | nn + 1, l1, l3, l4, H, G => (((l3 : Int) < l4 → ((0 : Int) ≤ (e3_w32 (l4 - 1)) ∧ ((e3_w32 (l4 - 1)) : Int) < 201) ∧ (((l1 : Int) < (H 25 (e3_w32 (l4 - 1))) → ((0 : Int) ≤ (e3_w32 (l4 - 1)) ∧ ((e3_w32 (l4 - 1)) : Int) < 201) ∧ ((0 : Int) ≤ l4 ∧ (l4 : Int) < 201) ∧ ∀ H2 : e3_H, H2 = e3_up H 25 l4 (H 25 (e3_w32 (l4 - 1))) → (wD_pushUpward_26 Q nn l1 l3 (e3_w32 (l4 + (-1))) H2 G)) ∧ (¬ ((l1 : Int) < (H 25 (e3_w32 (l4 - 1)))) → (wD_pushUpward_68 Q l1 l4 H G)))) ∧ (¬ ((l3 : Int) < l4) → (wD_pushUpward_68 Q l1 l4 H G)))
def wD_pushUpward (Q : e3_H → e3_G → Prop) (l1 : Int) (l3 : Int) (H : e3_H) (G : e3_G) : Prop :=
  (wD_isPushed (fun x3 H1 G2 => (((x3 : Int) = 0 → ((((H1 16 6) : Int) < 201 → (∃ n, wD_pushUpward_26 Q n l1 l3 (H1 16 6) H1 G2)) ∧ (¬ (((H1 16 6) : Int) < 201) → (wD_pushUpward_19 Q H1 G2)))) ∧ (¬ ((x3 : Int) = 0) → (wD_pushUpward_19 Q H1 G2)))) l1 l3 H G)
set_option maxRecDepth 100000 in
set_option maxHeartbeats 4000000 in
theorem sD_pushUpward_19 (L : Nat) (xs : Nat → Int32) (Q : e3_H → e3_G → Prop)  (H : e3_H) (G : e3_G) (h : wD_pushUpward_19 Q  H G) : e3_Ev (wB L xs) 1 24 113 19 [(3, 0), (3, 0), (3, 0), (3, 0), (3, 0)] [] H G (e3_qv Q) := by
  unfold wD_pushUpward_19 at h
  exact e3_retv (M := tbM113) rfl rfl rfl ⟨rfl, h⟩
set_option maxRecDepth 100000 in
set_option maxHeartbeats 4000000 in
theorem sD_pushUpward_68 (L : Nat) (xs : Nat → Int32) (Q : e3_H → e3_G → Prop) (l1 : Int) (l4 : Int) (H : e3_H) (G : e3_G) (h : wD_pushUpward_68 Q l1 l4 H G) : e3_Ev (wB L xs) 1 24 113 68 [(2, 16), (1, l1), (3, 0), (3, 0), (0, l4)] [] H G (e3_qv Q) := by
  unfold wD_pushUpward_68 at h
  obtain ⟨o2, h⟩ := h
  refine e3_K [0, 4, 0, 0, 2] 76 [(2, 16), (1, l1), (3, 0), (3, 0), (0, l4)] [] (e3_up H 25 l4 l1) (G) (wZ L xs) (M := tbM113) rfl rfl ⟨trivial, o2, trivial⟩ ?_
  generalize hH1 : (e3_up H 25 l4 l1) = H1
  replace h := h H1 hH1.symm
  refine e3_K [0, 0, 2, 0, 0, 2] 86 [(2, 16), (1, l1), (3, 0), (3, 0), (0, l4)] [] (e3_up H1 16 6 (e3_w32 ((H1 16 6) + 1))) (G) (wZ L xs) (M := tbM113) rfl rfl ⟨trivial, trivial, trivial⟩ ?_
  generalize hH3 : (e3_up H1 16 6 (e3_w32 ((H1 16 6) + 1))) = H3
  replace h := h H3 hH3.symm
  exact e3_retv (M := tbM113) rfl rfl rfl ⟨rfl, h⟩
set_option maxRecDepth 100000 in
set_option maxHeartbeats 4000000 in
theorem sD_pushUpward_26 (L : Nat) (xs : Nat → Int32) (Q : e3_H → e3_G → Prop) : ∀ (nl : Nat) (l1 : Int) (l3 : Int) (l4 : Int) (H : e3_H) (G : e3_G), wD_pushUpward_26 Q nl l1 l3 l4 H G → e3_Ev (wB L xs) 1 24 113 26 [(2, 16), (1, l1), (3, 0), (0, l3), (0, l4)] [] H G (e3_qv Q) := by
  intro nl
  induction nl with
  | zero => intro l1 l3 l4 H G h; exact h.elim
  | succ nn ih =>
    intro l1 l3 l4 H G h
    have h : (((l3 : Int) < l4 → ((0 : Int) ≤ (e3_w32 (l4 - 1)) ∧ ((e3_w32 (l4 - 1)) : Int) < 201) ∧ (((l1 : Int) < (H 25 (e3_w32 (l4 - 1))) → ((0 : Int) ≤ (e3_w32 (l4 - 1)) ∧ ((e3_w32 (l4 - 1)) : Int) < 201) ∧ ((0 : Int) ≤ l4 ∧ (l4 : Int) < 201) ∧ ∀ H2 : e3_H, H2 = e3_up H 25 l4 (H 25 (e3_w32 (l4 - 1))) → (wD_pushUpward_26 Q nn l1 l3 (e3_w32 (l4 + (-1))) H2 G)) ∧ (¬ ((l1 : Int) < (H 25 (e3_w32 (l4 - 1)))) → (wD_pushUpward_68 Q l1 l4 H G)))) ∧ (¬ ((l3 : Int) < l4) → (wD_pushUpward_68 Q l1 l4 H G))) := h
    refine e3_K [0, 0] 29 [(2, 16), (1, l1), (3, 0), (0, l3), (0, l4)] [(0, l3), (0, l4)] (H) (G) (wZ L xs) (M := tbM113) rfl rfl trivial ?_
    refine e3_br (M := tbM113) rfl rfl rfl Iff.rfl (fun hc => ?_) (fun hc => ?_)
    · replace h := h.1 hc
      obtain ⟨o1, h⟩ := h
      refine e3_K [0, 4, 0, 0, 0, 2, 0, 0] 43 [(2, 16), (1, l1), (3, 0), (0, l3), (0, l4)] [(0, (e3_cmp (H 25 (e3_w32 (l4 - 1))) l1))] (H) (G) (wZ L xs) (M := tbM113) rfl rfl ⟨trivial, o1, trivial⟩ ?_
      refine e3_br (M := tbM113) rfl rfl rfl e3_cmp_gt (fun hc => ?_) (fun hc => ?_)
      · replace h := h.1 hc
        obtain ⟨o3, o4, h⟩ := h
        refine e3_K [0, 4, 0, 0, 4, 0, 0, 0, 2, 2] 62 [(2, 16), (1, l1), (3, 0), (0, l3), (0, l4)] [] (e3_up H 25 l4 (H 25 (e3_w32 (l4 - 1)))) (G) (wZ L xs) (M := tbM113) rfl rfl ⟨trivial, trivial, o3, o4, trivial⟩ ?_
        generalize hH2 : (e3_up H 25 l4 (H 25 (e3_w32 (l4 - 1)))) = H2
        replace h := h H2 hH2.symm
        refine e3_K [0, 0] 26 [(2, 16), (1, l1), (3, 0), (0, l3), (0, (e3_w32 (l4 + (-1))))] [] (H2) (G) (wZ L xs) (M := tbM113) rfl rfl trivial ?_
        exact ih _ _ _ _ _ h
      · replace h := h.2 hc
        refine e3_fgt [true, true, false, false, true] ?_
        exact sD_pushUpward_68 L xs Q _ _ _ _ h
    · replace h := h.2 hc
      refine e3_fgt [true, true, false, false, true] ?_
      exact sD_pushUpward_68 L xs Q _ _ _ _ h
set_option maxRecDepth 100000 in
set_option maxHeartbeats 4000000 in
theorem sD_pushUpward (L : Nat) (xs : Nat → Int32) (Q : e3_H → e3_G → Prop) (l1 : Int) (l3 : Int) (H : e3_H) (G : e3_G) (h : wD_pushUpward Q l1 l3 H G) : e3_Ev (wB L xs) 1 24 113 0 [(2, 16), (1, l1), (3, 0), (0, l3), (3, 0)] [] H G (e3_qv Q) := by
  unfold wD_pushUpward at h
  refine e3_K [0, 0, 0] 3 [(2, 16), (1, l1), (3, 0), (0, l3), (3, 0)] [(0, l3), (1, l1), (2, 16)] (H) (G) (wZ L xs) (M := tbM113) rfl rfl trivial ?_
  refine e3_call (o := 0) (k := 114) (M2 := tbM114) (f1 := 0) (w1 := 0) (as := [(2, 16), (1, l1), (0, l3)]) (rest := []) (M := tbM113) rfl rfl rfl trivial (Nat.le_of_ble_eq_true rfl) (Nat.le_of_ble_eq_true rfl) (Nat.le_of_ble_eq_true rfl) ?_
  refine e3_mono (sD_isPushed L xs _ _ _ _ _ h) (fun r H1 G2 h => ?_)
  obtain ⟨x3, rfl, h⟩ := h
  change e3_Ev _ _ _ _ 6 [(2, 16), (1, l1), (3, 0), (0, l3), (3, 0)] [(0, x3)] H1 G2 _
  refine e3_br (M := tbM113) rfl rfl rfl Iff.rfl (fun hc => ?_) (fun hc => ?_)
  · replace h := h.1 hc
    refine e3_K [0, 2, 0] 16 [(2, 16), (1, l1), (3, 0), (0, l3), (3, 0)] [(0, 201), (0, (H1 16 6))] (H1) (G2) (wZ L xs) (M := tbM113) rfl rfl ⟨trivial, trivial⟩ ?_
    refine e3_br (M := tbM113) rfl rfl rfl Iff.rfl (fun hc => ?_) (fun hc => ?_)
    · replace h := h.1 hc
      refine e3_K [0, 2, 0] 26 [(2, 16), (1, l1), (3, 0), (0, l3), (0, (H1 16 6))] [] (H1) (G2) (wZ L xs) (M := tbM113) rfl rfl ⟨trivial, trivial⟩ ?_
      obtain ⟨nl, h⟩ := h
      exact sD_pushUpward_26 L xs Q nl _ _ _ _ _ h
    · replace h := h.2 hc
      refine e3_fgt [false, false, false, false, false] ?_
      exact sD_pushUpward_19 L xs Q _ _ h
  · replace h := h.2 hc
    refine e3_fgt [false, false, false, false, false] ?_
    exact sD_pushUpward_19 L xs Q _ _ h
/-- LetterPost$TreeMaker.push(J)V -/
def wD_push_30 (Q : e3_H → e3_G → Prop)  (H : e3_H) (G : e3_G) : Prop :=
  Q H G
def wD_push (Q : e3_H → e3_G → Prop) (l1 : Int) (H : e3_H) (G : e3_G) : Prop :=
  ((((H 16 6) : Int) < 201 → ((0 : Int) ≤ (H 16 6) ∧ ((H 16 6) : Int) < 201) ∧ ∀ H1 : e3_H, H1 = e3_up H 25 (H 16 6) l1 → ∀ H3 : e3_H, H3 = e3_up H1 16 6 (e3_w32 ((H1 16 6) + 1)) → (wD_push_30 Q H3 G)) ∧ (¬ (((H 16 6) : Int) < 201) → (wD_push_30 Q H G)))
set_option maxRecDepth 100000 in
set_option maxHeartbeats 4000000 in
theorem sD_push_30 (L : Nat) (xs : Nat → Int32) (Q : e3_H → e3_G → Prop)  (H : e3_H) (G : e3_G) (h : wD_push_30 Q  H G) : e3_Ev (wB L xs) 0 0 115 30 [(3, 0), (3, 0), (3, 0)] [] H G (e3_qv Q) := by
  unfold wD_push_30 at h
  exact e3_retv (M := tbM115) rfl rfl rfl ⟨rfl, h⟩
set_option maxRecDepth 100000 in
set_option maxHeartbeats 4000000 in
theorem sD_push (L : Nat) (xs : Nat → Int32) (Q : e3_H → e3_G → Prop) (l1 : Int) (H : e3_H) (G : e3_G) (h : wD_push Q l1 H G) : e3_Ev (wB L xs) 0 0 115 0 [(2, 16), (1, l1), (3, 0)] [] H G (e3_qv Q) := by
  unfold wD_push at h
  refine e3_K [0, 2, 0] 7 [(2, 16), (1, l1), (3, 0)] [(0, 201), (0, (H 16 6))] (H) (G) (wZ L xs) (M := tbM115) rfl rfl ⟨trivial, trivial⟩ ?_
  refine e3_br (M := tbM115) rfl rfl rfl Iff.rfl (fun hc => ?_) (fun hc => ?_)
  · replace h := h.1 hc
    obtain ⟨o2, h⟩ := h
    refine e3_K [0, 4, 0, 2, 0, 2] 20 [(2, 16), (1, l1), (3, 0)] [] (e3_up H 25 (H 16 6) l1) (G) (wZ L xs) (M := tbM115) rfl rfl ⟨trivial, trivial, o2, trivial⟩ ?_
    generalize hH1 : (e3_up H 25 (H 16 6) l1) = H1
    replace h := h H1 hH1.symm
    refine e3_K [0, 0, 2, 0, 0, 2] 30 [(2, 16), (1, l1), (3, 0)] [] (e3_up H1 16 6 (e3_w32 ((H1 16 6) + 1))) (G) (wZ L xs) (M := tbM115) rfl rfl ⟨trivial, trivial, trivial⟩ ?_
    generalize hH3 : (e3_up H1 16 6 (e3_w32 ((H1 16 6) + 1))) = H3
    replace h := h H3 hH3.symm
    refine e3_fgt [false, false, false] ?_
    exact sD_push_30 L xs Q _ _ h
  · replace h := h.2 hc
    refine e3_fgt [false, false, false] ?_
    exact sD_push_30 L xs Q _ _ h
/-- LetterPost$Kinds.isLeaf(I)Z -/
def wK_isLeaf_26 (Q : Int → e3_H → e3_G → Prop) (s0 : Int) (H : e3_H) (G : e3_G) : Prop :=
  ((s0 : Int) = 0 ∨ s0 = 1) ∧ Q s0 H G
def wK_isLeaf_25 (Q : Int → e3_H → e3_G → Prop)  (H : e3_H) (G : e3_G) : Prop :=
  (wK_isLeaf_26 Q 0 H G)
def wK_isLeaf (Q : Int → e3_H → e3_G → Prop) (l1 : Int) (H : e3_H) (G : e3_G) : Prop :=
  (((l1 : Int) < 0 → (wK_isLeaf_25 Q H G)) ∧ (¬ ((l1 : Int) < 0) → (((l1 : Int) < (H 8 0) → ((0 : Int) ≤ l1 ∧ (l1 : Int) < 24) ∧ ((((H 11 l1) : Int) = 0 → (wK_isLeaf_26 Q 1 H G)) ∧ (¬ (((H 11 l1) : Int) = 0) → (wK_isLeaf_25 Q H G)))) ∧ (¬ ((l1 : Int) < (H 8 0)) → (wK_isLeaf_25 Q H G)))))
set_option maxRecDepth 100000 in
set_option maxHeartbeats 4000000 in
theorem sK_isLeaf_26 (L : Nat) (xs : Nat → Int32) (Q : Int → e3_H → e3_G → Prop) (s0 : Int) (H : e3_H) (G : e3_G) (h : wK_isLeaf_26 Q s0 H G) : e3_Ev (wB L xs) 0 0 117 26 [(3, 0), (3, 0)] [(0, s0)] H G (e3_q0 Q) := by
  unfold wK_isLeaf_26 at h
  exact e3_retb (M := tbM117) rfl rfl rfl h.1 ⟨_, rfl, h.2⟩
set_option maxRecDepth 100000 in
set_option maxHeartbeats 4000000 in
theorem sK_isLeaf_25 (L : Nat) (xs : Nat → Int32) (Q : Int → e3_H → e3_G → Prop)  (H : e3_H) (G : e3_G) (h : wK_isLeaf_25 Q  H G) : e3_Ev (wB L xs) 0 0 117 25 [(3, 0), (3, 0)] [] H G (e3_q0 Q) := by
  unfold wK_isLeaf_25 at h
  refine e3_K [0] 26 [(3, 0), (3, 0)] [(0, 0)] (H) (G) (wZ L xs) (M := tbM117) rfl rfl trivial ?_
  exact sK_isLeaf_26 L xs Q _ _ _ h
set_option maxRecDepth 100000 in
set_option maxHeartbeats 4000000 in
theorem sK_isLeaf (L : Nat) (xs : Nat → Int32) (Q : Int → e3_H → e3_G → Prop) (l1 : Int) (H : e3_H) (G : e3_G) (h : wK_isLeaf Q l1 H G) : e3_Ev (wB L xs) 0 0 117 0 [(2, 8), (0, l1)] [] H G (e3_q0 Q) := by
  unfold wK_isLeaf at h
  refine e3_K [0] 1 [(2, 8), (0, l1)] [(0, l1)] (H) (G) (wZ L xs) (M := tbM117) rfl rfl trivial ?_
  refine e3_br (M := tbM117) rfl rfl rfl Iff.rfl (fun hc => ?_) (fun hc => ?_)
  · replace h := h.1 hc
    refine e3_fgt [false, false] ?_
    exact sK_isLeaf_25 L xs Q _ _ h
  · replace h := h.2 hc
    refine e3_K [0, 0, 2] 9 [(2, 8), (0, l1)] [(0, (H 8 0)), (0, l1)] (H) (G) (wZ L xs) (M := tbM117) rfl rfl ⟨trivial, trivial⟩ ?_
    refine e3_br (M := tbM117) rfl rfl rfl Iff.rfl (fun hc => ?_) (fun hc => ?_)
    · replace h := h.1 hc
      obtain ⟨o1, h⟩ := h
      refine e3_K [0, 4, 0, 2] 18 [(2, 8), (0, l1)] [(0, (H 11 l1))] (H) (G) (wZ L xs) (M := tbM117) rfl rfl ⟨trivial, o1, trivial⟩ ?_
      refine e3_br (M := tbM117) rfl rfl rfl Iff.rfl (fun hc => ?_) (fun hc => ?_)
      · replace h := h.1 hc
        refine e3_K [0, 0] 26 [(2, 8), (0, l1)] [(0, 1)] (H) (G) (wZ L xs) (M := tbM117) rfl rfl trivial ?_
        refine e3_fgt [false, false] ?_
        exact sK_isLeaf_26 L xs Q _ _ _ h
      · replace h := h.2 hc
        refine e3_fgt [false, false] ?_
        exact sK_isLeaf_25 L xs Q _ _ h
    · replace h := h.2 hc
      refine e3_fgt [false, false] ?_
      exact sK_isLeaf_25 L xs Q _ _ h
/-- LetterPost$TreeMaker.pushLastLabels(I)V -/
def wD_pushLastLabels_104 (Q : e3_H → e3_G → Prop)  (H : e3_H) (G : e3_G) : Prop :=
  Q H G
def wD_pushLastLabels_98 (Q : e3_H → e3_G → Prop) (k56 : Int → Int → e3_H → e3_G → Prop) (l1 : Int) (l2 : Int) (H : e3_H) (G : e3_G) : Prop :=
  (k56 l1 (e3_w32 (l2 + 1)) H G)
def wD_pushLastLabels_56 (Q : e3_H → e3_G → Prop) : Nat → Int → Int → e3_H → e3_G → Prop
  | 0, _, _, _, _ => False
  | nn + 1, l1, l2, H, G => (((l2 : Int) < (H 8 0) → (wK_isLeaf (fun x3 H1 G2 => (((x3 : Int) = 0 → (wD_pushLastLabels_98 Q (fun l1 l2 H G => wD_pushLastLabels_56 Q nn l1 l2 H G) l1 l2 H1 G2)) ∧ (¬ ((x3 : Int) = 0) → (wK_isOrUnder (fun x6 H4 G5 => (((x6 : Int) = 0 → (wD_pushLastLabels_98 Q (fun l1 l2 H G => wD_pushLastLabels_56 Q nn l1 l2 H G) l1 l2 H4 G5)) ∧ (¬ ((x6 : Int) = 0) → (wD_push (fun H7 G8 => (wD_pushLastLabels_98 Q (fun l1 l2 H G => wD_pushLastLabels_56 Q nn l1 l2 H G) l1 l2 H7 G8)) l2 H4 G5)))) l2 (e3_w32 (l1 - 3)) H1 G2)))) l2 H G)) ∧ (¬ ((l2 : Int) < (H 8 0)) → (wD_pushLastLabels_104 Q H G)))
def wD_pushLastLabels (Q : e3_H → e3_G → Prop) (l1 : Int) (H : e3_H) (G : e3_G) : Prop :=
  (((l1 : Int) = 0 → (wD_push (fun H1 G2 => (wD_pushLastLabels_104 Q H1 G2)) 2147483647 H G)) ∧ (¬ ((l1 : Int) = 0) → (((l1 : Int) = 1 → (wD_push (fun H4 G5 => (wD_push (fun H7 G8 => (wD_pushLastLabels_104 Q H7 G8)) 1 H4 G5)) 0 H G)) ∧ (¬ ((l1 : Int) = 1) → (((l1 : Int) = 2 → (wD_push (fun H10 G11 => (wD_pushLastLabels_104 Q H10 G11)) ((-1 : Int64).toInt) H G)) ∧ (¬ ((l1 : Int) = 2) → (wD_push (fun H13 G14 => (∃ n, wD_pushLastLabels_56 Q n l1 0 H13 G14)) ((-1 : Int64).toInt) H G)))))))
set_option maxRecDepth 100000 in
set_option maxHeartbeats 4000000 in
theorem sD_pushLastLabels_104 (L : Nat) (xs : Nat → Int32) (Q : e3_H → e3_G → Prop)  (H : e3_H) (G : e3_G) (h : wD_pushLastLabels_104 Q  H G) : e3_Ev (wB L xs) 1 24 116 104 [(3, 0), (3, 0), (3, 0)] [] H G (e3_qv Q) := by
  unfold wD_pushLastLabels_104 at h
  exact e3_retv (M := tbM116) rfl rfl rfl ⟨rfl, h⟩
set_option maxRecDepth 100000 in
set_option maxHeartbeats 4000000 in
theorem sD_pushLastLabels_98 (L : Nat) (xs : Nat → Int32) (Q : e3_H → e3_G → Prop) (k56 : Int → Int → e3_H → e3_G → Prop) (hk56 : ∀ (l1 : Int) (l2 : Int) (H : e3_H) (G : e3_G), k56 l1 l2 H G → e3_Ev (wB L xs) 1 24 116 56 [(2, 16), (0, l1), (0, l2)] [] H G (e3_qv Q)) (l1 : Int) (l2 : Int) (H : e3_H) (G : e3_G) (h : wD_pushLastLabels_98 Q k56 l1 l2 H G) : e3_Ev (wB L xs) 1 24 116 98 [(2, 16), (0, l1), (0, l2)] [] H G (e3_qv Q) := by
  unfold wD_pushLastLabels_98 at h
  refine e3_K [0, 0] 56 [(2, 16), (0, l1), (0, (e3_w32 (l2 + 1)))] [] (H) (G) (wZ L xs) (M := tbM116) rfl rfl trivial ?_
  exact hk56 _ _ _ _ h
set_option maxRecDepth 100000 in
set_option maxHeartbeats 4000000 in
theorem sD_pushLastLabels_56 (L : Nat) (xs : Nat → Int32) (Q : e3_H → e3_G → Prop) : ∀ (nl : Nat) (l1 : Int) (l2 : Int) (H : e3_H) (G : e3_G), wD_pushLastLabels_56 Q nl l1 l2 H G → e3_Ev (wB L xs) 1 24 116 56 [(2, 16), (0, l1), (0, l2)] [] H G (e3_qv Q) := by
  intro nl
  induction nl with
  | zero => intro l1 l2 H G h; exact h.elim
  | succ nn ih =>
    intro l1 l2 H G h
    have h : (((l2 : Int) < (H 8 0) → (wK_isLeaf (fun x3 H1 G2 => (((x3 : Int) = 0 → (wD_pushLastLabels_98 Q (fun l1 l2 H G => wD_pushLastLabels_56 Q nn l1 l2 H G) l1 l2 H1 G2)) ∧ (¬ ((x3 : Int) = 0) → (wK_isOrUnder (fun x6 H4 G5 => (((x6 : Int) = 0 → (wD_pushLastLabels_98 Q (fun l1 l2 H G => wD_pushLastLabels_56 Q nn l1 l2 H G) l1 l2 H4 G5)) ∧ (¬ ((x6 : Int) = 0) → (wD_push (fun H7 G8 => (wD_pushLastLabels_98 Q (fun l1 l2 H G => wD_pushLastLabels_56 Q nn l1 l2 H G) l1 l2 H7 G8)) l2 H4 G5)))) l2 (e3_w32 (l1 - 3)) H1 G2)))) l2 H G)) ∧ (¬ ((l2 : Int) < (H 8 0)) → (wD_pushLastLabels_104 Q H G))) := h
    refine e3_K [0, 0, 4, 2] 64 [(2, 16), (0, l1), (0, l2)] [(0, (H 8 0)), (0, l2)] (H) (G) (wZ L xs) (M := tbM116) rfl rfl ⟨trivial, trivial, trivial⟩ ?_
    refine e3_br (M := tbM116) rfl rfl rfl Iff.rfl (fun hc => ?_) (fun hc => ?_)
    · replace h := h.1 hc
      refine e3_K [0, 4, 0] 72 [(2, 16), (0, l1), (0, l2)] [(0, l2), (2, 8)] (H) (G) (wZ L xs) (M := tbM116) rfl rfl ⟨trivial, trivial⟩ ?_
      refine e3_call (o := 0) (k := 117) (M2 := tbM117) (f1 := 0) (w1 := 0) (as := [(2, 8), (0, l2)]) (rest := []) (M := tbM116) rfl rfl rfl trivial (Nat.le_of_ble_eq_true rfl) (Nat.le_of_ble_eq_true rfl) (Nat.le_of_ble_eq_true rfl) ?_
      refine e3_mono (sK_isLeaf L xs _ _ _ _ h) (fun r H1 G2 h => ?_)
      obtain ⟨x3, rfl, h⟩ := h
      change e3_Ev _ _ _ _ 75 [(2, 16), (0, l1), (0, l2)] [(0, x3)] H1 G2 _
      refine e3_br (M := tbM116) rfl rfl rfl Iff.rfl (fun hc => ?_) (fun hc => ?_)
      · replace h := h.1 hc
        exact sD_pushLastLabels_98 L xs Q (fun l1 l2 H G => wD_pushLastLabels_56 Q nn l1 l2 H G) ih _ _ _ _ h
      · replace h := h.2 hc
        refine e3_K [0, 4, 0, 0, 0, 0] 86 [(2, 16), (0, l1), (0, l2)] [(0, (e3_w32 (l1 - 3))), (0, l2), (2, 8)] (H1) (G2) (wZ L xs) (M := tbM116) rfl rfl ⟨trivial, trivial⟩ ?_
        refine e3_call (o := 0) (k := 55) (M2 := tbM55) (f1 := 0) (w1 := 0) (as := [(2, 8), (0, l2), (0, (e3_w32 (l1 - 3)))]) (rest := []) (M := tbM116) rfl rfl rfl trivial (Nat.le_of_ble_eq_true rfl) (Nat.le_of_ble_eq_true rfl) (Nat.le_of_ble_eq_true rfl) ?_
        refine e3_mono (sK_isOrUnder L xs _ _ _ _ _ h) (fun r H4 G5 h => ?_)
        obtain ⟨x6, rfl, h⟩ := h
        change e3_Ev _ _ _ _ 89 [(2, 16), (0, l1), (0, l2)] [(0, x6)] H4 G5 _
        refine e3_br (M := tbM116) rfl rfl rfl Iff.rfl (fun hc => ?_) (fun hc => ?_)
        · replace h := h.1 hc
          exact sD_pushLastLabels_98 L xs Q (fun l1 l2 H G => wD_pushLastLabels_56 Q nn l1 l2 H G) ih _ _ _ _ h
        · replace h := h.2 hc
          refine e3_K [0, 0, 0] 95 [(2, 16), (0, l1), (0, l2)] [(1, l2), (2, 16)] (H4) (G5) (wZ L xs) (M := tbM116) rfl rfl trivial ?_
          refine e3_call (o := 0) (k := 115) (M2 := tbM115) (f1 := 0) (w1 := 0) (as := [(2, 16), (1, l2)]) (rest := []) (M := tbM116) rfl rfl rfl trivial (Nat.le_of_ble_eq_true rfl) (Nat.le_of_ble_eq_true rfl) (Nat.le_of_ble_eq_true rfl) ?_
          refine e3_mono (sD_push L xs _ _ _ _ h) (fun r H7 G8 h => ?_)
          obtain ⟨rfl, h⟩ := h
          change e3_Ev _ _ _ _ 98 [(2, 16), (0, l1), (0, l2)] [] H7 G8 _
          exact sD_pushLastLabels_98 L xs Q (fun l1 l2 H G => wD_pushLastLabels_56 Q nn l1 l2 H G) ih _ _ _ _ h
    · replace h := h.2 hc
      refine e3_fgt [false, false, false] ?_
      exact sD_pushLastLabels_104 L xs Q _ _ h
set_option maxRecDepth 100000 in
set_option maxHeartbeats 4000000 in
theorem sD_pushLastLabels (L : Nat) (xs : Nat → Int32) (Q : e3_H → e3_G → Prop) (l1 : Int) (H : e3_H) (G : e3_G) (h : wD_pushLastLabels Q l1 H G) : e3_Ev (wB L xs) 1 24 116 0 [(2, 16), (0, l1), (3, 0)] [] H G (e3_qv Q) := by
  unfold wD_pushLastLabels at h
  refine e3_K [0] 1 [(2, 16), (0, l1), (3, 0)] [(0, l1)] (H) (G) (wZ L xs) (M := tbM116) rfl rfl trivial ?_
  refine e3_br (M := tbM116) rfl rfl rfl Iff.rfl (fun hc => ?_) (fun hc => ?_)
  · replace h := h.1 hc
    refine e3_K [0, 2] 8 [(2, 16), (0, l1), (3, 0)] [(1, 2147483647), (2, 16)] (H) (G) (wZ L xs) (M := tbM116) rfl rfl ⟨trivial, trivial⟩ ?_
    refine e3_call (o := 0) (k := 115) (M2 := tbM115) (f1 := 0) (w1 := 0) (as := [(2, 16), (1, 2147483647)]) (rest := []) (M := tbM116) rfl rfl rfl trivial (Nat.le_of_ble_eq_true rfl) (Nat.le_of_ble_eq_true rfl) (Nat.le_of_ble_eq_true rfl) ?_
    refine e3_mono (sD_push L xs _ _ _ _ h) (fun r H1 G2 h => ?_)
    obtain ⟨rfl, h⟩ := h
    change e3_Ev _ _ _ _ 11 [(2, 16), (0, l1), (3, 0)] [] H1 G2 _
    refine e3_K [0] 104 [(2, 16), (0, l1), (3, 0)] [] (H1) (G2) (wZ L xs) (M := tbM116) rfl rfl trivial ?_
    refine e3_fgt [false, false, false] ?_
    exact sD_pushLastLabels_104 L xs Q _ _ h
  · replace h := h.2 hc
    refine e3_K [0, 0] 16 [(2, 16), (0, l1), (3, 0)] [(0, 1), (0, l1)] (H) (G) (wZ L xs) (M := tbM116) rfl rfl trivial ?_
    refine e3_br (M := tbM116) rfl rfl rfl Iff.rfl (fun hc => ?_) (fun hc => ?_)
    · replace h := h.1 hc
      refine e3_K [0, 0] 21 [(2, 16), (0, l1), (3, 0)] [(1, 0), (2, 16)] (H) (G) (wZ L xs) (M := tbM116) rfl rfl trivial ?_
      refine e3_call (o := 0) (k := 115) (M2 := tbM115) (f1 := 0) (w1 := 0) (as := [(2, 16), (1, 0)]) (rest := []) (M := tbM116) rfl rfl rfl trivial (Nat.le_of_ble_eq_true rfl) (Nat.le_of_ble_eq_true rfl) (Nat.le_of_ble_eq_true rfl) ?_
      refine e3_mono (sD_push L xs _ _ _ _ h) (fun r H4 G5 h => ?_)
      obtain ⟨rfl, h⟩ := h
      change e3_Ev _ _ _ _ 24 [(2, 16), (0, l1), (3, 0)] [] H4 G5 _
      refine e3_K [0, 0] 26 [(2, 16), (0, l1), (3, 0)] [(1, 1), (2, 16)] (H4) (G5) (wZ L xs) (M := tbM116) rfl rfl trivial ?_
      refine e3_call (o := 0) (k := 115) (M2 := tbM115) (f1 := 0) (w1 := 0) (as := [(2, 16), (1, 1)]) (rest := []) (M := tbM116) rfl rfl rfl trivial (Nat.le_of_ble_eq_true rfl) (Nat.le_of_ble_eq_true rfl) (Nat.le_of_ble_eq_true rfl) ?_
      refine e3_mono (sD_push L xs _ _ _ _ h) (fun r H7 G8 h => ?_)
      obtain ⟨rfl, h⟩ := h
      change e3_Ev _ _ _ _ 29 [(2, 16), (0, l1), (3, 0)] [] H7 G8 _
      refine e3_K [0] 104 [(2, 16), (0, l1), (3, 0)] [] (H7) (G8) (wZ L xs) (M := tbM116) rfl rfl trivial ?_
      refine e3_fgt [false, false, false] ?_
      exact sD_pushLastLabels_104 L xs Q _ _ h
    · replace h := h.2 hc
      refine e3_K [0, 0] 34 [(2, 16), (0, l1), (3, 0)] [(0, 2), (0, l1)] (H) (G) (wZ L xs) (M := tbM116) rfl rfl trivial ?_
      refine e3_br (M := tbM116) rfl rfl rfl Iff.rfl (fun hc => ?_) (fun hc => ?_)
      · replace h := h.1 hc
        refine e3_K [0, 2] 41 [(2, 16), (0, l1), (3, 0)] [(1, ((-1 : Int64).toInt)), (2, 16)] (H) (G) (wZ L xs) (M := tbM116) rfl rfl ⟨trivial, trivial⟩ ?_
        refine e3_call (o := 0) (k := 115) (M2 := tbM115) (f1 := 0) (w1 := 0) (as := [(2, 16), (1, ((-1 : Int64).toInt))]) (rest := []) (M := tbM116) rfl rfl rfl trivial (Nat.le_of_ble_eq_true rfl) (Nat.le_of_ble_eq_true rfl) (Nat.le_of_ble_eq_true rfl) ?_
        refine e3_mono (sD_push L xs _ _ _ _ h) (fun r H10 G11 h => ?_)
        obtain ⟨rfl, h⟩ := h
        change e3_Ev _ _ _ _ 44 [(2, 16), (0, l1), (3, 0)] [] H10 G11 _
        refine e3_K [0] 104 [(2, 16), (0, l1), (3, 0)] [] (H10) (G11) (wZ L xs) (M := tbM116) rfl rfl trivial ?_
        refine e3_fgt [false, false, false] ?_
        exact sD_pushLastLabels_104 L xs Q _ _ h
      · replace h := h.2 hc
        refine e3_K [0, 2] 51 [(2, 16), (0, l1), (3, 0)] [(1, ((-1 : Int64).toInt)), (2, 16)] (H) (G) (wZ L xs) (M := tbM116) rfl rfl ⟨trivial, trivial⟩ ?_
        refine e3_call (o := 0) (k := 115) (M2 := tbM115) (f1 := 0) (w1 := 0) (as := [(2, 16), (1, ((-1 : Int64).toInt))]) (rest := []) (M := tbM116) rfl rfl rfl trivial (Nat.le_of_ble_eq_true rfl) (Nat.le_of_ble_eq_true rfl) (Nat.le_of_ble_eq_true rfl) ?_
        refine e3_mono (sD_push L xs _ _ _ _ h) (fun r H13 G14 h => ?_)
        obtain ⟨rfl, h⟩ := h
        change e3_Ev _ _ _ _ 54 [(2, 16), (0, l1), (3, 0)] [] H13 G14 _
        refine e3_K [0, 0] 56 [(2, 16), (0, l1), (0, 0)] [] (H13) (G14) (wZ L xs) (M := tbM116) rfl rfl trivial ?_
        obtain ⟨nl, h⟩ := h
        exact sD_pushLastLabels_56 L xs Q nl _ _ _ _ h
/-- LetterPost$TreeMaker.pushLabels(IJ)I -/
def wD_pushLabels_107 (Q : Int → e3_H → e3_G → Prop) (k12 : Int → Int → Int → Int → Int → e3_H → e3_G → Prop) (l1 : Int) (l2 : Int) (l4 : Int) (l5 : Int) (l6 : Int) (H : e3_H) (G : e3_G) : Prop :=
  (k12 l1 l2 l4 l5 (e3_w32 (l6 + 1)) H G)
def wD_pushLabels_12 (Q : Int → e3_H → e3_G → Prop) : Nat → Int → Int → Int → Int → Int → e3_H → e3_G → Prop
  | 0, _, _, _, _, _, _, _ => False
  | nn + 1, l1, l2, l4, l5, l6, H, G => (e3_ob G 8 (H 16 2)) ∧ (((l6 : Int) < (H (H 16 2) 5) → (wD_testAt (fun x4 H2 G3 => (((x4 : Int) < 0 → (wD_pushLabels_107 Q (fun l1 l2 l4 l5 l6 H G => wD_pushLabels_12 Q nn l1 l2 l4 l5 l6 H G) l1 l2 l4 l5 l6 H2 G3)) ∧ (¬ ((x4 : Int) < 0) → (e3_ob G3 10 x4) ∧ ((((H2 x4 1) : Int) = 0 → (e3_ob G3 10 x4) ∧ (wD_pushUpward (fun H7 G8 => (e3_ob G8 10 x4) ∧ (wD_pushUpward (fun H11 G12 => (wD_pushLabels_107 Q (fun l1 l2 l4 l5 l6 H G => wD_pushLabels_12 Q nn l1 l2 l4 l5 l6 H G) l1 l2 l4 (H2 x4 1) l6 H11 G12)) (H7 x4 4) l4 H7 G8)) (e3_w64 ((H2 x4 3) - 1)) l4 H2 G3)) ∧ (¬ (((H2 x4 1) : Int) = 0) → ((((H2 x4 1) : Int) = 2 → (e3_ob G3 10 x4) ∧ (wD_isPushed (fun x17 H15 G16 => (((x17 : Int) = 0 → (e3_ob G16 10 x4) ∧ (wD_push (fun H19 G20 => (wD_pushLabels_107 Q (fun l1 l2 l4 l5 l6 H G => wD_pushLabels_12 Q nn l1 l2 l4 l5 l6 H G) l1 l2 l4 (H2 x4 1) l6 H19 G20)) (H15 x4 3) H15 G16)) ∧ (¬ ((x17 : Int) = 0) → (wD_pushLabels_107 Q (fun l1 l2 l4 l5 l6 H G => wD_pushLabels_12 Q nn l1 l2 l4 l5 l6 H G) l1 l2 l4 (H2 x4 1) l6 H15 G16)))) (H2 x4 3) l4 H2 G3)) ∧ (¬ (((H2 x4 1) : Int) = 2) → (wD_pushLabels_107 Q (fun l1 l2 l4 l5 l6 H G => wD_pushLabels_12 Q nn l1 l2 l4 l5 l6 H G) l1 l2 l4 (H2 x4 1) l6 H2 G3)))))))) l1 l6 l2 H G)) ∧ (¬ ((l6 : Int) < (H (H 16 2) 5)) → (wD_pushLastLabels (fun H22 G23 => Q l5 H22 G23) l5 H G)))
def wD_pushLabels (Q : Int → e3_H → e3_G → Prop) (l1 : Int) (l2 : Int) (H : e3_H) (G : e3_G) : Prop :=
  (∃ n, wD_pushLabels_12 Q n l1 l2 (H 16 6) 0 0 H G)
set_option maxRecDepth 100000 in
set_option maxHeartbeats 4000000 in
theorem sD_pushLabels_107 (L : Nat) (xs : Nat → Int32) (Q : Int → e3_H → e3_G → Prop) (k12 : Int → Int → Int → Int → Int → e3_H → e3_G → Prop) (hk12 : ∀ (l1 : Int) (l2 : Int) (l4 : Int) (l5 : Int) (l6 : Int) (H : e3_H) (G : e3_G), k12 l1 l2 l4 l5 l6 H G → e3_Ev (wB L xs) 2 48 112 12 [(2, 16), (0, l1), (1, l2), (3, 0), (0, l4), (0, l5), (0, l6), (3, 0)] [] H G (e3_q0 Q)) (l1 : Int) (l2 : Int) (l4 : Int) (l5 : Int) (l6 : Int) (H : e3_H) (G : e3_G) (h : wD_pushLabels_107 Q k12 l1 l2 l4 l5 l6 H G) : e3_Ev (wB L xs) 2 48 112 107 [(2, 16), (0, l1), (1, l2), (3, 0), (0, l4), (0, l5), (0, l6), (3, 0)] [] H G (e3_q0 Q) := by
  unfold wD_pushLabels_107 at h
  refine e3_K [0, 0] 12 [(2, 16), (0, l1), (1, l2), (3, 0), (0, l4), (0, l5), (0, (e3_w32 (l6 + 1))), (3, 0)] [] (H) (G) (wZ L xs) (M := tbM112) rfl rfl trivial ?_
  exact hk12 _ _ _ _ _ _ _ h
set_option maxRecDepth 100000 in
set_option maxHeartbeats 4000000 in
theorem sD_pushLabels_12 (L : Nat) (xs : Nat → Int32) (Q : Int → e3_H → e3_G → Prop) : ∀ (nl : Nat) (l1 : Int) (l2 : Int) (l4 : Int) (l5 : Int) (l6 : Int) (H : e3_H) (G : e3_G), wD_pushLabels_12 Q nl l1 l2 l4 l5 l6 H G → e3_Ev (wB L xs) 2 48 112 12 [(2, 16), (0, l1), (1, l2), (3, 0), (0, l4), (0, l5), (0, l6), (3, 0)] [] H G (e3_q0 Q) := by
  intro nl
  induction nl with
  | zero => intro l1 l2 l4 l5 l6 H G h; exact h.elim
  | succ nn ih =>
    intro l1 l2 l4 l5 l6 H G h
    have h : (e3_ob G 8 (H 16 2)) ∧ (((l6 : Int) < (H (H 16 2) 5) → (wD_testAt (fun x4 H2 G3 => (((x4 : Int) < 0 → (wD_pushLabels_107 Q (fun l1 l2 l4 l5 l6 H G => wD_pushLabels_12 Q nn l1 l2 l4 l5 l6 H G) l1 l2 l4 l5 l6 H2 G3)) ∧ (¬ ((x4 : Int) < 0) → (e3_ob G3 10 x4) ∧ ((((H2 x4 1) : Int) = 0 → (e3_ob G3 10 x4) ∧ (wD_pushUpward (fun H7 G8 => (e3_ob G8 10 x4) ∧ (wD_pushUpward (fun H11 G12 => (wD_pushLabels_107 Q (fun l1 l2 l4 l5 l6 H G => wD_pushLabels_12 Q nn l1 l2 l4 l5 l6 H G) l1 l2 l4 (H2 x4 1) l6 H11 G12)) (H7 x4 4) l4 H7 G8)) (e3_w64 ((H2 x4 3) - 1)) l4 H2 G3)) ∧ (¬ (((H2 x4 1) : Int) = 0) → ((((H2 x4 1) : Int) = 2 → (e3_ob G3 10 x4) ∧ (wD_isPushed (fun x17 H15 G16 => (((x17 : Int) = 0 → (e3_ob G16 10 x4) ∧ (wD_push (fun H19 G20 => (wD_pushLabels_107 Q (fun l1 l2 l4 l5 l6 H G => wD_pushLabels_12 Q nn l1 l2 l4 l5 l6 H G) l1 l2 l4 (H2 x4 1) l6 H19 G20)) (H15 x4 3) H15 G16)) ∧ (¬ ((x17 : Int) = 0) → (wD_pushLabels_107 Q (fun l1 l2 l4 l5 l6 H G => wD_pushLabels_12 Q nn l1 l2 l4 l5 l6 H G) l1 l2 l4 (H2 x4 1) l6 H15 G16)))) (H2 x4 3) l4 H2 G3)) ∧ (¬ (((H2 x4 1) : Int) = 2) → (wD_pushLabels_107 Q (fun l1 l2 l4 l5 l6 H G => wD_pushLabels_12 Q nn l1 l2 l4 l5 l6 H G) l1 l2 l4 (H2 x4 1) l6 H2 G3)))))))) l1 l6 l2 H G)) ∧ (¬ ((l6 : Int) < (H (H 16 2) 5)) → (wD_pushLastLabels (fun H22 G23 => Q l5 H22 G23) l5 H G))) := h
    obtain ⟨o1, h⟩ := h
    refine e3_K [0, 0, 2, 3] 21 [(2, 16), (0, l1), (1, l2), (3, 0), (0, l4), (0, l5), (0, l6), (3, 0)] [(0, (H (H 16 2) 5)), (0, l6)] (H) (G) (wZ L xs) (M := tbM112) rfl rfl ⟨trivial, o1, trivial⟩ ?_
    refine e3_br (M := tbM112) rfl rfl rfl Iff.rfl (fun hc => ?_) (fun hc => ?_)
    · replace h := h.1 hc
      refine e3_K [0, 0, 0, 0] 29 [(2, 16), (0, l1), (1, l2), (3, 0), (0, l4), (0, l5), (0, l6), (3, 0)] [(1, l2), (0, l6), (0, l1), (2, 16)] (H) (G) (wZ L xs) (M := tbM112) rfl rfl trivial ?_
      refine e3_call (o := 0) (k := 110) (M2 := tbM110) (f1 := 1) (w1 := 21) (as := [(2, 16), (0, l1), (0, l6), (1, l2)]) (rest := []) (M := tbM112) rfl rfl rfl trivial (Nat.le_of_ble_eq_true rfl) (Nat.le_of_ble_eq_true rfl) (Nat.le_of_ble_eq_true rfl) ?_
      refine e3_mono (sD_testAt L xs _ _ _ _ _ _ h) (fun r H2 G3 h => ?_)
      obtain ⟨x4, rfl, h⟩ := h
      change e3_Ev _ _ _ _ 32 [(2, 16), (0, l1), (1, l2), (3, 0), (0, l4), (0, l5), (0, l6), (3, 0)] [(2, x4)] H2 G3 _
      refine e3_K [0, 0] 36 [(2, 16), (0, l1), (1, l2), (3, 0), (0, l4), (0, l5), (0, l6), (2, x4)] [(2, x4)] (H2) (G3) (wZ L xs) (M := tbM112) rfl rfl trivial ?_
      refine e3_br (M := tbM112) rfl rfl rfl Iff.rfl (fun hc => ?_) (fun hc => ?_)
      · replace h := h.1 hc
        refine e3_fgt [true, true, true, false, true, true, true, false] ?_
        exact sD_pushLabels_107 L xs Q (fun l1 l2 l4 l5 l6 H G => wD_pushLabels_12 Q nn l1 l2 l4 l5 l6 H G) ih _ _ _ _ _ _ _ h
      · replace h := h.2 hc
        obtain ⟨o5, h⟩ := h
        refine e3_K [0, 3, 0, 0] 48 [(2, 16), (0, l1), (1, l2), (3, 0), (0, l4), (0, (H2 x4 1)), (0, l6), (2, x4)] [(0, (H2 x4 1))] (H2) (G3) (wZ L xs) (M := tbM112) rfl rfl ⟨o5, trivial⟩ ?_
        refine e3_br (M := tbM112) rfl rfl rfl Iff.rfl (fun hc => ?_) (fun hc => ?_)
        · replace h := h.1 hc
          obtain ⟨o6, h⟩ := h
          refine e3_K [0, 0, 3, 0, 0, 0] 61 [(2, 16), (0, l1), (1, l2), (3, 0), (0, l4), (0, (H2 x4 1)), (0, l6), (2, x4)] [(0, l4), (1, (e3_w64 ((H2 x4 3) - 1))), (2, 16)] (H2) (G3) (wZ L xs) (M := tbM112) rfl rfl ⟨o6, trivial⟩ ?_
          refine e3_call (o := 0) (k := 113) (M2 := tbM113) (f1 := 1) (w1 := 24) (as := [(2, 16), (1, (e3_w64 ((H2 x4 3) - 1))), (0, l4)]) (rest := []) (M := tbM112) rfl rfl rfl trivial (Nat.le_of_ble_eq_true rfl) (Nat.le_of_ble_eq_true rfl) (Nat.le_of_ble_eq_true rfl) ?_
          refine e3_mono (sD_pushUpward L xs _ _ _ _ _ h) (fun r H7 G8 h => ?_)
          obtain ⟨rfl, h⟩ := h
          change e3_Ev _ _ _ _ 64 [(2, 16), (0, l1), (1, l2), (3, 0), (0, l4), (0, (H2 x4 1)), (0, l6), (2, x4)] [] H7 G8 _
          obtain ⟨o10, h⟩ := h
          refine e3_K [0, 0, 3, 0] 72 [(2, 16), (0, l1), (1, l2), (3, 0), (0, l4), (0, (H2 x4 1)), (0, l6), (2, x4)] [(0, l4), (1, (H7 x4 4)), (2, 16)] (H7) (G8) (wZ L xs) (M := tbM112) rfl rfl ⟨o10, trivial⟩ ?_
          refine e3_call (o := 0) (k := 113) (M2 := tbM113) (f1 := 1) (w1 := 24) (as := [(2, 16), (1, (H7 x4 4)), (0, l4)]) (rest := []) (M := tbM112) rfl rfl rfl trivial (Nat.le_of_ble_eq_true rfl) (Nat.le_of_ble_eq_true rfl) (Nat.le_of_ble_eq_true rfl) ?_
          refine e3_mono (sD_pushUpward L xs _ _ _ _ _ h) (fun r H11 G12 h => ?_)
          obtain ⟨rfl, h⟩ := h
          change e3_Ev _ _ _ _ 75 [(2, 16), (0, l1), (1, l2), (3, 0), (0, l4), (0, (H2 x4 1)), (0, l6), (2, x4)] [] H11 G12 _
          refine e3_K [0] 107 [(2, 16), (0, l1), (1, l2), (3, 0), (0, l4), (0, (H2 x4 1)), (0, l6), (2, x4)] [] (H11) (G12) (wZ L xs) (M := tbM112) rfl rfl trivial ?_
          refine e3_fgt [true, true, true, false, true, true, true, false] ?_
          exact sD_pushLabels_107 L xs Q (fun l1 l2 l4 l5 l6 H G => wD_pushLabels_12 Q nn l1 l2 l4 l5 l6 H G) ih _ _ _ _ _ _ _ h
        · replace h := h.2 hc
          refine e3_K [0, 0] 81 [(2, 16), (0, l1), (1, l2), (3, 0), (0, l4), (0, (H2 x4 1)), (0, l6), (2, x4)] [(0, 2), (0, (H2 x4 1))] (H2) (G3) (wZ L xs) (M := tbM112) rfl rfl trivial ?_
          refine e3_br (M := tbM112) rfl rfl rfl Iff.rfl (fun hc => ?_) (fun hc => ?_)
          · replace h := h.1 hc
            obtain ⟨o14, h⟩ := h
            refine e3_K [0, 0, 3, 0] 92 [(2, 16), (0, l1), (1, l2), (3, 0), (0, l4), (0, (H2 x4 1)), (0, l6), (2, x4)] [(0, l4), (1, (H2 x4 3)), (2, 16)] (H2) (G3) (wZ L xs) (M := tbM112) rfl rfl ⟨o14, trivial⟩ ?_
            refine e3_call (o := 0) (k := 114) (M2 := tbM114) (f1 := 0) (w1 := 0) (as := [(2, 16), (1, (H2 x4 3)), (0, l4)]) (rest := []) (M := tbM112) rfl rfl rfl trivial (Nat.le_of_ble_eq_true rfl) (Nat.le_of_ble_eq_true rfl) (Nat.le_of_ble_eq_true rfl) ?_
            refine e3_mono (sD_isPushed L xs _ _ _ _ _ h) (fun r H15 G16 h => ?_)
            obtain ⟨x17, rfl, h⟩ := h
            change e3_Ev _ _ _ _ 95 [(2, 16), (0, l1), (1, l2), (3, 0), (0, l4), (0, (H2 x4 1)), (0, l6), (2, x4)] [(0, x17)] H15 G16 _
            refine e3_br (M := tbM112) rfl rfl rfl Iff.rfl (fun hc => ?_) (fun hc => ?_)
            · replace h := h.1 hc
              obtain ⟨o18, h⟩ := h
              refine e3_K [0, 0, 3] 104 [(2, 16), (0, l1), (1, l2), (3, 0), (0, l4), (0, (H2 x4 1)), (0, l6), (2, x4)] [(1, (H15 x4 3)), (2, 16)] (H15) (G16) (wZ L xs) (M := tbM112) rfl rfl ⟨o18, trivial⟩ ?_
              refine e3_call (o := 0) (k := 115) (M2 := tbM115) (f1 := 0) (w1 := 0) (as := [(2, 16), (1, (H15 x4 3))]) (rest := []) (M := tbM112) rfl rfl rfl trivial (Nat.le_of_ble_eq_true rfl) (Nat.le_of_ble_eq_true rfl) (Nat.le_of_ble_eq_true rfl) ?_
              refine e3_mono (sD_push L xs _ _ _ _ h) (fun r H19 G20 h => ?_)
              obtain ⟨rfl, h⟩ := h
              change e3_Ev _ _ _ _ 107 [(2, 16), (0, l1), (1, l2), (3, 0), (0, l4), (0, (H2 x4 1)), (0, l6), (2, x4)] [] H19 G20 _
              refine e3_fgt [true, true, true, false, true, true, true, false] ?_
              exact sD_pushLabels_107 L xs Q (fun l1 l2 l4 l5 l6 H G => wD_pushLabels_12 Q nn l1 l2 l4 l5 l6 H G) ih _ _ _ _ _ _ _ h
            · replace h := h.2 hc
              refine e3_fgt [true, true, true, false, true, true, true, false] ?_
              exact sD_pushLabels_107 L xs Q (fun l1 l2 l4 l5 l6 H G => wD_pushLabels_12 Q nn l1 l2 l4 l5 l6 H G) ih _ _ _ _ _ _ _ h
          · replace h := h.2 hc
            refine e3_fgt [true, true, true, false, true, true, true, false] ?_
            exact sD_pushLabels_107 L xs Q (fun l1 l2 l4 l5 l6 H G => wD_pushLabels_12 Q nn l1 l2 l4 l5 l6 H G) ih _ _ _ _ _ _ _ h
    · replace h := h.2 hc
      refine e3_K [0, 0] 116 [(2, 16), (0, l1), (1, l2), (3, 0), (0, l4), (0, l5), (0, l6), (3, 0)] [(0, l5), (2, 16)] (H) (G) (wZ L xs) (M := tbM112) rfl rfl trivial ?_
      refine e3_call (o := 0) (k := 116) (M2 := tbM116) (f1 := 1) (w1 := 24) (as := [(2, 16), (0, l5)]) (rest := []) (M := tbM112) rfl rfl rfl trivial (Nat.le_of_ble_eq_true rfl) (Nat.le_of_ble_eq_true rfl) (Nat.le_of_ble_eq_true rfl) ?_
      refine e3_mono (sD_pushLastLabels L xs _ _ _ _ h) (fun r H22 G23 h => ?_)
      obtain ⟨rfl, h⟩ := h
      change e3_Ev _ _ _ _ 119 [(2, 16), (0, l1), (1, l2), (3, 0), (0, l4), (0, l5), (0, l6), (3, 0)] [] H22 G23 _
      refine e3_K [0] 121 [(2, 16), (0, l1), (1, l2), (3, 0), (0, l4), (0, l5), (0, l6), (3, 0)] [(0, l5)] (H22) (G23) (wZ L xs) (M := tbM112) rfl rfl trivial ?_
      exact e3_reti (M := tbM112) rfl rfl rfl ⟨_, rfl, h⟩
set_option maxRecDepth 100000 in
set_option maxHeartbeats 4000000 in
theorem sD_pushLabels (L : Nat) (xs : Nat → Int32) (Q : Int → e3_H → e3_G → Prop) (l1 : Int) (l2 : Int) (H : e3_H) (G : e3_G) (h : wD_pushLabels Q l1 l2 H G) : e3_Ev (wB L xs) 2 48 112 0 [(2, 16), (0, l1), (1, l2), (3, 0), (3, 0), (3, 0), (3, 0), (3, 0)] [] H G (e3_q0 Q) := by
  unfold wD_pushLabels at h
  refine e3_K [0, 2, 0, 0, 0, 0, 0] 12 [(2, 16), (0, l1), (1, l2), (3, 0), (0, (H 16 6)), (0, 0), (0, 0), (3, 0)] [] (H) (G) (wZ L xs) (M := tbM112) rfl rfl ⟨trivial, trivial⟩ ?_
  obtain ⟨nl, h⟩ := h
  exact sD_pushLabels_12 L xs Q nl _ _ _ _ _ _ _ h
/-- LetterPost$TreeMaker.worthOf(IIJ)I -/
def wD_worthOf (Q : Int → e3_H → e3_G → Prop) (l1 : Int) (l2 : Int) (l3 : Int) (H : e3_H) (G : e3_G) : Prop :=
  ((((H 16 3) : Int) = 1 → (wD_rowsAt (fun x3 H1 G2 => Q x3 H1 G2) l1 l3 H G)) ∧ (((H 16 3) : Int) = 2 → (wD_pushLabels (fun x6 H4 G5 => ∀ H7 : e3_H, H7 = e3_up H4 16 6 (H 16 6) → Q (e3_w32 (-(e3_w32 ((H4 16 6) - (H 16 6))))) H7 G5) l1 l3 H G)) ∧ (((H 16 3) : Int) = 3 → Q l2 H G) ∧ (((H 16 3) : Int) < 1 ∨ 3 < (H 16 3) → Q 0 H G))
set_option maxRecDepth 100000 in
set_option maxHeartbeats 4000000 in
theorem sD_worthOf (L : Nat) (xs : Nat → Int32) (Q : Int → e3_H → e3_G → Prop) (l1 : Int) (l2 : Int) (l3 : Int) (H : e3_H) (G : e3_G) (h : wD_worthOf Q l1 l2 l3 H G) : e3_Ev (wB L xs) 3 75 108 0 [(2, 16), (0, l1), (0, l2), (1, l3), (3, 0), (3, 0), (3, 0)] [] H G (e3_q0 Q) := by
  unfold wD_worthOf at h
  refine e3_K [0, 2] 4 [(2, 16), (0, l1), (0, l2), (1, l3), (3, 0), (3, 0), (3, 0)] [(0, (H 16 3))] (H) (G) (wZ L xs) (M := tbM108) rfl rfl ⟨trivial, trivial⟩ ?_
  by_cases hc0 : ((H 16 3) : Int) = 1
  · replace h := h.1 hc0
    refine e3_sw (M := tbM108) rfl rfl hc0 rfl ?_
    refine e3_K [0, 0, 0] 35 [(2, 16), (0, l1), (0, l2), (1, l3), (3, 0), (3, 0), (3, 0)] [(1, l3), (0, l1), (2, 16)] (H) (G) (wZ L xs) (M := tbM108) rfl rfl trivial ?_
    refine e3_call (o := 0) (k := 109) (M2 := tbM109) (f1 := 2) (w1 := 45) (as := [(2, 16), (0, l1), (1, l3)]) (rest := []) (M := tbM108) rfl rfl rfl trivial (Nat.le_of_ble_eq_true rfl) (Nat.le_of_ble_eq_true rfl) (Nat.le_of_ble_eq_true rfl) ?_
    refine e3_mono (sD_rowsAt L xs _ _ _ _ _ h) (fun r H1 G2 h => ?_)
    obtain ⟨x3, rfl, h⟩ := h
    change e3_Ev _ _ _ _ 38 [(2, 16), (0, l1), (0, l2), (1, l3), (3, 0), (3, 0), (3, 0)] [(0, x3)] H1 G2 _
    exact e3_reti (M := tbM108) rfl rfl rfl ⟨_, rfl, h⟩
  replace h := h.2
  by_cases hc1 : ((H 16 3) : Int) = 2
  · replace h := h.1 hc1
    refine e3_sw (M := tbM108) rfl rfl hc1 rfl ?_
    refine e3_K [0, 2, 0, 0, 0, 0] 48 [(2, 16), (0, l1), (0, l2), (1, l3), (3, 0), (0, (H 16 6)), (3, 0)] [(1, l3), (0, l1), (2, 16)] (H) (G) (wZ L xs) (M := tbM108) rfl rfl ⟨trivial, trivial⟩ ?_
    refine e3_call (o := 0) (k := 112) (M2 := tbM112) (f1 := 2) (w1 := 48) (as := [(2, 16), (0, l1), (1, l3)]) (rest := []) (M := tbM108) rfl rfl rfl trivial (Nat.le_of_ble_eq_true rfl) (Nat.le_of_ble_eq_true rfl) (Nat.le_of_ble_eq_true rfl) ?_
    refine e3_mono (sD_pushLabels L xs _ _ _ _ _ h) (fun r H4 G5 h => ?_)
    obtain ⟨x6, rfl, h⟩ := h
    change e3_Ev _ _ _ _ 51 [(2, 16), (0, l1), (0, l2), (1, l3), (3, 0), (0, (H 16 6)), (3, 0)] [(0, x6)] H4 G5 _
    refine e3_K [0, 0, 2, 0, 0, 0, 0, 0, 2] 67 [(2, 16), (0, l1), (0, l2), (1, l3), (3, 0), (0, (H 16 6)), (0, (e3_w32 ((H4 16 6) - (H 16 6))))] [] (e3_up H4 16 6 (H 16 6)) (G5) (wZ L xs) (M := tbM108) rfl rfl ⟨trivial, trivial, trivial⟩ ?_
    generalize hH7 : (e3_up H4 16 6 (H 16 6)) = H7
    replace h := h H7 hH7.symm
    refine e3_K [0, 0] 70 [(2, 16), (0, l1), (0, l2), (1, l3), (3, 0), (0, (H 16 6)), (0, (e3_w32 ((H4 16 6) - (H 16 6))))] [(0, (e3_w32 (-(e3_w32 ((H4 16 6) - (H 16 6))))))] (H7) (G5) (wZ L xs) (M := tbM108) rfl rfl trivial ?_
    exact e3_reti (M := tbM108) rfl rfl rfl ⟨_, rfl, h⟩
  replace h := h.2
  by_cases hc2 : ((H 16 3) : Int) = 3
  · replace h := h.1 hc2
    refine e3_sw (M := tbM108) rfl rfl hc2 rfl ?_
    refine e3_K [0] 72 [(2, 16), (0, l1), (0, l2), (1, l3), (3, 0), (3, 0), (3, 0)] [(0, l2)] (H) (G) (wZ L xs) (M := tbM108) rfl rfl trivial ?_
    exact e3_reti (M := tbM108) rfl rfl rfl ⟨_, rfl, h⟩
  replace h := h.2
  replace h := h (by omega)
  refine e3_sw (M := tbM108) rfl rfl rfl ((e3_swdt (by omega)).trans rfl) ?_
  refine e3_K [0] 74 [(2, 16), (0, l1), (0, l2), (1, l3), (3, 0), (3, 0), (3, 0)] [(0, 0)] (H) (G) (wZ L xs) (M := tbM108) rfl rfl trivial ?_
  exact e3_reti (M := tbM108) rfl rfl rfl ⟨_, rfl, h⟩
/-- LetterPost$TreeMaker.chosenPlace(LLetterPost$Row;J)I -/
def wD_chosenPlace_70 (Q : Int → e3_H → e3_G → Prop) (k9 : Int → Int → Int → Int → Int → e3_H → e3_G → Prop) (l1 : Int) (l2 : Int) (l4 : Int) (l5 : Int) (l6 : Int) (H : e3_H) (G : e3_G) : Prop :=
  (k9 l1 l2 l4 l5 (e3_w32 (l6 + 1)) H G)
def wD_chosenPlace_62 (Q : Int → e3_H → e3_G → Prop) (k9 : Int → Int → Int → Int → Int → e3_H → e3_G → Prop) (l1 : Int) (l2 : Int) (l6 : Int) (l7 : Int) (l8 : Int) (H : e3_H) (G : e3_G) : Prop :=
  (wD_chosenPlace_70 Q k9 l1 l2 l7 l8 l6 H G)
def wD_chosenPlace_9 (Q : Int → e3_H → e3_G → Prop) : Nat → Int → Int → Int → Int → Int → e3_H → e3_G → Prop
  | 0, _, _, _, _, _, _, _ => False
  | nn + 1, l1, l2, l4, l5, l6, H, G => (e3_ob G 11 l1) ∧ (((l6 : Int) < (H l1 1) → (e3_ob G 11 l1) ∧ (e3_oa G 7 (H l1 2) l6) ∧ (e3_ob G 10 (H (H l1 2) l6)) ∧ (wD_canBeAsked (fun x7 H5 G6 => (((x7 : Int) = 0 → (wD_chosenPlace_70 Q (fun l1 l2 l4 l5 l6 H G => wD_chosenPlace_9 Q nn l1 l2 l4 l5 l6 H G) l1 l2 l4 l5 l6 H5 G6)) ∧ (¬ ((x7 : Int) = 0) → (wD_worthOf (fun x10 H8 G9 => (((l4 : Int) < 0 → (wD_chosenPlace_62 Q (fun l1 l2 l4 l5 l6 H G => wD_chosenPlace_9 Q nn l1 l2 l4 l5 l6 H G) l1 l2 l6 (H (H (H l1 2) l6) 2) x10 H8 G9)) ∧ (¬ ((l4 : Int) < 0) → (((l5 : Int) < x10 → (wD_chosenPlace_62 Q (fun l1 l2 l4 l5 l6 H G => wD_chosenPlace_9 Q nn l1 l2 l4 l5 l6 H G) l1 l2 l6 (H (H (H l1 2) l6) 2) x10 H8 G9)) ∧ (¬ ((l5 : Int) < x10) → (wD_chosenPlace_70 Q (fun l1 l2 l4 l5 l6 H G => wD_chosenPlace_9 Q nn l1 l2 l4 l5 l6 H G) l1 l2 l4 l5 l6 H8 G9)))))) (H (H (H l1 2) l6) 2) l6 l2 H5 G6)))) (H (H (H l1 2) l6) 2) H G)) ∧ (¬ ((l6 : Int) < (H l1 1)) → Q l4 H G))
def wD_chosenPlace (Q : Int → e3_H → e3_G → Prop) (l1 : Int) (l2 : Int) (H : e3_H) (G : e3_G) : Prop :=
  (∃ n, wD_chosenPlace_9 Q n l1 l2 (-1) 0 0 H G)
set_option maxRecDepth 100000 in
set_option maxHeartbeats 4000000 in
theorem sD_chosenPlace_70 (L : Nat) (xs : Nat → Int32) (Q : Int → e3_H → e3_G → Prop) (k9 : Int → Int → Int → Int → Int → e3_H → e3_G → Prop) (hk9 : ∀ (l1 : Int) (l2 : Int) (l4 : Int) (l5 : Int) (l6 : Int) (H : e3_H) (G : e3_G), k9 l1 l2 l4 l5 l6 H G → e3_Ev (wB L xs) 4 101 105 9 [(2, 16), (2, l1), (1, l2), (3, 0), (0, l4), (0, l5), (0, l6), (3, 0), (3, 0)] [] H G (e3_q0 Q)) (l1 : Int) (l2 : Int) (l4 : Int) (l5 : Int) (l6 : Int) (H : e3_H) (G : e3_G) (h : wD_chosenPlace_70 Q k9 l1 l2 l4 l5 l6 H G) : e3_Ev (wB L xs) 4 101 105 70 [(2, 16), (2, l1), (1, l2), (3, 0), (0, l4), (0, l5), (0, l6), (3, 0), (3, 0)] [] H G (e3_q0 Q) := by
  unfold wD_chosenPlace_70 at h
  refine e3_K [0, 0] 9 [(2, 16), (2, l1), (1, l2), (3, 0), (0, l4), (0, l5), (0, (e3_w32 (l6 + 1))), (3, 0), (3, 0)] [] (H) (G) (wZ L xs) (M := tbM105) rfl rfl trivial ?_
  exact hk9 _ _ _ _ _ _ _ h
set_option maxRecDepth 100000 in
set_option maxHeartbeats 4000000 in
theorem sD_chosenPlace_62 (L : Nat) (xs : Nat → Int32) (Q : Int → e3_H → e3_G → Prop) (k9 : Int → Int → Int → Int → Int → e3_H → e3_G → Prop) (hk9 : ∀ (l1 : Int) (l2 : Int) (l4 : Int) (l5 : Int) (l6 : Int) (H : e3_H) (G : e3_G), k9 l1 l2 l4 l5 l6 H G → e3_Ev (wB L xs) 4 101 105 9 [(2, 16), (2, l1), (1, l2), (3, 0), (0, l4), (0, l5), (0, l6), (3, 0), (3, 0)] [] H G (e3_q0 Q)) (l1 : Int) (l2 : Int) (l6 : Int) (l7 : Int) (l8 : Int) (H : e3_H) (G : e3_G) (h : wD_chosenPlace_62 Q k9 l1 l2 l6 l7 l8 H G) : e3_Ev (wB L xs) 4 101 105 62 [(2, 16), (2, l1), (1, l2), (3, 0), (3, 0), (3, 0), (0, l6), (0, l7), (0, l8)] [] H G (e3_q0 Q) := by
  unfold wD_chosenPlace_62 at h
  refine e3_K [0, 0, 0, 0] 70 [(2, 16), (2, l1), (1, l2), (3, 0), (0, l7), (0, l8), (0, l6), (0, l7), (0, l8)] [] (H) (G) (wZ L xs) (M := tbM105) rfl rfl trivial ?_
  refine e3_fgt [true, true, true, false, true, true, true, false, false] ?_
  exact sD_chosenPlace_70 L xs Q k9 hk9 _ _ _ _ _ _ _ h
set_option maxRecDepth 100000 in
set_option maxHeartbeats 4000000 in
theorem sD_chosenPlace_9 (L : Nat) (xs : Nat → Int32) (Q : Int → e3_H → e3_G → Prop) : ∀ (nl : Nat) (l1 : Int) (l2 : Int) (l4 : Int) (l5 : Int) (l6 : Int) (H : e3_H) (G : e3_G), wD_chosenPlace_9 Q nl l1 l2 l4 l5 l6 H G → e3_Ev (wB L xs) 4 101 105 9 [(2, 16), (2, l1), (1, l2), (3, 0), (0, l4), (0, l5), (0, l6), (3, 0), (3, 0)] [] H G (e3_q0 Q) := by
  intro nl
  induction nl with
  | zero => intro l1 l2 l4 l5 l6 H G h; exact h.elim
  | succ nn ih =>
    intro l1 l2 l4 l5 l6 H G h
    have h : (e3_ob G 11 l1) ∧ (((l6 : Int) < (H l1 1) → (e3_ob G 11 l1) ∧ (e3_oa G 7 (H l1 2) l6) ∧ (e3_ob G 10 (H (H l1 2) l6)) ∧ (wD_canBeAsked (fun x7 H5 G6 => (((x7 : Int) = 0 → (wD_chosenPlace_70 Q (fun l1 l2 l4 l5 l6 H G => wD_chosenPlace_9 Q nn l1 l2 l4 l5 l6 H G) l1 l2 l4 l5 l6 H5 G6)) ∧ (¬ ((x7 : Int) = 0) → (wD_worthOf (fun x10 H8 G9 => (((l4 : Int) < 0 → (wD_chosenPlace_62 Q (fun l1 l2 l4 l5 l6 H G => wD_chosenPlace_9 Q nn l1 l2 l4 l5 l6 H G) l1 l2 l6 (H (H (H l1 2) l6) 2) x10 H8 G9)) ∧ (¬ ((l4 : Int) < 0) → (((l5 : Int) < x10 → (wD_chosenPlace_62 Q (fun l1 l2 l4 l5 l6 H G => wD_chosenPlace_9 Q nn l1 l2 l4 l5 l6 H G) l1 l2 l6 (H (H (H l1 2) l6) 2) x10 H8 G9)) ∧ (¬ ((l5 : Int) < x10) → (wD_chosenPlace_70 Q (fun l1 l2 l4 l5 l6 H G => wD_chosenPlace_9 Q nn l1 l2 l4 l5 l6 H G) l1 l2 l4 l5 l6 H8 G9)))))) (H (H (H l1 2) l6) 2) l6 l2 H5 G6)))) (H (H (H l1 2) l6) 2) H G)) ∧ (¬ ((l6 : Int) < (H l1 1)) → Q l4 H G)) := h
    obtain ⟨o1, h⟩ := h
    refine e3_K [0, 0, 3] 15 [(2, 16), (2, l1), (1, l2), (3, 0), (0, l4), (0, l5), (0, l6), (3, 0), (3, 0)] [(0, (H l1 1)), (0, l6)] (H) (G) (wZ L xs) (M := tbM105) rfl rfl ⟨o1, trivial⟩ ?_
    refine e3_br (M := tbM105) rfl rfl rfl Iff.rfl (fun hc => ?_) (fun hc => ?_)
    · replace h := h.1 hc
      obtain ⟨o2, o3, o4, h⟩ := h
      refine e3_K [0, 3, 0, 10, 3, 0, 0, 0] 33 [(2, 16), (2, l1), (1, l2), (3, 0), (0, l4), (0, l5), (0, l6), (0, (H (H (H l1 2) l6) 2)), (3, 0)] [(0, (H (H (H l1 2) l6) 2)), (2, 16)] (H) (G) (wZ L xs) (M := tbM105) rfl rfl ⟨o2, o3, o4, trivial⟩ ?_
      refine e3_call (o := 0) (k := 106) (M2 := tbM106) (f1 := 1) (w1 := 21) (as := [(2, 16), (0, (H (H (H l1 2) l6) 2))]) (rest := []) (M := tbM105) rfl rfl rfl trivial (Nat.le_of_ble_eq_true rfl) (Nat.le_of_ble_eq_true rfl) (Nat.le_of_ble_eq_true rfl) ?_
      refine e3_mono (sD_canBeAsked L xs _ _ _ _ h) (fun r H5 G6 h => ?_)
      obtain ⟨x7, rfl, h⟩ := h
      change e3_Ev _ _ _ _ 36 [(2, 16), (2, l1), (1, l2), (3, 0), (0, l4), (0, l5), (0, l6), (0, (H (H (H l1 2) l6) 2)), (3, 0)] [(0, x7)] H5 G6 _
      refine e3_br (M := tbM105) rfl rfl rfl Iff.rfl (fun hc => ?_) (fun hc => ?_)
      · replace h := h.1 hc
        refine e3_fgt [true, true, true, false, true, true, true, false, false] ?_
        exact sD_chosenPlace_70 L xs Q (fun l1 l2 l4 l5 l6 H G => wD_chosenPlace_9 Q nn l1 l2 l4 l5 l6 H G) ih _ _ _ _ _ _ _ h
      · replace h := h.2 hc
        refine e3_K [0, 0, 0, 0] 45 [(2, 16), (2, l1), (1, l2), (3, 0), (0, l4), (0, l5), (0, l6), (0, (H (H (H l1 2) l6) 2)), (3, 0)] [(1, l2), (0, l6), (0, (H (H (H l1 2) l6) 2)), (2, 16)] (H5) (G6) (wZ L xs) (M := tbM105) rfl rfl trivial ?_
        refine e3_call (o := 0) (k := 108) (M2 := tbM108) (f1 := 3) (w1 := 75) (as := [(2, 16), (0, (H (H (H l1 2) l6) 2)), (0, l6), (1, l2)]) (rest := []) (M := tbM105) rfl rfl rfl trivial (Nat.le_of_ble_eq_true rfl) (Nat.le_of_ble_eq_true rfl) (Nat.le_of_ble_eq_true rfl) ?_
        refine e3_mono (sD_worthOf L xs _ _ _ _ _ _ h) (fun r H8 G9 h => ?_)
        obtain ⟨x10, rfl, h⟩ := h
        change e3_Ev _ _ _ _ 48 [(2, 16), (2, l1), (1, l2), (3, 0), (0, l4), (0, l5), (0, l6), (0, (H (H (H l1 2) l6) 2)), (3, 0)] [(0, x10)] H8 G9 _
        refine e3_K [0, 0] 52 [(2, 16), (2, l1), (1, l2), (3, 0), (0, l4), (0, l5), (0, l6), (0, (H (H (H l1 2) l6) 2)), (0, x10)] [(0, l4)] (H8) (G9) (wZ L xs) (M := tbM105) rfl rfl trivial ?_
        refine e3_br (M := tbM105) rfl rfl rfl Iff.rfl (fun hc => ?_) (fun hc => ?_)
        · replace h := h.1 hc
          refine e3_fgt [true, true, true, false, false, false, true, true, true] ?_
          exact sD_chosenPlace_62 L xs Q (fun l1 l2 l4 l5 l6 H G => wD_chosenPlace_9 Q nn l1 l2 l4 l5 l6 H G) ih _ _ _ _ _ _ _ h
        · replace h := h.2 hc
          refine e3_K [0, 0] 59 [(2, 16), (2, l1), (1, l2), (3, 0), (0, l4), (0, l5), (0, l6), (0, (H (H (H l1 2) l6) 2)), (0, x10)] [(0, l5), (0, x10)] (H8) (G9) (wZ L xs) (M := tbM105) rfl rfl trivial ?_
          refine e3_br (M := tbM105) rfl rfl rfl Iff.rfl (fun hc => ?_) (fun hc => ?_)
          · replace h := h.1 hc
            refine e3_fgt [true, true, true, false, false, false, true, true, true] ?_
            exact sD_chosenPlace_62 L xs Q (fun l1 l2 l4 l5 l6 H G => wD_chosenPlace_9 Q nn l1 l2 l4 l5 l6 H G) ih _ _ _ _ _ _ _ h
          · replace h := h.2 hc
            refine e3_fgt [true, true, true, false, true, true, true, false, false] ?_
            exact sD_chosenPlace_70 L xs Q (fun l1 l2 l4 l5 l6 H G => wD_chosenPlace_9 Q nn l1 l2 l4 l5 l6 H G) ih _ _ _ _ _ _ _ h
    · replace h := h.2 hc
      refine e3_K [0] 78 [(2, 16), (2, l1), (1, l2), (3, 0), (0, l4), (0, l5), (0, l6), (3, 0), (3, 0)] [(0, l4)] (H) (G) (wZ L xs) (M := tbM105) rfl rfl trivial ?_
      exact e3_reti (M := tbM105) rfl rfl rfl ⟨_, rfl, h⟩
set_option maxRecDepth 100000 in
set_option maxHeartbeats 4000000 in
theorem sD_chosenPlace (L : Nat) (xs : Nat → Int32) (Q : Int → e3_H → e3_G → Prop) (l1 : Int) (l2 : Int) (H : e3_H) (G : e3_G) (h : wD_chosenPlace Q l1 l2 H G) : e3_Ev (wB L xs) 4 101 105 0 [(2, 16), (2, l1), (1, l2), (3, 0), (3, 0), (3, 0), (3, 0), (3, 0), (3, 0)] [] H G (e3_q0 Q) := by
  unfold wD_chosenPlace at h
  refine e3_K [0, 0, 0, 0, 0, 0] 9 [(2, 16), (2, l1), (1, l2), (3, 0), (0, (-1)), (0, 0), (0, 0), (3, 0), (3, 0)] [] (H) (G) (wZ L xs) (M := tbM105) rfl rfl trivial ?_
  obtain ⟨nl, h⟩ := h
  exact sD_chosenPlace_9 L xs Q nl _ _ _ _ _ _ _ h
/-- LetterPost$Rule.isGuarded()Z -/
def wU_isGuarded_12 (Q : Int → e3_H → e3_G → Prop) (s0 : Int) (H : e3_H) (G : e3_G) : Prop :=
  ((s0 : Int) = 0 ∨ s0 = 1) ∧ Q s0 H G
def wU_isGuarded (Q : Int → e3_H → e3_G → Prop) (l0 : Int) (H : e3_H) (G : e3_G) : Prop :=
  (e3_ob G 9 l0) ∧ ((((H l0 7) : Int) = 0 → (wU_isGuarded_12 Q 0 H G)) ∧ (¬ (((H l0 7) : Int) = 0) → (wU_isGuarded_12 Q 1 H G)))
set_option maxRecDepth 100000 in
set_option maxHeartbeats 4000000 in
theorem sU_isGuarded_12 (L : Nat) (xs : Nat → Int32) (Q : Int → e3_H → e3_G → Prop) (s0 : Int) (H : e3_H) (G : e3_G) (h : wU_isGuarded_12 Q s0 H G) : e3_Ev (wB L xs) 0 0 119 12 [(3, 0)] [(0, s0)] H G (e3_q0 Q) := by
  unfold wU_isGuarded_12 at h
  exact e3_retb (M := tbM119) rfl rfl rfl h.1 ⟨_, rfl, h.2⟩
set_option maxRecDepth 100000 in
set_option maxHeartbeats 4000000 in
theorem sU_isGuarded (L : Nat) (xs : Nat → Int32) (Q : Int → e3_H → e3_G → Prop) (l0 : Int) (H : e3_H) (G : e3_G) (h : wU_isGuarded Q l0 H G) : e3_Ev (wB L xs) 0 0 119 0 [(2, l0)] [] H G (e3_q0 Q) := by
  unfold wU_isGuarded at h
  obtain ⟨o1, h⟩ := h
  refine e3_K [0, 3] 4 [(2, l0)] [(0, (H l0 7))] (H) (G) (wZ L xs) (M := tbM119) rfl rfl ⟨o1, trivial⟩ ?_
  refine e3_br (M := tbM119) rfl rfl rfl Iff.rfl (fun hc => ?_) (fun hc => ?_)
  · replace h := h.1 hc
    refine e3_K [0] 12 [(2, l0)] [(0, 0)] (H) (G) (wZ L xs) (M := tbM119) rfl rfl trivial ?_
    refine e3_fgt [false] ?_
    exact sU_isGuarded_12 L xs Q _ _ _ h
  · replace h := h.2 hc
    refine e3_K [0, 0] 12 [(2, l0)] [(0, 1)] (H) (G) (wZ L xs) (M := tbM119) rfl rfl trivial ?_
    refine e3_fgt [false] ?_
    exact sU_isGuarded_12 L xs Q _ _ _ h
/-- LetterPost$TreeMaker.promise(I)Z -/
def wD_promise_24 (Q : Int → e3_H → e3_G → Prop) (s0 : Int) (H : e3_H) (G : e3_G) : Prop :=
  ((s0 : Int) = 0 ∨ s0 = 1) ∧ Q s0 H G
def wD_promise (Q : Int → e3_H → e3_G → Prop) (l1 : Int) (H : e3_H) (G : e3_G) : Prop :=
  ∀ H1 : e3_H, H1 = e3_up H 16 7 (e3_w32 ((H 16 7) + l1)) → (((120 : Int) < (H1 16 7) → (wD_promise_24 Q 0 H1 G)) ∧ (¬ ((120 : Int) < (H1 16 7)) → (wD_promise_24 Q 1 H1 G)))
set_option maxRecDepth 100000 in
set_option maxHeartbeats 4000000 in
theorem sD_promise_24 (L : Nat) (xs : Nat → Int32) (Q : Int → e3_H → e3_G → Prop) (s0 : Int) (H : e3_H) (G : e3_G) (h : wD_promise_24 Q s0 H G) : e3_Ev (wB L xs) 0 0 120 24 [(3, 0), (3, 0)] [(0, s0)] H G (e3_q0 Q) := by
  unfold wD_promise_24 at h
  exact e3_retb (M := tbM120) rfl rfl rfl h.1 ⟨_, rfl, h.2⟩
set_option maxRecDepth 100000 in
set_option maxHeartbeats 4000000 in
theorem sD_promise (L : Nat) (xs : Nat → Int32) (Q : Int → e3_H → e3_G → Prop) (l1 : Int) (H : e3_H) (G : e3_G) (h : wD_promise Q l1 H G) : e3_Ev (wB L xs) 0 0 120 0 [(2, 16), (0, l1)] [] H G (e3_q0 Q) := by
  unfold wD_promise at h
  refine e3_K [0, 0, 2, 0, 0, 2] 10 [(2, 16), (0, l1)] [] (e3_up H 16 7 (e3_w32 ((H 16 7) + l1))) (G) (wZ L xs) (M := tbM120) rfl rfl ⟨trivial, trivial, trivial⟩ ?_
  generalize hH1 : (e3_up H 16 7 (e3_w32 ((H 16 7) + l1))) = H1
  replace h := h H1 hH1.symm
  refine e3_K [0, 2, 0] 16 [(2, 16), (0, l1)] [(0, 120), (0, (H1 16 7))] (H1) (G) (wZ L xs) (M := tbM120) rfl rfl ⟨trivial, trivial⟩ ?_
  refine e3_br (M := tbM120) rfl rfl rfl Iff.rfl (fun hc => ?_) (fun hc => ?_)
  · replace h := h.1 hc
    refine e3_K [0] 24 [(2, 16), (0, l1)] [(0, 0)] (H1) (G) (wZ L xs) (M := tbM120) rfl rfl trivial ?_
    refine e3_fgt [false, false] ?_
    exact sD_promise_24 L xs Q _ _ _ h
  · replace h := h.2 hc
    refine e3_K [0, 0] 24 [(2, 16), (0, l1)] [(0, 1)] (H1) (G) (wZ L xs) (M := tbM120) rfl rfl trivial ?_
    refine e3_fgt [false, false] ?_
    exact sD_promise_24 L xs Q _ _ _ h
/-- LetterPost$Function.rowsOf(LLetterPost$Rule;)J -/
def wF_rowsOf_35 (Q : Int → e3_H → e3_G → Prop) (k5 : Int → Int → Int → Int → e3_H → e3_G → Prop) (l0 : Int) (l1 : Int) (l2 : Int) (l4 : Int) (H : e3_H) (G : e3_G) : Prop :=
  (k5 l0 l1 l2 (e3_w32 (l4 + 1)) H G)
def wF_rowsOf_5 (Q : Int → e3_H → e3_G → Prop) : Nat → Int → Int → Int → Int → e3_H → e3_G → Prop
  | 0, _, _, _, _, _, _ => False
  | nn + 1, l0, l1, l2, l4, H, G => (e3_ob G 8 l0) ∧ (((l4 : Int) < (H l0 5) → (e3_ob G 8 l0) ∧ (e3_oa G 6 (H l0 6) l4) ∧ (e3_ob G 11 (H (H l0 6) l4)) ∧ ((((H (H (H l0 6) l4) 0) : Int) = l1 → (wF_rowsOf_35 Q (fun l0 l1 l2 l4 H G => wF_rowsOf_5 Q nn l0 l1 l2 l4 H G) l0 l1 (e3_lor l2 (e3_lshl 1 l4)) l4 H G)) ∧ (¬ (((H (H (H l0 6) l4) 0) : Int) = l1) → (wF_rowsOf_35 Q (fun l0 l1 l2 l4 H G => wF_rowsOf_5 Q nn l0 l1 l2 l4 H G) l0 l1 l2 l4 H G)))) ∧ (¬ ((l4 : Int) < (H l0 5)) → Q l2 H G))
def wF_rowsOf (Q : Int → e3_H → e3_G → Prop) (l0 : Int) (l1 : Int) (H : e3_H) (G : e3_G) : Prop :=
  (∃ n, wF_rowsOf_5 Q n l0 l1 0 0 H G)
set_option maxRecDepth 100000 in
set_option maxHeartbeats 4000000 in
theorem sF_rowsOf_35 (L : Nat) (xs : Nat → Int32) (Q : Int → e3_H → e3_G → Prop) (k5 : Int → Int → Int → Int → e3_H → e3_G → Prop) (hk5 : ∀ (l0 : Int) (l1 : Int) (l2 : Int) (l4 : Int) (H : e3_H) (G : e3_G), k5 l0 l1 l2 l4 H G → e3_Ev (wB L xs) 0 0 121 5 [(2, l0), (2, l1), (1, l2), (3, 0), (0, l4)] [] H G (e3_q1 Q)) (l0 : Int) (l1 : Int) (l2 : Int) (l4 : Int) (H : e3_H) (G : e3_G) (h : wF_rowsOf_35 Q k5 l0 l1 l2 l4 H G) : e3_Ev (wB L xs) 0 0 121 35 [(2, l0), (2, l1), (1, l2), (3, 0), (0, l4)] [] H G (e3_q1 Q) := by
  unfold wF_rowsOf_35 at h
  refine e3_K [0, 0] 5 [(2, l0), (2, l1), (1, l2), (3, 0), (0, (e3_w32 (l4 + 1)))] [] (H) (G) (wZ L xs) (M := tbM121) rfl rfl trivial ?_
  exact hk5 _ _ _ _ _ _ h
set_option maxRecDepth 100000 in
set_option maxHeartbeats 4000000 in
theorem sF_rowsOf_5 (L : Nat) (xs : Nat → Int32) (Q : Int → e3_H → e3_G → Prop) : ∀ (nl : Nat) (l0 : Int) (l1 : Int) (l2 : Int) (l4 : Int) (H : e3_H) (G : e3_G), wF_rowsOf_5 Q nl l0 l1 l2 l4 H G → e3_Ev (wB L xs) 0 0 121 5 [(2, l0), (2, l1), (1, l2), (3, 0), (0, l4)] [] H G (e3_q1 Q) := by
  intro nl
  induction nl with
  | zero => intro l0 l1 l2 l4 H G h; exact h.elim
  | succ nn ih =>
    intro l0 l1 l2 l4 H G h
    have h : (e3_ob G 8 l0) ∧ (((l4 : Int) < (H l0 5) → (e3_ob G 8 l0) ∧ (e3_oa G 6 (H l0 6) l4) ∧ (e3_ob G 11 (H (H l0 6) l4)) ∧ ((((H (H (H l0 6) l4) 0) : Int) = l1 → (wF_rowsOf_35 Q (fun l0 l1 l2 l4 H G => wF_rowsOf_5 Q nn l0 l1 l2 l4 H G) l0 l1 (e3_lor l2 (e3_lshl 1 l4)) l4 H G)) ∧ (¬ (((H (H (H l0 6) l4) 0) : Int) = l1) → (wF_rowsOf_35 Q (fun l0 l1 l2 l4 H G => wF_rowsOf_5 Q nn l0 l1 l2 l4 H G) l0 l1 l2 l4 H G)))) ∧ (¬ ((l4 : Int) < (H l0 5)) → Q l2 H G)) := h
    obtain ⟨o1, h⟩ := h
    refine e3_K [0, 0, 3] 11 [(2, l0), (2, l1), (1, l2), (3, 0), (0, l4)] [(0, (H l0 5)), (0, l4)] (H) (G) (wZ L xs) (M := tbM121) rfl rfl ⟨o1, trivial⟩ ?_
    refine e3_br (M := tbM121) rfl rfl rfl Iff.rfl (fun hc => ?_) (fun hc => ?_)
    · replace h := h.1 hc
      obtain ⟨o2, o3, o4, h⟩ := h
      refine e3_K [0, 3, 0, 9, 3, 0] 25 [(2, l0), (2, l1), (1, l2), (3, 0), (0, l4)] [(2, l1), (2, (H (H (H l0 6) l4) 0))] (H) (G) (wZ L xs) (M := tbM121) rfl rfl ⟨o2, o3, o4, trivial⟩ ?_
      refine e3_br (M := tbM121) rfl rfl rfl Iff.rfl (fun hc => ?_) (fun hc => ?_)
      · replace h := h.1 hc
        refine e3_K [0, 0, 0, 0, 0, 0] 35 [(2, l0), (2, l1), (1, (e3_lor l2 (e3_lshl 1 l4))), (3, 0), (0, l4)] [] (H) (G) (wZ L xs) (M := tbM121) rfl rfl trivial ?_
        exact sF_rowsOf_35 L xs Q (fun l0 l1 l2 l4 H G => wF_rowsOf_5 Q nn l0 l1 l2 l4 H G) ih _ _ _ _ _ _ h
      · replace h := h.2 hc
        exact sF_rowsOf_35 L xs Q (fun l0 l1 l2 l4 H G => wF_rowsOf_5 Q nn l0 l1 l2 l4 H G) ih _ _ _ _ _ _ h
    · replace h := h.2 hc
      refine e3_K [0] 42 [(2, l0), (2, l1), (1, l2), (3, 0), (0, l4)] [(1, l2)] (H) (G) (wZ L xs) (M := tbM121) rfl rfl trivial ?_
      exact e3_retl (M := tbM121) rfl rfl rfl ⟨_, rfl, h⟩
set_option maxRecDepth 100000 in
set_option maxHeartbeats 4000000 in
theorem sF_rowsOf (L : Nat) (xs : Nat → Int32) (Q : Int → e3_H → e3_G → Prop) (l0 : Int) (l1 : Int) (H : e3_H) (G : e3_G) (h : wF_rowsOf Q l0 l1 H G) : e3_Ev (wB L xs) 0 0 121 0 [(2, l0), (2, l1), (3, 0), (3, 0), (3, 0)] [] H G (e3_q1 Q) := by
  unfold wF_rowsOf at h
  refine e3_K [0, 0, 0, 0] 5 [(2, l0), (2, l1), (1, 0), (3, 0), (0, 0)] [] (H) (G) (wZ L xs) (M := tbM121) rfl rfl trivial ?_
  obtain ⟨nl, h⟩ := h
  exact sF_rowsOf_5 L xs Q nl _ _ _ _ _ _ h
/-- LetterPost$TreeMaker.settle(IJII)Z -/
def wD_settle_106 (R : Int → Int → Int → e3_H → e3_G → (Int → e3_H → e3_G → Prop) → Prop) (Q : Int → e3_H → e3_G → Prop) (s0 : Int) (H : e3_H) (G : e3_G) : Prop :=
  ((s0 : Int) = 0 ∨ s0 = 1) ∧ Q s0 H G
def wD_settle_105 (R : Int → Int → Int → e3_H → e3_G → (Int → e3_H → e3_G → Prop) → Prop) (Q : Int → e3_H → e3_G → Prop)  (H : e3_H) (G : e3_G) : Prop :=
  (wD_settle_106 R Q 0 H G)
def wD_settle (R : Int → Int → Int → e3_H → e3_G → (Int → e3_H → e3_G → Prop) → Prop) (Q : Int → e3_H → e3_G → Prop) (l1 : Int) (l2 : Int) (l4 : Int) (l5 : Int) (H : e3_H) (G : e3_G) : Prop :=
  (e3_ob G 8 (H 16 2)) ∧ (e3_oa G 6 (H (H 16 2) 6) l4) ∧ (e3_ob G 11 (H (H (H 16 2) 6) l4)) ∧ (e3_ob G 5 (H 16 1)) ∧ (e3_oa G 0 (H (H 16 1) 5) l1) ∧ ∀ H1 : e3_H, H1 = e3_up H (H (H 16 1) 5) l1 l4 → (e3_ob G 9 (H (H (H (H 16 2) 6) l4) 0)) ∧ (wU_isGuarded (fun x9 H7 G8 => (((x9 : Int) = 0 → (e3_ob G8 5 (H7 16 1)) ∧ (e3_oa G8 0 (H7 (H7 16 1) 4) l1) ∧ ∀ H10 : e3_H, H10 = e3_up H7 (H7 (H7 16 1) 4) l1 1 → Q 1 H10 G8) ∧ (¬ ((x9 : Int) = 0) → (e3_ob G8 5 (H7 16 1)) ∧ (e3_oa G8 0 (H7 (H7 16 1) 4) l1) ∧ ∀ H13 : e3_H, H13 = e3_up H7 (H7 (H7 16 1) 4) l1 2 → (e3_ob G8 5 (H13 16 1)) ∧ (e3_oa G8 0 (H13 (H13 16 1) 7) l1) ∧ ∀ H16 : e3_H, H16 = e3_up H13 (H13 (H13 16 1) 7) l1 1 → (wD_promise (fun x21 H19 G20 => (((x21 : Int) = 0 → (wD_settle_105 R Q H19 G20)) ∧ (¬ ((x21 : Int) = 0) → (e3_ob G20 8 (H19 16 2)) ∧ (wF_rowsOf (fun x24 H22 G23 => (R (e3_land l2 (e3_lxor x24 ((-1 : Int64).toInt))) 0 (e3_w32 (l5 + 1)) H22 G23 (fun x27 H25 G26 => (((x27 : Int) = 0 → (wD_settle_105 R Q H25 G26)) ∧ (¬ ((x27 : Int) = 0) → (wD_settle_106 R Q 1 H25 G26)))))) (H19 16 2) (H (H (H (H 16 2) 6) l4) 0) H19 G20)))) 1 H16 G8)))) (H (H (H (H 16 2) 6) l4) 0) H1 G)
set_option maxRecDepth 100000 in
set_option maxHeartbeats 4000000 in
theorem sD_settle_106 (L : Nat) (xs : Nat → Int32) (n : Nat) (R : Int → Int → Int → e3_H → e3_G → (Int → e3_H → e3_G → Prop) → Prop) (hR : ∀ (l1 : Int) (l3 : Int) (l5 : Int) (H : e3_H) (G : e3_G) (Q : Int → e3_H → e3_G → Prop), R l1 l3 l5 H G Q → e3_Ev (wB L xs) (6 + 3 * n) (148 + 81 * n) 98 0 [(2, 16), (1, l1), (3, 0), (1, l3), (3, 0), (0, l5), (3, 0), (3, 0), (3, 0), (3, 0), (3, 0), (3, 0), (3, 0)] [] H G (e3_q0 Q)) (Q : Int → e3_H → e3_G → Prop) (s0 : Int) (H : e3_H) (G : e3_G) (h : wD_settle_106 R Q s0 H G) : e3_Ev (wB L xs) (7 + 3 * n) (180 + 81 * n) 118 106 [(3, 0), (3, 0), (3, 0), (3, 0), (3, 0), (3, 0), (3, 0)] [(0, s0)] H G (e3_q0 Q) := by
  unfold wD_settle_106 at h
  exact e3_retb (M := tbM118) rfl rfl rfl h.1 ⟨_, rfl, h.2⟩
set_option maxRecDepth 100000 in
set_option maxHeartbeats 4000000 in
theorem sD_settle_105 (L : Nat) (xs : Nat → Int32) (n : Nat) (R : Int → Int → Int → e3_H → e3_G → (Int → e3_H → e3_G → Prop) → Prop) (hR : ∀ (l1 : Int) (l3 : Int) (l5 : Int) (H : e3_H) (G : e3_G) (Q : Int → e3_H → e3_G → Prop), R l1 l3 l5 H G Q → e3_Ev (wB L xs) (6 + 3 * n) (148 + 81 * n) 98 0 [(2, 16), (1, l1), (3, 0), (1, l3), (3, 0), (0, l5), (3, 0), (3, 0), (3, 0), (3, 0), (3, 0), (3, 0), (3, 0)] [] H G (e3_q0 Q)) (Q : Int → e3_H → e3_G → Prop)  (H : e3_H) (G : e3_G) (h : wD_settle_105 R Q  H G) : e3_Ev (wB L xs) (7 + 3 * n) (180 + 81 * n) 118 105 [(3, 0), (3, 0), (3, 0), (3, 0), (3, 0), (3, 0), (3, 0)] [] H G (e3_q0 Q) := by
  unfold wD_settle_105 at h
  refine e3_K [0] 106 [(3, 0), (3, 0), (3, 0), (3, 0), (3, 0), (3, 0), (3, 0)] [(0, 0)] (H) (G) (wZ L xs) (M := tbM118) rfl rfl trivial ?_
  exact sD_settle_106 L xs n R hR Q _ _ _ h
set_option maxRecDepth 100000 in
set_option maxHeartbeats 4000000 in
theorem sD_settle (L : Nat) (xs : Nat → Int32) (n : Nat) (R : Int → Int → Int → e3_H → e3_G → (Int → e3_H → e3_G → Prop) → Prop) (hR : ∀ (l1 : Int) (l3 : Int) (l5 : Int) (H : e3_H) (G : e3_G) (Q : Int → e3_H → e3_G → Prop), R l1 l3 l5 H G Q → e3_Ev (wB L xs) (6 + 3 * n) (148 + 81 * n) 98 0 [(2, 16), (1, l1), (3, 0), (1, l3), (3, 0), (0, l5), (3, 0), (3, 0), (3, 0), (3, 0), (3, 0), (3, 0), (3, 0)] [] H G (e3_q0 Q)) (Q : Int → e3_H → e3_G → Prop) (l1 : Int) (l2 : Int) (l4 : Int) (l5 : Int) (H : e3_H) (G : e3_G) (h : wD_settle R Q l1 l2 l4 l5 H G) : e3_Ev (wB L xs) (7 + 3 * n) (180 + 81 * n) 118 0 [(2, 16), (0, l1), (1, l2), (3, 0), (0, l4), (0, l5), (3, 0)] [] H G (e3_q0 Q) := by
  unfold wD_settle at h
  obtain ⟨o2, o3, o4, o5, o6, h⟩ := h
  refine e3_K [0, 2, 3, 0, 9, 3, 0, 0, 2, 3, 0, 0, 3] 26 [(2, 16), (0, l1), (1, l2), (3, 0), (0, l4), (0, l5), (2, (H (H (H (H 16 2) 6) l4) 0))] [] (e3_up H (H (H 16 1) 5) l1 l4) (G) (wZ L xs) (M := tbM118) rfl rfl ⟨trivial, o2, o3, o4, trivial, o5, o6, trivial⟩ ?_
  generalize hH1 : (e3_up H (H (H 16 1) 5) l1 l4) = H1
  replace h := h H1 hH1.symm
  refine e3_K [0] 28 [(2, 16), (0, l1), (1, l2), (3, 0), (0, l4), (0, l5), (2, (H (H (H (H 16 2) 6) l4) 0))] [(2, (H (H (H (H 16 2) 6) l4) 0))] (H1) (G) (wZ L xs) (M := tbM118) rfl rfl trivial ?_
  obtain ⟨oz, h⟩ := h
  refine e3_call (o := 1) (k := 119) (M2 := tbM119) (f1 := 0) (w1 := 0) (as := [(2, (H (H (H (H 16 2) 6) l4) 0))]) (rest := []) (M := tbM118) rfl rfl rfl oz (by omega) (by show 0 + (19 + 1) ≤ (180 + 81 * n); omega) (Nat.le_of_ble_eq_true rfl) ?_
  refine e3_mono (sU_isGuarded L xs _ _ _ _ h) (fun r H7 G8 h => ?_)
  obtain ⟨x9, rfl, h⟩ := h
  change e3_Ev _ _ _ _ 31 [(2, 16), (0, l1), (1, l2), (3, 0), (0, l4), (0, l5), (2, (H (H (H (H 16 2) 6) l4) 0))] [(0, x9)] H7 G8 _
  refine e3_br (M := tbM118) rfl rfl rfl Iff.rfl (fun hc => ?_) (fun hc => ?_)
  · replace h := h.1 hc
    obtain ⟨o11, o12, h⟩ := h
    refine e3_K [0, 2, 3, 0, 0, 3] 44 [(2, 16), (0, l1), (1, l2), (3, 0), (0, l4), (0, l5), (2, (H (H (H (H 16 2) 6) l4) 0))] [] (e3_up H7 (H7 (H7 16 1) 4) l1 1) (G8) (wZ L xs) (M := tbM118) rfl rfl ⟨trivial, o11, o12, trivial⟩ ?_
    generalize hH10 : (e3_up H7 (H7 (H7 16 1) 4) l1 1) = H10
    replace h := h H10 hH10.symm
    refine e3_K [0] 45 [(2, 16), (0, l1), (1, l2), (3, 0), (0, l4), (0, l5), (2, (H (H (H (H 16 2) 6) l4) 0))] [(0, 1)] (H10) (G8) (wZ L xs) (M := tbM118) rfl rfl trivial ?_
    exact e3_retb (M := tbM118) rfl rfl rfl (Or.inr rfl) ⟨_, rfl, h⟩
  · replace h := h.2 hc
    obtain ⟨o14, o15, h⟩ := h
    refine e3_K [0, 2, 3, 0, 0, 3] 56 [(2, 16), (0, l1), (1, l2), (3, 0), (0, l4), (0, l5), (2, (H (H (H (H 16 2) 6) l4) 0))] [] (e3_up H7 (H7 (H7 16 1) 4) l1 2) (G8) (wZ L xs) (M := tbM118) rfl rfl ⟨trivial, o14, o15, trivial⟩ ?_
    generalize hH13 : (e3_up H7 (H7 (H7 16 1) 4) l1 2) = H13
    replace h := h H13 hH13.symm
    obtain ⟨o17, o18, h⟩ := h
    refine e3_K [0, 2, 3, 0, 0, 3] 66 [(2, 16), (0, l1), (1, l2), (3, 0), (0, l4), (0, l5), (2, (H (H (H (H 16 2) 6) l4) 0))] [] (e3_up H13 (H13 (H13 16 1) 7) l1 1) (G8) (wZ L xs) (M := tbM118) rfl rfl ⟨trivial, o17, o18, trivial⟩ ?_
    generalize hH16 : (e3_up H13 (H13 (H13 16 1) 7) l1 1) = H16
    replace h := h H16 hH16.symm
    refine e3_K [0, 0] 68 [(2, 16), (0, l1), (1, l2), (3, 0), (0, l4), (0, l5), (2, (H (H (H (H 16 2) 6) l4) 0))] [(0, 1), (2, 16)] (H16) (G8) (wZ L xs) (M := tbM118) rfl rfl trivial ?_
    refine e3_call (o := 0) (k := 120) (M2 := tbM120) (f1 := 0) (w1 := 0) (as := [(2, 16), (0, 1)]) (rest := []) (M := tbM118) rfl rfl rfl trivial (by omega) (by show 0 + (19 + 2) ≤ (180 + 81 * n); omega) (Nat.le_of_ble_eq_true rfl) ?_
    refine e3_mono (sD_promise L xs _ _ _ _ h) (fun r H19 G20 h => ?_)
    obtain ⟨x21, rfl, h⟩ := h
    change e3_Ev _ _ _ _ 71 [(2, 16), (0, l1), (1, l2), (3, 0), (0, l4), (0, l5), (2, (H (H (H (H 16 2) 6) l4) 0))] [(0, x21)] H19 G20 _
    refine e3_br (M := tbM118) rfl rfl rfl Iff.rfl (fun hc => ?_) (fun hc => ?_)
    · replace h := h.1 hc
      refine e3_fgt [false, false, false, false, false, false, false] ?_
      exact sD_settle_105 L xs n R hR Q _ _ h
    · replace h := h.2 hc
      refine e3_K [0, 0, 0, 2, 0] 82 [(2, 16), (0, l1), (1, l2), (3, 0), (0, l4), (0, l5), (2, (H (H (H (H 16 2) 6) l4) 0))] [(2, (H (H (H (H 16 2) 6) l4) 0)), (2, (H19 16 2)), (1, l2), (2, 16)] (H19) (G20) (wZ L xs) (M := tbM118) rfl rfl ⟨trivial, trivial⟩ ?_
      obtain ⟨oz, h⟩ := h
      refine e3_call (o := 1) (k := 121) (M2 := tbM121) (f1 := 0) (w1 := 0) (as := [(2, (H19 16 2)), (2, (H (H (H (H 16 2) 6) l4) 0))]) (rest := [(1, l2), (2, 16)]) (M := tbM118) rfl rfl rfl oz (by omega) (by show 0 + (19 + 5) ≤ (180 + 81 * n); omega) (Nat.le_of_ble_eq_true rfl) ?_
      refine e3_mono (sF_rowsOf L xs _ _ _ _ _ h) (fun r H22 G23 h => ?_)
      obtain ⟨x24, rfl, h⟩ := h
      change e3_Ev _ _ _ _ 85 [(2, 16), (0, l1), (1, l2), (3, 0), (0, l4), (0, l5), (2, (H (H (H (H 16 2) 6) l4) 0))] [(1, x24), (1, l2), (2, 16)] H22 G23 _
      refine e3_K [2, 0, 0, 0, 0, 0, 0] 95 [(2, 16), (0, l1), (1, l2), (3, 0), (0, l4), (0, l5), (2, (H (H (H (H 16 2) 6) l4) 0))] [(0, (e3_w32 (l5 + 1))), (1, 0), (1, (e3_land l2 (e3_lxor x24 ((-1 : Int64).toInt)))), (2, 16)] (H22) (G23) (wZ L xs) (M := tbM118) rfl rfl ⟨trivial, trivial⟩ ?_
      refine e3_call (o := 0) (k := 98) (M2 := tbM98) (f1 := (6 + 3 * n)) (w1 := (148 + 81 * n)) (as := [(2, 16), (1, (e3_land l2 (e3_lxor x24 ((-1 : Int64).toInt)))), (1, 0), (0, (e3_w32 (l5 + 1)))]) (rest := []) (M := tbM118) rfl rfl rfl trivial (by omega) (by show (148 + 81 * n) + (19 + 13) ≤ (180 + 81 * n); omega) (Nat.le_of_ble_eq_true rfl) ?_
      refine e3_mono (hR _ _ _ _ _ _ h) (fun r H25 G26 h => ?_)
      obtain ⟨x27, rfl, h⟩ := h
      change e3_Ev _ _ _ _ 98 [(2, 16), (0, l1), (1, l2), (3, 0), (0, l4), (0, l5), (2, (H (H (H (H 16 2) 6) l4) 0))] [(0, x27)] H25 G26 _
      refine e3_br (M := tbM118) rfl rfl rfl Iff.rfl (fun hc => ?_) (fun hc => ?_)
      · replace h := h.1 hc
        refine e3_fgt [false, false, false, false, false, false, false] ?_
        exact sD_settle_105 L xs n R hR Q _ _ h
      · replace h := h.2 hc
        refine e3_K [0, 0] 106 [(2, 16), (0, l1), (1, l2), (3, 0), (0, l4), (0, l5), (2, (H (H (H (H 16 2) 6) l4) 0))] [(0, 1)] (H25) (G26) (wZ L xs) (M := tbM118) rfl rfl trivial ?_
        refine e3_fgt [false, false, false, false, false, false, false] ?_
        exact sD_settle_106 L xs n R hR Q _ _ _ h
